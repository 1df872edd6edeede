/-! ===== the class: a law holds, who hears what ===== -/
def vty : List Int32 → List Bool → Prop
  | [], [] => True
  | x :: xs, b :: bs => (b = true → x = nI 0 ∨ x = nI 1) ∧ vty xs bs
  | _, _ => False
theorem k_kept (v : Int64) (h : xH) : F_X3_kept v h = some (clp v, h) := by
  unfold F_X3_kept F_J9_min_f86c9 F_J9_max_f86c9 clp
  by_cases h1 : (1000000 : Int64) < v
  · rw [if_neg (fun q => absurd ((lg_cmp_gt _ _).mp q) (by rw [Int64.lt_iff_toInt_lt] at h1 ⊢; omega))]
    have c1 : ¬ (lg_cmp v 1000000) ≤ 0 := by
      have := (lg_cmp_gt v 1000000).mpr h1
      intro q
      have := (fa_lt _ _).mp this
      have := (fa_le _ _).mp q
      omega
    rw [if_neg c1]
    rfl
  · have c1 : (lg_cmp v 1000000) ≤ 0 := fa_of_nlt (fun q => h1 ((lg_cmp_gt _ _).mp q))
    rw [if_pos c1]
    by_cases h2 : v < (-1000000 : Int64)
    · have c2 : ¬ 0 ≤ (lg_cmp v (-1000000)) := by
        have := (lg_cmp_lt v (-1000000)).mpr h2
        intro q
        have := (fa_lt _ _).mp this
        have := (fa_le _ _).mp q
        omega
      rw [if_neg c2]
      by_cases h3 : v < (1000000 : Int64)
      · rw [if_pos ((lg_cmp_gt _ _).mpr h3)]
        simp only [Option.bind_some]
        rw [if_neg (fun q => absurd ((lg_cmp_lt _ _).mp q) (by rw [Int64.lt_iff_toInt_lt] at h2 ⊢; omega))]
        rfl
      · exfalso
        rw [Int64.lt_iff_toInt_lt] at h2 h3
        have e1 : (-1000000 : Int64).toInt = -1000000 := rfl
        have e2 : (1000000 : Int64).toInt = 1000000 := rfl
        omega
    · have c2 : 0 ≤ (lg_cmp v (-1000000)) := fa_of_nlt (fun q => h2 ((lg_cmp_lt _ _).mp q))
      rw [if_pos c2]
      by_cases h3 : v < (1000000 : Int64)
      · rw [if_pos ((lg_cmp_gt _ _).mpr h3)]
        simp only [Option.bind_some]
        by_cases h4 : (-1000000 : Int64) < v
        · rw [if_pos ((lg_cmp_lt _ _).mpr h4)]
          rfl
        · rw [if_neg (fun q => h4 ((lg_cmp_lt _ _).mp q))]
          have : v = -1000000 := by
            apply Int64.toInt_inj.mp
            rw [Int64.lt_iff_toInt_lt] at h2 h4
            omega
          rw [this]
          rfl
      · rw [if_neg (fun q => h3 ((lg_cmp_gt _ _).mp q))]
        have : v = 1000000 := by
          apply Int64.toInt_inj.mp
          rw [Int64.lt_iff_toInt_lt] at h1 h3
          omega
        rw [this]
        rfl
theorem k_join {l o : Nat} (ho : o < 9) (h6 : o ≠ 6) (x y : Int32) (h : xH) : F_X3_joined (nI (ccn l (3000 + o))) x y h = some (btw o x y, h) := by
  rcases (show o = 0 ∨ o = 1 ∨ o = 2 ∨ o = 3 ∨ o = 4 ∨ o = 5 ∨ o = 7 ∨ o = 8 by omega) with e | e | e | e | e | e | e | e <;> subst e <;> unfold F_X3_joined
  · rw [show ccn l (3000 + 0) = 2006 by simp [ccn]]
    show (if nI 2006 = 2001 then _ else _) = _
    rw [if_neg (by decide), if_neg (by decide), if_neg (by decide), if_neg (by decide), if_neg (by decide), if_pos (by decide), k_kept]
    rfl
  · rw [show ccn l (3000 + 1) = 2007 by simp [ccn]]
    show (if nI 2007 = 2001 then _ else _) = _
    rw [if_neg (by decide), if_neg (by decide), if_neg (by decide), if_neg (by decide), if_neg (by decide), if_neg (by decide), if_pos (by decide), k_kept]
    rfl
  · rw [show ccn l (3000 + 2) = 2008 by simp [ccn]]
    show (if nI 2008 = 2001 then _ else _) = _
    rw [if_neg (by decide), if_neg (by decide), if_neg (by decide), if_neg (by decide), if_neg (by decide), if_neg (by decide), if_neg (by decide), k_kept]
    rfl
  · rw [show ccn l (3000 + 3) = 2003 by simp [ccn]]
    show (if nI 2003 = 2001 then _ else _) = some (if ¬ x = y then nI 0 else nI 1, h)
    rw [if_neg (by decide), if_neg (by decide), if_pos (by decide)]
    split <;> rfl
  · rw [show ccn l (3000 + 4) = 2004 by simp [ccn]]
    show (if nI 2004 = 2001 then _ else _) = some (if y ≤ x then nI 0 else nI 1, h)
    rw [if_neg (by decide), if_neg (by decide), if_neg (by decide), if_pos (by decide)]
    split <;> rfl
  · rw [show ccn l (3000 + 5) = 2005 by simp [ccn]]
    show (if nI 2005 = 2001 then _ else _) = some (if x ≤ y then nI 0 else nI 1, h)
    rw [if_neg (by decide), if_neg (by decide), if_neg (by decide), if_neg (by decide), if_pos (by decide)]
    split <;> rfl
  · rw [show ccn l (3000 + 7) = 2001 by simp [ccn]]
    show (if nI 2001 = 2001 then _ else _) = _
    rw [if_pos (by decide)]
    rfl
  · rw [show ccn l (3000 + 8) = 2002 by simp [ccn]]
    show (if nI 2002 = 2001 then _ else _) = _
    rw [if_neg (by decide), if_pos (by decide)]
    rfl
theorem btw_01 {o : Nat} (h3 : 3 ≤ o) (ho : o < 9) (h6 : o ≠ 6) {x y : Int32} (hx : tin o = true → x = nI 0 ∨ x = nI 1) (hy : tin o = true → y = nI 0 ∨ y = nI 1) : btw o x y = nI 0 ∨ btw o x y = nI 1 := by
  rcases (show o = 3 ∨ o = 4 ∨ o = 5 ∨ o = 7 ∨ o = 8 by omega) with e | e | e | e | e <;> subst e
  · show (if ¬ x = y then nI 0 else nI 1) = nI 0 ∨ (if ¬ x = y then nI 0 else nI 1) = nI 1
    split <;> simp
  · show (if y ≤ x then nI 0 else nI 1) = nI 0 ∨ (if y ≤ x then nI 0 else nI 1) = nI 1
    split <;> simp
  · show (if x ≤ y then nI 0 else nI 1) = nI 0 ∨ (if x ≤ y then nI 0 else nI 1) = nI 1
    split <;> simp
  · rcases hx rfl with e | e <;> rcases hy rfl with e2 | e2 <;> subst e <;> subst e2 <;> decide
  · rcases hx rfl with e | e <;> rcases hy rfl with e2 | e2 <;> subst e <;> subst e2 <;> decide
section XC2
variable {g : Sk} {t : Tb} {a : Nat → Int32}
variable {D v w m x : Nat}
theorem k_hold_l {l fr ma : Nat} (L : LwS g w ma) (wf : Nat → Int32) : ∀ (cs : List Int32) (ty : List Bool) (fuel n k : Nat) (t : Tb), cs = cdf a (329 + fr + k) (ma - k) → k ≤ ma → okc l cs ty → ty.length = n → n ≤ 24 → vty (stk (tA t (w + 3)) n) ty → (∀ k, k < ma → tA t (w + 1) k = nI (ccn l (tn (a (329 + fr + k))))) → (∀ j, wok l j → tA t (w + 2) (if l = 0 then j else j - 5) = wf j) → cs.length < fuel → ∃ t', F_X3_holds_b54 fuel w (nI n) (w + 1) (nI ma) (nI k) (Em g t) = some (bI (decide (ev wf cs (stk (tA t (w + 3)) n) = [nI 1])), Em g t') ∧ Sm g t t' := by
  have hma := L.1.2.1
  intro cs
  induction cs with
  | nil =>
    intro ty fuel n k t hcs hk hok hn h24 hv hc hw hf
    obtain ⟨f, rfl⟩ : ∃ f, fuel = f + 1 := ⟨fuel - 1, by omega⟩
    have h1 : ma ≤ k := by
      rcases Nat.lt_or_ge k ma with h | h
      · obtain ⟨q, hq⟩ : ∃ q, ma - k = q + 1 := ⟨ma - k - 1, by omega⟩
        rw [hq, cdf] at hcs
        cases hcs
      · omega
    rw [F_X3_holds_b54]
    have e1 : ty = [true] := hok
    have e2 : n = 1 := by rw [← hn, e1]; rfl
    subst e2
    subst e1
    refine ⟨t, ?_, Sm_r⟩
    have e3 : tA t (w + 3) 0 = nI 0 ∨ tA t (w + 3) 0 = nI 1 := hv.1 rfl
    simp (disch := omega) only [l_rc L, l_r0 L, l_r1 L, l_r2 L, l_al L, l_a1 L, l_a2 L, l_s2 L, l_a3 L, l_s3 L, Option.bind_some, ↓reduceIte, ite_not, fa_lit, nI_add, nI_mulN, nI_an, nI_sub, irm_n, nI_eq, nI_leI, nI_ltI, v_pow, v_shr, v_bit, nI_cl, nI_m1e, h1, Nat.reduceLeDiff, Nat.reduceSub]
    rcases e3 with e3 | e3
    · simp [e3, ev, stk, bI]
      decide
    · have h10 : ¬ nI 1 = nI 0 := by decide
      simp [e3, ev, stk, bI, h10]
  | cons c cs ih =>
    intro ty fuel n k t hcs hk hok hn h24 hv hcc hw hf
    obtain ⟨f, rfl⟩ : ∃ f, fuel = f + 1 := ⟨fuel - 1, by omega⟩
    have hkm : k < ma := by
      rcases Nat.lt_or_ge k ma with h | h
      · exact h
      · rw [show ma - k = 0 by omega, cdf] at hcs
        cases hcs
    obtain ⟨hc, hcs2⟩ : c = a (329 + fr + k) ∧ cs = cdf a (329 + fr + (k + 1)) (ma - (k + 1)) := by
      rw [show ma - k = (ma - (k + 1)) + 1 by omega, cdf] at hcs
      injection hcs with e1 e2
      exact ⟨e1, e2⟩
    have h1 : ¬ ma ≤ k := by omega
    have hf2 : cs.length < f := by simp only [List.length_cons] at hf; omega
    have hck := hcc k hkm
    rw [← hc] at hck
    have hcc3 : ∀ (z : Int32) (q : Nat), ∀ k, k < ma → tA (wa t (w + 3) q z) (w + 1) k = nI (ccn l (tn (a (329 + fr + k)))) := fun z q k hk => by rw [tA_an (by omega)]; exact hcc k hk
    have hw3 : ∀ (z : Int32) (q : Nat), ∀ j, wok l j → tA (wa t (w + 3) q z) (w + 2) (if l = 0 then j else j - 5) = wf j := fun z q j hj => by rw [tA_an (by omega)]; exact hw j hj
    have s3 : ∀ (z : Int32) (q : Nat), Sm g t (wa t (w + 3) q z) := fun z q => Sm_wa (sc_30 L.2.2.2.2.2.1) Sm_r
    rw [F_X3_holds_b54]
    rcases hok with ⟨m, hm, hc2, hty, hok⟩ | ⟨m, hm, hc2, hty, hok⟩ | ⟨hc2, r, hty, hok⟩ | ⟨o, r, ho, h6, hc2, hty, hok⟩
    · rw [hc2, tn_n (by omega), show ccn l m = m by simp [ccn, hm]] at hck
      have h2 : ¬ 2000 ≤ m := by omega
      have h3 : ¬ 1000 ≤ m := by omega
      have h4 : ¬ 24 ≤ n := by omega
      simp (disch := omega) only [l_rc L, l_r0 L, l_r1 L, l_r2 L, l_al L, l_a1 L, l_a2 L, l_s2 L, l_a3 L, l_s3 L, Option.bind_some, ↓reduceIte, ite_not, fa_lit, nI_add, nI_mulN, nI_an, nI_sub, irm_n, nI_eq, nI_leI, nI_ltI, v_pow, v_shr, v_bit, nI_cl, nI_m1e, h1, hck, h2, h3, h4]
      obtain ⟨t', e, hS⟩ := ih (false :: ty) f (n + 1) (k + 1) (wa t (w + 3) n (nI m)) hcs2 (by omega) hok (by simp [hn]) (by omega) (by rw [tA_as, stk, stk_up _ _ _ (Nat.le_refl n)]; exact ⟨(fun q => by cases q), hv⟩) (hcc3 _ _) (hw3 _ _) hf2
      rw [e]
      refine ⟨t', ?_, Sm_t (s3 _ _) hS⟩
      rw [tA_as, stk, pk_us, stk_up _ _ _ (Nat.le_refl n), ev, hc2, tn_n (by omega), stp_num hm]
    · have hm8 : m < 8 := by rcases hm with h | h <;> omega
      have hl5 : (if l = 0 then m else m - 5) < 5 := by
        rcases hm with h | h
        · rw [if_pos h.1]; exact h.2
        · rw [if_neg (by omega)]; omega
      have hcn : ccn l (1000 + m) = 1000 + (if l = 0 then m else m - 5) := by
        unfold ccn
        rw [if_neg (by omega), if_pos (by omega)]
        rcases hm with h | h
        · rw [if_pos h.1, if_pos h.1]
        · rw [if_neg (by omega), if_neg (by omega)]; omega
      have hwm := hw m hm
      rw [hc2, tn_n (by omega), hcn] at hck
      generalize (if l = 0 then m else m - 5) = jj at hck hl5 hwm
      have h2 : ¬ 2000 ≤ 1000 + jj := by omega
      have h3 : 1000 ≤ 1000 + jj := by omega
      have h4 : ¬ 24 ≤ n := by omega
      have h5 : ¬ jj < 0 := by omega
      simp (disch := omega) only [l_rc L, l_r0 L, l_r1 L, l_r2 L, l_al L, l_a1 L, l_a2 L, l_s2 L, l_a3 L, l_s3 L, Option.bind_some, ↓reduceIte, ite_not, fa_lit, nI_add, nI_mulN, nI_an, nI_sub, irm_n, nI_eq, nI_leI, nI_ltI, v_pow, v_shr, v_bit, nI_cl, nI_m1e, h1, hck, h2, h3, h4, F_X3_wordValue, Nat.add_sub_cancel_left, h5, hl5, hwm]
      obtain ⟨t', e, hS⟩ := ih (false :: ty) f (n + 1) (k + 1) (wa t (w + 3) n (wf m)) hcs2 (by omega) hok (by simp [hn]) (by omega) (by rw [tA_as, stk, stk_up _ _ _ (Nat.le_refl n)]; exact ⟨(fun q => by cases q), hv⟩) (hcc3 _ _) (hw3 _ _) hf2
      rw [e]
      refine ⟨t', ?_, Sm_t (s3 _ _) hS⟩
      rw [tA_as, stk, pk_us, stk_up _ _ _ (Nat.le_refl n), ev, hc2, tn_n (by omega), stp_word (by omega)]
    · obtain ⟨n', rfl⟩ : ∃ n', n = n' + 1 := ⟨r.length, by rw [← hn, hty]; rfl⟩
      rw [hc2, tn_n (by omega), show ccn l 3006 = 2000 by simp [ccn]] at hck
      have h2 : ¬ n' + 1 ≤ 0 := by omega
      simp (disch := omega) only [l_rc L, l_r0 L, l_r1 L, l_r2 L, l_al L, l_a1 L, l_a2 L, l_s2 L, l_a3 L, l_s3 L, Option.bind_some, ↓reduceIte, ite_not, fa_lit, nI_add, nI_mulN, nI_an, nI_sub, irm_n, nI_eq, nI_leI, nI_ltI, v_pow, v_shr, v_bit, nI_cl, nI_m1e, h1, hck, h2, F_X3_holds_b119, Nat.reduceLeDiff, Nat.add_sub_cancel]
      rw [hty, stk] at hv
      obtain ⟨t', e, hS⟩ := ih (true :: r) f (n' + 1) (k + 1) (wa t (w + 3) n' (nI 1 - tA t (w + 3) n')) hcs2 (by omega) hok (by rw [← hn, hty]) (by omega) (by
        rw [tA_as, stk, stk_up _ _ _ (Nat.le_refl n'), pk_us]
        refine ⟨fun _ => ?_, hv.2⟩
        rcases hv.1 rfl with q | q
        · rw [q]; right; decide
        · rw [q]; left; decide) (hcc3 _ _) (hw3 _ _) hf2
      rw [e]
      refine ⟨t', ?_, Sm_t (s3 _ _) hS⟩
      rw [tA_as, stk, pk_us, stk_up _ _ _ (Nat.le_refl n'), ev, hc2, tn_n (by omega), stk, stp_not]
    · obtain ⟨n', rfl⟩ : ∃ n', n = n' + 2 := ⟨r.length, by rw [← hn, hty]; rfl⟩
      rw [hc2, tn_n (by omega)] at hck
      have hcb : 2000 < ccn l (3000 + o) ∧ ccn l (3000 + o) < 2009 := by
        rcases (show o = 0 ∨ o = 1 ∨ o = 2 ∨ o = 3 ∨ o = 4 ∨ o = 5 ∨ o = 7 ∨ o = 8 by omega) with e | e | e | e | e | e | e | e <;> subst e <;> simp [ccn]
      have h2 : 2000 ≤ ccn l (3000 + o) := by omega
      have h3 : ¬ ccn l (3000 + o) = 2000 := by omega
      have h4 : ¬ ccn l (3000 + o) ≤ 2000 := by omega
      have h5 : ¬ n' + 2 ≤ 1 := by omega
      simp (disch := omega) only [l_rc L, l_r0 L, l_r1 L, l_r2 L, l_al L, l_a1 L, l_a2 L, l_s2 L, l_a3 L, l_s3 L, Option.bind_some, ↓reduceIte, ite_not, fa_lit, nI_add, nI_mulN, nI_an, nI_sub, irm_n, nI_eq, nI_leI, nI_ltI, v_pow, v_shr, v_bit, nI_cl, nI_m1e, h1, hck, h2, h3, h4, h5, F_X3_holds_b119, F_X3_holds_b155, k_join ho h6, Nat.add_sub_cancel, show n' + 2 - 1 = n' + 1 by omega]
      rw [hty, stk, stk] at hv
      obtain ⟨t', e, hS⟩ := ih (tou o :: r) f (n' + 1) (k + 1) (wa t (w + 3) n' (btw o (tA t (w + 3) n') (tA t (w + 3) (n' + 1)))) hcs2 (by omega) hok (by rw [List.length_cons]; rw [hty] at hn; simp only [List.length_cons] at hn; omega) (by omega) (by
        rw [tA_as, stk, stk_up _ _ _ (Nat.le_refl n'), pk_us]
        refine ⟨fun q => ?_, hv.2.2⟩
        exact btw_01 (of_decide_eq_true q) ho h6 hv.2.1 hv.1) (hcc3 _ _) (hw3 _ _) hf2
      rw [e]
      refine ⟨t', ?_, Sm_t (s3 _ _) hS⟩
      rw [tA_as, stk, pk_us, stk_up _ _ _ (Nat.le_refl n'), ev, hc2, tn_n (by omega), stk, stk, stp_op h6]
theorem k_holds {l : Nat} (P : LwP g t w a l) (ho : okc l (cds a l) []) (x1 x2 x3 x4 x5 : Int32) (wf : Nat → Int32) (hw : ∀ j, wok l j → (fun q => if q = 0 then x1 else if q = 1 then x2 else if q = 2 then x3 else if q = 3 then x4 else x5) (if l = 0 then j else j - 5) = wf j) : ∃ t', F_X3_holds w x1 x2 x3 x4 x5 (Em g t) = some (bI (decide (ev wf (cds a l) [] = [nI 1])), Em g t') ∧ Sm g t t' := by
  have L := P.1
  have s2 : ∀ (t : Tb) (z : Int32) (q : Nat) (t0 : Tb), Sm g t0 t → Sm g t0 (wa t (w + 2) q z) := fun t z q t0 h => Sm_wa (sc_30 L.2.2.2.2.1.1) h
  unfold F_X3_holds
  simp (disch := omega) only [l_rc L, l_r0 L, l_r1 L, l_r2 L, l_al L, l_a1 L, l_a2 L, l_s2 L, l_a3 L, l_s3 L, Option.bind_some, ↓reduceIte, ite_not, fa_lit, nI_add, nI_mulN, nI_an, nI_sub, irm_n, nI_eq, nI_leI, nI_ltI, v_pow, v_shr, v_bit, nI_cl, nI_m1e]
  have hS0 : Sm g t (wa (wa (wa (wa (wa t (w + 2) 0 x1) (w + 2) 1 x2) (w + 2) 2 x3) (w + 2) 3 x4) (w + 2) 4 x5) := s2 _ _ _ _ (s2 _ _ _ _ (s2 _ _ _ _ (s2 _ _ _ _ (s2 _ _ _ _ Sm_r))))
  obtain ⟨t', e, hS⟩ := k_hold_l (l := l) (fr := vFr a l) L wf (cds a l) [] FU 0 0 (wa (wa (wa (wa (wa t (w + 2) 0 x1) (w + 2) 1 x2) (w + 2) 2 x3) (w + 2) 3 x4) (w + 2) 4 x5) rfl (by omega) ho rfl (by omega) trivial (fun k hk => by
      rw [tA_an (by omega), tA_an (by omega), tA_an (by omega), tA_an (by omega), tA_an (by omega)]
      exact P.2 k hk) (fun j hj => by
      rw [← hw j hj]
      have h5 : (if l = 0 then j else j - 5) < 5 := by
        rcases hj with h | h
        · rw [if_pos h.1]; exact h.2
        · rw [if_neg (by omega)]; omega
      generalize (if l = 0 then j else j - 5) = jj at h5
      simp only [tA_as]
      rcases (show jj = 0 ∨ jj = 1 ∨ jj = 2 ∨ jj = 3 ∨ jj = 4 by omega) with e | e | e | e | e <;> subst e <;> simp [upd]) (by
      rw [cds, cds_len]
      have := L.1.2
      show vMa a l < 1000000
      omega)
  exact ⟨t', e, Sm_t hS0 hS⟩
end XC2
