/-! ===== calls: tunes ===== -/
def ctn (A N : Nat) (fo : Nat → Nat → Bool) : Nat → Nat → Nat
  | 0, n => if A.testBit n then 1 else 0
  | L + 1, n => if A.testBit n then fb_sm (fun m => if fo m n then ctn A N fo L m else 0) N else 0
theorem ctn_le {A N : Nat} {fo : Nat → Nat → Bool} (hN : N ≤ 10) : ∀ L n, ctn A N fo L n ≤ 10 ^ L
  | 0, n => by
    rw [ctn]
    split <;> decide
  | L + 1, n => by
    rw [ctn]
    split
    · have h := fb_sm_bound (f := fun m => if fo m n then ctn A N fo L m else 0) (c := 10 ^ L) (n := N) (fun k _ => by
        show (if fo k n then _ else 0) ≤ 10 ^ L
        split
        · exact ctn_le hN L k
        · exact Nat.zero_le _)
      have h2 : N * 10 ^ L ≤ 10 * 10 ^ L := Nat.mul_le_mul_right _ hN
      rw [Nat.pow_succ]
      omega
    · exact Nat.zero_le _
section XTu
variable {g : Sk} {t : Tb} {a : Nat → Int32}
variable {D v x nx p : Nat} {t' t'' t1 t2 : Tb}
theorem r_all_l (X : Fx g) (W : WA a D) {s : Nat} (hs : s < 2 ^ 31) : ∀ (d k fuel : Nat) (t : Tb), k + d = vP a → d < fuel → tA t 184 = a → tI t 183 30 = nI (mk (hall a s k) (vN a)) → ∃ t', F_X12_laysHeardAll_b16 fuel 183 (nI s) (nI k) (Em g t) = some ((), Em g t') ∧ Sm g t t' ∧ tI t' 183 30 = nI (mk (hall a s (vP a)) (vN a)) := by
  have hP := wP2 W
  intro d
  induction d with
  | zero =>
    intro k fuel t hk hf ha h30
    obtain ⟨f, rfl⟩ : ∃ f, fuel = f + 1 := ⟨fuel - 1, by omega⟩
    have hk : k = vP a := by omega
    subst hk
    refine ⟨t, ?_, Sm_r, h30⟩
    rw [F_X12_laysHeardAll_b16]
    simp (disch := omega) only [x_rc183 X, x_i183_0 X, x_w183_0 X, x_r183_1 X, x_r183_2 X, x_r183_3 X, x_r183_4 X, x_i183_5 X, x_w183_5 X, x_i183_6 X, x_w183_6 X, x_i183_7 X, x_w183_7 X, x_i183_8 X, x_w183_8 X, x_i183_9 X, x_w183_9 X, x_i183_10 X, x_w183_10 X, x_i183_11 X, x_w183_11 X, x_i183_12 X, x_w183_12 X, x_i183_13 X, x_w183_13 X, x_i183_14 X, x_w183_14 X, x_i183_15 X, x_w183_15 X, x_r183_16 X, x_r183_17 X, x_r183_18 X, x_i183_19 X, x_w183_19 X, x_i183_20 X, x_w183_20 X, x_r183_21 X, x_r183_22 X, x_r183_23 X, x_r183_24 X, x_r183_25 X, x_i183_26 X, x_w183_26 X, x_r183_27 X, x_r183_28 X, x_r183_29 X, x_i183_30 X, x_w183_30 X, x_r183_31 X, x_r183_32 X, x_r183_33 X, x_r183_34 X, x_r183_35 X, x_r183_36 X, x_a184 X, x_s184 X, x_a185 X, x_s185 X, x_a186 X, x_s186 X, x_a187 X, x_s187 X, x_a188 X, x_s188 X, x_a189 X, x_s189 X, x_a190 X, x_s190 X, x_a191 X, x_s191 X, x_a192 X, x_s192 X, x_a193 X, x_s193 X, x_a194 X, x_s194 X, x_a195 X, x_s195 X, x_a196 X, x_s196 X, x_a197 X, x_s197 X, x_a198 X, x_s198 X, x_a199 X, x_s199 X, x_a200 X, x_s200 X, x_a201 X, x_s201 X, x_a202 X, x_s202 X, x_a203 X, x_s203 X, x_a204 X, x_s204 X, Option.bind_some, ↓reduceIte, ite_not, fa_lit, nI_add, nI_mulN, nI_an, nI_sub, irm_n, nI_eq, nI_leI, nI_ltI, v_pow, v_shr, v_bit, nI_cl, nI_m1e, ha, wP W, Nat.le_refl]
  | succ d ih =>
    intro k fuel t hk hf ha h30
    obtain ⟨f, rfl⟩ : ∃ f, fuel = f + 1 := ⟨fuel - 1, by omega⟩
    have hk2 : ¬ vP a ≤ k := by omega
    have hsp : ∀ n, hall a s (k + 1) n = (hall a s k n && decide (s.testBit k = true → hnow a k n = true)) := by
      intro n
      unfold hall
      rw [Bool.eq_iff_iff]
      simp only [Bool.and_eq_true, decide_eq_true_eq]
      constructor
      · intro h
        exact ⟨fun p hp => h p (by omega), h k (by omega)⟩
      · rintro ⟨h1, h2⟩ p hp
        rcases Nat.lt_or_ge p k with h | h
        · exact h1 p h
        · rw [show p = k by omega]
          exact h2
    rw [F_X12_laysHeardAll_b16]
    cases hq : s.testBit k
    · have e3 : nI (mk (hall a s k) (vN a)) &&& -nI 1 = nI (mk (hall a s (k + 1)) (vN a)) := by
        have h1 : ∀ x : Int32, x &&& -nI 1 = x := fun x => by
          apply bb_inj
          show x.toBitVec &&& BitVec.allOnes 32 = x.toBitVec
          rw [BitVec.and_allOnes]
        rw [h1]
        exact congrArg nI (mk_cong (fun n _ => by rw [hsp]; simp [hq]))
      obtain ⟨t2, e2, s2, k2⟩ := ih (k + 1) f (wi t 183 30 (nI (mk (hall a s (k + 1)) (vN a)))) (by omega) (by omega) ha tI_is
      refine ⟨t2, ?_, Sm_t (Sm_wi rfl Sm_r) s2, k2⟩
      simp (disch := omega) only [x_rc183 X, x_i183_0 X, x_w183_0 X, x_r183_1 X, x_r183_2 X, x_r183_3 X, x_r183_4 X, x_i183_5 X, x_w183_5 X, x_i183_6 X, x_w183_6 X, x_i183_7 X, x_w183_7 X, x_i183_8 X, x_w183_8 X, x_i183_9 X, x_w183_9 X, x_i183_10 X, x_w183_10 X, x_i183_11 X, x_w183_11 X, x_i183_12 X, x_w183_12 X, x_i183_13 X, x_w183_13 X, x_i183_14 X, x_w183_14 X, x_i183_15 X, x_w183_15 X, x_r183_16 X, x_r183_17 X, x_r183_18 X, x_i183_19 X, x_w183_19 X, x_i183_20 X, x_w183_20 X, x_r183_21 X, x_r183_22 X, x_r183_23 X, x_r183_24 X, x_r183_25 X, x_i183_26 X, x_w183_26 X, x_r183_27 X, x_r183_28 X, x_r183_29 X, x_i183_30 X, x_w183_30 X, x_r183_31 X, x_r183_32 X, x_r183_33 X, x_r183_34 X, x_r183_35 X, x_r183_36 X, x_a184 X, x_s184 X, x_a185 X, x_s185 X, x_a186 X, x_s186 X, x_a187 X, x_s187 X, x_a188 X, x_s188 X, x_a189 X, x_s189 X, x_a190 X, x_s190 X, x_a191 X, x_s191 X, x_a192 X, x_s192 X, x_a193 X, x_s193 X, x_a194 X, x_s194 X, x_a195 X, x_s195 X, x_a196 X, x_s196 X, x_a197 X, x_s197 X, x_a198 X, x_s198 X, x_a199 X, x_s199 X, x_a200 X, x_s200 X, x_a201 X, x_s201 X, x_a202 X, x_s202 X, x_a203 X, x_s203 X, x_a204 X, x_s204 X, Option.bind_some, ↓reduceIte, ite_not, fa_lit, nI_add, nI_mulN, nI_an, nI_sub, irm_n, nI_eq, nI_leI, nI_ltI, v_pow, v_shr, v_bit, nI_cl, nI_m1e, ha, wP W, hk2, h30, q_isIn, hq, bI_z, F_X12_laysHeardAll_b49, e3]
      exact e2
    · obtain ⟨t1, e1, s1⟩ := q_heardByn (p := k) X W ha (by omega)
      have e3 : nI (mk (hall a s k) (vN a)) &&& nI (heard a k) = nI (mk (hall a s (k + 1)) (vN a)) := by
        unfold heard
        rw [fa_and, mk_and]
        exact congrArg nI (mk_cong (fun n _ => by rw [hsp]; simp [hq]))
      obtain ⟨t2, e2, s2, k2⟩ := ih (k + 1) f (wi t1 183 30 (nI (mk (hall a s (k + 1)) (vN a)))) (by omega) (by omega) (by rw [tA_wi, Sm_a X (Sn_m s1), ha]) tI_is
      refine ⟨t2, ?_, Sm_t (Sm_wi rfl (Sn_m s1)) s2, k2⟩
      simp (disch := omega) only [x_rc183 X, x_i183_0 X, x_w183_0 X, x_r183_1 X, x_r183_2 X, x_r183_3 X, x_r183_4 X, x_i183_5 X, x_w183_5 X, x_i183_6 X, x_w183_6 X, x_i183_7 X, x_w183_7 X, x_i183_8 X, x_w183_8 X, x_i183_9 X, x_w183_9 X, x_i183_10 X, x_w183_10 X, x_i183_11 X, x_w183_11 X, x_i183_12 X, x_w183_12 X, x_i183_13 X, x_w183_13 X, x_i183_14 X, x_w183_14 X, x_i183_15 X, x_w183_15 X, x_r183_16 X, x_r183_17 X, x_r183_18 X, x_i183_19 X, x_w183_19 X, x_i183_20 X, x_w183_20 X, x_r183_21 X, x_r183_22 X, x_r183_23 X, x_r183_24 X, x_r183_25 X, x_i183_26 X, x_w183_26 X, x_r183_27 X, x_r183_28 X, x_r183_29 X, x_i183_30 X, x_w183_30 X, x_r183_31 X, x_r183_32 X, x_r183_33 X, x_r183_34 X, x_r183_35 X, x_r183_36 X, x_a184 X, x_s184 X, x_a185 X, x_s185 X, x_a186 X, x_s186 X, x_a187 X, x_s187 X, x_a188 X, x_s188 X, x_a189 X, x_s189 X, x_a190 X, x_s190 X, x_a191 X, x_s191 X, x_a192 X, x_s192 X, x_a193 X, x_s193 X, x_a194 X, x_s194 X, x_a195 X, x_s195 X, x_a196 X, x_s196 X, x_a197 X, x_s197 X, x_a198 X, x_s198 X, x_a199 X, x_s199 X, x_a200 X, x_s200 X, x_a201 X, x_s201 X, x_a202 X, x_s202 X, x_a203 X, x_s203 X, x_a204 X, x_s204 X, Option.bind_some, ↓reduceIte, ite_not, fa_lit, nI_add, nI_mulN, nI_an, nI_sub, irm_n, nI_eq, nI_leI, nI_ltI, v_pow, v_shr, v_bit, nI_cl, nI_m1e, ha, wP W, hk2, h30, q_isIn, hq, bI_z, Bool.true_eq_false, e1, F_X12_laysHeardAll_b49, e3]
      exact e2
theorem r_all (X : Fx g) (W : WA a D) (ha : tA t 184 = a) {s : Nat} (hs : s < 2 ^ 31) : ∃ t', F_X12_laysHeardAll 183 (nI s) (Em g t) = some ((), Em g t') ∧ Sm g t t' ∧ tI t' 183 30 = nI (mk (hall a s (vP a)) (vN a)) := by
  have hP := wP2 W
  have hN := wN3 W
  have hp2 := Nat.two_pow_pos (vN a)
  have hfp : vP a < FU := by show vP a < 1000000; omega
  obtain ⟨t1, e1, s1, k1⟩ := r_all_l X W hs (vP a) 0 FU (wi t 183 30 (nI (mk (hall a s 0) (vN a)))) (by omega) hfp ha tI_is
  refine ⟨t1, ?_, Sm_t (Sm_wi rfl Sm_r) s1, k1⟩
  have e0 : mk (hall a s 0) (vN a) = 2 ^ vN a - 1 := by
    rw [← mk_all]
    exact mk_cong (fun n _ => by simp [hall])
  have ha1 : aI (Em g t) 184 1 = some (nI (vN a)) := by
    have : aI (Em g t) 184 1 = some (tA t 184 1) := x_a184 X (k := 1) (by decide)
    rw [this, ha, wN W]
  have hsh : ((1 : Int32) <<< (nI (vN a) &&& 31)) - 1 = nI (2 ^ vN a - 1) := by
    rw [show (1 : Int32) <<< (nI (vN a) &&& 31) = nI (2 ^ vN a) from v_pow (by omega), show nI (2 ^ vN a) - 1 = nI (2 ^ vN a - 1) from nI_sub (b := 1) (by omega)]
  unfold F_X12_laysHeardAll
  rw [x_r183_1 X, Option.bind_some, ha1, Option.bind_some, hsh, ← e0, x_w183_30 X, Option.bind_some]
  exact e1
/-- may n come behind m (10: at the start) -/
def fnx (a : Nat → Int32) (A m n : Nat) : Bool := A.testBit n && (decide (m = 10) || fol a m n)
theorem q_may (X : Fx g) (W : WA a D) (ha : tA t 184 = a) {A m n : Nat} (hA : A < 2 ^ 31) (h30 : tI t 183 30 = nI A) (hm : m ≤ 10) (hn : n ≤ 20) : ∃ t', F_X12_mayNext 183 (nI m) (nI n) (Em g t) = some (bI (fnx a A m n), Em g t') ∧ Sn g t t' := by
  unfold F_X12_mayNext fnx
  cases q : A.testBit n
  · refine ⟨t, ?_, Sn_r⟩
    rw [x_i183_30 X, Option.bind_some, h30, q_isIn hA (by omega), Option.bind_some, q, if_pos (show bI false = (0 : Int32) by decide)]
    rfl
  · by_cases h10 : m = 10
    · refine ⟨t, ?_, Sn_r⟩
      rw [x_i183_30 X, Option.bind_some, h30, q_isIn hA (by omega), Option.bind_some, q, if_neg (show ¬ bI true = (0 : Int32) by decide), if_pos (show nI m = (10 : Int32) by rw [h10]; rfl), decide_eq_true h10]
      rfl
    · obtain ⟨t1, e1, s1⟩ := q_followsn (i := m) (j := n) X W ha (by omega) hn
      refine ⟨t1, ?_, s1⟩
      rw [x_i183_30 X, Option.bind_some, h30, q_isIn hA (by omega), Option.bind_some, q, if_neg (show ¬ bI true = (0 : Int32) by decide), if_neg (show ¬ nI m = (10 : Int32) from show ¬ nI m = nI 10 by rw [nI_eq (by omega) (by decide)]; exact h10), x_rc183 X, Option.bind_some, e1, Option.bind_some, decide_eq_false h10]
      cases fol a m n
      · rw [if_pos (show bI false = (0 : Int32) by decide)]
        rfl
      · rw [if_neg (show ¬ bI true = (0 : Int32) by decide)]
        rfl
/-! the class -/
theorem k_com_l (X : Fx g) (V : VaS g v) (C : CP g t v a D) {A L n : Nat} (hn : n < vN a) (h5 : ∀ m, m < vN a → tJ t 161 m = lN (ctn A (vN a) (fol a) L m)) : ∀ (d k fuel : Nat), k + d = vN a → d < fuel → F_X5_comingTo_b5 fuel 157 v (nI n) (lN (fb_sm (fun m => if fol a m n then ctn A (vN a) (fol a) L m else 0) k)) (nI k) (Em g t) = some (lN (fb_sm (fun m => if fol a m n then ctn A (vN a) (fol a) L m else 0) (vN a)), Em g t) := by
  have hN := wN3 C.1
  have b1 : ∀ b : Bool, (bI b = (1 : Int32)) ↔ (b = true) := by decide
  intro d
  induction d with
  | zero =>
    intro k fuel hk hf
    obtain ⟨f, rfl⟩ : ∃ f, fuel = f + 1 := ⟨fuel - 1, by omega⟩
    have hk : k = vN a := by omega
    subst hk
    rw [F_X5_comingTo_b5, v_i0 V, Option.bind_some, vN_ C, if_pos (by rw [nI_leI (by omega) (by omega)]; exact Nat.le_refl _)]
  | succ d ih =>
    intro k fuel hk hf
    obtain ⟨f, rfl⟩ : ∃ f, fuel = f + 1 := ⟨fuel - 1, by omega⟩
    have hk3 : k < vN a := by omega
    have hm31 : mk (fun j => fol a k j) (vN a) < 2 ^ 31 := mk_31 (by omega)
    have hsh : (nI (mk (fun j => fol a k j) (vN a)) >>> (nI n &&& 31)) &&& 1 = bI (fol a k n) := by
      show (nI (mk (fun j => fol a k j) (vN a)) >>> (nI n &&& nI 31)) &&& nI 1 = _
      rw [v_shr hm31 (by omega), v_bit, mk_bit, decide_eq_true hn, Bool.true_and]
    have hi := ih (k + 1) f (by omega) (by omega)
    rw [← hi, F_X5_comingTo_b5, v_i0 V, Option.bind_some, vN_ C, if_neg (by rw [nI_leI (by omega) (by omega)]; omega), v_r10 V, Option.bind_some, v_a6 V (by omega), Option.bind_some, vFl_ C hk3, hsh, show nI k + 1 = nI (k + 1) from nI_add k 1, fb_sm_succ]
    cases q : fol a k n
    · rw [if_pos (show ¬ bI false = (1 : Int32) by decide), ifb_f]
      rfl
    · rw [if_neg (show ¬ ¬ bI true = (1 : Int32) by decide), x_r157_5 X, Option.bind_some, x_a161 X (by omega), Option.bind_some, h5 k hk3, lN_add, ifb_t]
theorem y_cpN (X : Fx g) {n : Nat} (hn : n ≤ 10) : cpI (Em g t) 162 0 161 0 (nI n) = some (Em g (wq t 161 (va_cpy (tJ t 162) (tJ t 161) 0 0 n))) := by
  have h := E_cpJ (sc := g.1) (n := gn g) (S := gS g) (N := gN g) (I := tI t) (A := tA t) (J := tJ t) (R := gR g) (Q := gQ g) (a := 162) (b := 161) (sp := 0) (dp := 0) (m := nI n) (by decide) (by decide) (x_S X 21 rfl) (x_S X 21 rfl) (by decide) (by decide) (by
    rw [fa_lt, nI_toInt (by omega)]
    have : (0 : Int32).toInt = 0 := rfl
    omega) (by rw [x_N X 10 rfl, nI_clamp (by omega)]; exact (by show 0 + n ≤ 10; omega)) (by rw [x_N X 10 rfl, nI_clamp (by omega)]; exact (by show 0 + n ≤ 10; omega))
  rw [nI_clamp (by omega)] at h
  exact h
theorem k_cnt_i (X : Fx g) (V : VaS g v) {A L : Nat} {y z : Int32} (hA : A < 2 ^ 31) (kk : Nat → Nat → Int32 → Int32 → Int32 → xH → Option (Int64 × xH)) : ∀ (d n fuel : Nat) (t : Tb), CP g t v a D → n + d = vN a → d < fuel → (∀ m, m < vN a → tJ t 161 m = lN (ctn A (vN a) (fol a) L m)) → (∀ m, m < n → tJ t 162 m = lN (ctn A (vN a) (fol a) (L + 1) m)) → ∃ t', F_X5_countOf_b44 kk fuel 157 v (nI A) y z (nI n) (Em g t) = kk 157 v (nI A) y (z + 1) (Em g t') ∧ Sm g t t' ∧ (∀ m, m < vN a → tJ t' 161 m = lN (ctn A (vN a) (fol a) (L + 1) m)) := by
  intro d
  induction d with
  | zero =>
    intro n fuel t C hn hf h5 h6
    have hN := wN3 C.1
    obtain ⟨f, rfl⟩ : ∃ f, fuel = f + 1 := ⟨fuel - 1, by omega⟩
    have hn : n = vN a := by omega
    subst hn
    refine ⟨wq t 161 (va_cpy (tJ t 162) (tJ t 161) 0 0 (vN a)), ?_, Sm_wq rfl Sm_r, fun m hm => ?_⟩
    · rw [F_X5_countOf_b44, v_i0 V, Option.bind_some, vN_ C, if_pos (by rw [nI_leI (by omega) (by omega)]; exact Nat.le_refl _), x_r157_6 X, Option.bind_some, x_r157_5 X, Option.bind_some, Option.bind_some, y_cpN X hN, Option.bind_some]
    · rw [tJ_ls]
      unfold va_cpy
      rw [if_pos (by omega), Nat.zero_add, Nat.sub_zero]
      exact h6 m hm
  | succ d ih =>
    intro n fuel t C hn hf h5 h6
    have hN := wN3 C.1
    obtain ⟨f, rfl⟩ : ∃ f, fuel = f + 1 := ⟨fuel - 1, by omega⟩
    have hn3 : n < vN a := by omega
    have hsh : (nI A >>> (nI n &&& 31)) &&& 1 = bI (A.testBit n) := by
      show (nI A >>> (nI n &&& nI 31)) &&& nI 1 = _
      rw [v_shr hA (by omega), v_bit]
    have nxt : ∀ w, w = lN (ctn A (vN a) (fol a) (L + 1) n) → ∃ t', F_X5_countOf_b44 kk f 157 v (nI A) y z (nI (n + 1)) (Em g (wj t 162 n w)) = kk 157 v (nI A) y (z + 1) (Em g t') ∧ Sm g t t' ∧ (∀ m, m < vN a → tJ t' 161 m = lN (ctn A (vN a) (fol a) (L + 1) m)) := by
      intro w hw
      have s1 : Sm g t (wj t 162 n w) := Sm_wj rfl Sm_r
      obtain ⟨t2, e2, s2, k2⟩ := ih (n + 1) f (wj t 162 n w) (CP_s X C s1) (by omega) (by omega) (fun m hm => by rw [tJ_jn (by decide)]; exact h5 m hm) (fun m hm => by
        rw [tJ_js]
        by_cases e : m = n
        · rw [e, pk_uLs, hw]
        · rw [pk_uLn e]; exact h6 m (by omega))
      exact ⟨t2, e2, Sm_t s1 s2, k2⟩
    rw [F_X5_countOf_b44, v_i0 V, Option.bind_some, vN_ C, if_neg (by rw [nI_leI (by omega) (by omega)]; omega), x_r157_6 X, Option.bind_some, hsh, show nI n + 1 = nI (n + 1) from nI_add n 1]
    cases q : A.testBit n
    · obtain ⟨t2, e2, r⟩ := nxt 0 (by rw [ctn, q, ifb_f]; rfl)
      refine ⟨t2, ?_, r⟩
      rw [if_neg (show ¬ ¬ bI false = (0 : Int32) by decide), x_s162 X (by omega), Option.bind_some]
      exact e2
    · have hfn : vN a < FU := by show vN a < 1000000; omega
      have hc := k_com_l (t := t) (A := A) (L := L) (n := n) X V C hn3 h5 (vN a) 0 FU (by omega) hfn
      have hc' : F_X5_comingTo 157 v (nI n) (Em g t) = some (lN (fb_sm (fun m => if fol a m n then ctn A (vN a) (fol a) L m else 0) (vN a)), Em g t) := hc
      obtain ⟨t2, e2, r⟩ := nxt (lN (fb_sm (fun m => if fol a m n then ctn A (vN a) (fol a) L m else 0) (vN a))) (by rw [ctn, q, ifb_t])
      refine ⟨t2, ?_, r⟩
      rw [if_pos (show ¬ bI true = (0 : Int32) by decide), x_rc157 X, Option.bind_some, hc', Option.bind_some, x_s162 X (by omega), Option.bind_some]
      exact e2
theorem k_csum (X : Fx g) (V : VaS g v) (C : CP g t v a D) {f : Nat → Nat} (h5 : ∀ m, m < vN a → tJ t 161 m = lN (f m)) : ∀ (d k fuel : Nat), k + d = vN a → d < fuel → F_X5_countOf_b115 fuel 157 v (lN (fb_sm f k)) (nI k) (Em g t) = some (lN (fb_sm f (vN a)), Em g t) := by
  have hN := wN3 C.1
  intro d
  induction d with
  | zero =>
    intro k fuel hk hf
    obtain ⟨f2, rfl⟩ : ∃ f, fuel = f + 1 := ⟨fuel - 1, by omega⟩
    have hk : k = vN a := by omega
    subst hk
    rw [F_X5_countOf_b115, v_i0 V, Option.bind_some, vN_ C, if_pos (by rw [nI_leI (by omega) (by omega)]; exact Nat.le_refl _)]
  | succ d ih =>
    intro k fuel hk hf
    obtain ⟨f2, rfl⟩ : ∃ f, fuel = f + 1 := ⟨fuel - 1, by omega⟩
    rw [F_X5_countOf_b115, v_i0 V, Option.bind_some, vN_ C, if_neg (by rw [nI_leI (by omega) (by omega)]; omega), x_r157_5 X, Option.bind_some, x_a161 X (by omega), Option.bind_some, h5 k (by omega), lN_add, show nI k + 1 = nI (k + 1) from nI_add k 1, ← fb_sm_succ]
    exact ih (k + 1) f2 (by omega) (by omega)
theorem k_cnt_l (X : Fx g) (V : VaS g v) {A m : Nat} (hA : A < 2 ^ 31) (hm : m ≤ 15) : ∀ (d L fuel : Nat) (t : Tb), CP g t v a D → L + 1 + d = m → d < fuel → (∀ n, n < vN a → tJ t 161 n = lN (ctn A (vN a) (fol a) L n)) → ∃ t', F_X5_countOf_b35 fuel 157 v (nI A) (nI m) (nI (L + 1)) (Em g t) = some (lN (fb_sm (ctn A (vN a) (fol a) (m - 1)) (vN a)), Em g t') ∧ Sm g t t' := by
  intro d
  induction d with
  | zero =>
    intro L fuel t C hL hf h5
    have hN := wN3 C.1
    obtain ⟨f, rfl⟩ : ∃ f, fuel = f + 1 := ⟨fuel - 1, by omega⟩
    have hL : m = L + 1 := by omega
    subst hL
    have hfn : vN a < FU := by show vN a < 1000000; omega
    refine ⟨t, ?_, Sm_r⟩
    rw [F_X5_countOf_b35, if_pos (by rw [nI_leI (by omega) (by omega)]; exact Nat.le_refl _), Nat.add_sub_cancel]
    exact k_csum X V C h5 (vN a) 0 FU (by omega) hfn
  | succ d ih =>
    intro L fuel t C hL hf h5
    have hN := wN3 C.1
    obtain ⟨f, rfl⟩ : ∃ f, fuel = f + 1 := ⟨fuel - 1, by omega⟩
    have hfn : vN a < FU := by show vN a < 1000000; omega
    obtain ⟨t1, e1, s1, k1⟩ := k_cnt_i (y := nI m) (z := nI (L + 1)) X V hA (F_X5_countOf_b35 f) (vN a) 0 FU t C (by omega) hfn h5 (fun q hq => absurd hq (by omega))
    obtain ⟨t2, e2, s2⟩ := ih (L + 1) f t1 (CP_s X C s1) (by omega) (by omega) k1
    refine ⟨t2, ?_, Sm_t s1 s2⟩
    rw [F_X5_countOf_b35, if_neg (by rw [nI_leI (by omega) (by omega)]; omega)]
    rw [show nI (L + 1) + 1 = nI (L + 1 + 1) from nI_add (L + 1) 1] at e1
    exact e1.trans e2
theorem k_cnt_0 (X : Fx g) (V : VaS g v) {A m : Nat} (hA : A < 2 ^ 31) (hm1 : 1 ≤ m) (hm : m ≤ 15) : ∀ (d n fuel : Nat) (t : Tb), CP g t v a D → n + d = vN a → d < fuel → (∀ q, q < n → tJ t 161 q = lN (ctn A (vN a) (fol a) 0 q)) → ∃ t', F_X5_countOf_b3 fuel 157 v (nI A) (nI m) (nI n) (Em g t) = some (lN (fb_sm (ctn A (vN a) (fol a) (m - 1)) (vN a)), Em g t') ∧ Sm g t t' := by
  intro d
  induction d with
  | zero =>
    intro n fuel t C hn hf h5
    have hN := wN3 C.1
    obtain ⟨f, rfl⟩ : ∃ f, fuel = f + 1 := ⟨fuel - 1, by omega⟩
    have hn : n = vN a := by omega
    subst hn
    have hfm : m - 1 < FU := by show m - 1 < 1000000; omega
    obtain ⟨t1, e1, s1⟩ := k_cnt_l (A := A) X V hA hm (m - 1) 0 FU t C (by omega) hfm h5
    refine ⟨t1, ?_, s1⟩
    rw [F_X5_countOf_b3, v_i0 V, Option.bind_some, vN_ C, if_pos (by rw [nI_leI (by omega) (by omega)]; exact Nat.le_refl _)]
    exact e1
  | succ d ih =>
    intro n fuel t C hn hf h5
    have hN := wN3 C.1
    obtain ⟨f, rfl⟩ : ∃ f, fuel = f + 1 := ⟨fuel - 1, by omega⟩
    have hsh : (nI A >>> (nI n &&& 31)) &&& 1 = bI (A.testBit n) := by
      show (nI A >>> (nI n &&& nI 31)) &&& nI 1 = _
      rw [v_shr hA (by omega), v_bit]
    have e0 : (bI (A.testBit n)).toInt64 = lN (ctn A (vN a) (fol a) 0 n) := by
      rw [ctn]
      cases A.testBit n <;> rfl
    have s1 : Sm g t (wj t 161 n (lN (ctn A (vN a) (fol a) 0 n))) := Sm_wj rfl Sm_r
    obtain ⟨t2, e2, s2⟩ := ih (n + 1) f (wj t 161 n (lN (ctn A (vN a) (fol a) 0 n))) (CP_s X C s1) (by omega) (by omega) (fun q hq => by
      rw [tJ_js]
      by_cases e : q = n
      · rw [e, pk_uLs]
      · rw [pk_uLn e]; exact h5 q (by omega))
    refine ⟨t2, ?_, Sm_t s1 s2⟩
    rw [F_X5_countOf_b3, v_i0 V, Option.bind_some, vN_ C, if_neg (by rw [nI_leI (by omega) (by omega)]; omega), x_r157_5 X, Option.bind_some, hsh, e0, x_s161 X (by omega), Option.bind_some, show nI n + 1 = nI (n + 1) from nI_add n 1]
    exact e2
/-! the reference -/
theorem r_may_f (W : WA a D) {A m n : Nat} (hm : m < vN a) : fnx a A m n = (A.testBit n && fol a m n) := by
  have hN := wN3 W
  unfold fnx
  rw [decide_eq_false (by omega), Bool.false_or]
theorem r_tu_i (X : Fx g) (W : WA a D) {A L n : Nat} {y z : Int32} (hA : A < 2 ^ 31) (hL : L ≤ 15) (hn : n < vN a) (k77 : Nat → Int32 → Int32 → xH → Option (Int64 × xH)) (kk : Nat → Int32 → Int32 → Int32 → xH → Option (Int64 × xH)) : ∀ (d m fuel : Nat) (t : Tb), m + d = vN a → d < fuel → tA t 184 = a → tI t 183 30 = nI A → (∀ q, q < vN a → tJ t 199 q = lN (ctn A (vN a) (fol a) L q)) → tJ t 200 n = lN (if A.testBit n then fb_sm (fun m => if fol a m n then ctn A (vN a) (fol a) L m else 0) m else 0) → ∃ t', F_X12_tunes_b107 k77 kk fuel 183 y z (nI n) (nI m) (Em g t) = kk 183 y z (nI (n + 1)) (Em g t') ∧ Sm g t t' ∧ tI t' 183 30 = nI A ∧ tJ t' 199 = tJ t 199 ∧ tJ t' 200 n = lN (ctn A (vN a) (fol a) (L + 1) n) ∧ ∀ q, q ≠ n → tJ t' 200 q = tJ t 200 q := by
  have hN := wN3 W
  intro d
  induction d with
  | zero =>
    intro m fuel t hm hf ha h30 h9 h0
    obtain ⟨f, rfl⟩ : ∃ f, fuel = f + 1 := ⟨fuel - 1, by omega⟩
    have hm : m = vN a := by omega
    subst hm
    have ha1 : aI (Em g t) 184 1 = some (nI (vN a)) := by
      have : aI (Em g t) 184 1 = some (tA t 184 1) := x_a184 X (k := 1) (by decide)
      rw [this, ha, wN W]
    refine ⟨t, ?_, Sm_r, h30, rfl, by rw [ctn]; exact h0, fun _ _ => rfl⟩
    rw [F_X12_tunes_b107, x_r183_1 X, Option.bind_some, ha1, Option.bind_some, if_pos (by rw [nI_leI (by omega) (by omega)]; exact Nat.le_refl _), show nI n + 1 = nI (n + 1) from nI_add n 1]
  | succ d ih =>
    intro m fuel t hm hf ha h30 h9 h0
    obtain ⟨f, rfl⟩ : ∃ f, fuel = f + 1 := ⟨fuel - 1, by omega⟩
    have hm3 : m < vN a := by omega
    have ha1 : aI (Em g t) 184 1 = some (nI (vN a)) := by
      have : aI (Em g t) 184 1 = some (tA t 184 1) := x_a184 X (k := 1) (by decide)
      rw [this, ha, wN W]
    have hle := ctn_le (A := A) (fo := fol a) hN L m
    have h15 : 10 ^ L ≤ 10 ^ 15 := Nat.pow_le_pow_right (by decide) hL
    have hn1 : nI m + 1 = nI (m + 1) := nI_add m 1
    -- what is added
    have nxt : ∀ (t1 : Tb) (w : Int64), Sn g t t1 → tJ t 200 n + w = lN (if A.testBit n then fb_sm (fun m => if fol a m n then ctn A (vN a) (fol a) L m else 0) (m + 1) else 0) → ∃ t', F_X12_tunes_b160 k77 kk (F_X12_tunes_b107 k77 kk f) 183 y z (nI n) (nI m) 200 (nI n) (tJ t 200 n) w (Em g t1) = kk 183 y z (nI (n + 1)) (Em g t') ∧ Sm g t t' ∧ tI t' 183 30 = nI A ∧ tJ t' 199 = tJ t 199 ∧ tJ t' 200 n = lN (ctn A (vN a) (fol a) (L + 1) n) ∧ ∀ q, q ≠ n → tJ t' 200 q = tJ t 200 q := by
      intro t1 w s1 hw
      have s2 : Sm g t (wj t1 200 n (tJ t 200 n + w)) := Sm_wj rfl (Sn_m s1)
      obtain ⟨t2, e2, s3, r1, r2, r3, r4⟩ := ih (m + 1) f (wj t1 200 n (tJ t 200 n + w)) (by omega) (by omega) (by rw [Sm_a X s2]; exact ha) (by rw [tI_wj, s1.1]; exact h30) (fun q hq => by rw [tJ_jn (by decide), s1.2.2]; exact h9 q hq) (by rw [tJ_js, pk_uLs]; exact hw)
      refine ⟨t2, ?_, Sm_t s2 s3, r1, by rw [r2, tJ_jn (by decide), s1.2.2], r3, fun q hq => by rw [r4 q hq, tJ_js, pk_uLn hq, s1.2.2]⟩
      unfold F_X12_tunes_b160
      rw [x_s200 X (by omega), Option.bind_some, hn1]
      exact e2
    have add0 : ∀ x : Int64, x + 0 = x := fun x => Int64.add_zero x
    have hhead : F_X12_tunes_b107 k77 kk (f + 1) 183 y z (nI n) (nI m) (Em g t) = if lg_cmp (tJ t 199 m) 0 ≤ 0 then F_X12_tunes_b160 k77 kk (F_X12_tunes_b107 k77 kk f) 183 y z (nI n) (nI m) 200 (nI n) (tJ t 200 n) 0 (Em g t) else (F_X12_mayNext 183 (nI m) (nI n) (Em g t)).bind fun z143 => if z143.1 = 0 then F_X12_tunes_b160 k77 kk (F_X12_tunes_b107 k77 kk f) 183 y z (nI n) (nI m) 200 (nI n) (tJ t 200 n) 0 z143.2 else (fR z143.2 183 11 31).bind fun v150 => (aJ z143.2 v150 (nI m)).bind fun v155 => F_X12_tunes_b160 k77 kk (F_X12_tunes_b107 k77 kk f) 183 y z (nI n) (nI m) 200 (nI n) (tJ t 200 n) v155 z143.2 := by
      rw [F_X12_tunes_b107, x_r183_1 X, Option.bind_some, ha1, Option.bind_some, if_neg (by rw [nI_leI (by omega) (by omega)]; omega), x_r183_32 X, Option.bind_some, x_a200 X (by omega), Option.bind_some, x_r183_31 X, Option.bind_some, x_a199 X (by omega), Option.bind_some, x_rc183 X, Option.bind_some]
      rfl
    rw [hhead, h9 m hm3]
    have hsum : fb_sm (fun m => if fol a m n then ctn A (vN a) (fol a) L m else 0) (m + 1) = fb_sm (fun m => if fol a m n then ctn A (vN a) (fol a) L m else 0) m + (if fol a m n then ctn A (vN a) (fol a) L m else 0) := fb_sm_succ _ _
    by_cases c0 : ctn A (vN a) (fol a) L m = 0
    · rw [c0, if_pos (show lg_cmp (lN 0) 0 ≤ 0 by decide)]
      refine nxt t 0 Sn_r ?_
      rw [add0, h0, hsum, c0, ite_self, Nat.add_zero]
    · have hpos : ¬ lg_cmp (lN (ctn A (vN a) (fol a) L m)) 0 ≤ 0 := by
        rw [lg_cmp_le]
        show ¬ lN _ ≤ lN 0
        rw [pk_lLE (by omega) (by decide)]
        omega
      obtain ⟨t1, e1, s1⟩ := q_may (t := t) (A := A) (m := m) (n := n) X W ha hA h30 (by omega) (by omega)
      rw [r_may_f W hm3] at e1
      rw [if_neg hpos, e1, Option.bind_some]
      cases hf1 : (A.testBit n && fol a m n)
      · rw [if_pos (show bI false = (0 : Int32) by decide)]
        refine nxt t1 0 s1 ?_
        rw [add0, h0]
        cases hA1 : A.testBit n
        · rfl
        · rw [hA1, Bool.true_and] at hf1
          rw [ifb_t, ifb_t, hsum, hf1, ifb_f, Nat.add_zero]
      · rw [Bool.and_eq_true] at hf1
        rw [if_neg (show ¬ bI true = (0 : Int32) by decide), x_r183_31 X, Option.bind_some, x_a199 X (by omega), Option.bind_some, s1.2.2, h9 m hm3]
        refine nxt t1 _ s1 ?_
        rw [h0, hf1.1, ifb_t, ifb_t, hsum, hf1.2, ifb_t, lN_add]
theorem r_tu_n (X : Fx g) (W : WA a D) {A L : Nat} {y z : Int32} (hA : A < 2 ^ 31) (hL : L ≤ 15) (k77 : Nat → Int32 → Int32 → xH → Option (Int64 × xH)) : ∀ (d n fuel : Nat) (t : Tb), n + d = vN a → d < fuel → tA t 184 = a → tI t 183 30 = nI A → (∀ q, q < vN a → tJ t 199 q = lN (ctn A (vN a) (fol a) L q)) → (∀ q, q < n → tJ t 200 q = lN (ctn A (vN a) (fol a) (L + 1) q)) → ∃ t', F_X12_tunes_b85 k77 fuel 183 y z (nI n) (Em g t) = F_X12_tunes_b177 k77 FU 183 y z 0 (Em g t') ∧ Sm g t t' ∧ tI t' 183 30 = nI A ∧ (∀ q, q < vN a → tJ t' 200 q = lN (ctn A (vN a) (fol a) (L + 1) q)) := by
  have hN := wN3 W
  intro d
  induction d with
  | zero =>
    intro n fuel t hn hf ha h30 h9 h0
    obtain ⟨f, rfl⟩ : ∃ f, fuel = f + 1 := ⟨fuel - 1, by omega⟩
    have hn : n = vN a := by omega
    subst hn
    have ha1 : aI (Em g t) 184 1 = some (nI (vN a)) := by
      have : aI (Em g t) 184 1 = some (tA t 184 1) := x_a184 X (k := 1) (by decide)
      rw [this, ha, wN W]
    refine ⟨t, ?_, Sm_r, h30, h0⟩
    rw [F_X12_tunes_b85, x_r183_1 X, Option.bind_some, ha1, Option.bind_some, if_pos (by rw [nI_leI (by omega) (by omega)]; exact Nat.le_refl _)]
  | succ d ih =>
    intro n fuel t hn hf ha h30 h9 h0
    obtain ⟨f, rfl⟩ : ∃ f, fuel = f + 1 := ⟨fuel - 1, by omega⟩
    have hn3 : n < vN a := by omega
    have ha1 : aI (Em g t) 184 1 = some (nI (vN a)) := by
      have : aI (Em g t) 184 1 = some (tA t 184 1) := x_a184 X (k := 1) (by decide)
      rw [this, ha, wN W]
    have hfn : vN a < FU := by show vN a < 1000000; omega
    have s0 : Sm g t (wj t 200 n 0) := Sm_wj rfl Sm_r
    obtain ⟨t1, e1, s1, r1, r2, r3, r4⟩ := r_tu_i (A := A) (L := L) (n := n) (y := y) (z := z) X W hA hL hn3 k77 (F_X12_tunes_b85 k77 f) (vN a) 0 FU (wj t 200 n 0) (by omega) hfn (by rw [Sm_a X s0]; exact ha) h30 (fun q hq => by rw [tJ_jn (by decide)]; exact h9 q hq) (by
      rw [tJ_js, pk_uLs]
      cases A.testBit n <;> rfl)
    obtain ⟨t2, e2, s2, k1, k2⟩ := ih (n + 1) f t1 (by omega) (by omega) (by rw [Sm_a X s1, Sm_a X s0]; exact ha) r1 (fun q hq => by rw [r2, tJ_jn (by decide)]; exact h9 q hq) (fun q hq => by
      by_cases e : q = n
      · rw [e]; exact r3
      · rw [r4 q e, tJ_js, pk_uLn e]
        exact h0 q (by omega))
    refine ⟨t2, ?_, Sm_t s0 (Sm_t s1 s2), k1, k2⟩
    rw [F_X12_tunes_b85, x_r183_1 X, Option.bind_some, ha1, Option.bind_some, if_neg (by rw [nI_leI (by omega) (by omega)]; omega), x_r183_32 X, Option.bind_some, x_s200 X (by omega), Option.bind_some]
    exact e1.trans e2
theorem r_tu_c (X : Fx g) (W : WA a D) {A L : Nat} {y z : Int32} (k77 : Nat → Int32 → Int32 → xH → Option (Int64 × xH)) : ∀ (d n fuel : Nat) (t : Tb), n + d = vN a → d < fuel → tA t 184 = a → tI t 183 30 = nI A → (∀ q, q < vN a → tJ t 200 q = lN (ctn A (vN a) (fol a) L q)) → (∀ q, q < n → tJ t 199 q = lN (ctn A (vN a) (fol a) L q)) → ∃ t', F_X12_tunes_b177 k77 fuel 183 y z (nI n) (Em g t) = k77 183 y (z + 1) (Em g t') ∧ Sm g t t' ∧ tI t' 183 30 = nI A ∧ (∀ q, q < vN a → tJ t' 199 q = lN (ctn A (vN a) (fol a) L q)) := by
  have hN := wN3 W
  intro d
  induction d with
  | zero =>
    intro n fuel t hn hf ha h30 h0 h9
    obtain ⟨f, rfl⟩ : ∃ f, fuel = f + 1 := ⟨fuel - 1, by omega⟩
    have hn : n = vN a := by omega
    subst hn
    have ha1 : aI (Em g t) 184 1 = some (nI (vN a)) := by
      have : aI (Em g t) 184 1 = some (tA t 184 1) := x_a184 X (k := 1) (by decide)
      rw [this, ha, wN W]
    refine ⟨t, ?_, Sm_r, h30, h9⟩
    rw [F_X12_tunes_b177, x_r183_1 X, Option.bind_some, ha1, Option.bind_some, if_pos (by rw [nI_leI (by omega) (by omega)]; exact Nat.le_refl _)]
  | succ d ih =>
    intro n fuel t hn hf ha h30 h0 h9
    obtain ⟨f, rfl⟩ : ∃ f, fuel = f + 1 := ⟨fuel - 1, by omega⟩
    have ha1 : aI (Em g t) 184 1 = some (nI (vN a)) := by
      have : aI (Em g t) 184 1 = some (tA t 184 1) := x_a184 X (k := 1) (by decide)
      rw [this, ha, wN W]
    have s0 : Sm g t (wj t 199 n (tJ t 200 n)) := Sm_wj rfl Sm_r
    obtain ⟨t2, e2, s2, k1, k2⟩ := ih (n + 1) f (wj t 199 n (tJ t 200 n)) (by omega) (by omega) ha h30 (fun q hq => by rw [tJ_jn (by decide)]; exact h0 q hq) (fun q hq => by
      rw [tJ_js]
      by_cases e : q = n
      · rw [e, pk_uLs]; exact h0 n (by omega)
      · rw [pk_uLn e]; exact h9 q (by omega))
    refine ⟨t2, ?_, Sm_t s0 s2, k1, k2⟩
    rw [F_X12_tunes_b177, x_r183_1 X, Option.bind_some, ha1, Option.bind_some, if_neg (by rw [nI_leI (by omega) (by omega)]; omega), x_r183_31 X, Option.bind_some, x_r183_32 X, Option.bind_some, x_a200 X (by omega), Option.bind_some, x_s199 X (by omega), Option.bind_some, show nI n + 1 = nI (n + 1) from nI_add n 1]
    exact e2
theorem r_tu_s (X : Fx g) (W : WA a D) (ha : tA t 184 = a) {f : Nat → Nat} (h5 : ∀ m, m < vN a → tJ t 199 m = lN (f m)) : ∀ (d k fuel : Nat), k + d = vN a → d < fuel → F_X12_tunes_b219 fuel 183 (lN (fb_sm f k)) (nI k) (Em g t) = some (lN (fb_sm f (vN a)), Em g t) := by
  have hN := wN3 W
  have ha1 : aI (Em g t) 184 1 = some (nI (vN a)) := by
    have : aI (Em g t) 184 1 = some (tA t 184 1) := x_a184 X (k := 1) (by decide)
    rw [this, ha, wN W]
  intro d
  induction d with
  | zero =>
    intro k fuel hk hf
    obtain ⟨f2, rfl⟩ : ∃ f, fuel = f + 1 := ⟨fuel - 1, by omega⟩
    have hk : k = vN a := by omega
    subst hk
    rw [F_X12_tunes_b219, x_r183_1 X, Option.bind_some, ha1, Option.bind_some, if_pos (by rw [nI_leI (by omega) (by omega)]; exact Nat.le_refl _)]
  | succ d ih =>
    intro k fuel hk hf
    obtain ⟨f2, rfl⟩ : ∃ f, fuel = f + 1 := ⟨fuel - 1, by omega⟩
    rw [F_X12_tunes_b219, x_r183_1 X, Option.bind_some, ha1, Option.bind_some, if_neg (by rw [nI_leI (by omega) (by omega)]; omega), x_r183_31 X, Option.bind_some, x_a199 X (by omega), Option.bind_some, h5 k (by omega), lN_add, show nI k + 1 = nI (k + 1) from nI_add k 1, ← fb_sm_succ]
    exact ih (k + 1) f2 (by omega) (by omega)
theorem r_tu_l (X : Fx g) (W : WA a D) {A m : Nat} (hA : A < 2 ^ 31) (hm : m ≤ 15) : ∀ (d L fuel : Nat) (t : Tb), L + 1 + d = m → d < fuel → tA t 184 = a → tI t 183 30 = nI A → (∀ n, n < vN a → tJ t 199 n = lN (ctn A (vN a) (fol a) L n)) → ∃ t', F_X12_tunes_b77 fuel 183 (nI m) (nI (L + 1)) (Em g t) = some (lN (fb_sm (ctn A (vN a) (fol a) (m - 1)) (vN a)), Em g t') ∧ Sm g t t' := by
  have hN := wN3 W
  have hfn : vN a < FU := by show vN a < 1000000; omega
  intro d
  induction d with
  | zero =>
    intro L fuel t hL hf ha h30 h5
    obtain ⟨f, rfl⟩ : ∃ f, fuel = f + 1 := ⟨fuel - 1, by omega⟩
    have hL : m = L + 1 := by omega
    subst hL
    refine ⟨t, ?_, Sm_r⟩
    rw [F_X12_tunes_b77, if_pos (by rw [nI_leI (by omega) (by omega)]; exact Nat.le_refl _), Nat.add_sub_cancel]
    exact r_tu_s X W ha h5 (vN a) 0 FU (by omega) hfn
  | succ d ih =>
    intro L fuel t hL hf ha h30 h5
    obtain ⟨f, rfl⟩ : ∃ f, fuel = f + 1 := ⟨fuel - 1, by omega⟩
    obtain ⟨t1, e1, s1, k1, k2⟩ := r_tu_n (A := A) (L := L) (y := nI m) (z := nI (L + 1)) X W hA (by omega) (F_X12_tunes_b77 f) (vN a) 0 FU t (by omega) hfn ha h30 h5 (fun q hq => absurd hq (by omega))
    obtain ⟨t2, e2, s2, k3, k4⟩ := r_tu_c (A := A) (L := L + 1) (y := nI m) (z := nI (L + 1)) X W (F_X12_tunes_b77 f) (vN a) 0 FU t1 (by omega) hfn (by rw [Sm_a X s1]; exact ha) k1 k2 (fun q hq => absurd hq (by omega))
    obtain ⟨t3, e3, s3⟩ := ih (L + 1) f t2 (by omega) (by omega) (by rw [Sm_a X s2, Sm_a X s1]; exact ha) k3 k4
    refine ⟨t3, ?_, Sm_t s1 (Sm_t s2 s3)⟩
    rw [F_X12_tunes_b77, if_neg (by rw [nI_leI (by omega) (by omega)]; omega)]
    rw [show nI (L + 1) + 1 = nI (L + 1 + 1) from nI_add (L + 1) 1] at e2
    exact e1.trans (e2.trans e3)
theorem r_tu_0 (X : Fx g) (W : WA a D) {A m : Nat} (hA : A < 2 ^ 31) (hm1 : 1 ≤ m) (hm : m ≤ 15) : ∀ (d n fuel : Nat) (t : Tb), n + d = vN a → d < fuel → tA t 184 = a → tI t 183 30 = nI A → (∀ q, q < n → tJ t 199 q = lN (ctn A (vN a) (fol a) 0 q)) → ∃ t', F_X12_tunes_b36 fuel 183 (nI m) (nI n) (Em g t) = some (lN (fb_sm (ctn A (vN a) (fol a) (m - 1)) (vN a)), Em g t') ∧ Sm g t t' := by
  have hN := wN3 W
  intro d
  induction d with
  | zero =>
    intro n fuel t hn hf ha h30 h5
    obtain ⟨f, rfl⟩ : ∃ f, fuel = f + 1 := ⟨fuel - 1, by omega⟩
    have hn : n = vN a := by omega
    subst hn
    have ha1 : aI (Em g t) 184 1 = some (nI (vN a)) := by
      have : aI (Em g t) 184 1 = some (tA t 184 1) := x_a184 X (k := 1) (by decide)
      rw [this, ha, wN W]
    have hfm : m - 1 < FU := by show m - 1 < 1000000; omega
    obtain ⟨t1, e1, s1⟩ := r_tu_l (A := A) X W hA hm (m - 1) 0 FU t (by omega) hfm ha h30 h5
    refine ⟨t1, ?_, s1⟩
    rw [F_X12_tunes_b36, x_r183_1 X, Option.bind_some, ha1, Option.bind_some, if_pos (by rw [nI_leI (by omega) (by omega)]; exact Nat.le_refl _)]
    exact e1
  | succ d ih =>
    intro n fuel t hn hf ha h30 h5
    obtain ⟨f, rfl⟩ : ∃ f, fuel = f + 1 := ⟨fuel - 1, by omega⟩
    have ha1 : aI (Em g t) 184 1 = some (nI (vN a)) := by
      have : aI (Em g t) 184 1 = some (tA t 184 1) := x_a184 X (k := 1) (by decide)
      rw [this, ha, wN W]
    have hn1 : nI n + 1 = nI (n + 1) := nI_add n 1
    have s1 : Sm g t (wj t 199 n (lN (ctn A (vN a) (fol a) 0 n))) := Sm_wj rfl Sm_r
    obtain ⟨t2, e2, s2⟩ := ih (n + 1) f (wj t 199 n (lN (ctn A (vN a) (fol a) 0 n))) (by omega) (by omega) ha h30 (fun q hq => by
      rw [tJ_js]
      by_cases e : q = n
      · rw [e, pk_uLs]
      · rw [pk_uLn e]; exact h5 q (by omega))
    refine ⟨t2, ?_, Sm_t s1 s2⟩
    rw [F_X12_tunes_b36, x_r183_1 X, Option.bind_some, ha1, Option.bind_some, if_neg (by rw [nI_leI (by omega) (by omega)]; omega), x_r183_31 X, Option.bind_some, x_i183_30 X, Option.bind_some, h30, q_isIn hA (by omega), Option.bind_some, hn1]
    rw [ctn] at e2
    cases q : A.testBit n
    · rw [q, ifb_f] at e2
      rw [if_pos (show bI false = (0 : Int32) by decide), x_s199 X (by omega), Option.bind_some]
      exact e2
    · rw [q, ifb_t] at e2
      rw [if_neg (show ¬ bI true = (0 : Int32) by decide), x_s199 X (by omega), Option.bind_some]
      exact e2
theorem ok_tunes {n : Nat} (I : IV g t v a D n nx) (hD : D + 100 < 2 ^ 30) (x y : Int32) : OkL (F_X11_tunes 69 x y) (F_X12_tunes 183 x y) g t D := by
  have X := I.1
  have C := I.2.2.1
  have W := C.1
  have V := C.2.1
  have hP := wP2 W
  have hN := wN3 W
  have hw0 : ∀ t, wI (Em g t) 183 11 0 0 = some (Em g (wi t 183 0 (nI 0))) := fun t => x_w183_0 X
  have bt : ¬ bI true = (0 : Int32) := by decide
  have bf : ¬ ¬ bI false = (0 : Int32) := by decide
  have bf2 : bI false = (0 : Int32) := by decide
  have ti1 : (nI 1).toInt = 1 := rfl
  have ti15 : (nI 15).toInt = 15 := rfl
  have hw15 : ∀ h : xH, F_X12_within y.toInt64 1 15 h = some (bI (decide (1 ≤ y.toInt ∧ y.toInt ≤ 15)), h) := by
    intro h
    rw [p_within, i64]
    rfl
  rcases oks_c x (vP a) (by omega) with hx | ⟨hx, s, hs, rfl⟩
  · refine okL_0 (r := -3) (t1 := t) (t2 := wi t 183 0 (nI 0)) I hD ?_ ?_ Sm_r (Sm_wi (a := 183) (k := 0) rfl Sm_r)
    · unfold F_X11_tunes
      rw [c_r69 X C.2.2.2.1, Option.bind_some, v_rc V, Option.bind_some, k_isPeople V C, Option.bind_some, hx, if_pos bf2]
    · unfold F_X12_tunes
      rw [hw0, Option.bind_some, x_rc183 X, Option.bind_some, q_isPeople (t := wi t 183 0 (nI 0)) X W I.2.1, Option.bind_some, hx, if_pos bf2]
  have hs31 := p_31 hs (by omega)
  by_cases hy : 1 ≤ y.toInt ∧ y.toInt ≤ 15
  · obtain ⟨m, hm1, hm, rfl⟩ : ∃ m, 1 ≤ m ∧ m ≤ 15 ∧ y = nI m := ⟨y.toInt.toNat, by omega, by omega, Int32.toInt_inj.mp (by rw [nI_toInt (by omega)]; omega)⟩
    have c1 : ¬ nI m < (1 : Int32) := show ¬ nI m < nI 1 by rw [fa_lt]; omega
    have c2 : nI m ≤ (15 : Int32) := show nI m ≤ nI 15 by rw [fa_le]; omega
    have hA : mk (hall a s (vP a)) (vN a) < 2 ^ 31 := mk_31 (by omega)
    have hfn : vN a < FU := by show vN a < 1000000; omega
    obtain ⟨t1, e1, s1⟩ := k_heardByAll X V C hs31
    obtain ⟨t2, e2, s2⟩ := k_cnt_0 (A := mk (hall a s (vP a)) (vN a)) X V hA hm1 hm (vN a) 0 FU t1 (CP_s X C s1) (by omega) hfn (fun q hq => absurd hq (by omega))
    have e2' : F_X5_countOf 157 v (nI (mk (hall a s (vP a)) (vN a))) (nI m) (Em g t1) = some (lN (fb_sm (ctn (mk (hall a s (vP a)) (vN a)) (vN a) (fol a) (m - 1)) (vN a)), Em g t2) := e2
    have s12 : Sm g t t2 := Sm_t s1 s2
    have s12' : Sm g t (wi t2 183 0 (nI 0)) := Sm_wi rfl s12
    have ha2 : tA (wi t2 183 0 (nI 0)) 184 = a := by rw [Sm_a X s12']; exact I.2.1
    obtain ⟨t3, e3, s3, k3⟩ := r_all (t := wi t2 183 0 (nI 0)) X W ha2 hs31
    obtain ⟨t4, e4, s4⟩ := r_tu_0 (A := mk (hall a s (vP a)) (vN a)) X W hA hm1 hm (vN a) 0 FU t3 (by omega) hfn (by rw [Sm_a X s3]; exact ha2) k3 (fun q hq => absurd hq (by omega))
    refine okL_0 (r := lN (fb_sm (ctn (mk (hall a s (vP a)) (vN a)) (vN a) (fol a) (m - 1)) (vN a))) (t1 := t2) (t2 := t4) I hD ?_ ?_ s12 (Sm_t (Sm_wi (a := 183) (k := 0) rfl Sm_r) (Sm_t s3 s4))
    · unfold F_X11_tunes
      rw [c_r69 X C.2.2.2.1, Option.bind_some, v_rc V, Option.bind_some, k_isPeople V C, Option.bind_some, hx, if_neg bt, if_neg c1, if_pos c2, x_r69_10 X, Option.bind_some, c_r69 X C.2.2.2.1, Option.bind_some, Option.bind_some, x_r69_2 X, Option.bind_some, v_rc V, Option.bind_some, e1, Option.bind_some, x_rc157 X, Option.bind_some, e2', Option.bind_some]
    · unfold F_X12_tunes
      rw [hw0, Option.bind_some, x_rc183 X, Option.bind_some, q_isPeople X W ha2, Option.bind_some, hx, if_neg bt, hw15, Option.bind_some, decide_eq_true hy, if_pos bt, x_rc183 X, Option.bind_some, e3, Option.bind_some]
      exact e4
  · refine okL_0 (r := -3) (t1 := t) (t2 := wi t 183 0 (nI 0)) I hD ?_ ?_ Sm_r (Sm_wi (a := 183) (k := 0) rfl Sm_r)
    · unfold F_X11_tunes
      rw [c_r69 X C.2.2.2.1, Option.bind_some, v_rc V, Option.bind_some, k_isPeople V C, Option.bind_some, hx, if_neg bt]
      by_cases c1 : y < nI 1
      · rw [if_pos (show y < (1 : Int32) from c1)]
      · have c2 : ¬ y ≤ nI 15 := by
          rw [fa_lt] at c1
          rw [fa_le]
          omega
        rw [if_neg (show ¬ y < (1 : Int32) from c1), if_neg (show ¬ y ≤ (15 : Int32) from c2)]
    · unfold F_X12_tunes
      rw [hw0, Option.bind_some, x_rc183 X, Option.bind_some, q_isPeople (t := wi t 183 0 (nI 0)) X W I.2.1, Option.bind_some, hx, if_neg bt, hw15, Option.bind_some, decide_eq_false hy, if_neg bf]
end XTu
