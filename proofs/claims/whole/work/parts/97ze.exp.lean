/-! ===== numbers and codes, side by side ===== -/
def Kc (t t' : Tb) : Prop := (∀ b k, (b = 70 → k ∉ [3, 5, 6, 7, 8, 11, 12]) → tI t' b k = tI t b k) ∧ (∀ b, b ≠ 72 → tA t' b = tA t b) ∧ tJ t' = tJ t
def Km (s s' : Tb) : Prop := (∀ b k, (b = 183 → k ∉ [6, 7, 9, 10, 11, 12]) → tI s' b k = tI s b k) ∧ (∀ b, b ≠ 187 → tA s' b = tA s b) ∧ tJ s' = tJ s ∧ ∀ k, k < 328 → tA s' 187 k = tA s 187 k
def Cl (t : Tb) (q : Nat) : Prop := ∃ cl, (cl ≤ 900 ∧ cl ≤ q) ∧ tI t 70 3 = nI cl
def slk (ty : Bool) : Nat := if ty then 2 else 1
/-- the codes so far -/
def CD (l : Nat) (t s : Tb) (cl nc fr : Nat) : Prop := (tI t 70 3 = nI cl ∧ tA s 187 328 = nI nc ∧ nc = fr + cl ∧ nc ≤ 900) ∧ (∀ k, k < cl → tA t 72 k = nI (ccn l (tn (tA s 187 (329 + fr + k))))) ∧ tI s 183 15 = nI l ∧ tI t 70 9 = bI (decide (l = 0))
def sgt (l : Nat) (seg : List Int32) (ty : Bool) (h : Nat) : Prop := ∀ tys rest, tys.length + h ≤ 24 → okc l rest (ty :: tys) → okc l (seg ++ rest) tys
theorem cdf_app {f : Nat → Int32} : ∀ (c k d : Nat), cdf f k (c + d) = cdf f k c ++ cdf f (k + c) d
  | 0, k, d => by rw [Nat.zero_add, cdf, List.nil_append, Nat.add_zero]
  | c + 1, k, d => by
    rw [show c + 1 + d = (c + d) + 1 by omega, cdf, cdf, cdf_app c (k + 1) d, List.cons_append, show k + 1 + c = k + (c + 1) by omega]
theorem cdf_1 {f : Nat → Int32} {k : Nat} : cdf f k 1 = [f k] := by rw [cdf, cdf]
section XEx
variable {g g0 : Sk} {t t' t'' s s' s'' : Tb} {T : Nat → Int32} {n b e km f p q nc cl fr l : Nat} {S : List Nat}
theorem Kc_r : Kc t t := ⟨fun _ _ _ => rfl, fun _ _ => rfl, rfl⟩
theorem Kc_t (h : Kc t t') (h2 : Kc t' t'') : Kc t t'' := ⟨fun b k q => (h2.1 b k q).trans (h.1 b k q), fun b q => (h2.2.1 b q).trans (h.2.1 b q), h2.2.2.trans h.2.2⟩
theorem Kc_q (hS : ∀ k, k ∈ S → k ∈ [3, 5, 6, 7, 8, 11, 12]) (h : Qs 70 S t t') : Kc t t' := ⟨fun b k q => h.1 b k (fun e m => q e (hS k m)), fun b _ => by rw [h.2.1], h.2.2⟩
theorem Km_r : Km s s := ⟨fun _ _ _ => rfl, fun _ _ => rfl, rfl, fun _ _ => rfl⟩
theorem Km_t (h : Km s s') (h2 : Km s' s'') : Km s s'' := ⟨fun b k q => (h2.1 b k q).trans (h.1 b k q), fun b q => (h2.2.1 b q).trans (h.2.1 b q), h2.2.2.1.trans h.2.2.1, fun k hk => (h2.2.2.2 k hk).trans (h.2.2.2 k hk)⟩
theorem Km_q (hS : ∀ k, k ∈ S → k ∈ [6, 7, 9, 10, 11, 12]) (h : Qs 183 S s s') : Km s s' := ⟨fun b k q => h.1 b k (fun e m => q e (hS k m)), fun b _ => by rw [h.2.1], h.2.2, fun k _ => by rw [h.2.1]⟩
theorem Cl_m {q' : Nat} (h : Cl t q) (hq : q ≤ q') : Cl t q' := by
  obtain ⟨cl, c1, c2⟩ := h
  exact ⟨cl, by omega, c2⟩
theorem Cl_q {r : Nat} (h : Cl t r) (q : Qs 70 S t t') (h3 : 3 ∉ S) : Cl t' r := by
  obtain ⟨cl, c1, c2⟩ := h
  exact ⟨cl, c1, by rw [q.1 70 3 (fun _ => h3)]; exact c2⟩
theorem CD_q {S' : List Nat} (h : CD l t s cl nc fr) (q1 : Qs 70 S t t') (q2 : Qs 183 S' s s') (h3 : 3 ∉ S) (h9 : 9 ∉ S) (h15 : 15 ∉ S') : CD l t' s' cl nc fr := by
  obtain ⟨⟨c1, c2, c3, c4⟩, c5, c6, c7⟩ := h
  exact ⟨⟨by rw [q1.1 70 3 (fun _ => h3)]; exact c1, by rw [q2.2.1]; exact c2, c3, c4⟩, fun k hk => by rw [q1.2.1, q2.2.1]; exact c5 k hk, by rw [q2.1 183 15 (fun _ => h15)]; exact c6, by rw [q1.1 70 9 (fun _ => h9)]; exact c7⟩
theorem CD_Cl (h : CD l t s cl nc fr) : Cl t cl := ⟨cl, by have := h.1.2.2; omega, h.1.1⟩
/-! numbers -/
theorem l_take2 (L : Lv g t g0 s T n b e km) (hnc : tA s 187 328 = nI nc) (x y : Int32) : ∃ t' s' rc rm, F_X4_passNumber 70 x y (Em g t) = some (rc, Em g t') ∧ F_X12_takes 183 x y (Em g0 s) = some (rm, Em g0 s') ∧ Qs 70 [5, 6, 7, 8, 11, 12] t t' ∧ Qs 183 [6, 7, 9, 10, 11, 12] s s' ∧ ((∃ b' e' km' v, (km = 23 ∧ tI t 70 8 = nI v ∧ tI s 183 10 = nI v) ∧ rc = nI v ∧ rm = nI v ∧ v < 1000 ∧ x ≤ nI v ∧ nI v ≤ y ∧ Lv g t' g0 s' T n b' e' km' ∧ b < b') ∨ (∃ f p, b ≤ p ∧ Nc t' T n f p ∧ Nm s' T n f p nc ∧ (Dd s' T n f p ∨ ∃ v, rm = nI v ∧ v < 1000 ∧ x ≤ nI v ∧ nI v ≤ y))) := by
  have hb := l_b L
  have X := L.1.1
  have X0 := L.1.2
  obtain ⟨e0, kc, vl, h1, h2, h3, h4, h5⟩ := L.2.2.2.2.2
  have hbb := tk_b h1 h2
  have m11 : tI s 183 11 = nI 0 := L.2.2.2.2.1.2.2.2
  by_cases c : km = 23
  · have hv : tI s 183 10 = nI vl := h5.1 c
    have hvl : vl < 1000 := by
      obtain ⟨hb0, h⟩ := h2
      rcases h with h | ⟨g1, g2, g3, g4, _⟩ | ⟨g1, g2, g3, g4, g5, g6, g7, g8⟩ | ⟨g1, g2, g3, ⟨j, j1, j2, j3⟩, g4, _⟩
      · omega
      · rcases kwz_c (T := T) (b := b) (e := e) 19 0 with ⟨w1, _⟩ | ⟨_, w2, _⟩ <;> omega
      · have := nvl_lt (T := T) (b := b) (e - b) (fun k hk => run_p (p := dgt) (T := T) (n - b) b (b + k) (by omega) (by omega))
        have h10 : 10 ^ min (e - b) 3 ≤ 10 ^ 3 := Nat.pow_le_pow_right (by decide) (by omega)
        omega
      · omega
    by_cases cr : x ≤ nI vl ∧ nI vl ≤ y
    · obtain ⟨t', s', e1, e2, q1, q2, r⟩ := l_adv L hnc
      refine ⟨t', s', nI vl, nI vl, ?_, ?_, q1, Qs_m (by decide) q2, ?_⟩
      · unfold F_X4_passNumber F_X4_passNumber_b37
        rw [x_i70_7 X, Option.bind_some, h3, if_pos (show nI kc = (1 : Int32) by rw [hbb.2.2.2.2.2.2.2.1.mp c]; rfl), x_i70_8 X, Option.bind_some, h4, if_neg (Int32.not_lt.mpr cr.1), Option.bind_some, if_pos cr.2, x_i70_11 X, Option.bind_some, L.2.2.2.1.2.2, if_pos (show nI 0 = (0 : Int32) from rfl), Option.bind_some, x_rc70 X, Option.bind_some, e1, Option.bind_some]
      · unfold F_X12_takes F_X12_takes_b37
        rw [x_rc183 X0, Option.bind_some, show (23 : Int32) = nI 23 from rfl, l_is L (by decide), Option.bind_some, decide_eq_true c, if_pos (show ¬ bI true = (0 : Int32) by decide), x_i183_10 X0, Option.bind_some, hv, p_within, Option.bind_some, i64, i64, i64, decide_eq_true ⟨by rw [← fa_le]; exact cr.1, by rw [← fa_le]; exact cr.2⟩, if_pos (show ¬ bI true = (0 : Int32) by decide), x_i183_10 X0, Option.bind_some, hv, x_i183_11 X0, Option.bind_some, m11, if_neg (show ¬ ¬ nI 0 = (0 : Int32) from fun h => h rfl), x_rc183 X0, Option.bind_some, e2, Option.bind_some]
      · rcases r with ⟨b', e', km', r1, r2⟩ | ⟨p, r1, r2, r3⟩
        · exact Or.inl ⟨b', e', km', vl, ⟨c, h4, hv⟩, rfl, rfl, hvl, cr.1, cr.2, r1, by omega⟩
        · exact Or.inr ⟨1, p, by omega, r2, r3, Or.inr ⟨vl, rfl, hvl, cr.1, cr.2⟩⟩
    · obtain ⟨t', s', e1, e2, q1, q2, N1, N2⟩ := l_fail L (f := 3) ⟨by decide, by decide⟩
      refine ⟨t', s', -1, nI vl, ?_, ?_, Qs_m (by decide) q1, Qs_m (by decide) q2, Or.inr ⟨3, b, Nat.le_refl _, N1, Or.inl N2, Or.inl N2⟩⟩
      · have e32 : F_X4_passNumber_b32 70 (Em g t) = some (-1, Em g t') := by
          unfold F_X4_passNumber_b32 F_X4_passNumber_b37
          rw [x_rc70 X, Option.bind_some, show (3 : Int32) = nI 3 from rfl, e1, Option.bind_some, x_i70_11 X, Option.bind_some, N1.2.2.1, if_neg (show ¬ nI 3 = (0 : Int32) by decide)]
        unfold F_X4_passNumber
        rw [x_i70_7 X, Option.bind_some, h3, if_pos (show nI kc = (1 : Int32) by rw [hbb.2.2.2.2.2.2.2.1.mp c]; rfl), x_i70_8 X, Option.bind_some, h4]
        by_cases c1 : nI vl < x
        · rw [if_pos c1]; exact e32
        · rw [if_neg c1, Option.bind_some, if_neg (fun h => cr ⟨Int32.not_lt.mp c1, h⟩)]; exact e32
      · unfold F_X12_takes F_X12_takes_b37
        rw [x_rc183 X0, Option.bind_some, show (23 : Int32) = nI 23 from rfl, l_is L (by decide), Option.bind_some, decide_eq_true c, if_pos (show ¬ bI true = (0 : Int32) by decide), x_i183_10 X0, Option.bind_some, hv, p_within, Option.bind_some, i64, i64, i64, decide_eq_false (fun h => cr ⟨by rw [fa_le]; exact h.1, by rw [fa_le]; exact h.2⟩), if_neg (show ¬ ¬ bI false = (0 : Int32) by decide), x_rc183 X0, Option.bind_some, show (3 : Int32) = nI 3 from rfl, e2, Option.bind_some, x_i183_10 X0, Option.bind_some, q2.1 183 10 (fun _ => by decide), hv, x_i183_11 X0, Option.bind_some, N2.2.2.1, if_pos (show ¬ nI 3 = (0 : Int32) by decide)]
  · obtain ⟨t', s', e1, e2, q1, q2, N1, N2⟩ := l_fail L (f := 2) ⟨by decide, by decide⟩
    refine ⟨t', s', -1, tI s' 183 10, ?_, ?_, Qs_m (by decide) q1, Qs_m (by decide) q2, Or.inr ⟨2, b, Nat.le_refl _, N1, Or.inl N2, Or.inl N2⟩⟩
    · unfold F_X4_passNumber F_X4_passNumber_b37
      rw [x_i70_7 X, Option.bind_some, h3, if_neg (show ¬ nI kc = (1 : Int32) from show ¬ nI kc = nI 1 by rw [nI_eq (by omega) (by decide)]; exact fun h => c (hbb.2.2.2.2.2.2.2.1.mpr h)), x_rc70 X, Option.bind_some, show (2 : Int32) = nI 2 from rfl, e1, Option.bind_some, x_i70_11 X, Option.bind_some, N1.2.2.1, if_neg (show ¬ nI 2 = (0 : Int32) by decide)]
    · unfold F_X12_takes F_X12_takes_b37
      rw [x_rc183 X0, Option.bind_some, show (23 : Int32) = nI 23 from rfl, l_is L (by decide), Option.bind_some, decide_eq_false c, if_neg (show ¬ ¬ bI false = (0 : Int32) by decide), x_rc183 X0, Option.bind_some, show (2 : Int32) = nI 2 from rfl, e2, Option.bind_some, x_i183_10 X0, Option.bind_some, x_i183_11 X0, Option.bind_some, N2.2.2.1, if_pos (show ¬ nI 2 = (0 : Int32) by decide)]
theorem l_take (L : Lv g t g0 s T n b e km) (hnc : tA s 187 328 = nI nc) (x y : Int32) : ∃ t' s' rc rm, F_X4_passNumber 70 x y (Em g t) = some (rc, Em g t') ∧ F_X12_takes 183 x y (Em g0 s) = some (rm, Em g0 s') ∧ Qs 70 [5, 6, 7, 8, 11, 12] t t' ∧ Qs 183 [6, 7, 9, 10, 11, 12] s s' ∧ ((∃ b' e' km' v, km = 23 ∧ rc = nI v ∧ rm = nI v ∧ v < 1000 ∧ x ≤ nI v ∧ nI v ≤ y ∧ Lv g t' g0 s' T n b' e' km' ∧ b < b') ∨ (∃ f p, b ≤ p ∧ Nc t' T n f p ∧ Nm s' T n f p nc)) := by
  obtain ⟨t', s', rc, rm, e1, e2, q1, q2, r⟩ := l_take2 L hnc x y
  refine ⟨t', s', rc, rm, e1, e2, q1, q2, ?_⟩
  rcases r with ⟨b', e', km', v, h1, h2⟩ | ⟨f, p, h1, h2, h3, _⟩
  · exact Or.inl ⟨b', e', km', v, h1.1, h2⟩
  · exact Or.inr ⟨f, p, h1, h2, h3⟩
theorem n_takec (X : Fx g) (N : Nc t T n f p) (x y : Int32) : F_X4_passNumber 70 x y (Em g t) = some (-1, Em g t) := by
  have e37 : F_X4_passNumber_b37 70 (Em g t) = some (-1, Em g t) := by
    unfold F_X4_passNumber_b37
    rw [x_i70_11 X, Option.bind_some, N.2.2.1, if_neg (show ¬ nI f = (0 : Int32) from f_nz N.2.1)]
  have e32 : F_X4_passNumber_b32 70 (Em g t) = some (-1, Em g t) := by
    unfold F_X4_passNumber_b32
    rw [x_rc70 X, Option.bind_some, n_failc X N, Option.bind_some]
    exact e37
  unfold F_X4_passNumber
  rw [x_i70_7 X, Option.bind_some, x_rc70 X, Option.bind_some, n_failc X N, Option.bind_some, x_i70_8 X, Option.bind_some, Option.bind_some, e32, e37]
  split
  · split
    · rfl
    · split <;> rfl
  · rfl
theorem n_takem (X : Fx g0) (N : Nm s T n f p q) (x y : Int32) : ∃ s' v, F_X12_takes 183 x y (Em g0 s) = some (v, Em g0 s') ∧ Qs 183 [11, 12] s s' ∧ Dd s' T n f p := by
  obtain ⟨s', e1, q1, d1⟩ := n_fails X N 2
  refine ⟨s', tI s' 183 10, ?_, q1, d1⟩
  unfold F_X12_takes F_X12_takes_b37
  rw [x_rc183 X, Option.bind_some, show (23 : Int32) = nI 23 from rfl, n_is X N (by decide) (by decide), Option.bind_some, if_neg (show ¬ ¬ bI false = (0 : Int32) by decide), x_rc183 X, Option.bind_some, e1, Option.bind_some, x_i183_10 X, Option.bind_some, x_i183_11 X, Option.bind_some, d1.2.2.1, if_pos (show ¬ nI f = (0 : Int32) from f_nz d1.2.1)]
/-! codes -/
theorem k_emit (X : Fx g) (x : Int32) (hc : tI t 70 3 = nI cl) (h : cl < 900) : F_X4_emit 70 x (Em g t) = some ((), Em g (wi (wa t 72 cl x) 70 3 (nI (cl + 1)))) := by
  unfold F_X4_emit
  rw [x_i70_3 X, Option.bind_some, hc, if_neg (show ¬ (900 : Int32) ≤ nI cl from show ¬ nI 900 ≤ nI cl by rw [nI_leI (by decide) (by omega)]; omega), x_r70_2 X, Option.bind_some, Option.bind_some, x_s72 X h, Option.bind_some, x_i70_3 X, Option.bind_some, tI_wa, hc, show nI cl + 1 = nI (cl + 1) from nI_add cl 1, x_w70_3 X, Option.bind_some]
theorem k_emit9 (X : Fx g) (x : Int32) (hc : tI t 70 3 = nI 900) : F_X4_emit 70 x (Em g t) = some ((), Em g t) := by
  unfold F_X4_emit
  rw [x_i70_3 X, Option.bind_some, hc, if_pos (show (900 : Int32) ≤ nI 900 by decide)]
theorem Kc_e {x : Int32} : Kc t (wi (wa t 72 cl x) 70 3 (nI (cl + 1))) := by
  refine ⟨fun b k q => ?_, fun b q => by rw [tA_wi, tA_an q], rfl⟩
  by_cases e : b = 70
  · rw [tI_ik (fun e2 => q e (by rw [e2]; decide)), tI_wa]
  · rw [tI_ia e, tI_wa]
theorem Nc_k (h : Nc t T n f p) (h4 : tI t' 70 4 = tI t 70 4) (h5 : tI t' 70 5 = tI t 70 5) (h6 : tI t' 70 6 = tI t 70 6) (h11 : tI t' 70 11 = tI t 70 11) (h12 : tI t' 70 12 = tI t 70 12) (h71 : tA t' 71 = tA t 71) : Nc t' T n f p := by
  obtain ⟨R, h1, h2, h3, b, e, k1, k2, k3, k4⟩ := h
  exact ⟨⟨R.1, by rw [h4]; exact R.2.1, fun k hk => by rw [h71]; exact R.2.2 k hk⟩, h1, by rw [h11]; exact h2, by rw [h12]; exact h3, b, e, k1, k2, by rw [h5]; exact k3, by rw [h6]; exact k4⟩
theorem n_emit (X : Fx g) (N : Nc t T n f p) (C : Cl t q) (x : Int32) : ∃ t', F_X4_emit 70 x (Em g t) = some ((), Em g t') ∧ Kc t t' ∧ Nc t' T n f p ∧ Cl t' (q + 1) := by
  obtain ⟨cl, c1, c2⟩ := C
  by_cases c : cl = 900
  · subst c
    exact ⟨t, k_emit9 X x c2, Kc_r, N, 900, by omega, c2⟩
  · refine ⟨_, k_emit X x c2 (by omega), Kc_e, Nc_k N ?_ ?_ ?_ ?_ ?_ ?_, cl + 1, by omega, tI_is⟩
    · rw [tI_ik (by decide), tI_wa]
    · rw [tI_ik (by decide), tI_wa]
    · rw [tI_ik (by decide), tI_wa]
    · rw [tI_ik (by decide), tI_wa]
    · rw [tI_ik (by decide), tI_wa]
    · rw [tA_wi, tA_an (by decide)]
def cdw (s : Tb) (nc : Nat) (x : Int32) : Tb := wa (wa s 187 (329 + nc) x) 187 328 (nI (nc + 1))
theorem cdw_o {x : Int32} {k : Nat} (h1 : k ≠ 329 + nc) (h2 : k ≠ 328) : tA (cdw s nc x) 187 k = tA s 187 k := by
  unfold cdw
  rw [tA_as, upd_n h2, tA_as, upd_n h1]
theorem cdw_n {x : Int32} : tA (cdw s nc x) 187 (329 + nc) = x := by
  unfold cdw
  rw [tA_as, upd_n (by omega), tA_as, upd_s]
theorem cdw_c {x : Int32} : tA (cdw s nc x) 187 328 = nI (nc + 1) := by
  unfold cdw
  rw [tA_as, upd_s]
theorem cdw_b {x : Int32} {c : Nat} (h : c ≠ 187) : tA (cdw s nc x) c = tA s c := by
  unfold cdw
  rw [tA_an h, tA_an h]
theorem cdw_i {x : Int32} : tI (cdw s nc x) = tI s := rfl
theorem Km_c {x : Int32} : Km s (cdw s nc x) := ⟨fun _ _ _ => rfl, fun b q => cdw_b q, rfl, fun k hk => cdw_o (by omega) (by omega)⟩
theorem r_codes (X : Fx g0) (x : Int32) (h11 : tI s 183 11 = nI 0) (hc : tA s 187 328 = nI nc) (h : nc < 900) : F_X12_codes 183 x (Em g0 s) = some ((), Em g0 (cdw s nc x)) := by
  have h328 : ∀ s : Tb, aI (Em g0 s) 187 328 = some (tA s 187 328) := fun s => x_a187 X (k := 328) (by decide)
  have s328 : ∀ (s : Tb) (z : Int32), sI (Em g0 s) 187 328 z = some (Em g0 (wa s 187 328 z)) := fun s z => x_s187 X (k := 328) (by decide)
  unfold F_X12_codes cdw
  rw [x_i183_11 X, Option.bind_some, h11, if_pos (show nI 0 = (0 : Int32) from rfl), x_r183_4 X, Option.bind_some, Option.bind_some, h328, Option.bind_some, hc, show (329 : Int32) + nI nc = nI (329 + nc) from nI_add 329 nc, x_s187 X (by omega), Option.bind_some, x_r183_4 X, Option.bind_some, h328, Option.bind_some, tA_as, upd_n (by omega), hc, show nI nc + 1 = nI (nc + 1) from nI_add nc 1, s328, Option.bind_some]
theorem n_codes (X : Fx g0) (N : Nm s T n f p q) (hq : q < 900) (x : Int32) : ∃ s', F_X12_codes 183 x (Em g0 s) = some ((), Em g0 s') ∧ Km s s' ∧ Nm s' T n f p (q + 1) := by
  rcases N with N | ⟨M, m11, m1, m9, m6, hp, nc, m2, m3⟩
  · refine ⟨s, ?_, Km_r, Or.inl N⟩
    unfold F_X12_codes
    rw [x_i183_11 X, Option.bind_some, N.2.2.1, if_neg (show ¬ nI f = (0 : Int32) from f_nz N.2.1)]
  · refine ⟨cdw s nc x, r_codes X x m11 m2 (by omega), Km_c, Or.inr ⟨⟨M.1, M.2.1, fun k hk => by rw [cdw_b (by decide)]; exact M.2.2 k hk⟩, m11, m1, m9, m6, hp, nc + 1, cdw_c, by omega⟩⟩
/-- one code, both -/
theorem l_code (L : Lv g t g0 s T n b e km) (D : CD l t s cl nc fr) (hnc : nc < 900) (c : Nat) (hc : c < 2 ^ 31) (x : Int32) (hx : x = nI (ccn l c)) : ∃ t' s', F_X4_emit 70 x (Em g t) = some ((), Em g t') ∧ F_X12_codes 183 (nI c) (Em g0 s) = some ((), Em g0 s') ∧ Kc t t' ∧ Km s s' ∧ Lv g t' g0 s' T n b e km ∧ CD l t' s' (cl + 1) (nc + 1) fr ∧ (∀ k, k < nc → tA s' 187 (329 + k) = tA s 187 (329 + k)) ∧ tA s' 187 (329 + nc) = nI c := by
  obtain ⟨⟨X, X0⟩, R, M, ⟨c5, c6, c11⟩, ⟨m6, m7, m9, m11⟩, e0, kc, vl, k1, k2, k3, k4, k5⟩ := L
  obtain ⟨⟨d1, d2, d3, d4⟩, d5, d6, d7⟩ := D
  refine ⟨_, cdw s nc (nI c), k_emit X x d1 (by omega), r_codes X0 (nI c) m11 d2 hnc, Kc_e, Km_c, ⟨⟨X, X0⟩, ⟨R.1, ?_, fun k hk => ?_⟩, ⟨M.1, M.2.1, fun k hk => by rw [cdw_b (by decide)]; exact M.2.2 k hk⟩, ⟨?_, ?_, ?_⟩, ⟨m6, m7, m9, m11⟩, e0, kc, vl, k1, k2, ?_, ?_, k5.1, by rw [tI_ik (by decide), tI_wa]; exact k5.2⟩, ⟨⟨tI_is, cdw_c, by omega, by omega⟩, fun k hk => ?_, d6, ?_⟩, fun k hk => cdw_o (by omega) (by omega), cdw_n⟩
  · rw [tI_ik (by decide), tI_wa]; exact R.2.1
  · rw [tA_wi, tA_an (by decide)]; exact R.2.2 k hk
  · rw [tI_ik (by decide), tI_wa]; exact c5
  · rw [tI_ik (by decide), tI_wa]; exact c6
  · rw [tI_ik (by decide), tI_wa]; exact c11
  · rw [tI_ik (by decide), tI_wa]; exact k3
  · rw [tI_ik (by decide), tI_wa]; exact k4
  · rw [tA_wi, tA_as]
    by_cases q : k = cl
    · subst q
      rw [upd_s, show 329 + fr + k = 329 + nc by omega, cdw_n, tn_n hc]
      exact hx
    · rw [upd_n q, cdw_o (by omega) (by omega)]
      exact d5 k (by omega)
  · rw [tI_ik (by decide), tI_wa]; exact d7
end XEx
