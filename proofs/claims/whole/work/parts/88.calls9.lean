/-! ===== calls: write ===== -/
section XN2
variable {g : Sk} {t : Tb} {a : Nat → Int32}
variable {D v x n nx : Nat} {b c : Nat → Int32} {t' t'' t1 t2 : Tb}
theorem okL_0 {fc fr : xH → Option (Int64 × xH)} {r : Int64} (I : IV g t v a D n nx) (hD : D + 100 < 2 ^ 30) (e1 : fc (Em g t) = some (r, Em g t1)) (e2 : fr (Em g t1) = some (r, Em g t2)) (s1 : Sm g t t1) (s2 : Sm g t1 t2) : OkL fc fr g t D := ⟨r, g, t1, g, t2, v, a, n, nx, e1, e2, rfl, rfl, rfl, rfl, IV_m (by omega) hD (IV_s (IV_s I s1) s2)⟩
theorem k_put {T s k : Nat} (Y : TyS g T) (hs : s < 4) (h2 : tI t T 2 = nI s) (hk : k < 40) (x : Int64) : F_X8_put T (nI k) x (Em g t) = some (cutf s x, Em g (wj t (T + 1) k (cutf s x))) := by
  have y1 : fI (Em g t) T 7 2 = some (tI t T 2) := y_fI Y.2.1 Y.1 (by decide) rfl
  have y3 : ∀ t, fR (Em g t) T 7 0 = some (T + 1) := fun t => y_fR Y.2.1 Y.2.2.1 Y.1 (by decide) rfl
  have y4 : rc (Em g t) T 7 = some () := y_rc Y.2.1 Y.1 (by decide)
  have y5 : ∀ t z, sJ (Em g t) (T + 1) (nI k) z = some (Em g (wj t (T + 1) k z)) := fun t z => y_sJ Y.2.2.2.1 Y.2.2.2.2 (by have := Y.1; omega) (by decide) hk
  have y6 : ∀ t, aJ (Em g t) (T + 1) (nI k) = some (tJ t (T + 1) k) := fun t => y_aJ Y.2.2.2.1 Y.2.2.2.2 (by have := Y.1; omega) (by decide) hk
  have hc : F_X8_cut T x (Em g t) = some (cutf s x, Em g t) := by
    unfold F_X8_cut cutf
    rw [y1, Option.bind_some, h2]
    rcases (show s = 0 ∨ s = 1 ∨ s = 2 ∨ s = 3 by omega) with e | e | e | e <;> subst e <;> rfl
  unfold F_X8_put
  simp only [y3, y4, hc, y5, y6, Option.bind_some, tJ_js, pk_uLs]
theorem r_cut {s : Nat} (hs : s < 4) (x : Int64) (h : xH) : F_X12_cut x (nI s) h = some (cutf s x, h) := by
  unfold F_X12_cut cutf
  rcases (show s = 0 ∨ s = 1 ∨ s = 2 ∨ s = 3 by omega) with e | e | e | e <;> subst e <;> rfl
theorem ok_write (I : IV g t v a D n nx) (hD : D + 100 < 2 ^ 30) (x y : Int32) (z : Int64) : OkL (F_X11_write 69 x y z) (F_X12_write 183 x y z) g t D := by
  have X := I.1
  have hw0 : ∀ t, wI (Em g t) 183 11 0 0 = some (Em g (wi t 183 0 (nI 0))) := fun t => x_w183_0 X
  have bf : ¬ ¬ bI false = (0 : Int32) := by decide
  have bt : ¬ bI true = (0 : Int32) := by decide
  rcases okx_c x 4 (by decide) with hx | ⟨hx, i, hi, rfl⟩
  · refine okL_0 (r := -2) (t1 := t) (t2 := wi t 183 0 (nI 0)) I hD ?_ ?_ Sm_r (Sm_wi (a := 183) (k := 0) rfl Sm_r)
    · unfold F_X11_write
      rw [x_rc69 X, Option.bind_some, k_trayAt X, Option.bind_some, hx]
      rfl
    · unfold F_X12_write
      rw [hw0, Option.bind_some, x_rc183 X, Option.bind_some, r_noTray X, Option.bind_some, hx, if_neg (show ¬ (false = true) by decide), if_neg (show ¬ -nI 2 = (0 : Int32) by decide)]
      rfl
  have Y := TyS_x X hi
  have y1 : ∀ t, fI (Em g t) (167 + 2 * i) 7 1 = some (tI t (167 + 2 * i) 1) := fun t => y_fI Y.2.1 (by omega) (by decide) rfl
  have y4 : ∀ t, rc (Em g t) (167 + 2 * i) 7 = some () := fun t => y_rc Y.2.1 (by omega) (by decide)
  rcases Tr_s I.2.2.2.2.1 hi with q | ⟨s, m, hne, hs, hm, q1, q2, q3⟩
  · refine okL_0 (r := -6) (t1 := t) (t2 := wi t 183 0 (nI 0)) I hD ?_ ?_ Sm_r (Sm_wi (a := 183) (k := 0) rfl Sm_r)
    · have h2 : ¬ nI 0 ≤ -nI 1 := by decide
      unfold F_X11_write
      rw [x_rc69 X, Option.bind_some, k_trayAt X, Option.bind_some, hx, tn_n (by omega)]
      simp only [if_true, y1, Option.bind_some, q.2, fa_lit, h2, if_false]
    · unfold F_X12_write
      have e : tA (wi t 183 0 (nI 0)) 202 i = -nI 1 := q.1
      rw [hw0, Option.bind_some, x_rc183 X, Option.bind_some, r_noTray X, Option.bind_some, hx, tn_n (by omega), if_pos rfl, if_pos e, if_neg (show ¬ -nI 6 = (0 : Int32) by decide)]
      rfl
  have hnn : ¬ tA (wi t 183 0 (nI 0)) 202 i = -nI 1 := hne
  have h20 : nI 0 ≤ nI m := by rw [nI_leI (by decide) (by omega)]; omega
  have hwi : ∀ h : xH, F_X12_within y.toInt64 0 ((nI m - 1).toInt64) h = some (bI (okx y m), h) := fun h => by
    rw [p_within, q_rng (by omega), i64]
    rfl
  rcases okx_c y m (by omega) with hy | ⟨hy, k, hk, rfl⟩
  · refine okL_0 (r := -7) (t1 := t) (t2 := wi t 183 0 (nI 0)) I hD ?_ ?_ Sm_r (Sm_wi (a := 183) (k := 0) rfl Sm_r)
    · unfold F_X11_write
      rw [x_rc69 X, Option.bind_some, k_trayAt X, Option.bind_some, hx, tn_n (by omega)]
      rcases lt_n y (by omega) hy with c | ⟨c1, c2⟩
      · simp only [if_true, y1, Option.bind_some, q2.2, fa_lit, h20, c]
      · simp only [if_true, y1, Option.bind_some, q2.2, fa_lit, h20, c1, c2, if_false]
    · have e : tA (wi t 183 0 (nI 0)) 203 i = nI m := q2.1
      unfold F_X12_write
      rw [hw0, Option.bind_some, x_rc183 X, Option.bind_some, r_noTray X, Option.bind_some, hx, tn_n (by omega), if_pos rfl, if_neg hnn, if_pos (show nI 0 = (0 : Int32) from rfl), x_r183_35 X, Option.bind_some, x_a203 X hi, Option.bind_some, e, hwi, Option.bind_some, hy, if_neg bf]
  have k0 : ¬ k < 0 := by omega
  have hpt : ∀ b, (167 ≤ b ∧ b ≤ 174) ∨ (202 ≤ b ∧ b ≤ 204) → Pt b = true := fun b h => by unfold Pt; rw [decide_eq_true_eq]; exact h
  have s2 : Sw Pt g t (wj (wi (wj t (167 + 2 * i + 1) k (cutf s z)) 183 0 (nI 0)) 204 (40 * i + k) (cutf s z)) := Sw_wj (Sw_wi (Sw_wj Sw_r (hpt _ (by omega))) (Or.inr rfl)) rfl
  have T3 : Tr (wj (wi (wj t (167 + 2 * i + 1) k (cutf s z)) 183 0 (nI 0)) 204 (40 * i + k) (cutf s z)) := by
    intro j hj
    have i1 : ∀ l, tI (wj (wi (wj t (167 + 2 * i + 1) k (cutf s z)) 183 0 (nI 0)) 204 (40 * i + k) (cutf s z)) (167 + 2 * j) l = tI t (167 + 2 * j) l := fun l => by
      rw [tI_wj, tI_ia (by omega), tI_wj]
    rw [i1, i1, tA_wj, tA_wi, tA_wj]
    by_cases e : j = i
    · subst e
      refine Or.inr ⟨s, m, hs, hm, q1, q2, fun l hl => ?_⟩
      rw [tJ_js, tJ_jn (c := 168 + 2 * j) (by omega), tJ_wi, tJ_jn (b := 167 + 2 * j + 1) (c := 204) (by omega), show 168 + 2 * j = 167 + 2 * j + 1 by omega, tJ_js]
      by_cases e2 : l = k
      · rw [e2, pk_uLs, pk_uLs]
      · rw [pk_uLn (by omega), pk_uLn (by omega), show 167 + 2 * j + 1 = 168 + 2 * j by omega]
        exact q3 l hl
    · rcases I.2.2.2.2.1 j hj with q | ⟨s', m', p1, p2, p3, p4, p5⟩
      · exact Or.inl q
      · refine Or.inr ⟨s', m', p1, p2, p3, p4, fun l hl => ?_⟩
        rw [tJ_js, tJ_jn (c := 168 + 2 * j) (by omega), tJ_wi, tJ_jn (b := 167 + 2 * i + 1) (c := 204) (by omega), tJ_jn (b := 167 + 2 * i + 1) (c := 168 + 2 * j) (by omega), pk_uLn (by omega)]
        exact p5 l hl
  refine ⟨cutf s z, g, wj t (167 + 2 * i + 1) k (cutf s z), g, _, v, a, n, nx, ?_, ?_, rfl, rfl, rfl, rfl, IV_m (by omega) hD (IV_tr I s2 T3)⟩
  · have hp := k_put (t := t) Y hs q1.2 (show k < 40 by omega) z
    unfold F_X11_write
    rw [x_rc69 X, Option.bind_some, k_trayAt X, Option.bind_some, hx, tn_n (by omega)]
    simp (disch := omega) only [if_true, if_false, y1, y4, Option.bind_some, q2.2, fa_lit, h20, nI_ltI, k0, hk, hp]
  · have e : tA (wi (wj t (167 + 2 * i + 1) k (cutf s z)) 183 0 (nI 0)) 203 i = nI m := q2.1
    have e2 : tA (wi (wj t (167 + 2 * i + 1) k (cutf s z)) 183 0 (nI 0)) 202 i = nI s := q1.1
    have hnn2 : ¬ tA (wi (wj t (167 + 2 * i + 1) k (cutf s z)) 183 0 (nI 0)) 202 i = -nI 1 := hne
    unfold F_X12_write
    rw [hw0, Option.bind_some, x_rc183 X, Option.bind_some, r_noTray X, Option.bind_some, hx, tn_n (by omega), if_pos rfl, if_neg hnn2, if_pos (show nI 0 = (0 : Int32) from rfl), x_r183_35 X, Option.bind_some, x_a203 X hi, Option.bind_some, e, hwi, Option.bind_some, hy, if_pos bt]
    simp (disch := omega) only [x_rc183 X, x_i183_0 X, x_w183_0 X, x_r183_1 X, x_r183_2 X, x_r183_3 X, x_r183_4 X, x_i183_5 X, x_w183_5 X, x_i183_6 X, x_w183_6 X, x_i183_7 X, x_w183_7 X, x_i183_8 X, x_w183_8 X, x_i183_9 X, x_w183_9 X, x_i183_10 X, x_w183_10 X, x_i183_11 X, x_w183_11 X, x_i183_12 X, x_w183_12 X, x_i183_13 X, x_w183_13 X, x_i183_14 X, x_w183_14 X, x_i183_15 X, x_w183_15 X, x_r183_16 X, x_r183_17 X, x_r183_18 X, x_i183_19 X, x_w183_19 X, x_i183_20 X, x_w183_20 X, x_r183_21 X, x_r183_22 X, x_r183_23 X, x_r183_24 X, x_r183_25 X, x_i183_26 X, x_w183_26 X, x_r183_27 X, x_r183_28 X, x_r183_29 X, x_i183_30 X, x_w183_30 X, x_r183_31 X, x_r183_32 X, x_r183_33 X, x_r183_34 X, x_r183_35 X, x_r183_36 X, x_a184 X, x_s184 X, x_a185 X, x_s185 X, x_a186 X, x_s186 X, x_a187 X, x_s187 X, x_a188 X, x_s188 X, x_a189 X, x_s189 X, x_a190 X, x_s190 X, x_a191 X, x_s191 X, x_a192 X, x_s192 X, x_a193 X, x_s193 X, x_a194 X, x_s194 X, x_a195 X, x_s195 X, x_a196 X, x_s196 X, x_a197 X, x_s197 X, x_a198 X, x_s198 X, x_a199 X, x_s199 X, x_a200 X, x_s200 X, x_a201 X, x_s201 X, x_a202 X, x_s202 X, x_a203 X, x_s203 X, x_a204 X, x_s204 X, Option.bind_some, ↓reduceIte, ite_not, fa_lit, nI_mulN, nI_add, e2, r_cut hs, tJ_js, pk_uLs]
end XN2
