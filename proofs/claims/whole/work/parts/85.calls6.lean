/-! ===== calls: judge ===== -/
section XJ2
variable {g : Sk} {t : Tb} {a : Nat → Int32}
variable {D v x n nx : Nat} {b c w : Nat → Int32} {t' t1 t2 : Tb}
theorem r_judge_l (X : Fx g) (W : WA b D) (hb : tA t 184 = b) (hw : tA t 190 = w) {y x4 x5 : Int32} : ∀ (d k fuel : Nat), k + d = vK b → d < fuel → F_X12_judge_b58 fuel 183 y x4 x5 (nI (mk (fun k => decide (¬ atp b k = 0)) k)) (nI k) (Em g t) = some (if y = nI 0 then (if tI t 183 19 = nI 0 then -nI 1 else x4) else if y = nI 1 then tI t 183 19 else if y = nI 2 then x5 else nI (mk (fun k => decide (¬ atp b k = 0)) (vK b)), Em g (wr t 184 (fb_put b w 107 20))) := by
  have hK := wK2 W
  have hP := wP2 W
  intro d
  induction d with
  | zero =>
    intro k fuel hk hf
    obtain ⟨f, rfl⟩ : ∃ f, fuel = f + 1 := ⟨fuel - 1, by omega⟩
    have hk : k = vK b := by omega
    subst hk
    rw [F_X12_judge_b58]
    by_cases y0 : y = nI 0
    · by_cases f0 : tI t 183 19 = nI 0
      · simp (disch := omega) only [x_rc183 X, x_i183_0 X, x_w183_0 X, x_r183_1 X, x_r183_2 X, x_r183_3 X, x_r183_4 X, x_i183_5 X, x_w183_5 X, x_i183_6 X, x_w183_6 X, x_i183_7 X, x_w183_7 X, x_i183_8 X, x_w183_8 X, x_i183_9 X, x_w183_9 X, x_i183_10 X, x_w183_10 X, x_i183_11 X, x_w183_11 X, x_i183_12 X, x_w183_12 X, x_i183_13 X, x_w183_13 X, x_i183_14 X, x_w183_14 X, x_i183_15 X, x_w183_15 X, x_r183_16 X, x_r183_17 X, x_r183_18 X, x_i183_19 X, x_w183_19 X, x_i183_20 X, x_w183_20 X, x_r183_21 X, x_r183_22 X, x_r183_23 X, x_r183_24 X, x_r183_25 X, x_i183_26 X, x_w183_26 X, x_r183_27 X, x_r183_28 X, x_r183_29 X, x_i183_30 X, x_w183_30 X, x_r183_31 X, x_r183_32 X, x_r183_33 X, x_r183_34 X, x_r183_35 X, x_r183_36 X, x_a184 X, x_s184 X, x_a185 X, x_s185 X, x_a186 X, x_s186 X, x_a187 X, x_s187 X, x_a188 X, x_s188 X, x_a189 X, x_s189 X, x_a190 X, x_s190 X, x_a191 X, x_s191 X, x_a192 X, x_s192 X, x_a193 X, x_s193 X, x_a194 X, x_s194 X, x_a195 X, x_s195 X, x_a196 X, x_s196 X, x_a197 X, x_s197 X, x_a198 X, x_s198 X, x_a199 X, x_s199 X, x_a200 X, x_s200 X, x_a201 X, x_s201 X, x_a202 X, x_s202 X, x_a203 X, x_s203 X, x_a204 X, x_s204 X, Option.bind_some, ↓reduceIte, ite_not, fa_lit, nI_leI, hb, wK W, Nat.le_refl, r_again X hb hw, y0, tI_wr, f0]
      · simp (disch := omega) only [x_rc183 X, x_i183_0 X, x_w183_0 X, x_r183_1 X, x_r183_2 X, x_r183_3 X, x_r183_4 X, x_i183_5 X, x_w183_5 X, x_i183_6 X, x_w183_6 X, x_i183_7 X, x_w183_7 X, x_i183_8 X, x_w183_8 X, x_i183_9 X, x_w183_9 X, x_i183_10 X, x_w183_10 X, x_i183_11 X, x_w183_11 X, x_i183_12 X, x_w183_12 X, x_i183_13 X, x_w183_13 X, x_i183_14 X, x_w183_14 X, x_i183_15 X, x_w183_15 X, x_r183_16 X, x_r183_17 X, x_r183_18 X, x_i183_19 X, x_w183_19 X, x_i183_20 X, x_w183_20 X, x_r183_21 X, x_r183_22 X, x_r183_23 X, x_r183_24 X, x_r183_25 X, x_i183_26 X, x_w183_26 X, x_r183_27 X, x_r183_28 X, x_r183_29 X, x_i183_30 X, x_w183_30 X, x_r183_31 X, x_r183_32 X, x_r183_33 X, x_r183_34 X, x_r183_35 X, x_r183_36 X, x_a184 X, x_s184 X, x_a185 X, x_s185 X, x_a186 X, x_s186 X, x_a187 X, x_s187 X, x_a188 X, x_s188 X, x_a189 X, x_s189 X, x_a190 X, x_s190 X, x_a191 X, x_s191 X, x_a192 X, x_s192 X, x_a193 X, x_s193 X, x_a194 X, x_s194 X, x_a195 X, x_s195 X, x_a196 X, x_s196 X, x_a197 X, x_s197 X, x_a198 X, x_s198 X, x_a199 X, x_s199 X, x_a200 X, x_s200 X, x_a201 X, x_s201 X, x_a202 X, x_s202 X, x_a203 X, x_s203 X, x_a204 X, x_s204 X, Option.bind_some, ↓reduceIte, ite_not, fa_lit, nI_leI, hb, wK W, Nat.le_refl, r_again X hb hw, y0, tI_wr, f0]
    by_cases y1 : y = nI 1
    · have h10 : ¬ nI 1 = nI 0 := by decide
      simp (disch := omega) only [x_rc183 X, x_i183_0 X, x_w183_0 X, x_r183_1 X, x_r183_2 X, x_r183_3 X, x_r183_4 X, x_i183_5 X, x_w183_5 X, x_i183_6 X, x_w183_6 X, x_i183_7 X, x_w183_7 X, x_i183_8 X, x_w183_8 X, x_i183_9 X, x_w183_9 X, x_i183_10 X, x_w183_10 X, x_i183_11 X, x_w183_11 X, x_i183_12 X, x_w183_12 X, x_i183_13 X, x_w183_13 X, x_i183_14 X, x_w183_14 X, x_i183_15 X, x_w183_15 X, x_r183_16 X, x_r183_17 X, x_r183_18 X, x_i183_19 X, x_w183_19 X, x_i183_20 X, x_w183_20 X, x_r183_21 X, x_r183_22 X, x_r183_23 X, x_r183_24 X, x_r183_25 X, x_i183_26 X, x_w183_26 X, x_r183_27 X, x_r183_28 X, x_r183_29 X, x_i183_30 X, x_w183_30 X, x_r183_31 X, x_r183_32 X, x_r183_33 X, x_r183_34 X, x_r183_35 X, x_r183_36 X, x_a184 X, x_s184 X, x_a185 X, x_s185 X, x_a186 X, x_s186 X, x_a187 X, x_s187 X, x_a188 X, x_s188 X, x_a189 X, x_s189 X, x_a190 X, x_s190 X, x_a191 X, x_s191 X, x_a192 X, x_s192 X, x_a193 X, x_s193 X, x_a194 X, x_s194 X, x_a195 X, x_s195 X, x_a196 X, x_s196 X, x_a197 X, x_s197 X, x_a198 X, x_s198 X, x_a199 X, x_s199 X, x_a200 X, x_s200 X, x_a201 X, x_s201 X, x_a202 X, x_s202 X, x_a203 X, x_s203 X, x_a204 X, x_s204 X, Option.bind_some, ↓reduceIte, ite_not, fa_lit, nI_leI, hb, wK W, Nat.le_refl, r_again X hb hw, y1, h10, tI_wr]
    by_cases y2 : y = nI 2
    · have h10 : ¬ nI 2 = nI 0 := by decide
      have h11 : ¬ nI 2 = nI 1 := by decide
      simp (disch := omega) only [x_rc183 X, x_i183_0 X, x_w183_0 X, x_r183_1 X, x_r183_2 X, x_r183_3 X, x_r183_4 X, x_i183_5 X, x_w183_5 X, x_i183_6 X, x_w183_6 X, x_i183_7 X, x_w183_7 X, x_i183_8 X, x_w183_8 X, x_i183_9 X, x_w183_9 X, x_i183_10 X, x_w183_10 X, x_i183_11 X, x_w183_11 X, x_i183_12 X, x_w183_12 X, x_i183_13 X, x_w183_13 X, x_i183_14 X, x_w183_14 X, x_i183_15 X, x_w183_15 X, x_r183_16 X, x_r183_17 X, x_r183_18 X, x_i183_19 X, x_w183_19 X, x_i183_20 X, x_w183_20 X, x_r183_21 X, x_r183_22 X, x_r183_23 X, x_r183_24 X, x_r183_25 X, x_i183_26 X, x_w183_26 X, x_r183_27 X, x_r183_28 X, x_r183_29 X, x_i183_30 X, x_w183_30 X, x_r183_31 X, x_r183_32 X, x_r183_33 X, x_r183_34 X, x_r183_35 X, x_r183_36 X, x_a184 X, x_s184 X, x_a185 X, x_s185 X, x_a186 X, x_s186 X, x_a187 X, x_s187 X, x_a188 X, x_s188 X, x_a189 X, x_s189 X, x_a190 X, x_s190 X, x_a191 X, x_s191 X, x_a192 X, x_s192 X, x_a193 X, x_s193 X, x_a194 X, x_s194 X, x_a195 X, x_s195 X, x_a196 X, x_s196 X, x_a197 X, x_s197 X, x_a198 X, x_s198 X, x_a199 X, x_s199 X, x_a200 X, x_s200 X, x_a201 X, x_s201 X, x_a202 X, x_s202 X, x_a203 X, x_s203 X, x_a204 X, x_s204 X, Option.bind_some, ↓reduceIte, ite_not, fa_lit, nI_leI, hb, wK W, Nat.le_refl, r_again X hb hw, y2, h10, h11]
    · simp (disch := omega) only [x_rc183 X, x_i183_0 X, x_w183_0 X, x_r183_1 X, x_r183_2 X, x_r183_3 X, x_r183_4 X, x_i183_5 X, x_w183_5 X, x_i183_6 X, x_w183_6 X, x_i183_7 X, x_w183_7 X, x_i183_8 X, x_w183_8 X, x_i183_9 X, x_w183_9 X, x_i183_10 X, x_w183_10 X, x_i183_11 X, x_w183_11 X, x_i183_12 X, x_w183_12 X, x_i183_13 X, x_w183_13 X, x_i183_14 X, x_w183_14 X, x_i183_15 X, x_w183_15 X, x_r183_16 X, x_r183_17 X, x_r183_18 X, x_i183_19 X, x_w183_19 X, x_i183_20 X, x_w183_20 X, x_r183_21 X, x_r183_22 X, x_r183_23 X, x_r183_24 X, x_r183_25 X, x_i183_26 X, x_w183_26 X, x_r183_27 X, x_r183_28 X, x_r183_29 X, x_i183_30 X, x_w183_30 X, x_r183_31 X, x_r183_32 X, x_r183_33 X, x_r183_34 X, x_r183_35 X, x_r183_36 X, x_a184 X, x_s184 X, x_a185 X, x_s185 X, x_a186 X, x_s186 X, x_a187 X, x_s187 X, x_a188 X, x_s188 X, x_a189 X, x_s189 X, x_a190 X, x_s190 X, x_a191 X, x_s191 X, x_a192 X, x_s192 X, x_a193 X, x_s193 X, x_a194 X, x_s194 X, x_a195 X, x_s195 X, x_a196 X, x_s196 X, x_a197 X, x_s197 X, x_a198 X, x_s198 X, x_a199 X, x_s199 X, x_a200 X, x_s200 X, x_a201 X, x_s201 X, x_a202 X, x_s202 X, x_a203 X, x_s203 X, x_a204 X, x_s204 X, Option.bind_some, ↓reduceIte, ite_not, fa_lit, nI_leI, hb, wK W, Nat.le_refl, r_again X hb hw, y0, y1, y2]
  | succ d ih =>
    intro k fuel hk hf
    obtain ⟨f, rfl⟩ : ∃ f, fuel = f + 1 := ⟨fuel - 1, by omega⟩
    have hk2 : ¬ vK b ≤ k := by omega
    have hat : atp b k < 2 ^ 31 := mk_31 (by omega)
    rw [F_X12_judge_b58, ← ih (k + 1) f (by omega) (by omega)]
    by_cases h : atp b k = 0
    · simp (disch := omega) only [x_rc183 X, x_i183_0 X, x_w183_0 X, x_r183_1 X, x_r183_2 X, x_r183_3 X, x_r183_4 X, x_i183_5 X, x_w183_5 X, x_i183_6 X, x_w183_6 X, x_i183_7 X, x_w183_7 X, x_i183_8 X, x_w183_8 X, x_i183_9 X, x_w183_9 X, x_i183_10 X, x_w183_10 X, x_i183_11 X, x_w183_11 X, x_i183_12 X, x_w183_12 X, x_i183_13 X, x_w183_13 X, x_i183_14 X, x_w183_14 X, x_i183_15 X, x_w183_15 X, x_r183_16 X, x_r183_17 X, x_r183_18 X, x_i183_19 X, x_w183_19 X, x_i183_20 X, x_w183_20 X, x_r183_21 X, x_r183_22 X, x_r183_23 X, x_r183_24 X, x_r183_25 X, x_i183_26 X, x_w183_26 X, x_r183_27 X, x_r183_28 X, x_r183_29 X, x_i183_30 X, x_w183_30 X, x_r183_31 X, x_r183_32 X, x_r183_33 X, x_r183_34 X, x_r183_35 X, x_r183_36 X, x_a184 X, x_s184 X, x_a185 X, x_s185 X, x_a186 X, x_s186 X, x_a187 X, x_s187 X, x_a188 X, x_s188 X, x_a189 X, x_s189 X, x_a190 X, x_s190 X, x_a191 X, x_s191 X, x_a192 X, x_s192 X, x_a193 X, x_s193 X, x_a194 X, x_s194 X, x_a195 X, x_s195 X, x_a196 X, x_s196 X, x_a197 X, x_s197 X, x_a198 X, x_s198 X, x_a199 X, x_s199 X, x_a200 X, x_s200 X, x_a201 X, x_s201 X, x_a202 X, x_s202 X, x_a203 X, x_s203 X, x_a204 X, x_s204 X, Option.bind_some, ↓reduceIte, ite_not, fa_lit, nI_add, nI_mulN, nI_an, nI_sub, irm_n, nI_eq, nI_leI, nI_ltI, v_pow, v_shr, v_bit, nI_cl, nI_m1e, hb, wK W, hk2, q_peopleAt X W hb (show k ≤ 20 by omega), h, F_X12_judge_b88]
      rw [s_or0 (f := fun k => decide (¬ atp b k = 0)) (by simp [h])]
    · simp (disch := omega) only [x_rc183 X, x_i183_0 X, x_w183_0 X, x_r183_1 X, x_r183_2 X, x_r183_3 X, x_r183_4 X, x_i183_5 X, x_w183_5 X, x_i183_6 X, x_w183_6 X, x_i183_7 X, x_w183_7 X, x_i183_8 X, x_w183_8 X, x_i183_9 X, x_w183_9 X, x_i183_10 X, x_w183_10 X, x_i183_11 X, x_w183_11 X, x_i183_12 X, x_w183_12 X, x_i183_13 X, x_w183_13 X, x_i183_14 X, x_w183_14 X, x_i183_15 X, x_w183_15 X, x_r183_16 X, x_r183_17 X, x_r183_18 X, x_i183_19 X, x_w183_19 X, x_i183_20 X, x_w183_20 X, x_r183_21 X, x_r183_22 X, x_r183_23 X, x_r183_24 X, x_r183_25 X, x_i183_26 X, x_w183_26 X, x_r183_27 X, x_r183_28 X, x_r183_29 X, x_i183_30 X, x_w183_30 X, x_r183_31 X, x_r183_32 X, x_r183_33 X, x_r183_34 X, x_r183_35 X, x_r183_36 X, x_a184 X, x_s184 X, x_a185 X, x_s185 X, x_a186 X, x_s186 X, x_a187 X, x_s187 X, x_a188 X, x_s188 X, x_a189 X, x_s189 X, x_a190 X, x_s190 X, x_a191 X, x_s191 X, x_a192 X, x_s192 X, x_a193 X, x_s193 X, x_a194 X, x_s194 X, x_a195 X, x_s195 X, x_a196 X, x_s196 X, x_a197 X, x_s197 X, x_a198 X, x_s198 X, x_a199 X, x_s199 X, x_a200 X, x_s200 X, x_a201 X, x_s201 X, x_a202 X, x_s202 X, x_a203 X, x_s203 X, x_a204 X, x_s204 X, Option.bind_some, ↓reduceIte, ite_not, fa_lit, nI_add, nI_mulN, nI_an, nI_sub, irm_n, nI_eq, nI_leI, nI_ltI, v_pow, v_shr, v_bit, nI_cl, nI_m1e, hb, wK W, hk2, q_peopleAt X W hb (show k ≤ 20 by omega), h, F_X12_judge_b88]
      rw [s_or1 (f := fun k => decide (¬ atp b k = 0)) (by simp [h])]
theorem again_a {f : Nat → Int32} (hN : Nq a b) : fb_put b (wsr a f) 107 20 = a := by
  funext i
  by_cases h : 107 ≤ i ∧ i < 107 + 20
  · rw [fb_put_in h.1 h.2, wsr_k (by omega), show 107 + (i - 107) = i by omega]
  · rw [fb_put_out (by omega), hN i (by omega)]
theorem ok_judge (I : IV g t v a D n nx) (hD : D + 100 < 2 ^ 30) (x y : Int32) : Okc (F_X11_judge 69 x y) (F_X12_judge 183 x y) g t D := by
  have X := I.1
  have C := I.2.2.1
  have W := C.1
  have hP := wP2 W
  have hw0 : ∀ t, wI (Em g t) 183 11 0 0 = some (Em g (wi t 183 0 (nI 0))) := fun t => x_w183_0 X
  have hyo := okx_lt y 4 (by decide)
  have hyl : ∀ b : Bool, okx y 4 = b → (b = false → y < nI 0 ∨ (¬ y < nI 0 ∧ ¬ y ≤ nI 3)) ∧ (b = true → ¬ y < nI 0 ∧ y ≤ nI 3) := by
    intro b hb
    have e3 : (nI 3).toInt = 3 := rfl
    have e0 : (nI 0).toInt = 0 := rfl
    unfold okx at hb
    constructor
    · intro h
      rw [h, decide_eq_false_iff_not] at hb
      rw [fa_lt, fa_le]
      omega
    · intro h
      rw [h, decide_eq_true_eq] at hb
      rw [fa_lt, fa_le]
      omega
  rcases okx_c x 4 (by decide) with hx | ⟨hx, i, hi, rfl⟩
  · refine ok_0 (r := -nI 2) (t1 := t) (t2 := wi t 183 0 (nI 0)) I hD ?_ ?_ Sm_r (Sm_wi (a := 183) (k := 0) rfl Sm_r)
    · unfold F_X11_judge
      rw [x_rc69 X, Option.bind_some, k_trayAt X, Option.bind_some, hx]
      rfl
    · have h2 : ¬ -nI 2 = nI 0 := by decide
      unfold F_X12_judge
      rw [hw0, Option.bind_some, within_3, Option.bind_some]
      cases hy : okx y 4
      · rw [if_neg (show ¬ ¬ bI false = (0 : Int32) by decide)]; rfl
      · rw [if_pos (show ¬ bI true = (0 : Int32) by decide), x_rc183 X, Option.bind_some, r_noTray X, Option.bind_some, hx]
        simp only [fa_lit, Bool.false_eq_true, if_false, h2]
  cases hy : okx y 4
  · refine ok_0 (r := -nI 2) (t1 := t) (t2 := wi t 183 0 (nI 0)) I hD ?_ ?_ Sm_r (Sm_wi (a := 183) (k := 0) rfl Sm_r)
    · unfold F_X11_judge
      rw [x_rc69 X, Option.bind_some, k_trayAt X, Option.bind_some, hx]
      rcases (hyl _ hy).1 rfl with c | ⟨c1, c2⟩
      · simp only [if_true, fa_lit, c]
      · simp only [if_true, fa_lit, c1, c2, if_false]
    · unfold F_X12_judge
      rw [hw0, Option.bind_some, within_3, Option.bind_some, hy, if_neg (show ¬ ¬ bI false = (0 : Int32) by decide)]
      rfl
  have c12 := (hyl _ hy).2 rfl
  have y1 : ∀ t, fI (Em g t) (167 + 2 * i) 7 1 = some (tI t (167 + 2 * i) 1) := fun t => y_fI (TyS_x X hi).2.1 (by omega) (by decide) rfl
  rcases Tr_s I.2.2.2.2.1 hi with q | ⟨s, m, hne, hs, hm, q1, q2, q3⟩
  · refine ok_0 (r := -nI 6) (t1 := t) (t2 := wi t 183 0 (nI 0)) I hD ?_ ?_ Sm_r (Sm_wi (a := 183) (k := 0) rfl Sm_r)
    · have h2 : ¬ nI 0 ≤ -nI 1 := by decide
      unfold F_X11_judge
      rw [x_rc69 X, Option.bind_some, k_trayAt X, Option.bind_some, hx, tn_n (by omega)]
      simp only [if_true, c12.1, c12.2, y1, Option.bind_some, q.2, fa_lit, h2, if_false]
    · have h2 : ¬ -nI 6 = nI 0 := by decide
      unfold F_X12_judge
      rw [hw0, Option.bind_some, within_3, Option.bind_some, hy, if_pos (show ¬ bI true = (0 : Int32) by decide), x_rc183 X, Option.bind_some, r_noTray X, Option.bind_some, hx, tn_n (by omega)]
      simp only [fa_lit, if_true, tA_wi, q.1, h2, if_false]
  obtain ⟨t1, e1, o1, s1⟩ := k_copyP (t := t) (StS_99 X) (StS_95 X) (by decide) hP C.2.2.2.2
  have C1 := CP_s X C (Sm_99 X o1)
  have hm1 : tI t1 (167 + 2 * i) 1 = nI m := by rw [o1.1 _ 1 (by omega)]; exact q2.2
  have hfu : m < FU := by show m < 1000000; omega
  have hf1 : ∀ j, j < m → tJ t1 (167 + 2 * i + 1) j = tJ t (168 + 2 * i) j := fun j _ => by rw [o1.2.2, show 167 + 2 * i + 1 = 168 + 2 * i by omega]
  have K := Cv_99 C1 (b := a) Vq_r
  obtain ⟨t2, e2, o2, s2⟩ := k_doAll_l (StS_99 X) K (TyS_x X hi) (by omega) hm hm1 (fun j => tJ t (168 + 2 * i) j) hf1 m 0 FU t1 a D Ox_r Nq_r (Nat.le_refl D) W (by omega) s1 (by omega) hfu
  have hNW := tls_NW (fun j => tJ t (168 + 2 * i) j) m 0 a D W (by omega)
  have hend := tls_end (fun j => tJ t (168 + 2 * i) j) m 0 a
  have ht := fun t3 (h184 : tA t3 184 = a) (h203 : tA t3 203 = tA t 203) (h204 : tJ t3 204 = tJ t 204) => r_tells (t := t3) X hi hm h184 (by rw [h203]; exact q2.1) (fun j => tJ t (168 + 2 * i) j) (fun j hj => by rw [h204]; exact q3 j hj) W (by omega)
  generalize hT : tls (fun j => tJ t (168 + 2 * i) j) m 0 a = T at *
  obtain ⟨ix, wy, b⟩ := T
  simp only at hNW hend e2 s2 ht
  have e2' : F_X0_doAll v 99 (167 + 2 * i) (Em g t1) = some (nI ix, Em g t2) := e2
  have o12 : Ox 99 t t2 := Ox_t o1 o2
  have ep : vP b = vP a := q_vP (Nq_V hNW.1)
  have s2' : StP t2 99 (vP b) b 107 := by rw [ep]; exact s2
  have hix : ix ≤ 40 := by rcases hend with q | q <;> omega
  have hwyl : wy ≤ 2 := by
    rcases hend with q | q
    · omega
    · rw [← q.2.2.2]; exact wyN_le _ _
  have hm2 : tI t2 (167 + 2 * i) 1 = nI m := by rw [o12.1 _ 1 (by omega)]; exact q2.2
  -- the reference, from any heap that differs in the copy alone
  have rf : ∀ t3, Ox 99 t t3 → ∃ t4, F_X12_judge 183 (nI i) y (Em g t3) = some (if y = nI 0 then (if nI wy = nI 0 then -nI 1 else nI ix) else if y = nI 1 then nI wy else if y = nI 2 then b 108 else nI (plc b (vP b)), Em g t4) ∧ Sm g t3 t4 := by
    intro t3 o3
    have h184 : tA t3 184 = a := by rw [o3.2.1 184 (by decide) (by decide) (by decide)]; exact I.2.1
    have h190 : tA t3 190 = tA t 190 := o3.2.1 190 (by decide) (by decide) (by decide)
    have h202 : tA t3 202 = tA t 202 := o3.2.1 202 (by decide) (by decide) (by decide)
    have h203 : tA t3 203 = tA t 203 := o3.2.1 203 (by decide) (by decide) (by decide)
    have ha1 : tA (wi t3 183 0 (nI 0)) 184 = a := h184
    have hk1 := r_keeps (t := wi t3 183 0 (nI 0)) X ha1
    rw [tA_wi, h190, show fa_fill (fun k => a (107 + k)) (tA t 190) 20 = wsr a (tA t 190) from rfl] at hk1
    have htt := ht (wr (wi t3 183 0 (nI 0)) 190 (wsr a (tA t 190))) (by rw [tA_rn (by decide)]; exact ha1) (by rw [tA_rn (by decide)]; exact h203) (o3.2.2 204)
    have hfk : vK b < FU := by have := wK2 hNW.2; show vK b < 1000000; omega
    have hj := r_judge_l (t := wr (wi (wr (wi t3 183 0 (nI 0)) 190 (wsr a (tA t 190))) 183 19 (nI wy)) 184 b) (w := wsr a (tA t 190)) (y := y) (x4 := nI ix) (x5 := b 108) X hNW.2 tA_rs (by rw [tA_rn (by decide), tA_wi, tA_rs]) (vK b) 0 FU (by omega) hfk
    rw [again_a hNW.1, wr_wr, tI_wr, tI_is, ← plc_eq hNW.2] at hj
    refine ⟨wr (wi (wr (wi t3 183 0 (nI 0)) 190 (wsr a (tA t 190))) 183 19 (nI wy)) 184 a, ?_, ?_⟩
    rotate_left
    · have hww : wr (wi (wr (wi t3 183 0 (nI 0)) 190 (wsr a (tA t 190))) 183 19 (nI wy)) 184 a = wi (wr (wi t3 183 0 (nI 0)) 190 (wsr a (tA t 190))) 183 19 (nI wy) := by
        have := wr_self (t := wi (wr (wi t3 183 0 (nI 0)) 190 (wsr a (tA t 190))) 183 19 (nI wy)) (b := 184)
        rw [tA_wi, tA_rn (by decide), ha1] at this
        exact this
      have : Sm g t3 (wi (wr (wi t3 183 0 (nI 0)) 190 (wsr a (tA t 190))) 183 19 (nI wy)) := Sm_wi rfl (Sm_wr (sc_f rfl) (Sm_wi (a := 183) (k := 0) rfl Sm_r))
      rw [← hww] at this
      exact this
    · have a108 : ∀ t, aI (Em g t) 184 108 = some (tA t 184 108) := fun t => x_a184 X (k := 108) (by decide)
      have hnn : ¬ tA (wi t3 183 0 (nI 0)) 202 i = -nI 1 := by rw [tA_wi, h202]; exact hne
      unfold F_X12_judge
      rw [hw0, Option.bind_some, within_3, Option.bind_some, hy, if_pos (show ¬ bI true = (0 : Int32) by decide), x_rc183 X, Option.bind_some, r_noTray X, Option.bind_some, hx, tn_n (by omega), if_pos rfl, if_neg hnn, if_pos (show nI 0 = (0 : Int32) from rfl), x_rc183 X, Option.bind_some, hk1, Option.bind_some, x_rc183 X, Option.bind_some, htt, Option.bind_some, x_r183_1 X, Option.bind_some, a108, Option.bind_some, tA_rs]
      exact hj
  have fin : ∀ t3, F_X11_judge 69 (nI i) y (Em g t) = some (if y = nI 0 then (if nI wy = nI 0 then -nI 1 else nI ix) else if y = nI 1 then nI wy else if y = nI 2 then b 108 else nI (plc b (vP b)), Em g t3) → Ox 99 t t3 → Okc (F_X11_judge 69 (nI i) y) (F_X12_judge 183 (nI i) y) g t D := by
    intro t3 e3 o3
    obtain ⟨t4, e4, s4⟩ := rf t3 o3
    exact ok_0 I hD e3 e4 (Sm_99 X o3) s4
  have h2 : nI 0 ≤ nI m := by rw [nI_leI (by decide) (by omega)]; omega
  have hn0 : (nI wy = nI 0) = (wy = 0) := propext (nI_eq (by omega) (by decide))
  by_cases y0 : y = nI 0
  · refine fin t2 ?_ o12
    have l0 : ¬ nI 0 < nI 0 := by decide
    have l3 : nI 0 ≤ nI 3 := by decide
    unfold F_X11_judge
    rw [x_rc69 X, Option.bind_some, k_trayAt X, Option.bind_some, hx, tn_n (by omega)]
    simp only [if_true, if_false, y0, l0, l3, y1, q2.2, Option.bind_some, fa_lit, h2, x_r69_3 X, x_r69_2 X, c_r69 X C.2.2.2.1, z_rc (StS_99 X), e1, e2', hm2, hn0]
    rcases hend with q | q
    · have h3 : nI m ≤ nI ix := by rw [nI_leI (by omega) (by omega)]; omega
      rw [if_pos h3, if_pos q.1]
    · have h3 : ¬ nI m ≤ nI ix := by rw [nI_leI (by omega) (by omega)]; omega
      rw [if_neg h3, if_neg q.1]
  by_cases y1' : y = nI 1
  · have l0 : ¬ nI 1 < nI 0 := by decide
    have l3 : nI 1 ≤ nI 3 := by decide
    have h10 : ¬ nI 1 = nI 0 := by decide
    rcases hend with q | q
    · refine fin t2 ?_ o12
      have h3 : nI m ≤ nI ix := by rw [nI_leI (by omega) (by omega)]; omega
      unfold F_X11_judge
      rw [x_rc69 X, Option.bind_some, k_trayAt X, Option.bind_some, hx, tn_n (by omega)]
      simp only [if_true, if_false, y1', l0, l3, h10, y1, q2.2, Option.bind_some, fa_lit, h2, x_r69_3 X, x_r69_2 X, c_r69 X C.2.2.2.1, z_rc (StS_99 X), e1, e2', hm2, h3, q.1]
    · obtain ⟨a', C', q'⟩ := K t2 b (D + m) o2 hNW.1 (by omega) hNW.2 s2'
      obtain ⟨t3, e3, o3, _⟩ := k_doOne C' q' hNW.2 (StS_99 X) s2' (tJ t (168 + 2 * i) ix)
      rw [q.2.2.2] at e3
      refine fin t3 ?_ (Ox_t o12 o3)
      have h3 : ¬ nI m ≤ nI ix := by rw [nI_leI (by omega) (by omega)]; omega
      have y2 : ∀ t, fR (Em g t) (167 + 2 * i) 7 0 = some (167 + 2 * i + 1) := fun t => y_fR (TyS_x X hi).2.1 (TyS_x X hi).2.2.1 (by omega) (by decide) rfl
      have y3 : aJ (Em g t2) (167 + 2 * i + 1) (nI ix) = some (tJ t (168 + 2 * i) ix) := by
        rw [← o12.2.2 (168 + 2 * i), show 168 + 2 * i = 167 + 2 * i + 1 by omega]
        exact y_aJ (TyS_x X hi).2.2.2.1 (TyS_x X hi).2.2.2.2 (by omega) (by decide) (by omega)
      unfold F_X11_judge
      rw [x_rc69 X, Option.bind_some, k_trayAt X, Option.bind_some, hx, tn_n (by omega)]
      simp only [if_true, if_false, y1', l0, l3, h10, y1, q2.2, Option.bind_some, fa_lit, h2, x_r69_3 X, x_r69_2 X, c_r69 X C.2.2.2.1, z_rc (StS_99 X), e1, e2', hm2, h3, y2, y3, e3]
  by_cases y2' : y = nI 2
  · have l0 : ¬ nI 2 < nI 0 := by decide
    have l3 : nI 2 ≤ nI 3 := by decide
    have h10 : ¬ nI 2 = nI 0 := by decide
    have h11 : ¬ nI 2 = nI 1 := by decide
    refine fin t2 ?_ o12
    have h108 : tI t2 99 3 = b 108 := s2.1.1
    unfold F_X11_judge
    rw [x_rc69 X, Option.bind_some, k_trayAt X, Option.bind_some, hx, tn_n (by omega)]
    simp only [if_true, if_false, y2', l0, l3, h10, h11, y1, q2.2, Option.bind_some, fa_lit, h2, x_r69_3 X, x_r69_2 X, c_r69 X C.2.2.2.1, z_rc (StS_99 X), e1, e2', z_i3 (StS_99 X), h108]
  · refine fin t2 ?_ o12
    have hpl : F_X6_placesOfAll 99 (nI (vP b)) (Em g t2) = some (nI (plc b (vP b)), Em g t2) := by
      have hfp : vP b < FU := by show vP b < 1000000; omega
      exact k_places_l hNW.2 (StS_99 X) s2' (vP b) 0 FU (by omega) hfp
    have hvp : tI t2 v 4 = nI (vP b) := by
      rw [o12.1 v 4 (by have := C.2.1.1; omega), vP_ C, ep]
    unfold F_X11_judge
    rw [x_rc69 X, Option.bind_some, k_trayAt X, Option.bind_some, hx, tn_n (by omega)]
    simp only [if_true, if_false, y0, y1', y2', c12.1, c12.2, y1, q2.2, Option.bind_some, fa_lit, h2, x_r69_3 X, x_r69_2 X, c_r69 X C.2.2.2.1, z_rc (StS_99 X), e1, e2', v_i4 C.2.1, hvp, hpl]
end XJ2
