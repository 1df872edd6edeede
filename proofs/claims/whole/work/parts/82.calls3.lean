/-! ===== calls: ear, blank, days, undo ===== -/
section XZ2
variable {g : Sk} {t : Tb} {a : Nat → Int32}
variable {D v x n nx : Nat} {b c w : Nat → Int32} {t' t1 t2 : Tb}
theorem r_notes' (X : Fx g) (hn : b 127 = nI n) (hn2 : n ≤ 10) (hw : tA t 190 = w) : F_X12_notes 183 (Em g (wr t 184 b)) = some ((), Em g (wr t 184 (psh b w))) := by
  have h := r_notes (t := wr t 184 b) (w := w) X tA_rs (by rw [tA_rn (by decide)]; exact hw) (by unfold vDe; rw [hn, tn_n (by omega)]) (by unfold vDe; rw [hn, tn_n (by omega)]; exact hn2)
  rw [wr_wr] at h
  exact h
theorem within_9 (x : Int32) (h : xH) : F_X12_within x.toInt64 0 9 h = some (bI (okx x 10), h) := by
  rw [p_within, i64]
  unfold okx
  have e0 : (0 : Int64).toInt = 0 := rfl
  have e9 : (9 : Int64).toInt = 9 := rfl
  rw [e0, e9, show decide (0 ≤ x.toInt ∧ x.toInt ≤ 9) = decide (0 ≤ x.toInt ∧ x.toInt < (10 : Nat)) by
    rw [decide_eq_decide]
    omega]
theorem q_personX (X : Fx g) (W : WA a D) (ha : tA t 184 = a) (x : Int32) : F_X12_isPerson 183 x.toInt64 (Em g t) = some (bI (okx x (vP a)), Em g t) := by
  rw [q_person X W ha, i64]
  rfl
theorem q_noteX (X : Fx g) (W : WA a D) (ha : tA t 184 = a) (x : Int32) : F_X12_isNote 183 x.toInt64 (Em g t) = some (bI (okx x (vN a)), Em g t) := by
  rw [q_note X W ha, i64]
  rfl
theorem ok_ear (I : IV g t v a D n nx) (hD : D + 100 < 2 ^ 30) (x y : Int32) : Okc (F_X11_ear 69 x y) (F_X12_ear 183 x y) g t D := by
  have X := I.1
  have C := I.2.2.1
  have W := C.1
  have hP := wP2 W
  have h0 := I.2.2.2.1.1
  obtain ⟨t1, e1, o1, s1⟩ := k_copyP (t := t) (StS_99 X) (StS_95 X) (by decide) hP C.2.2.2.2
  have C1 := CP_s X C (Sm_99 X o1)
  obtain ⟨t2, e2, o2, s2⟩ := k_ear C1 Vq_r W (StS_95 X) C1.2.2.2.2 x y
  cases h : (okx x (vP a) && okx y 10)
  · rw [h] at e2 s2
    have r2 : Rg 95 102 t t2 := Rg_t (Rg_o o1 (by decide) (by decide)) (Rg_o o2 (by decide) (by decide))
    have h10 : ¬ nI 1 = nI 0 := by decide
    have h11 : -nI 10 - nI 1 = -nI 11 := by decide
    refine ok_n (r := -nI 11) I hD ?_ r2 s2 ⟨wi t2 183 0 (nI 0), ?_, (Sm_wi (a := 183) (k := 0) rfl Sm_r)⟩
    · unfold F_X11_ear
      simp only [x_rc69 X, x_r69_0 X, x_r69_2 X, x_r69_3 X, x_r69_4 X, x_r69_5 X, x_r69_6 X, x_r69_7 X, x_r69_8 X, x_r69_9 X, x_r69_10 X, x_r69_11 X, x_rc95 X, x_r95_0 X, x_r95_1 X, x_r95_2 X, x_i95_3 X, x_w95_3 X, x_i95_4 X, x_w95_4 X, x_a96 X, x_s96 X, x_a97 X, x_s97 X, x_a98 X, x_s98 X, fa_lit, c_r69 X C.2.2.2.1, z_rc (StS_99 X), Option.bind_some, e1, e2, Bool.false_eq_true, if_false, h10, h11]
    · have r184 : tA (wi t2 183 0 (nI 0)) 184 = a := by rw [tA_wi, r2.2.1 184 (by decide)]; exact I.2.1
      unfold F_X12_ear
      simp only [x_w183_0 X, x_rc183 X, fa_lit, Option.bind_some, q_personX X W r184, bI_z]
      cases hx : okx x (vP a)
      · simp only [if_true]
      · rw [hx, Bool.true_and] at h
        have w9 := within_9 y (Em g (wi t2 183 0 (nI 0)))
        rw [h] at w9
        simp only [fa_litL] at w9 ⊢
        simp only [Bool.true_eq_false, if_false, w9, Option.bind_some, bI_z, if_true, not_true_eq_false]
  · rw [h] at e2 s2
    rw [Bool.and_eq_true] at h
    rcases okx_c x (vP a) (by omega) with q | ⟨hx, p, hp, rfl⟩
    · rw [q] at h; exact absurd h.1 (by decide)
    rcases okx_c y 10 (by omega) with q | ⟨hy, k, hk, rfl⟩
    · rw [q] at h; exact absurd h.2 (by decide)
    rw [if_pos rfl] at e2
    rw [if_pos rfl, tn_n (by omega), tn_n (by omega)] at s2
    have hN : Nq a (err a p k) := Nq_u Nq_r (by omega) (by omega)
    have W2 : WA (err a p k) D := WA_er W hp (by omega)
    obtain ⟨t3, e3, r3, s3, s99, h3⟩ := cl_deed (w := wsr a (tA t 190)) X I o1 s1 o2 s2 hN (Nat.le_refl D) (fun _ h => wsr_k h)
    have r184 : tA t3 184 = a := by rw [r3.2.1 184 (by decide)]; exact I.2.1
    have r190 : tA t3 190 = tA t 190 := r3.2.1 190 (by decide)
    refine ⟨a (115 + p), g, t3, g, wr (wr (wi t3 183 0 (nI 0)) 190 (wsr a (tA t 190))) 184 (psh (err a p k) (wsr a (tA t 190))), v, _, n10 n, (nx + 1) % 10, ?_, ?_, rfl, rfl, rfl, rfl, IV_m (by omega) hD (IV_d I (Nat.le_refl D) hN W2 r3 s3 h3 (Sw_wr (Sw_wr (Sw_wi Sw_r (Or.inr rfl)) (Or.inr (sc_f rfl))) (Or.inl rfl)) tA_rs)⟩
    · have e5 : tA t3 101 p = a (115 + p) := (s99.2 p hp).2.1
      unfold F_X11_ear
      simp (disch := omega) only [x_rc69 X, x_r69_0 X, x_r69_2 X, x_r69_3 X, x_r69_4 X, x_r69_5 X, x_r69_6 X, x_r69_7 X, x_r69_8 X, x_r69_9 X, x_r69_10 X, x_r69_11 X, x_rc95 X, x_r95_0 X, x_r95_1 X, x_r95_2 X, x_i95_3 X, x_w95_3 X, x_i95_4 X, x_w95_4 X, x_a96 X, x_s96 X, x_a97 X, x_s97 X, x_a98 X, x_s98 X, x_rc99 X, x_r99_0 X, x_r99_1 X, x_r99_2 X, x_i99_3 X, x_w99_3 X, x_i99_4 X, x_w99_4 X, x_a100 X, x_s100 X, x_a101 X, x_s101 X, x_a102 X, x_s102 X, fa_lit, c_r69 X C.2.2.2.1, x_rc103 X, Option.bind_some, e1, e2, e3, if_true, e5]
    · have ha1 : tA (wi t3 183 0 (nI 0)) 184 = a := r184
      have hk1 := r_keeps (t := wi t3 183 0 (nI 0)) X ha1
      rw [tA_wi, r190, show fa_fill (fun k => a (107 + k)) (tA t 190) 20 = wsr a (tA t 190) from rfl] at hk1
      have ht1 : tA (wr (wi t3 183 0 (nI 0)) 190 (wsr a (tA t 190))) 184 = a := by rw [tA_rn (by decide)]; exact ha1
      have hnt := r_notes' (t := wr (wi t3 183 0 (nI 0)) 190 (wsr a (tA t 190))) (b := err a p k) (w := wsr a (tA t 190)) X (by rw [hN 127 (by decide)]; exact h0.1) h0.2.1 tA_rs
      have hmv : wa (wr (wi t3 183 0 (nI 0)) 190 (wsr a (tA t 190))) 184 (115 + p) (nI k) = wr (wr (wi t3 183 0 (nI 0)) 190 (wsr a (tA t 190))) 184 (err a p k) := by rw [wa_wr, ht1]; rfl
      have w9 := within_9 (nI k) (Em g (wi t3 183 0 (nI 0)))
      rw [hy] at w9
      have hws : wsr a (tA t 190) (8 + p) = a (115 + p) := by rw [wsr_k (by omega), show 107 + (8 + p) = 115 + p by omega]
      unfold F_X12_ear
      simp only [fa_litL] at w9 ⊢
      simp (disch := omega) only [x_rc183 X, x_i183_0 X, x_w183_0 X, x_r183_1 X, x_r183_2 X, x_r183_3 X, x_r183_4 X, x_i183_5 X, x_w183_5 X, x_i183_6 X, x_w183_6 X, x_i183_7 X, x_w183_7 X, x_i183_8 X, x_w183_8 X, x_i183_9 X, x_w183_9 X, x_i183_10 X, x_w183_10 X, x_i183_11 X, x_w183_11 X, x_i183_12 X, x_w183_12 X, x_i183_13 X, x_w183_13 X, x_i183_14 X, x_w183_14 X, x_i183_15 X, x_w183_15 X, x_r183_16 X, x_r183_17 X, x_r183_18 X, x_i183_19 X, x_w183_19 X, x_i183_20 X, x_w183_20 X, x_r183_21 X, x_r183_22 X, x_r183_23 X, x_r183_24 X, x_r183_25 X, x_i183_26 X, x_w183_26 X, x_r183_27 X, x_r183_28 X, x_r183_29 X, x_i183_30 X, x_w183_30 X, x_r183_31 X, x_r183_32 X, x_r183_33 X, x_r183_34 X, x_r183_35 X, x_r183_36 X, x_a184 X, x_s184 X, x_a185 X, x_s185 X, x_a186 X, x_s186 X, x_a187 X, x_s187 X, x_a188 X, x_s188 X, x_a189 X, x_s189 X, x_a190 X, x_s190 X, x_a191 X, x_s191 X, x_a192 X, x_s192 X, x_a193 X, x_s193 X, x_a194 X, x_s194 X, x_a195 X, x_s195 X, x_a196 X, x_s196 X, x_a197 X, x_s197 X, x_a198 X, x_s198 X, x_a199 X, x_s199 X, x_a200 X, x_s200 X, x_a201 X, x_s201 X, x_a202 X, x_s202 X, x_a203 X, x_s203 X, x_a204 X, x_s204 X, Option.bind_some, ↓reduceIte, ite_not, fa_lit, nI_add, q_personX X W ha1, hx, bI_z, Bool.true_eq_false, w9, hk1, hmv, hnt, tA_rn, tA_rs, hws]
theorem ok_blank (I : IV g t v a D n nx) (hD : D + 100 < 2 ^ 30) (x y : Int32) : Okc (F_X11_blank 69 x y) (F_X12_blank 183 x y) g t D := by
  have X := I.1
  have C := I.2.2.1
  have W := C.1
  have hP := wP2 W
  have hN3 := wN3 W
  have h0 := I.2.2.2.1.1
  obtain ⟨t1, e1, o1, s1⟩ := k_copyP (t := t) (StS_99 X) (StS_95 X) (by decide) hP C.2.2.2.2
  have C1 := CP_s X C (Sm_99 X o1)
  obtain ⟨t2, e2, o2, s2⟩ := k_blank C1 Vq_r W (StS_95 X) C1.2.2.2.2 x y
  cases h : (okx x (vP a) && okb y (vN a))
  · rw [h] at e2 s2
    have r2 : Rg 95 102 t t2 := Rg_t (Rg_o o1 (by decide) (by decide)) (Rg_o o2 (by decide) (by decide))
    have h10 : ¬ nI 1 = nI 0 := by decide
    have h11 : -nI 10 - nI 1 = -nI 11 := by decide
    refine ok_n (r := -nI 11) I hD ?_ r2 s2 ⟨wi t2 183 0 (nI 0), ?_, (Sm_wi (a := 183) (k := 0) rfl Sm_r)⟩
    · unfold F_X11_blank
      simp only [x_rc69 X, x_r69_0 X, x_r69_2 X, x_r69_3 X, x_r69_4 X, x_r69_5 X, x_r69_6 X, x_r69_7 X, x_r69_8 X, x_r69_9 X, x_r69_10 X, x_r69_11 X, x_rc95 X, x_r95_0 X, x_r95_1 X, x_r95_2 X, x_i95_3 X, x_w95_3 X, x_i95_4 X, x_w95_4 X, x_a96 X, x_s96 X, x_a97 X, x_s97 X, x_a98 X, x_s98 X, fa_lit, c_r69 X C.2.2.2.1, z_rc (StS_99 X), Option.bind_some, e1, e2, Bool.false_eq_true, if_false, h10, h11]
    · have r184 : tA (wi t2 183 0 (nI 0)) 184 = a := by rw [tA_wi, r2.2.1 184 (by decide)]; exact I.2.1
      unfold F_X12_blank
      simp only [x_w183_0 X, x_rc183 X, fa_lit, Option.bind_some, q_personX X W r184, bI_z]
      cases hx : okx x (vP a)
      · simp only [if_true]
      · rw [hx, Bool.true_and] at h
        unfold okb at h
        rw [Bool.or_eq_false_iff, decide_eq_false_iff_not] at h
        simp only [Bool.true_eq_false, if_false, h.1, q_noteX X W r184, h.2, Option.bind_some, bI_z, if_true, not_true_eq_false]
  · rw [h] at e2 s2
    rw [Bool.and_eq_true] at h
    rcases okx_c x (vP a) (by omega) with q | ⟨hx, p, hp, rfl⟩
    · rw [q] at h; exact absurd h.1 (by decide)
    rw [if_pos rfl] at e2
    rw [if_pos rfl, tn_n (by omega)] at s2
    have hN : Nq a (blr a p y) := Nq_u (Nq_u Nq_r (by omega) (by omega)) (by omega) (by omega)
    have hy : y = -nI 1 ∨ (¬ y = -nI 1 ∧ okx y (vN a) = true) := by
      have := h.2
      unfold okb at this
      rw [Bool.or_eq_true, decide_eq_true_eq] at this
      by_cases e : y = -nI 1
      · exact Or.inl e
      · exact Or.inr ⟨e, by rcases this with q | q; exact absurd q e; exact q⟩
    have W2 : WA (blr a p y) D := WA_bl W hp (by
      rcases hy with e | ⟨_, e⟩
      · exact Or.inl e
      · rcases okx_c y (vN a) (by omega) with q | ⟨_, k, hk, rfl⟩
        · rw [q] at e; exact absurd e (by decide)
        · exact Or.inr ⟨by rw [tn_n (by omega)], by rw [tn_n (by omega)]; exact hk⟩)
    obtain ⟨t3, e3, r3, s3, s99, h3⟩ := cl_deed (w := wsr a (tA t 190)) X I o1 s1 o2 s2 hN (Nat.le_refl D) (fun _ h => wsr_k h)
    have r184 : tA t3 184 = a := by rw [r3.2.1 184 (by decide)]; exact I.2.1
    have r190 : tA t3 190 = tA t 190 := r3.2.1 190 (by decide)
    refine ⟨a (121 + p), g, t3, g, wr (wr (wi t3 183 0 (nI 0)) 190 (wsr a (tA t 190))) 184 (psh (blr a p y) (wsr a (tA t 190))), v, _, n10 n, (nx + 1) % 10, ?_, ?_, rfl, rfl, rfl, rfl, IV_m (by omega) hD (IV_d I (Nat.le_refl D) hN W2 r3 s3 h3 (Sw_wr (Sw_wr (Sw_wi Sw_r (Or.inr rfl)) (Or.inr (sc_f rfl))) (Or.inl rfl)) tA_rs)⟩
    · have e5 : tA t3 102 p = a (121 + p) := (s99.2 p hp).2.2
      unfold F_X11_blank
      simp (disch := omega) only [x_rc69 X, x_r69_0 X, x_r69_2 X, x_r69_3 X, x_r69_4 X, x_r69_5 X, x_r69_6 X, x_r69_7 X, x_r69_8 X, x_r69_9 X, x_r69_10 X, x_r69_11 X, x_rc95 X, x_r95_0 X, x_r95_1 X, x_r95_2 X, x_i95_3 X, x_w95_3 X, x_i95_4 X, x_w95_4 X, x_a96 X, x_s96 X, x_a97 X, x_s97 X, x_a98 X, x_s98 X, x_rc99 X, x_r99_0 X, x_r99_1 X, x_r99_2 X, x_i99_3 X, x_w99_3 X, x_i99_4 X, x_w99_4 X, x_a100 X, x_s100 X, x_a101 X, x_s101 X, x_a102 X, x_s102 X, fa_lit, c_r69 X C.2.2.2.1, x_rc103 X, Option.bind_some, e1, e2, e3, if_true, e5]
    · have ha1 : tA (wi t3 183 0 (nI 0)) 184 = a := r184
      have hk1 := r_keeps (t := wi t3 183 0 (nI 0)) X ha1
      rw [tA_wi, r190, show fa_fill (fun k => a (107 + k)) (tA t 190) 20 = wsr a (tA t 190) from rfl] at hk1
      have ht1 : tA (wr (wi t3 183 0 (nI 0)) 190 (wsr a (tA t 190))) 184 = a := by rw [tA_rn (by decide)]; exact ha1
      have hnt := r_notes' (t := wr (wi t3 183 0 (nI 0)) 190 (wsr a (tA t 190))) (b := blr a p y) (w := wsr a (tA t 190)) X (by rw [hN 127 (by decide)]; exact h0.1) h0.2.1 tA_rs
      have hbl := r_blanks1 (t := wr (wi t3 183 0 (nI 0)) 190 (wsr a (tA t 190))) X W ht1 hp y
      have hws : wsr a (tA t 190) (14 + p) = a (121 + p) := by rw [wsr_k (by omega), show 107 + (14 + p) = 121 + p by omega]
      have hb31 : F_X12_blank_b31 183 (nI p) y (Em g (wi t3 183 0 (nI 0))) = some (a (121 + p), Em g (wr (wr (wi t3 183 0 (nI 0)) 190 (wsr a (tA t 190))) 184 (psh (blr a p y) (wsr a (tA t 190))))) := by
        unfold F_X12_blank_b31
        simp (disch := omega) only [x_rc183 X, x_i183_0 X, x_w183_0 X, x_r183_1 X, x_r183_2 X, x_r183_3 X, x_r183_4 X, x_i183_5 X, x_w183_5 X, x_i183_6 X, x_w183_6 X, x_i183_7 X, x_w183_7 X, x_i183_8 X, x_w183_8 X, x_i183_9 X, x_w183_9 X, x_i183_10 X, x_w183_10 X, x_i183_11 X, x_w183_11 X, x_i183_12 X, x_w183_12 X, x_i183_13 X, x_w183_13 X, x_i183_14 X, x_w183_14 X, x_i183_15 X, x_w183_15 X, x_r183_16 X, x_r183_17 X, x_r183_18 X, x_i183_19 X, x_w183_19 X, x_i183_20 X, x_w183_20 X, x_r183_21 X, x_r183_22 X, x_r183_23 X, x_r183_24 X, x_r183_25 X, x_i183_26 X, x_w183_26 X, x_r183_27 X, x_r183_28 X, x_r183_29 X, x_i183_30 X, x_w183_30 X, x_r183_31 X, x_r183_32 X, x_r183_33 X, x_r183_34 X, x_r183_35 X, x_r183_36 X, x_a184 X, x_s184 X, x_a185 X, x_s185 X, x_a186 X, x_s186 X, x_a187 X, x_s187 X, x_a188 X, x_s188 X, x_a189 X, x_s189 X, x_a190 X, x_s190 X, x_a191 X, x_s191 X, x_a192 X, x_s192 X, x_a193 X, x_s193 X, x_a194 X, x_s194 X, x_a195 X, x_s195 X, x_a196 X, x_s196 X, x_a197 X, x_s197 X, x_a198 X, x_s198 X, x_a199 X, x_s199 X, x_a200 X, x_s200 X, x_a201 X, x_s201 X, x_a202 X, x_s202 X, x_a203 X, x_s203 X, x_a204 X, x_s204 X, Option.bind_some, ↓reduceIte, ite_not, fa_lit, nI_add, hk1, hbl, hnt, tA_rn, tA_rs, hws]
      unfold F_X12_blank
      simp only [x_w183_0 X, x_rc183 X, fa_lit, Option.bind_some, q_personX X W ha1, hx, bI_z, Bool.true_eq_false, if_false]
      rcases hy with e | ⟨e, e3⟩
      · rw [if_pos e]
        exact hb31
      · rw [if_neg e]
        simp only [q_noteX X W ha1, e3, Option.bind_some, bI_z, Bool.true_eq_false, not_false_eq_true, if_true]
        exact hb31
end XZ2
