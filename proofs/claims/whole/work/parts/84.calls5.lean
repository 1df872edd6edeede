/-! ===== calls: judge, perform, year ===== -/
def plc (b : Nat → Int32) : Nat → Nat
  | 0 => 0
  | p + 1 => plc b p ||| 2 ^ vAt b p
theorem plc_bit (b : Nat → Int32) (i : Nat) : ∀ p, (plc b p).testBit i = true ↔ ∃ q, q < p ∧ vAt b q = i
  | 0 => by simp [plc]
  | p + 1 => by
    rw [plc, Nat.testBit_or, Bool.or_eq_true, plc_bit b i p, Nat.testBit_two_pow, decide_eq_true_eq]
    constructor
    · rintro (⟨q, h1, h2⟩ | h)
      · exact ⟨q, by omega, h2⟩
      · exact ⟨p, by omega, h⟩
    · rintro ⟨q, h1, h2⟩
      by_cases e : q = p
      · subst e
        exact Or.inr h2
      · exact Or.inl ⟨q, by omega, h2⟩
theorem tls_0 (f : Nat → Int64) (d : Nat) (b : Nat → Int32) (j : Nat) (h : (tls f d j b).1 = j) : (tls f d j b).2.2 = b := by
  cases d with
  | zero => rfl
  | succ d =>
    rw [tls] at h ⊢
    by_cases c : wyN b (f j) = 0
    · rw [if_pos c] at h
      rcases tls_end f d (j + 1) (doR b (f j)) with q | q <;> omega
    · rw [if_neg c]
theorem yrs_ge : ∀ (d : Nat) (s : Int32) (c : Nat) (b : Nat → Int32), c ≤ (yrs d s c b).1
  | 0, _, _, _ => Nat.le_refl _
  | d + 1, s, c, b => by
    rw [yrs]
    split
    · have := yrs_ge d (drz s).2 (c + 1) (doR b (drz s).1.toInt64)
      omega
    · exact yrs_ge d (drz s).2 c b
theorem yrs_0 : ∀ (d : Nat) (s : Int32) (c : Nat) (b : Nat → Int32), (yrs d s c b).1 = c → (yrs d s c b).2.2 = b
  | 0, _, _, _, _ => rfl
  | d + 1, s, c, b, h => by
    rw [yrs] at h ⊢
    by_cases e : wyN b (drz s).1.toInt64 = 0
    · rw [if_pos e] at h
      have := yrs_ge d (drz s).2 (c + 1) (doR b (drz s).1.toInt64)
      omega
    · rw [if_neg e] at h ⊢
      exact yrs_0 d (drz s).2 c b h
section XJ
variable {g : Sk} {t : Tb} {a : Nat → Int32}
variable {D v x n nx : Nat} {b c w : Nat → Int32} {t' t1 t2 : Tb}
theorem plc_eq (W : WA b D) : plc b (vP b) = mk (fun k => decide (¬ atp b k = 0)) (vK b) := by
  have hK := wK2 W
  apply mk_ext (n := vK b) ?_ (mk_lt _ _)
  · intro k hk
    rw [mk_bit, Bool.eq_iff_iff, plc_bit]
    simp only [hk, decide_true, Bool.true_and, decide_eq_true_eq]
    unfold atp
    rw [mk_zero]
    constructor
    · rintro ⟨q, h1, h2⟩ h
      have := h q h1
      rw [decide_eq_false_iff_not] at this
      exact this h2
    · intro h
      apply Classical.byContradiction
      intro h2
      exact h (fun i hi => by
        rw [decide_eq_false_iff_not]
        exact fun e => h2 ⟨i, hi, e⟩)
  · have : ∀ p, p ≤ vP b → plc b p < 2 ^ vK b := by
      intro p
      induction p with
      | zero => intro _; exact Nat.two_pow_pos _
      | succ p ih =>
        intro h
        rw [plc]
        exact Nat.or_lt_two_pow (ih (by omega)) (Nat.pow_lt_pow_right (by decide) (wAt2 W (by omega)))
    exact this _ (Nat.le_refl _)
theorem k_places_l (W : WA b D) (Z : StS g x) (S : StP t x (vP b) b 107) : ∀ (d k fuel : Nat), k + d = vP b → d < fuel → F_X6_placesOfAll_b4 fuel x (nI (vP b)) (nI (plc b k)) (nI k) (Em g t) = some (nI (plc b (vP b)), Em g t) := by
  have hP := wP2 W
  have hK := wK2 W
  intro d
  induction d with
  | zero =>
    intro k fuel hk hf
    obtain ⟨f, rfl⟩ : ∃ f, fuel = f + 1 := ⟨fuel - 1, by omega⟩
    have hk : k = vP b := by omega
    subst hk
    rw [F_X6_placesOfAll_b4]
    simp (disch := omega) only [Option.bind_some, ↓reduceIte, ite_not, fa_lit, nI_add, nI_mulN, nI_an, nI_sub, irm_n, nI_eq, nI_leI, nI_ltI, v_pow, v_shr, v_bit, nI_cl, nI_m1e, Nat.le_refl]
  | succ d ih =>
    intro k fuel hk hf
    obtain ⟨f, rfl⟩ : ∃ f, fuel = f + 1 := ⟨fuel - 1, by omega⟩
    have hk2 : ¬ vP b ≤ k := by omega
    have hk3 : k < vP b := by omega
    have hat := wAt2 W hk3
    have e1 : tA t (x + 1) k = nI (vAt b k) := by rw [(S.2 k hk3).1]; exact wAt W hk3
    rw [F_X6_placesOfAll_b4, ← ih (k + 1) f (by omega) (by omega)]
    simp (disch := omega) only [z_rc Z, z_r0 Z, z_r1 Z, z_r2 Z, z_i3 Z, z_i4 Z, z_w3 Z, z_w4 Z, z_a1 Z, z_a2 Z, z_a3 Z, z_s1 Z, z_s2 Z, z_s3 Z, Option.bind_some, ↓reduceIte, ite_not, fa_lit, nI_add, nI_mulN, nI_an, nI_sub, irm_n, nI_eq, nI_leI, nI_ltI, v_pow, v_shr, v_bit, nI_cl, nI_m1e, hk2, e1]
    rw [fa_or]
    rfl
theorem TyS_x (X : Fx g) {i : Nat} (h : i < 4) : TyS g (167 + 2 * i) := by
  have key : ∀ i, i < 4 → S0 (167 + 2 * i) = 8 ∧ R0 (167 + 2 * i) 0 = 168 + 2 * i ∧ S0 (168 + 2 * i) = 21 ∧ N0 (168 + 2 * i) = 40 := by decide +kernel
  have k := key i h
  refine ⟨by omega, Or.inl ?_, ?_, ?_, ?_⟩
  · rw [(X.1 _ (by omega) (by omega)).1]; exact k.1
  · rw [X.2.1 _ 0 (by omega) (by omega) (by omega), k.2.1]; rw [show 167 + 2 * i + 1 = 168 + 2 * i by omega]
  · rw [show 167 + 2 * i + 1 = 168 + 2 * i by omega, (X.1 _ (by omega) (by omega)).1]; exact k.2.2.1
  · rw [show 167 + 2 * i + 1 = 168 + 2 * i by omega, (X.1 _ (by omega) (by omega)).2]; exact k.2.2.2
theorem x_tray (X : Fx g) {i : Nat} (h : i < 4) : aR (Em g t) 145 (nI i) = some (167 + 2 * i) := y_aR (m := 4) (Or.inr (Or.inl (x_S X 26 rfl))) (x_N X 4 rfl) (X.2.2.2.1 i h) (by decide) (by decide) h
theorem k_trayAt (X : Fx g) (x : Int32) : F_X11_trayAt 69 x (Em g t) = some (if okx x 4 then some (167 + 2 * tn x) else none, Em g t) := by
  unfold F_X11_trayAt
  have ho := okx_lt x 4 (by decide)
  rcases okx_c x 4 (by decide) with h | ⟨h, i, hi, rfl⟩
  · rw [h] at ho ⊢
    by_cases c1 : x < nI 0
    · simp only [fa_lit, c1, if_true, Bool.false_eq_true, if_false]
    · have c2 : ¬ x < nI 4 := by
        intro q
        have c3 : ¬ nI 4 ≤ x := fun z => by
          have := (fa_lt _ _).mp q
          have := (fa_le _ _).mp z
          omega
        rw [if_neg c1, if_neg c3] at ho
        exact absurd ho (by decide)
      simp only [fa_lit, c1, c2, Bool.false_eq_true, if_false]
  · have c1 : ¬ i < 0 := by omega
    rw [h, tn_n (by omega)]
    simp (disch := omega) only [Option.bind_some, ↓reduceIte, ite_not, fa_lit, nI_add, nI_mulN, nI_an, nI_sub, irm_n, nI_eq, nI_leI, nI_ltI, v_pow, v_shr, v_bit, nI_cl, nI_m1e, c1, hi, x_r69_5 X, x_tray X]
theorem within_3 (x : Int32) (h : xH) : F_X12_within x.toInt64 0 3 h = some (bI (okx x 4), h) := by
  rw [p_within, i64]
  unfold okx
  have e0 : (0 : Int64).toInt = 0 := rfl
  have e9 : (3 : Int64).toInt = 3 := rfl
  rw [e0, e9, show decide (0 ≤ x.toInt ∧ x.toInt ≤ 3) = decide (0 ≤ x.toInt ∧ x.toInt < (4 : Nat)) by
    rw [decide_eq_decide]
    omega]
theorem r_noTray (X : Fx g) (x : Int32) : F_X12_noTray 183 x (Em g t) = some (if okx x 4 then (if tA t 202 (tn x) = -nI 1 then -nI 6 else nI 0) else -nI 2, Em g t) := by
  unfold F_X12_noTray
  rw [within_3]
  rcases okx_c x 4 (by decide) with h | ⟨h, i, hi, rfl⟩
  · rw [h]
    rfl
  · rw [h, tn_n (by omega)]
    by_cases c : tA t 202 i = -nI 1
    · simp (disch := omega) only [x_rc183 X, x_i183_0 X, x_w183_0 X, x_r183_1 X, x_r183_2 X, x_r183_3 X, x_r183_4 X, x_i183_5 X, x_w183_5 X, x_i183_6 X, x_w183_6 X, x_i183_7 X, x_w183_7 X, x_i183_8 X, x_w183_8 X, x_i183_9 X, x_w183_9 X, x_i183_10 X, x_w183_10 X, x_i183_11 X, x_w183_11 X, x_i183_12 X, x_w183_12 X, x_i183_13 X, x_w183_13 X, x_i183_14 X, x_w183_14 X, x_i183_15 X, x_w183_15 X, x_r183_16 X, x_r183_17 X, x_r183_18 X, x_i183_19 X, x_w183_19 X, x_i183_20 X, x_w183_20 X, x_r183_21 X, x_r183_22 X, x_r183_23 X, x_r183_24 X, x_r183_25 X, x_i183_26 X, x_w183_26 X, x_r183_27 X, x_r183_28 X, x_r183_29 X, x_i183_30 X, x_w183_30 X, x_r183_31 X, x_r183_32 X, x_r183_33 X, x_r183_34 X, x_r183_35 X, x_r183_36 X, x_a184 X, x_s184 X, x_a185 X, x_s185 X, x_a186 X, x_s186 X, x_a187 X, x_s187 X, x_a188 X, x_s188 X, x_a189 X, x_s189 X, x_a190 X, x_s190 X, x_a191 X, x_s191 X, x_a192 X, x_s192 X, x_a193 X, x_s193 X, x_a194 X, x_s194 X, x_a195 X, x_s195 X, x_a196 X, x_s196 X, x_a197 X, x_s197 X, x_a198 X, x_s198 X, x_a199 X, x_s199 X, x_a200 X, x_s200 X, x_a201 X, x_s201 X, x_a202 X, x_s202 X, x_a203 X, x_s203 X, x_a204 X, x_s204 X, Option.bind_some, ↓reduceIte, ite_not, fa_lit, bI_z, Bool.true_eq_false, c]
    · simp (disch := omega) only [x_rc183 X, x_i183_0 X, x_w183_0 X, x_r183_1 X, x_r183_2 X, x_r183_3 X, x_r183_4 X, x_i183_5 X, x_w183_5 X, x_i183_6 X, x_w183_6 X, x_i183_7 X, x_w183_7 X, x_i183_8 X, x_w183_8 X, x_i183_9 X, x_w183_9 X, x_i183_10 X, x_w183_10 X, x_i183_11 X, x_w183_11 X, x_i183_12 X, x_w183_12 X, x_i183_13 X, x_w183_13 X, x_i183_14 X, x_w183_14 X, x_i183_15 X, x_w183_15 X, x_r183_16 X, x_r183_17 X, x_r183_18 X, x_i183_19 X, x_w183_19 X, x_i183_20 X, x_w183_20 X, x_r183_21 X, x_r183_22 X, x_r183_23 X, x_r183_24 X, x_r183_25 X, x_i183_26 X, x_w183_26 X, x_r183_27 X, x_r183_28 X, x_r183_29 X, x_i183_30 X, x_w183_30 X, x_r183_31 X, x_r183_32 X, x_r183_33 X, x_r183_34 X, x_r183_35 X, x_r183_36 X, x_a184 X, x_s184 X, x_a185 X, x_s185 X, x_a186 X, x_s186 X, x_a187 X, x_s187 X, x_a188 X, x_s188 X, x_a189 X, x_s189 X, x_a190 X, x_s190 X, x_a191 X, x_s191 X, x_a192 X, x_s192 X, x_a193 X, x_s193 X, x_a194 X, x_s194 X, x_a195 X, x_s195 X, x_a196 X, x_s196 X, x_a197 X, x_s197 X, x_a198 X, x_s198 X, x_a199 X, x_s199 X, x_a200 X, x_s200 X, x_a201 X, x_s201 X, x_a202 X, x_s202 X, x_a203 X, x_s203 X, x_a204 X, x_s204 X, Option.bind_some, ↓reduceIte, ite_not, fa_lit, bI_z, Bool.true_eq_false, c]
/-- a tray as both have it -/
theorem Tr_s {i : Nat} (T : Tr t) (hi : i < 4) : (tA t 202 i = -nI 1 ∧ tI t (167 + 2 * i) 1 = -nI 1) ∨ ∃ s m, ¬ tA t 202 i = -nI 1 ∧ s < 4 ∧ m ≤ 40 ∧ (tA t 202 i = nI s ∧ tI t (167 + 2 * i) 2 = nI s) ∧ (tA t 203 i = nI m ∧ tI t (167 + 2 * i) 1 = nI m) ∧ ∀ j, j < m → tJ t 204 (40 * i + j) = tJ t (168 + 2 * i) j := by
  rcases T i hi with q | ⟨s, m, h1, h2, h3, h4⟩
  · exact Or.inl q
  · exact Or.inr ⟨s, m, by rw [h3.1, nI_m1e (by omega)]; exact id, h1, h2, h3, h4⟩
theorem ok_perform (I : IV g t v a D n nx) (hD : D + 100 < 2 ^ 30) (x : Int32) : Okc (F_X11_perform 69 x) (F_X12_perform 183 x) g t D := by
  have X := I.1
  have C := I.2.2.1
  have W := C.1
  have hP := wP2 W
  have h0 := I.2.2.2.1.1
  have ha0 : tA (wi t 183 0 (nI 0)) 184 = a := I.2.1
  have hw0 : ∀ t, wI (Em g t) 183 11 0 0 = some (Em g (wi t 183 0 (nI 0))) := fun t => x_w183_0 X
  rcases okx_c x 4 (by decide) with hx | ⟨hx, i, hi, rfl⟩
  · refine ok_0 (r := -nI 2) (t1 := t) (t2 := wi t 183 0 (nI 0)) I hD ?_ ?_ Sm_r (Sm_wi (a := 183) (k := 0) rfl Sm_r)
    · unfold F_X11_perform
      rw [x_rc69 X, Option.bind_some, k_trayAt X, Option.bind_some, hx]
      rfl
    · have h2 : ¬ -nI 2 = nI 0 := by decide
      unfold F_X12_perform
      rw [hw0, Option.bind_some, x_rc183 X, Option.bind_some, r_noTray X, Option.bind_some, hx]
      simp only [fa_lit, Bool.false_eq_true, if_false, h2]
  rcases Tr_s I.2.2.2.2.1 hi with q | ⟨s, m, hne, hs, hm, q1, q2, q3⟩
  · refine ok_0 (r := -nI 6) (t1 := t) (t2 := wi t 183 0 (nI 0)) I hD ?_ ?_ Sm_r (Sm_wi (a := 183) (k := 0) rfl Sm_r)
    · have y1 : fI (Em g t) (167 + 2 * i) 7 1 = some (tI t (167 + 2 * i) 1) := y_fI (TyS_x X hi).2.1 (by omega) (by decide) rfl
      have h2 : ¬ nI 0 ≤ -nI 1 := by decide
      unfold F_X11_perform
      rw [x_rc69 X, Option.bind_some, k_trayAt X, Option.bind_some, hx, tn_n (by omega)]
      simp only [if_true, y1, Option.bind_some, q.2, fa_lit, h2, if_false]
    · have h2 : ¬ -nI 6 = nI 0 := by decide
      unfold F_X12_perform
      rw [hw0, Option.bind_some, x_rc183 X, Option.bind_some, r_noTray X, Option.bind_some, hx, tn_n (by omega)]
      simp only [fa_lit, if_true, tA_wi, q.1, h2, if_false]
  obtain ⟨t1, e1, o1, s1⟩ := k_copyP (t := t) (StS_99 X) (StS_95 X) (by decide) hP C.2.2.2.2
  have C1 := CP_s X C (Sm_99 X o1)
  have hm1 : tI t1 (167 + 2 * i) 1 = nI m := by rw [o1.1 _ 1 (by omega)]; exact q2.2
  have hfu : m < FU := by show m < 1000000; omega
  have hf1 : ∀ j, j < m → tJ t1 (167 + 2 * i + 1) j = tJ t (168 + 2 * i) j := fun j _ => by rw [o1.2.2, show 167 + 2 * i + 1 = 168 + 2 * i by omega]
  obtain ⟨t2, e2, o2, s2⟩ := k_doAll_l (StS_95 X) (Cv_95 C1) (TyS_x X hi) (by omega) hm hm1 (fun j => tJ t (168 + 2 * i) j) hf1 m 0 FU t1 a D Ox_r Nq_r (Nat.le_refl D) W (by omega) C1.2.2.2.2 (by omega) hfu
  have hNW := tls_NW (fun j => tJ t (168 + 2 * i) j) m 0 a D W (by omega)
  have hend := tls_end (fun j => tJ t (168 + 2 * i) j) m 0 a
  have hz := tls_0 (fun j => tJ t (168 + 2 * i) j) m a 0
  have y1 : ∀ t, fI (Em g t) (167 + 2 * i) 7 1 = some (tI t (167 + 2 * i) 1) := fun t => y_fI (TyS_x X hi).2.1 (by omega) (by decide) rfl
  have hle : (tls (fun j => tJ t (168 + 2 * i) j) m 0 a).1 ≤ 40 := by rcases hend with q | q <;> omega
  have ht := fun t3 (h184 : tA t3 184 = a) (h203 : tA t3 203 = tA t 203) (h204 : tJ t3 204 = tJ t 204) => r_tells (t := t3) X hi hm h184 (by rw [h203]; exact q2.1) (fun j => tJ t (168 + 2 * i) j) (fun j hj => by rw [h204]; exact q3 j hj) W (by omega)
  generalize hT : tls (fun j => tJ t (168 + 2 * i) j) m 0 a = T at *
  obtain ⟨ix, wy, b⟩ := T
  simp only at hNW hz hle e2 s2 ht
  have e2' : F_X0_doAll v 95 (167 + 2 * i) (Em g t1) = some (nI ix, Em g t2) := e2
  have cl0 : F_X11_perform 69 (nI i) (Em g t) = if nI ix ≤ nI 0 then some (nI ix, Em g t2) else (F_X2_remember 103 99 (Em g t2)).bind fun z => some (nI ix, z.2) := by
    have h2 : nI 0 ≤ nI m := by rw [nI_leI (by decide) (by omega)]; omega
    unfold F_X11_perform
    rw [x_rc69 X, Option.bind_some, k_trayAt X, Option.bind_some, hx, tn_n (by omega)]
    simp only [if_true, y1, q2.2, Option.bind_some, fa_lit, h2, x_r69_3 X, x_r69_2 X, x_r69_4 X, c_r69 X C.2.2.2.1, z_rc (StS_99 X), e1, e2', x_rc103 X]
  have rf0 : ∀ t3, tA t3 184 = a → tA t3 202 = tA t 202 → tA t3 203 = tA t 203 → tJ t3 204 = tJ t 204 → tA t3 190 = tA t 190 → F_X12_perform 183 (nI i) (Em g t3) = if nI ix ≤ nI 0 then some (nI ix, Em g (wr (wi (wr (wi t3 183 0 (nI 0)) 190 (wsr a (tA t 190))) 183 19 (nI wy)) 184 b)) else (F_X12_notes 183 (Em g (wr (wi (wr (wi t3 183 0 (nI 0)) 190 (wsr a (tA t 190))) 183 19 (nI wy)) 184 b))).bind fun z => some (nI ix, z.2) := by
    intro t3 h184 h202 h203 h204 h190
    have ha1 : tA (wi t3 183 0 (nI 0)) 184 = a := h184
    have hk1 := r_keeps (t := wi t3 183 0 (nI 0)) X ha1
    rw [tA_wi, h190, show fa_fill (fun k => a (107 + k)) (tA t 190) 20 = wsr a (tA t 190) from rfl] at hk1
    have htt := ht (wr (wi t3 183 0 (nI 0)) 190 (wsr a (tA t 190))) (by rw [tA_rn (by decide)]; exact ha1) (by rw [tA_rn (by decide)]; exact h203) h204
    unfold F_X12_perform
    rw [hw0, Option.bind_some, x_rc183 X, Option.bind_some, r_noTray X, Option.bind_some, hx, tn_n (by omega), tA_wi, h202]
    simp only [fa_lit, if_true, hne, if_false, x_rc183 X, Option.bind_some, hk1, htt]
  have hor : ∀ t3, Sw (fun b => decide (b = 184)) g t3 (wr (wi (wr (wi t3 183 0 (nI 0)) 190 (wsr a (tA t 190))) 183 19 (nI wy)) 184 b) := fun t3 => Sw_wr (Sw_wi (Sw_wr (Sw_wi Sw_r (Or.inr rfl)) (Or.inr (sc_f rfl))) (Or.inr rfl)) (Or.inl rfl)
  by_cases hix : ix = 0
  · subst hix
    have hb : b = a := hz rfl
    subst hb
    have r2 : Rg 95 102 t t2 := Rg_t (Rg_o o1 (by decide) (by decide)) (Rg_o o2 (by decide) (by decide))
    have r184 : tA t2 184 = b := by rw [r2.2.1 184 (by decide)]; exact I.2.1
    have er := rf0 t2 r184 (r2.2.1 202 (by decide)) (r2.2.1 203 (by decide)) (r2.2.2 204) (r2.2.1 190 (by decide))
    have l0 : nI 0 ≤ nI 0 := by decide
    rw [if_pos l0] at cl0 er
    refine ok_n I hD cl0 r2 s2 ⟨_, er, ?_⟩
    have hww : wr (wi (wr (wi t2 183 0 (nI 0)) 190 (wsr b (tA t 190))) 183 19 (nI wy)) 184 b = wi (wr (wi t2 183 0 (nI 0)) 190 (wsr b (tA t 190))) 183 19 (nI wy) := by
      have := wr_self (t := wi (wr (wi t2 183 0 (nI 0)) 190 (wsr b (tA t 190))) 183 19 (nI wy)) (b := 184)
      rw [tA_wi, tA_rn (by decide), tA_wi, r184] at this
      exact this
    rw [hww]
    exact Sm_wi rfl (Sm_wr (sc_f rfl) (Sm_wi (a := 183) (k := 0) rfl Sm_r))
  · have l0 : ¬ nI ix ≤ nI 0 := by rw [nI_leI (by omega) (by decide)]; omega
    obtain ⟨t3, e3, r3, s3, _, h3⟩ := cl_deed (w := wsr a (tA t 190)) X I o1 s1 o2 s2 hNW.1 (Nat.le_add_right D m) (fun _ h => wsr_k h)
    have r184 : tA t3 184 = a := by rw [r3.2.1 184 (by decide)]; exact I.2.1
    have er := rf0 t3 r184 (r3.2.1 202 (by decide)) (r3.2.1 203 (by decide)) (r3.2.2 204) (r3.2.1 190 (by decide))
    have hnt := r_notes' (t := wi (wr (wi t3 183 0 (nI 0)) 190 (wsr a (tA t 190))) 183 19 (nI wy)) (b := b) (w := wsr a (tA t 190)) X (by rw [hNW.1 127 (by decide)]; exact h0.1) h0.2.1 (by rw [tA_wi, tA_rs])
    rw [if_neg l0] at cl0 er
    rw [e3, Option.bind_some] at cl0
    rw [hnt, Option.bind_some] at er
    exact ⟨nI ix, g, t3, g, _, v, _, n10 n, (nx + 1) % 10, cl0, er, rfl, rfl, rfl, rfl, IV_m (by omega) hD (IV_d I (Nat.le_add_right D m) hNW.1 hNW.2 r3 s3 h3 (Sw_wr (Sw_wi (Sw_wr (Sw_wi Sw_r (Or.inr rfl)) (Or.inr (sc_f rfl))) (Or.inr rfl)) (Or.inl rfl)) tA_rs)⟩
theorem ok_year (I : IV g t v a D n nx) (hD : D + 100 < 2 ^ 30) (sd y : Int32) : Okc (F_X11_year 69 sd y) (F_X12_year 183 sd y) g t D := by
  have X := I.1
  have C := I.2.2.1
  have W := C.1
  have hP := wP2 W
  have h0 := I.2.2.2.1.1
  have hw0 : ∀ t, wI (Em g t) 183 11 0 0 = some (Em g (wi t 183 0 (nI 0))) := fun t => x_w183_0 X
  have hw40 : ∀ h : xH, F_X12_within y.toInt64 1 40 h = some (bI (decide (1 ≤ y.toInt ∧ y.toInt ≤ 40)), h) := by
    intro h
    rw [p_within, i64]
    rfl
  have ti1 : (nI 1).toInt = 1 := rfl
  have ti40 : (nI 40).toInt = 40 := rfl
  by_cases h : 1 ≤ y.toInt ∧ y.toInt ≤ 40
  · obtain ⟨m, hm1, hm, rfl⟩ : ∃ m, 1 ≤ m ∧ m ≤ 40 ∧ y = nI m := ⟨y.toInt.toNat, by omega, by omega, Int32.toInt_inj.mp (by rw [nI_toInt (by omega)]; omega)⟩
    have hfu : m < FU := by show m < 1000000; omega
    have c1 : ¬ nI m < (1 : Int32) := show ¬ nI m < nI 1 by rw [fa_lt]; omega
    have c2 : nI m ≤ (40 : Int32) := show nI m ≤ nI 40 by rw [fa_le]; omega
    obtain ⟨t1, e1, o1, s1⟩ := k_copyP (t := t) (StS_99 X) (StS_95 X) (by decide) hP C.2.2.2.2
    have C1 := CP_s X C (Sm_99 X o1)
    obtain ⟨t2, e2, o2, s2⟩ := k_draws_l (StS_95 X) (Cv_95 C1) hm m 0 FU 0 sd t1 a D Ox_r Nq_r (Nat.le_refl D) W (by omega) C1.2.2.2.2 (by omega) hfu (Nat.le_refl 0)
    have hNW := yrs_NW m sd 0 a D W (by omega)
    have hz := yrs_0 m sd 0 a
    have rl : ∀ t3, tA t3 190 = wsr a (tA t 190) → F_X12_year_b34 FU 183 (nI m) (nI 0) (nI 0) (Em g (wr (wi t3 183 20 sd) 184 a)) = some (nI (yrs m sd 0 a).1, Em g (wr (wi t3 183 20 (yrs m sd 0 a).2.1) 184 (if (yrs m sd 0 a).1 = 0 then (yrs m sd 0 a).2.2 else psh (yrs m sd 0 a).2.2 (wsr a (tA t 190))))) := fun t3 h190 => r_year_l (t := t3) X hm h190 h0.2.1 m 0 FU 0 sd a D (by omega) hfu (Nat.le_refl 0) W (by omega) h0.1
    generalize hT : yrs m sd 0 a = T at *
    obtain ⟨ix, s', b⟩ := T
    simp only at hNW hz e2 s2 rl
    have e2' : F_X0_doByDraws v 95 sd (nI m) (Em g t1) = some (nI ix, Em g t2) := e2
    have cl0 : F_X11_year 69 sd (nI m) (Em g t) = if nI ix ≤ nI 0 then some (nI ix, Em g t2) else (F_X2_remember 103 99 (Em g t2)).bind fun z => some (nI ix, z.2) := by
      unfold F_X11_year
      rw [if_neg c1, if_pos c2]
      simp only [fa_lit, x_r69_3 X, x_r69_2 X, x_r69_4 X, c_r69 X C.2.2.2.1, z_rc (StS_99 X), e1, e2', x_rc103 X, Option.bind_some]
    have rf0 : ∀ t3, tA t3 184 = a → tA t3 190 = tA t 190 → F_X12_year 183 sd (nI m) (Em g t3) = some (nI ix, Em g (wr (wi (wr (wi t3 183 0 (nI 0)) 190 (wsr a (tA t 190))) 183 20 s') 184 (if ix = 0 then b else psh b (wsr a (tA t 190))))) := by
      intro t3 h184 h190
      have ha1 : tA (wi t3 183 0 (nI 0)) 184 = a := h184
      have hk1 := r_keeps (t := wi t3 183 0 (nI 0)) X ha1
      rw [tA_wi, h190, show fa_fill (fun k => a (107 + k)) (tA t 190) 20 = wsr a (tA t 190) from rfl] at hk1
      have hl := rl (wr (wi t3 183 0 (nI 0)) 190 (wsr a (tA t 190))) tA_rs
      have e184 : wr (wi (wr (wi t3 183 0 (nI 0)) 190 (wsr a (tA t 190))) 183 20 sd) 184 a = wi (wr (wi t3 183 0 (nI 0)) 190 (wsr a (tA t 190))) 183 20 sd := by
        have := wr_self (t := wi (wr (wi t3 183 0 (nI 0)) 190 (wsr a (tA t 190))) 183 20 sd) (b := 184)
        rw [tA_wi, tA_rn (by decide), ha1] at this
        exact this
      rw [e184] at hl
      have hw := hw40 (Em g (wi t3 183 0 (nI 0)))
      rw [decide_eq_true h] at hw
      unfold F_X12_year
      rw [hw0, Option.bind_some, hw, Option.bind_some, if_pos (show ¬ bI true = (0 : Int32) by decide), x_rc183 X, Option.bind_some, hk1, Option.bind_some, x_w183_20 X, Option.bind_some]
      exact hl
    by_cases hix : ix = 0
    · subst hix
      have hb : b = a := hz rfl
      subst hb
      have r2 : Rg 95 102 t t2 := Rg_t (Rg_o o1 (by decide) (by decide)) (Rg_o o2 (by decide) (by decide))
      have r184 : tA t2 184 = b := by rw [r2.2.1 184 (by decide)]; exact I.2.1
      have er := rf0 t2 r184 (r2.2.1 190 (by decide))
      have l0 : nI 0 ≤ nI 0 := by decide
      rw [if_pos l0] at cl0
      rw [if_pos rfl] at er
      refine ok_n I hD cl0 r2 s2 ⟨_, er, ?_⟩
      have hww : wr (wi (wr (wi t2 183 0 (nI 0)) 190 (wsr b (tA t 190))) 183 20 s') 184 b = wi (wr (wi t2 183 0 (nI 0)) 190 (wsr b (tA t 190))) 183 20 s' := by
        have := wr_self (t := wi (wr (wi t2 183 0 (nI 0)) 190 (wsr b (tA t 190))) 183 20 s') (b := 184)
        rw [tA_wi, tA_rn (by decide), tA_wi, r184] at this
        exact this
      rw [hww]
      exact Sm_wi rfl (Sm_wr (sc_f rfl) (Sm_wi (a := 183) (k := 0) rfl Sm_r))
    · have l0 : ¬ nI ix ≤ nI 0 := by rw [nI_leI (by omega) (by decide)]; omega
      obtain ⟨t3, e3, r3, s3, _, h3⟩ := cl_deed (w := wsr a (tA t 190)) X I o1 s1 o2 s2 hNW.1.1 (Nat.le_add_right D m) (fun _ h => wsr_k h)
      have r184 : tA t3 184 = a := by rw [r3.2.1 184 (by decide)]; exact I.2.1
      have er := rf0 t3 r184 (r3.2.1 190 (by decide))
      rw [if_neg l0, e3, Option.bind_some] at cl0
      rw [if_neg hix] at er
      exact ⟨nI ix, g, t3, g, _, v, _, n10 n, (nx + 1) % 10, cl0, er, rfl, rfl, rfl, rfl, IV_m (by omega) hD (IV_d I (Nat.le_add_right D m) hNW.1.1 hNW.1.2 r3 s3 h3 (Sw_wr (Sw_wi (Sw_wr (Sw_wi Sw_r (Or.inr rfl)) (Or.inr (sc_f rfl))) (Or.inr rfl)) (Or.inl rfl)) tA_rs)⟩
  · refine ok_0 (r := -nI 3) (t1 := t) (t2 := wi t 183 0 (nI 0)) I hD ?_ ?_ Sm_r (Sm_wi (a := 183) (k := 0) rfl Sm_r)
    · unfold F_X11_year
      by_cases c1 : y < nI 1
      · have c1' : y < (1 : Int32) := c1
        rw [if_pos c1']; rfl
      · have c2 : ¬ y ≤ nI 40 := by
          rw [fa_lt] at c1
          rw [fa_le]
          omega
        have c1' : ¬ y < (1 : Int32) := c1
        have c2' : ¬ y ≤ (40 : Int32) := c2
        rw [if_neg c1', if_neg c2']; rfl
    · have hw := hw40 (Em g (wi t 183 0 (nI 0)))
      rw [decide_eq_false h] at hw
      unfold F_X12_year
      rw [hw0, Option.bind_some, hw, Option.bind_some, if_neg (show ¬ ¬ bI false = (0 : Int32) by decide)]
      rfl
end XJ
