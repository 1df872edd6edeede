/-! ===== calls: image, restore ===== -/
def Gq (g g' : Sk) : Prop := g'.1 = g.1 ∧ gn g' = gn g ∧ gS g' = gS g ∧ gN g' = gN g ∧ (∀ c k, ¬ (c = 69 ∧ k = 1) → gR g' c k = gR g c k) ∧ (∀ c, c ≠ 146 → gQ g' c = gQ g c)
def g69 (g : Sk) (q : Nat) : Sk := (g.1, gn g, gS g, gN g, up2 (gR g) 69 1 (some q), gQ g)
def g146 (g : Sk) (i q : Nat) : Sk := (g.1, gn g, gS g, gN g, gR g, up1 (gQ g) 146 (va_up (gQ g 146) i (some q)))
section XG
variable {g : Sk} {t : Tb} {a : Nat → Int32}
variable {D v w m x n nx : Nat} {b c : Nat → Int32} {t' t1 t2 : Tb} {g' : Sk}
theorem Gq_69 {q : Nat} : Gq g (g69 g q) := ⟨rfl, rfl, rfl, rfl, fun c k h => by
  show up2 (gR g) 69 1 (some q) c k = gR g c k
  by_cases e : c = 69
  · exact up2_k (fun e2 => h ⟨e, e2⟩)
  · exact up2_a e, fun _ _ => rfl⟩
theorem Gq_146 {i q : Nat} : Gq g (g146 g i q) := ⟨rfl, rfl, rfl, rfl, fun _ _ _ => rfl, fun c h => by
  show up1 (gQ g) 146 _ c = gQ g c
  exact up1_n h⟩
theorem Fx_q (X : Fx g) (G : Gq g g') : Fx g' := by
  obtain ⟨h1, h2, h3, h4, h5, h6⟩ := G
  obtain ⟨x1, x2, x3, x4, x5, x6⟩ := X
  refine ⟨fun a l h => by rw [h3, h4]; exact x1 a l h, fun a k l h r => ?_, fun i hi => ?_, fun i hi => ?_, fun i hi => ?_, by rw [h2, h3, h4, h5 157 4 (by decide)]; exact x6⟩
  · rw [h5 a k (fun e => r (by rw [e.1, e.2]; rfl))]
    exact x2 a k l h r
  · rw [h6 104 (by decide)]; exact x3 i hi
  · rw [h6 145 (by decide)]; exact x4 i hi
  · rw [h6 147 (by decide)]; exact x5 i hi
theorem LwS_q (G : Gq g g') (L : LwS g w m) : LwS g' w m := by
  have hw := L.1.1
  obtain ⟨h1, h2, h3, h4, h5, h6⟩ := G
  unfold LwS
  rw [h2, h3, h4, h5 w 0 (by omega), h5 w 1 (by omega), h5 w 2 (by omega)]
  exact L
theorem VaS_q (G : Gq g g') (V : VaS g v) : VaS g' v := by
  have hv := V.1
  obtain ⟨h1, h2, h3, h4, h5, h6⟩ := G
  unfold VaS
  rw [h2, h3, h4, h5 v 5 (by omega), h5 v 6 (by omega), h5 v 7 (by omega), h5 v 8 (by omega), h5 v 9 (by omega), h5 v 10 (by omega), h5 v 11 (by omega)]
  exact V
theorem VaP_G (G : Gq g g') (V : VaS g v) (h : VaP g t v a) : VaP g' t v a := by
  have hv := V.1
  refine ⟨h.1, h.2.1, h.2.2.1, h.2.2.2.1, ?_⟩
  rw [G.2.2.2.2.1 v 12 (by omega)]
  rcases h.2.2.2.2 with q | ⟨q, w, hw, hL⟩
  · exact Or.inl q
  · exact Or.inr ⟨q, w, hw, LwS_q G hL.1, hL.2⟩
theorem im_c (hf : ∀ k, k < 1229 → b k = a k) (W : WA a D) (P : VaP g t v a) (S : StP t x (vP a) a 107) : WA b D ∧ VaP g t v b ∧ StP t x (vP b) b 107 := by
  have q : Vq a b := fun i hi => hf i (by omega)
  have hP := wP2 W
  have e : ∀ k, k < 20 → b (107 + k) = a (107 + k) := fun k hk => hf _ (by omega)
  exact ⟨WA_q q W (WB_c hP e (WA_B W)), VaP_q q W.1 P, by rw [q_vP q]; exact StP_c hP e S⟩
theorem x_imst (X : Fx g) {i : Nat} (h : i < 2) : aR (Em g t) 147 (nI i) = some (175 + 4 * i) := y_aR (m := 2) (Or.inl (x_S X 25 rfl)) (x_N X 2 rfl) (X.2.2.2.2.1 i h) (by decide) (by decide) h
theorem x_imva (X : Fx g) {i : Nat} (h : i < 2) : aQ (Em g t) 146 (nI i) = some (gQ g 146 i) := y_aQ (m := 2) (Or.inr (Or.inr (x_S X 27 rfl))) (x_N X 2 rfl) (by decide) (by decide) h
theorem x_imvs (X : Fx g) (V : VaS g v) {i : Nat} (h : i < 2) : sR (Em g t) 146 (nI i) v = some (Em (g146 g i v) t) := by
  have h1 := E_sR (sc := g.1) (n := gn g) (S := gS g) (N := gN g) (I := tI t) (A := tA t) (J := tJ t) (R := gR g) (Q := gQ g) (a := 146) (v := v) (t := 7) (ci := 9) (i := nI i) (by decide) (v_69 V) (Or.inr (Or.inr ⟨rfl, rfl⟩)) (x_S X 27 rfl) (Or.inr V.2.1) (by rw [x_N X 2 rfl]; exact nI_in h (by decide))
  rw [nI_clamp (by omega)] at h1
  exact h1
theorem x_w69 (X : Fx g) {q : Nat} : wQ (Em g t) 69 10 1 (some q) = some (Em (g69 g q) t) := E_wQ (by decide) (by decide) rfl (Or.inl (x_S X 11 rfl))
theorem within_1 (x : Int32) (h : xH) : F_X12_within x.toInt64 0 1 h = some (bI (okx x 2), h) := by
  rw [p_within, i64]
  unfold okx
  have e0 : (0 : Int64).toInt = 0 := rfl
  have e9 : (1 : Int64).toInt = 1 := rfl
  rw [e0, e9, show decide (0 ≤ x.toInt ∧ x.toInt ≤ 1) = decide (0 ≤ x.toInt ∧ x.toInt < (2 : Nat)) by
    rw [decide_eq_decide]
    omega]
theorem lt_2 (x : Int32) : (okx x 2 = false → x < nI 0 ∨ (¬ x < nI 0 ∧ ¬ x < nI 2)) := by
  intro h
  unfold okx at h
  rw [decide_eq_false_iff_not] at h
  have e0 : (nI 0).toInt = 0 := rfl
  have e2 : (nI 2).toInt = 2 := rfl
  rw [fa_lt, fa_lt]
  omega
theorem StS_im (X : Fx g) {i : Nat} (h : i < 2) : StS g (175 + 4 * i) := by
  rcases (show i = 0 ∨ i = 1 by omega) with e | e <;> subst e <;> exact StS_f X rfl
theorem r_image_l (X : Fx g) {i : Nat} (hi : i < 2) : ∀ (d k fuel : Nat), k + d = 1229 → d < fuel → F_X12_image_b20 fuel 183 (nI i) (nI k) (Em g (wr t 184 (fb_put a a (1229 * (i + 1)) k))) = some (nI 0, Em g (wa (wr t 184 (fb_put a a (1229 * (i + 1)) 1229)) 185 i (nI 1))) := by
  intro d
  induction d with
  | zero =>
    intro k fuel hk hf
    obtain ⟨f, rfl⟩ : ∃ f, fuel = f + 1 := ⟨fuel - 1, by omega⟩
    have hk : k = 1229 := by omega
    subst hk
    have e1 : vp_nar .boolean (nI 1) = nI 1 := by decide
    rw [F_X12_image_b20]
    simp (disch := omega) only [x_rc183 X, x_i183_0 X, x_w183_0 X, x_r183_1 X, x_r183_2 X, x_r183_3 X, x_r183_4 X, x_i183_5 X, x_w183_5 X, x_i183_6 X, x_w183_6 X, x_i183_7 X, x_w183_7 X, x_i183_8 X, x_w183_8 X, x_i183_9 X, x_w183_9 X, x_i183_10 X, x_w183_10 X, x_i183_11 X, x_w183_11 X, x_i183_12 X, x_w183_12 X, x_i183_13 X, x_w183_13 X, x_i183_14 X, x_w183_14 X, x_i183_15 X, x_w183_15 X, x_r183_16 X, x_r183_17 X, x_r183_18 X, x_i183_19 X, x_w183_19 X, x_i183_20 X, x_w183_20 X, x_r183_21 X, x_r183_22 X, x_r183_23 X, x_r183_24 X, x_r183_25 X, x_i183_26 X, x_w183_26 X, x_r183_27 X, x_r183_28 X, x_r183_29 X, x_i183_30 X, x_w183_30 X, x_r183_31 X, x_r183_32 X, x_r183_33 X, x_r183_34 X, x_r183_35 X, x_r183_36 X, x_a184 X, x_s184 X, x_a185 X, x_s185 X, x_a186 X, x_s186 X, x_a187 X, x_s187 X, x_a188 X, x_s188 X, x_a189 X, x_s189 X, x_a190 X, x_s190 X, x_a191 X, x_s191 X, x_a192 X, x_s192 X, x_a193 X, x_s193 X, x_a194 X, x_s194 X, x_a195 X, x_s195 X, x_a196 X, x_s196 X, x_a197 X, x_s197 X, x_a198 X, x_s198 X, x_a199 X, x_s199 X, x_a200 X, x_s200 X, x_a201 X, x_s201 X, x_a202 X, x_s202 X, x_a203 X, x_s203 X, x_a204 X, x_s204 X, Option.bind_some, ↓reduceIte, ite_not, fa_lit, nI_add, nI_mulN, nI_an, nI_sub, irm_n, nI_eq, nI_leI, nI_ltI, v_pow, v_shr, v_bit, nI_cl, nI_m1e, Nat.le_refl, e1]
  | succ d ih =>
    intro k fuel hk hf
    obtain ⟨f, rfl⟩ : ∃ f, fuel = f + 1 := ⟨fuel - 1, by omega⟩
    have hk2 : ¬ 1229 ≤ k := by omega
    have e : fb_put a a (1229 * (i + 1)) k k = a k := by rw [fb_put_out (by omega)]
    rw [F_X12_image_b20, ← ih (k + 1) f (by omega) (by omega)]
    simp (disch := omega) only [x_rc183 X, x_i183_0 X, x_w183_0 X, x_r183_1 X, x_r183_2 X, x_r183_3 X, x_r183_4 X, x_i183_5 X, x_w183_5 X, x_i183_6 X, x_w183_6 X, x_i183_7 X, x_w183_7 X, x_i183_8 X, x_w183_8 X, x_i183_9 X, x_w183_9 X, x_i183_10 X, x_w183_10 X, x_i183_11 X, x_w183_11 X, x_i183_12 X, x_w183_12 X, x_i183_13 X, x_w183_13 X, x_i183_14 X, x_w183_14 X, x_i183_15 X, x_w183_15 X, x_r183_16 X, x_r183_17 X, x_r183_18 X, x_i183_19 X, x_w183_19 X, x_i183_20 X, x_w183_20 X, x_r183_21 X, x_r183_22 X, x_r183_23 X, x_r183_24 X, x_r183_25 X, x_i183_26 X, x_w183_26 X, x_r183_27 X, x_r183_28 X, x_r183_29 X, x_i183_30 X, x_w183_30 X, x_r183_31 X, x_r183_32 X, x_r183_33 X, x_r183_34 X, x_r183_35 X, x_r183_36 X, x_a184 X, x_s184 X, x_a185 X, x_s185 X, x_a186 X, x_s186 X, x_a187 X, x_s187 X, x_a188 X, x_s188 X, x_a189 X, x_s189 X, x_a190 X, x_s190 X, x_a191 X, x_s191 X, x_a192 X, x_s192 X, x_a193 X, x_s193 X, x_a194 X, x_s194 X, x_a195 X, x_s195 X, x_a196 X, x_s196 X, x_a197 X, x_s197 X, x_a198 X, x_s198 X, x_a199 X, x_s199 X, x_a200 X, x_s200 X, x_a201 X, x_s201 X, x_a202 X, x_s202 X, x_a203 X, x_s203 X, x_a204 X, x_s204 X, Option.bind_some, ↓reduceIte, ite_not, fa_lit, nI_add, nI_mulN, nI_an, nI_sub, irm_n, nI_eq, nI_leI, nI_ltI, v_pow, v_shr, v_bit, nI_cl, nI_m1e, hk2, tA_rs, e, wa_r]
    rw [fb_put_succ]
theorem r_restore_l (X : Fx g) {i : Nat} (hi : i < 2) : ∀ (d k fuel : Nat), k + d = 1229 → d < fuel → F_X12_restore_b32 fuel 183 (nI i) (nI k) (Em g (wr t 184 (fa_fill (sgm a i) a k))) = some (nI 0, Em g (wr t 184 (upd (fa_fill (sgm a i) a 1229) 127 (nI 0)))) := by
  intro d
  induction d with
  | zero =>
    intro k fuel hk hf
    obtain ⟨f, rfl⟩ : ∃ f, fuel = f + 1 := ⟨fuel - 1, by omega⟩
    have hk : k = 1229 := by omega
    subst hk
    rw [F_X12_restore_b32]
    simp (disch := omega) only [x_rc183 X, x_i183_0 X, x_w183_0 X, x_r183_1 X, x_r183_2 X, x_r183_3 X, x_r183_4 X, x_i183_5 X, x_w183_5 X, x_i183_6 X, x_w183_6 X, x_i183_7 X, x_w183_7 X, x_i183_8 X, x_w183_8 X, x_i183_9 X, x_w183_9 X, x_i183_10 X, x_w183_10 X, x_i183_11 X, x_w183_11 X, x_i183_12 X, x_w183_12 X, x_i183_13 X, x_w183_13 X, x_i183_14 X, x_w183_14 X, x_i183_15 X, x_w183_15 X, x_r183_16 X, x_r183_17 X, x_r183_18 X, x_i183_19 X, x_w183_19 X, x_i183_20 X, x_w183_20 X, x_r183_21 X, x_r183_22 X, x_r183_23 X, x_r183_24 X, x_r183_25 X, x_i183_26 X, x_w183_26 X, x_r183_27 X, x_r183_28 X, x_r183_29 X, x_i183_30 X, x_w183_30 X, x_r183_31 X, x_r183_32 X, x_r183_33 X, x_r183_34 X, x_r183_35 X, x_r183_36 X, x_a184 X, x_s184 X, x_a185 X, x_s185 X, x_a186 X, x_s186 X, x_a187 X, x_s187 X, x_a188 X, x_s188 X, x_a189 X, x_s189 X, x_a190 X, x_s190 X, x_a191 X, x_s191 X, x_a192 X, x_s192 X, x_a193 X, x_s193 X, x_a194 X, x_s194 X, x_a195 X, x_s195 X, x_a196 X, x_s196 X, x_a197 X, x_s197 X, x_a198 X, x_s198 X, x_a199 X, x_s199 X, x_a200 X, x_s200 X, x_a201 X, x_s201 X, x_a202 X, x_s202 X, x_a203 X, x_s203 X, x_a204 X, x_s204 X, Option.bind_some, ↓reduceIte, ite_not, fa_lit, nI_add, nI_mulN, nI_an, nI_sub, irm_n, nI_eq, nI_leI, nI_ltI, v_pow, v_shr, v_bit, nI_cl, nI_m1e, Nat.le_refl, wa_r]
  | succ d ih =>
    intro k fuel hk hf
    obtain ⟨f, rfl⟩ : ∃ f, fuel = f + 1 := ⟨fuel - 1, by omega⟩
    have hk2 : ¬ 1229 ≤ k := by omega
    have e : fa_fill (sgm a i) a k (1229 * (i + 1) + k) = sgm a i k := by rw [fa_fill_out (by omega)]; rfl
    rw [F_X12_restore_b32, ← ih (k + 1) f (by omega) (by omega)]
    simp (disch := omega) only [x_rc183 X, x_i183_0 X, x_w183_0 X, x_r183_1 X, x_r183_2 X, x_r183_3 X, x_r183_4 X, x_i183_5 X, x_w183_5 X, x_i183_6 X, x_w183_6 X, x_i183_7 X, x_w183_7 X, x_i183_8 X, x_w183_8 X, x_i183_9 X, x_w183_9 X, x_i183_10 X, x_w183_10 X, x_i183_11 X, x_w183_11 X, x_i183_12 X, x_w183_12 X, x_i183_13 X, x_w183_13 X, x_i183_14 X, x_w183_14 X, x_i183_15 X, x_w183_15 X, x_r183_16 X, x_r183_17 X, x_r183_18 X, x_i183_19 X, x_w183_19 X, x_i183_20 X, x_w183_20 X, x_r183_21 X, x_r183_22 X, x_r183_23 X, x_r183_24 X, x_r183_25 X, x_i183_26 X, x_w183_26 X, x_r183_27 X, x_r183_28 X, x_r183_29 X, x_i183_30 X, x_w183_30 X, x_r183_31 X, x_r183_32 X, x_r183_33 X, x_r183_34 X, x_r183_35 X, x_r183_36 X, x_a184 X, x_s184 X, x_a185 X, x_s185 X, x_a186 X, x_s186 X, x_a187 X, x_s187 X, x_a188 X, x_s188 X, x_a189 X, x_s189 X, x_a190 X, x_s190 X, x_a191 X, x_s191 X, x_a192 X, x_s192 X, x_a193 X, x_s193 X, x_a194 X, x_s194 X, x_a195 X, x_s195 X, x_a196 X, x_s196 X, x_a197 X, x_s197 X, x_a198 X, x_s198 X, x_a199 X, x_s199 X, x_a200 X, x_s200 X, x_a201 X, x_s201 X, x_a202 X, x_s202 X, x_a203 X, x_s203 X, x_a204 X, x_s204 X, Option.bind_some, ↓reduceIte, ite_not, fa_lit, nI_add, nI_mulN, nI_an, nI_sub, irm_n, nI_eq, nI_leI, nI_ltI, v_pow, v_shr, v_bit, nI_cl, nI_m1e, hk2, tA_rs, e, wa_r]
    rw [fa_fill_succ]
theorem ok_image (I : IV g t v a D n nx) (hD : D + 100 < 2 ^ 30) (x : Int32) : Okc (F_X11_image 69 x) (F_X12_image 183 x) g t D := by
  have X := I.1
  have C := I.2.2.1
  have W := C.1
  have V := C.2.1
  have hP := wP2 W
  have hw0 : ∀ t, wI (Em g t) 183 11 0 0 = some (Em g (wi t 183 0 (nI 0))) := fun t => x_w183_0 X
  rcases okx_c x 2 (by decide) with hx | ⟨hx, i, hi, rfl⟩
  · refine ok_0 (r := -nI 2) (t1 := t) (t2 := wi t 183 0 (nI 0)) I hD ?_ ?_ Sm_r (Sm_wi (a := 183) (k := 0) rfl Sm_r)
    · unfold F_X11_image
      rcases lt_2 x hx with c | ⟨c1, c2⟩
      · simp only [fa_lit, c, if_true]
      · simp only [fa_lit, c1, c2, if_false]
    · unfold F_X12_image
      rw [hw0, Option.bind_some, within_1, Option.bind_some, hx, if_neg (show ¬ ¬ bI false = (0 : Int32) by decide)]
      rfl
  · have G : Gq g (g146 g i v) := Gq_146
    have X2 : Fx (g146 g i v) := Fx_q X G
    have hv := V.1
    obtain ⟨t1, e1, o1, s1⟩ := k_copyP (g := g146 g i v) (t := t) (StS_im X2 hi) (StS_95 X2) (by omega) hP C.2.2.2.2
    have c1 : ¬ i < 0 := by omega
    have hr := r_image_l (g := g146 g i v) (t := wi t1 183 0 (nI 0)) (a := a) X2 hi 1229 0 FU rfl (by decide)
    have r184 : tA t1 184 = a := by rw [o1.2.1 184 (by omega) (by omega) (by omega)]; exact I.2.1
    have e184 : wr (wi t1 183 0 (nI 0)) 184 (fb_put a a (1229 * (i + 1)) 0) = wi t1 183 0 (nI 0) := by
      have := wr_self (t := wi t1 183 0 (nI 0)) (b := 184)
      rw [tA_wi, r184] at this
      rw [fb_put_0]
      exact this
    rw [e184] at hr
    have hq : Vq a (fb_put a a (1229 * (i + 1)) 1229) := fun j hj => fb_put_out (by omega)
    have hlo : ∀ j, j < 1229 → fb_put a a (1229 * (i + 1)) 1229 j = a j := fun j hj => fb_put_out (by omega)
    have hsi : ∀ k, k < 1229 → sgm (fb_put a a (1229 * (i + 1)) 1229) i k = a k := fun k hk => by
      unfold sgm
      rw [fb_put_in (by omega) (by omega), show 1229 * (i + 1) + k - 1229 * (i + 1) = k by omega]
    have hsj : ∀ j, j < 2 → j ≠ i → ∀ k, k < 1229 → sgm (fb_put a a (1229 * (i + 1)) 1229) j k = sgm a j k := fun j hj hne k hk => by
      unfold sgm
      rw [fb_put_out (by omega)]
    generalize hbb : fb_put a a (1229 * (i + 1)) 1229 = bb at hr hq hlo hsi hsj
    have s2 : Sw (fun c => decide ((175 + 4 * i ≤ c ∧ c ≤ 178 + 4 * i) ∨ c = 184 ∨ c = 185)) (g146 g i v) t (wa (wr (wi t1 183 0 (nI 0)) 184 bb) 185 i (nI 1)) := by
      rw [wa_wr]
      exact Sw_wr (Sw_wr (Sw_wi (Sw_g (Rg_o (lo := 175 + 4 * i) (hi := 178 + 4 * i) o1 (by omega) (by omega)) (fun b h1 h2 => by rw [decide_eq_true_eq]; omega)) (Or.inr rfl)) (Or.inl (by rw [decide_eq_true_eq]; omega))) (Or.inl (by rw [decide_eq_true_eq]; omega))
    have h185 : ∀ j, tA (wa (wr (wi t1 183 0 (nI 0)) 184 bb) 185 i (nI 1)) 185 j = if j = i then nI 1 else tA t 185 j := fun j => by
      rw [tA_as, tA_rn (by decide), tA_wi, o1.2.1 185 (by omega) (by omega) (by omega)]
      by_cases e : j = i
      · rw [if_pos e, e, upd_s]
      · rw [if_neg e, upd_n e]
    have V2 : VaS (g146 g i v) v := VaS_q G V
    have P2 : VaP (g146 g i v) (wa (wr (wi t1 183 0 (nI 0)) 184 bb) 185 i (nI 1)) v a := VaP_w V2 (fun b hb => by rw [decide_eq_false_iff_not]; omega) (VaP_G G V C.2.2.1) s2
    have S2 : StP (wa (wr (wi t1 183 0 (nI 0)) 184 bb) 185 i (nI 1)) 95 (vP a) a 107 := StP_w rfl rfl (sc_x X2 rfl) (sc_x X2 rfl) (sc_x X2 rfl) (fun b h1 h2 => by rw [decide_eq_false_iff_not]; omega) C.2.2.2.2 s2
    have main := im_c hlo W P2 S2
    have HH : HP (wa (wr (wi t1 183 0 (nI 0)) 184 bb) 185 i (nI 1)) bb D n nx := by
      have H1 := HP_w X2 (fun b h1 h2 => by rw [decide_eq_false_iff_not]; omega) I.2.2.2.1 s2
      refine ⟨⟨by rw [hlo 127 (by decide)]; exact H1.1.1, H1.1.2⟩, H1.2.1, fun j hj => ?_⟩
      have hj10 := H1.1.2.1
      have e20 : ∀ k, k < 20 → bb (128 + 20 * j + k) = a (128 + 20 * j + k) := fun k hk => hlo _ (by omega)
      rw [q_vN hq, q_vK hq, q_vP hq]
      exact ⟨WB_c hP e20 (H1.2.2 j hj).1, StP_c hP e20 (H1.2.2 j hj).2⟩
    have MM : Im (g146 g i v) (wa (wr (wi t1 183 0 (nI 0)) 184 bb) 185 i (nI 1)) bb D := by
      intro j hj
      rw [h185]
      by_cases e : j = i
      · subst e
        rw [if_pos rfl]
        have S3 : StP (wa (wr (wi t1 183 0 (nI 0)) 184 bb) 185 j (nI 1)) (175 + 4 * j) (vP a) a 107 := by
          have hs1 : StP t1 (175 + 4 * j) (vP a) a 107 := s1
          unfold StP
          rw [tI_wa, tI_wr, tI_ia (by omega), tI_ia (by omega), tA_an (by omega), tA_rn (by omega), tA_wi, tA_an (by omega), tA_rn (by omega), tA_wi, tA_an (by omega), tA_rn (by omega), tA_wi]
          exact hs1
        have m := im_c hsi W P2 S3
        refine Or.inr ⟨rfl, v, ?_, V2, m.1, m.2.1, m.2.2⟩
        show up1 (gQ g) 146 (va_up (gQ g 146) j (some v)) 146 j = some v
        rw [up1_s, va_up_self]
      · rw [if_neg e]
        have hgq : gQ (g146 g i v) 146 j = gQ g 146 j := by
          show up1 (gQ g) 146 (va_up (gQ g 146) i (some v)) 146 j = gQ g 146 j
          rw [up1_s, va_up_ne _ _ e]
        rw [hgq]
        rcases I.2.2.2.2.2.1 j hj with q | ⟨q, v', h1, h2, h3, h4, h5⟩
        · exact Or.inl q
        · have V3 := VaS_q G h2
          have m := im_c (g := g146 g i v) (t := wa (wr (wi t1 183 0 (nI 0)) 184 bb) 185 i (nI 1)) (hsj j hj e) h3 (VaP_w V3 (fun b hb => by rw [decide_eq_false_iff_not]; omega) (VaP_G G h2 h4) s2) (StP_f X2 (by omega) (by omega) (fun b q1 q2 => by rw [decide_eq_false_iff_not]; omega) h5 s2)
          exact Or.inr ⟨q, v', h1, V3, m.1, m.2.1, m.2.2⟩
    have J2 : IV (g146 g i v) (wa (wr (wi t1 183 0 (nI 0)) 184 bb) 185 i (nI 1)) v bb D n nx := ⟨X2, by rw [tA_an (by decide), tA_rs], ⟨main.1, V2, main.2.1, by rw [← C.2.2.2.1]; rfl, main.2.2⟩, HH, Tr_w X2 (fun b hb => by rw [decide_eq_false_iff_not]; omega) I.2.2.2.2.1 s2, MM, Rd_w X2 (fun b hb => by rw [decide_eq_false_iff_not]; omega) I.2.2.2.2.2.2 s2⟩
    refine ⟨nI 0, g146 g i v, t1, g146 g i v, wa (wr (wi t1 183 0 (nI 0)) 184 bb) 185 i (nI 1), v, bb, n, nx, ?_, ?_, rfl, rfl, rfl, rfl, IV_m (by omega) hD J2⟩
    · unfold F_X11_image
      simp (disch := omega) only [fa_lit, nI_ltI, c1, hi, if_false, if_true, x_r69_6 X, c_r69 X C.2.2.2.1, x_imvs X V, x_r69_7 X2, x_imst X2, x_r69_2 X2, z_rc (StS_im X2 hi), e1, Option.bind_some]
    · have hw1 : wI (Em (g146 g i v) t1) 183 11 0 0 = some (Em (g146 g i v) (wi t1 183 0 (nI 0))) := x_w183_0 X2
      unfold F_X12_image
      rw [hw1, Option.bind_some, within_1, Option.bind_some, hx, if_pos (show ¬ bI true = (0 : Int32) by decide)]
      exact hr
theorem ok_restore (I : IV g t v a D n nx) (hD : D + 100 < 2 ^ 30) (x : Int32) : Okc (F_X11_restore 69 x) (F_X12_restore 183 x) g t D := by
  have X := I.1
  have hw0 : ∀ t, wI (Em g t) 183 11 0 0 = some (Em g (wi t 183 0 (nI 0))) := fun t => x_w183_0 X
  rcases okx_c x 2 (by decide) with hx | ⟨hx, i, hi, rfl⟩
  · refine ok_0 (r := -nI 2) (t1 := t) (t2 := wi t 183 0 (nI 0)) I hD ?_ ?_ Sm_r (Sm_wi (a := 183) (k := 0) rfl Sm_r)
    · unfold F_X11_restore
      rcases lt_2 x hx with c | ⟨c1, c2⟩
      · simp only [fa_lit, c, if_true]
      · simp only [fa_lit, c1, c2, if_false]
    · unfold F_X12_restore
      rw [hw0, Option.bind_some, within_1, Option.bind_some, hx, if_neg (show ¬ ¬ bI false = (0 : Int32) by decide)]
      rfl
  · have c1 : ¬ i < 0 := by omega
    rcases I.2.2.2.2.2.1 i hi with ⟨q1, q2⟩ | ⟨q, v', h1, h2, h3, h4, h5⟩
    · refine ok_0 (r := -nI 5) (t1 := t) (t2 := wi t 183 0 (nI 0)) I hD ?_ ?_ Sm_r (Sm_wi (a := 183) (k := 0) rfl Sm_r)
      · unfold F_X11_restore
        simp (disch := omega) only [fa_lit, nI_ltI, c1, hi, if_false, if_true, x_r69_6 X, x_imva X, q2, Option.bind_some]
      · unfold F_X12_restore
        have e : tA (wi t 183 0 (nI 0)) 185 i = nI 0 := q1
        rw [hw0, Option.bind_some, within_1, Option.bind_some, hx, if_pos (show ¬ bI true = (0 : Int32) by decide), x_r183_2 X, Option.bind_some, x_a185 X hi, Option.bind_some, e, if_neg (show ¬ ¬ nI 0 = (0 : Int32) by decide)]
        rfl
    · have G : Gq g (g69 g v') := Gq_69
      have X2 : Fx (g69 g v') := Fx_q X G
      have hP := wP2 h3
      have V2 := VaS_q G h2
      obtain ⟨t1, e1, o1, s1⟩ := k_copyP (g := g69 g v') (t := t) (StS_95 X2) (StS_im X2 hi) (by omega) hP h5
      have r184 : tA t1 184 = a := by rw [o1.2.1 184 (by decide) (by decide) (by decide)]; exact I.2.1
      have hr := r_restore_l (g := g69 g v') (t := wi (wi t1 103 2 (nI 0)) 183 0 (nI 0)) (a := a) X2 hi 1229 0 FU rfl (by decide)
      have e184 : wr (wi (wi t1 103 2 (nI 0)) 183 0 (nI 0)) 184 (fa_fill (sgm a i) a 0) = wi (wi t1 103 2 (nI 0)) 183 0 (nI 0) := by
        have := wr_self (t := wi (wi t1 103 2 (nI 0)) 183 0 (nI 0)) (b := 184)
        rw [tA_wi, tA_wi, r184] at this
        rw [fa_fill_0]
        exact this
      rw [e184] at hr
      have hlo : ∀ j, j < 1229 → j ≠ 127 → upd (fa_fill (sgm a i) a 1229) 127 (nI 0) j = sgm a i j := fun j hj hne => by rw [upd_n hne, fa_fill_in hj]
      have hhi : ∀ j, 1229 ≤ j → upd (fa_fill (sgm a i) a 1229) 127 (nI 0) j = a j := fun j hj => by rw [upd_n (by omega), fa_fill_out hj]
      have h127 : upd (fa_fill (sgm a i) a 1229) 127 (nI 0) 127 = nI 0 := upd_s
      generalize hbb : upd (fa_fill (sgm a i) a 1229) 127 (nI 0) = bb at hr hlo hhi h127
      have hq : Vq (sgm a i) bb := fun j hj => hlo j (by omega) (by omega)
      have s2 : Sw Pd (g69 g v') t (wr (wi (wi t1 103 2 (nI 0)) 183 0 (nI 0)) 184 bb) := Sw_wr (Sw_wi (Sw_wi (Sw_g (Rg_o (lo := 95) (hi := 98) o1 (by decide) (by decide)) (fun b h1 h2 => by unfold Pd; rw [decide_eq_true_eq]; omega)) (Or.inl rfl)) (Or.inr rfl)) (Or.inl rfl)
      have e20 : ∀ k, k < 20 → bb (107 + k) = sgm a i (107 + k) := fun k hk => hlo _ (by omega) (by omega)
      have S2 : StP (wr (wi (wi t1 103 2 (nI 0)) 183 0 (nI 0)) 184 bb) 95 (vP (sgm a i)) (sgm a i) 107 := by
        unfold StP
        rw [tI_wr, tI_ia (by decide), tI_ia (by decide), tI_ia (by decide), tI_ia (by decide), tA_rn (by decide), tA_rn (by decide), tA_rn (by decide), tA_wi, tA_wi]
        exact s1
      have J2 : IV (g69 g v') (wr (wi (wi t1 103 2 (nI 0)) 183 0 (nI 0)) 184 bb) v' bb D 0 nx := by
        refine ⟨X2, tA_rs, ⟨WA_q hq h3 (WB_c hP e20 (WA_B h3)), V2, VaP_q hq h3.1 (VaP_w V2 (fun b hb => Pd_84 (by omega) (by omega)) (VaP_G G h2 h4) s2), ?_, ?_⟩, ⟨⟨h127, by decide, I.2.2.2.1.1.2.2⟩, ⟨?_, ?_⟩, fun j hj => absurd hj (by omega)⟩, Tr_w X2 (fun b hb => Pd_84 (by omega) (by omega)) I.2.2.2.2.1 s2, ?_, Rd_w X2 (fun b hb => Pd_84 (by omega) (by omega)) I.2.2.2.2.2.2 s2⟩
        · show up2 (gR g) 69 1 (some v') 69 1 = some v'
          exact up2_s
        · rw [q_vP hq]
          exact StP_c hP e20 S2
        · rw [tI_wr, tI_ia (by decide), tI_ik (by decide), o1.1 103 1 (by decide)]
          exact I.2.2.2.1.2.1.1
        · rw [tI_wr, tI_ia (by decide), tI_is]
        · have M2 : Im (g69 g v') t a D := by
            intro j hj
            rcases I.2.2.2.2.2.1 j hj with q | ⟨q, v2, k1, k2, k3, k4, k5⟩
            · exact Or.inl q
            · exact Or.inr ⟨q, v2, k1, VaS_q G k2, k3, VaP_G G k2 k4, k5⟩
          exact Im_w X2 (fun b hb => Pd_84 (by omega) (by omega)) (Nat.le_refl D) h3.2.2 hhi M2 s2
      refine ⟨nI 0, g69 g v', wi t1 103 2 (nI 0), g69 g v', wr (wi (wi t1 103 2 (nI 0)) 183 0 (nI 0)) 184 bb, v', bb, 0, nx, ?_, ?_, rfl, rfl, rfl, rfl, IV_m (by omega) hD J2⟩
      · unfold F_X11_restore F_X2_forget
        simp (disch := omega) only [fa_lit, nI_ltI, c1, hi, if_false, if_true, x_r69_6 X, x_imva X, h1, x_w69 X, x_r69_7 X2, x_imst X2, x_r69_2 X2, z_rc (StS_95 X2), e1, x_r69_4 X2, x_rc103 X2, x_w103_2 X2, Option.bind_some]
      · have hw1 : ∀ t, wI (Em (g69 g v') t) 183 11 0 0 = some (Em (g69 g v') (wi t 183 0 (nI 0))) := fun t => x_w183_0 X2
        have e : tA (wi (wi t1 103 2 (nI 0)) 183 0 (nI 0)) 185 i = nI 1 := by rw [tA_wi, tA_wi, o1.2.1 185 (by decide) (by decide) (by decide)]; exact q
        unfold F_X12_restore
        rw [hw1, Option.bind_some, within_1, Option.bind_some, hx, if_pos (show ¬ bI true = (0 : Int32) by decide), x_r183_2 X2, Option.bind_some, x_a185 X2 hi, Option.bind_some, e, if_pos (show ¬ nI 1 = (0 : Int32) by decide)]
        exact hr
end XG
