/-! ===== calls: days, undo ===== -/
section XZ3
variable {g : Sk} {t : Tb} {a : Nat → Int32}
variable {D v x n nx : Nat} {b c w : Nat → Int32} {t' t1 t2 : Tb}
theorem CP_95 {D' : Nat} (C : CP g t v b D) (o : Ox 95 t t') (hN : Nq b c) (W : WA c D') (S : StP t' 95 (vP c) c 107) : CP g t' v c D' := ⟨W, C.2.1, VaP_q (Nq_V hN) C.1.1 (VaP_o C.2.1 (Or.inl rfl) C.2.2.1 o), C.2.2.2.1, S⟩
theorem Nq_dy : Nq b (dyr b) := Nq_u (Nq_u Nq_r (by decide) (by decide)) (by decide) (by decide)
theorem dyN_N : ∀ (d : Nat) (b : Nat → Int32), Nq b (dyN d b)
  | 0, _ => Nq_r
  | d + 1, b => Nq_t Nq_dy (dyN_N d (dyr b))
theorem dyN_W : ∀ (d : Nat) (b : Nat → Int32) (D : Nat), WA b D → D + d < 2 ^ 30 → WA (dyN d b) (D + d)
  | 0, _, _, W, _ => W
  | d + 1, b, D, W, h => by
    have := dyN_W d (dyr b) (D + 1) (WA_dy W (by omega)) (by omega)
    rw [show D + (d + 1) = D + 1 + d by omega]
    exact this
theorem vFo_dy (W : WA b D) : vFo (dyr b) = vFo b ||| mk (hit b) (vP b) := by
  have hP := wP2 W
  have hF : vFo b ||| mk (hit b) (vP b) < 2 ^ vP b := Nat.or_lt_two_pow (wFo2 W) (mk_lt _ _)
  have hF3 := p_31 hF (by omega)
  show tn (dyr b 108) = _
  unfold dyr
  rw [upd_n (by decide), upd_s, tn_n hF3]
theorem k_days_l (X : Fx g) {m s0 : Nat} (hm : m ≤ 99) : ∀ (d k fuel : Nat) (t : Tb) (b : Nat → Int32) (D : Nat), CP g t v b D → D + d < 2 ^ 30 → k + d = m → d < fuel → (∀ i, s0.testBit i = true → (vFo b).testBit i = true) → ∃ t', F_X11_days_b29 fuel 69 (nI m) (nI (an_ (vFo b) s0)) (nI k) (Em g t) = some (nI (an_ (vFo (dyN d b)) s0), Em g t') ∧ Ox 95 t t' ∧ CP g t' v (dyN d b) (D + d) := by
  intro d
  induction d with
  | zero =>
    intro k fuel t b D C hD hk hf hs
    obtain ⟨f, rfl⟩ : ∃ f, fuel = f + 1 := ⟨fuel - 1, by omega⟩
    have hk : k = m := by omega
    subst hk
    refine ⟨t, ?_, Ox_r, C⟩
    rw [F_X11_days_b29]
    simp (disch := omega) only [Option.bind_some, ↓reduceIte, ite_not, fa_lit, nI_add, nI_mulN, nI_an, nI_sub, irm_n, nI_eq, nI_leI, nI_ltI, v_pow, v_shr, v_bit, nI_cl, nI_m1e, Nat.le_refl]
    rfl
  | succ d ih =>
    intro k fuel t b D C hD hk hf hs
    obtain ⟨f, rfl⟩ : ∃ f, fuel = f + 1 := ⟨fuel - 1, by omega⟩
    have hk2 : ¬ m ≤ k := by omega
    have W := C.1
    obtain ⟨t1, e1, o1, s1⟩ := k_day C Vq_r W (StS_95 X) C.2.2.2.2
    have W1 := WA_dy W (by omega)
    have C1 : CP g t1 v (dyr b) (D + 1) := CP_95 C o1 Nq_dy W1 (by rw [q_vP (Nq_V Nq_dy)]; exact s1)
    have hfo := vFo_dy W
    obtain ⟨t2, e2, o2, C2⟩ := ih (k + 1) f t1 (dyr b) (D + 1) C1 (by omega) (by omega) (by omega) (fun i hi => by
      rw [hfo, Nat.testBit_or, hs i hi]
      rfl)
    refine ⟨t2, ?_, Ox_t o1 o2, by rw [show D + (d + 1) = D + 1 + d by omega]; exact C2⟩
    rw [F_X11_days_b29]
    have eor : nI (an_ (vFo b) s0) ||| nI (an_ (mk (hit b) (vP b)) (vFo b)) = nI (an_ (vFo (dyr b)) s0) := by rw [fa_or, hfo, an_more _ _ _ hs]
    simp (disch := omega) only [Option.bind_some, ↓reduceIte, ite_not, fa_lit, nI_add, nI_mulN, nI_an, nI_sub, irm_n, nI_eq, nI_leI, nI_ltI, v_pow, v_shr, v_bit, nI_cl, nI_m1e, x_rc69 X, x_r69_0 X, x_r69_2 X, x_r69_3 X, x_r69_4 X, x_r69_5 X, x_r69_6 X, x_r69_7 X, x_r69_8 X, x_r69_9 X, x_r69_10 X, x_r69_11 X, c_r69 X C.2.2.2.1, hk2, e1, eor]
    exact e2
theorem r_days_l (X : Fx g) {m s0 : Nat} (hm : m ≤ 99) (hs0 : s0 < 64) (hw : tA t 190 = w) (hw1 : w 1 = nI s0) (hn : n ≤ 10) : ∀ (d k fuel : Nat) (b : Nat → Int32) (D : Nat), WA b D → D + d < 2 ^ 30 → k + d = m → d < fuel → b 127 = nI n → F_X12_days_b26 fuel 183 (nI m) (nI k) (Em g (wr t 184 b)) = some (nI (an_ (vFo (dyN d b)) s0), Em g (wr t 184 (psh (dyN d b) w))) := by
  intro d
  induction d with
  | zero =>
    intro k fuel b D W hD hk hf hb
    obtain ⟨f, rfl⟩ : ∃ f, fuel = f + 1 := ⟨fuel - 1, by omega⟩
    have hk : k = m := by omega
    subst hk
    have h64 := p64 (wFo2 W) (wP2 W)
    have e8 : psh b w 108 = nI (vFo b) := by rw [psh_o hb hn (by decide)]; exact wFo W
    rw [F_X12_days_b26]
    simp (disch := omega) only [x_rc183 X, x_i183_0 X, x_w183_0 X, x_r183_1 X, x_r183_2 X, x_r183_3 X, x_r183_4 X, x_i183_5 X, x_w183_5 X, x_i183_6 X, x_w183_6 X, x_i183_7 X, x_w183_7 X, x_i183_8 X, x_w183_8 X, x_i183_9 X, x_w183_9 X, x_i183_10 X, x_w183_10 X, x_i183_11 X, x_w183_11 X, x_i183_12 X, x_w183_12 X, x_i183_13 X, x_w183_13 X, x_i183_14 X, x_w183_14 X, x_i183_15 X, x_w183_15 X, x_r183_16 X, x_r183_17 X, x_r183_18 X, x_i183_19 X, x_w183_19 X, x_i183_20 X, x_w183_20 X, x_r183_21 X, x_r183_22 X, x_r183_23 X, x_r183_24 X, x_r183_25 X, x_i183_26 X, x_w183_26 X, x_r183_27 X, x_r183_28 X, x_r183_29 X, x_i183_30 X, x_w183_30 X, x_r183_31 X, x_r183_32 X, x_r183_33 X, x_r183_34 X, x_r183_35 X, x_r183_36 X, x_a184 X, x_s184 X, x_a185 X, x_s185 X, x_a186 X, x_s186 X, x_a187 X, x_s187 X, x_a188 X, x_s188 X, x_a189 X, x_s189 X, x_a190 X, x_s190 X, x_a191 X, x_s191 X, x_a192 X, x_s192 X, x_a193 X, x_s193 X, x_a194 X, x_s194 X, x_a195 X, x_s195 X, x_a196 X, x_s196 X, x_a197 X, x_s197 X, x_a198 X, x_s198 X, x_a199 X, x_s199 X, x_a200 X, x_s200 X, x_a201 X, x_s201 X, x_a202 X, x_s202 X, x_a203 X, x_s203 X, x_a204 X, x_s204 X, Option.bind_some, ↓reduceIte, ite_not, fa_lit, nI_add, nI_mulN, nI_an, nI_sub, irm_n, nI_eq, nI_leI, nI_ltI, v_pow, v_shr, v_bit, nI_cl, nI_m1e, Nat.le_refl, r_notes' X hb hn hw, tA_rs, tA_rn, e8, hw, hw1, an_c _ h64 _ hs0]
    rfl
  | succ d ih =>
    intro k fuel b D W hD hk hf hb
    obtain ⟨f, rfl⟩ : ∃ f, fuel = f + 1 := ⟨fuel - 1, by omega⟩
    have hk2 : ¬ m ≤ k := by omega
    have hg := r_goes (t := wr t 184 b) X W tA_rs
    rw [wr_wr] at hg
    rw [F_X12_days_b26]
    simp (disch := omega) only [x_rc183 X, Option.bind_some, ↓reduceIte, ite_not, fa_lit, nI_add, nI_mulN, nI_an, nI_sub, irm_n, nI_eq, nI_leI, nI_ltI, v_pow, v_shr, v_bit, nI_cl, nI_m1e, hk2, hg]
    exact ih (k + 1) f (dyr b) (D + 1) (WA_dy W (by omega)) (by omega) (by omega) (by omega) (by rw [Nq_dy 127 (by decide)]; exact hb)
theorem ok_days (I : IV g t v a D n nx) (hD : D + 100 < 2 ^ 30) (x : Int32) : Okc (F_X11_days 69 x) (F_X12_days 183 x) g t D := by
  have X := I.1
  have C := I.2.2.1
  have W := C.1
  have hP := wP2 W
  have h0 := I.2.2.2.1.1
  have hw99 : ∀ h : xH, F_X12_within x.toInt64 1 99 h = some (bI (decide (1 ≤ x.toInt ∧ x.toInt ≤ 99)), h) := by
    intro h
    rw [p_within, i64]
    rfl
  have ti1 : (nI 1).toInt = 1 := rfl
  have ti99 : (nI 99).toInt = 99 := rfl
  by_cases h : 1 ≤ x.toInt ∧ x.toInt ≤ 99
  · obtain ⟨m, hm1, hm, rfl⟩ : ∃ m, 1 ≤ m ∧ m ≤ 99 ∧ x = nI m := ⟨x.toInt.toNat, by omega, by omega, Int32.toInt_inj.mp (by rw [nI_toInt (by omega)]; omega)⟩
    have hfu : m < FU := by show m < 1000000; omega
    have hN := dyN_N m a
    have W2 := dyN_W m a D W (by omega)
    have H := I.2.2.2.1
    obtain ⟨t1, e1, r1, h1⟩ := k_remember (b := dyN m a) (w := wsr a (tA t 190)) X (HP_m (Nat.le_add_right D m) H) hP (Or.inl rfl) C.2.2.2.2 (WB_m (Nat.le_add_right D m) (WA_B W)) (fun _ h => wsr_k h) hN
    have C1 : CP g t1 v a D := CP_w (P := fun b => decide (103 ≤ b ∧ b ≤ 144)) X (fun b hb => by rw [decide_eq_false_iff_not]; omega) C (Sw_g r1 (fun b h1 h2 => by rw [decide_eq_true_eq]; omega))
    obtain ⟨t2, e2, o2, C2⟩ := k_days_l (s0 := vFo a) X hm m 0 FU t1 a D C1 (by omega) (by omega) hfu (fun _ h => h)
    rw [an_self] at e2
    have r2 : Rg 95 144 t t2 := Rg_t (Rg_w r1 (by decide) (by decide)) (Rg_o o2 (by decide) (by decide))
    have h2 : HP t2 (psh (dyN m a) (wsr a (tA t 190))) (D + m) (n10 n) ((nx + 1) % 10) := by
      refine ⟨h1.1, ⟨?_, ?_⟩, fun j hj => ⟨(h1.2.2 j hj).1, StP_o (by omega) (h1.2.2 j hj).2 o2⟩⟩
      · rw [o2.1 103 1 (by decide)]; exact h1.2.1.1
      · rw [o2.1 103 2 (by decide)]; exact h1.2.1.2
    have ep : vP (dyN m a) = vP a := q_vP (Nq_V hN)
    have s2 : StP t2 95 (vP a) (dyN m a) 107 := by rw [← ep]; exact C2.2.2.2.2
    have r184 : tA t2 184 = a := by rw [r2.2.1 184 (by decide)]; exact I.2.1
    have r190 : tA t2 190 = tA t 190 := r2.2.1 190 (by decide)
    refine ⟨nI (an_ (vFo (dyN m a)) (vFo a)), g, t2, g, wr (wr (wi t2 183 0 (nI 0)) 190 (wsr a (tA t 190))) 184 (psh (dyN m a) (wsr a (tA t 190))), v, _, n10 n, (nx + 1) % 10, ?_, ?_, rfl, rfl, rfl, rfl, IV_m (by omega) hD (IV_d I (Nat.le_add_right D m) hN W2 r2 s2 h2 (Sw_wr (Sw_wr (Sw_wi Sw_r (Or.inr rfl)) (Or.inr (sc_f rfl))) (Or.inl rfl)) tA_rs)⟩
    · have c1 : ¬ nI m < (1 : Int32) := show ¬ nI m < nI 1 by rw [fa_lt]; omega
      have c2 : nI m ≤ (99 : Int32) := show nI m ≤ nI 99 by rw [fa_le]; omega
      unfold F_X11_days
      rw [if_neg c1, if_pos c2, x_r69_4 X, Option.bind_some, x_r69_2 X, Option.bind_some, x_rc103 X, Option.bind_some, e1, Option.bind_some]
      exact e2
    · have ha1 : tA (wi t2 183 0 (nI 0)) 184 = a := r184
      have hk1 := r_keeps (t := wi t2 183 0 (nI 0)) X ha1
      rw [tA_wi, r190, show fa_fill (fun k => a (107 + k)) (tA t 190) 20 = wsr a (tA t 190) from rfl] at hk1
      have ht1 : tA (wr (wi t2 183 0 (nI 0)) 190 (wsr a (tA t 190))) 184 = a := by rw [tA_rn (by decide)]; exact ha1
      have hws : wsr a (tA t 190) 1 = nI (vFo a) := by rw [wsr_k (by decide)]; exact wFo W
      have hl := r_days_l (t := wr (wi t2 183 0 (nI 0)) 190 (wsr a (tA t 190))) (w := wsr a (tA t 190)) X hm (p64 (wFo2 W) hP) tA_rs hws h0.2.1 m 0 FU a D W (by omega) (by omega) hfu h0.1
      have e184 : wr (wr (wi t2 183 0 (nI 0)) 190 (wsr a (tA t 190))) 184 a = wr (wi t2 183 0 (nI 0)) 190 (wsr a (tA t 190)) := by
        have := wr_self (t := wr (wi t2 183 0 (nI 0)) 190 (wsr a (tA t 190))) (b := 184)
        rw [ht1] at this
        exact this
      rw [e184] at hl
      have hw := hw99 (Em g (wi t2 183 0 (nI 0)))
      rw [decide_eq_true h] at hw
      unfold F_X12_days
      rw [show (wI (Em g t2) 183 11 0 0) = some (Em g (wi t2 183 0 (nI 0))) from x_w183_0 X, Option.bind_some, hw, Option.bind_some, if_pos (show ¬ bI true = (0 : Int32) by decide), x_rc183 X, Option.bind_some, hk1, Option.bind_some]
      exact hl
  · refine ok_0 (r := -nI 3) (t1 := t) (t2 := wi t 183 0 (nI 0)) I hD ?_ ?_ Sm_r (Sm_wi (a := 183) (k := 0) rfl Sm_r)
    · unfold F_X11_days
      by_cases c1 : x < nI 1
      · have c1' : x < (1 : Int32) := c1
        rw [if_pos c1']; rfl
      · have c2 : ¬ x ≤ nI 99 := by
          rw [fa_lt] at c1
          rw [fa_le]
          omega
        have c1' : ¬ x < (1 : Int32) := c1
        have c2' : ¬ x ≤ (99 : Int32) := c2
        rw [if_neg c1', if_neg c2']; rfl
    · have hw := hw99 (Em g (wi t 183 0 (nI 0)))
      rw [decide_eq_false h] at hw
      unfold F_X12_days
      rw [show (wI (Em g t) 183 11 0 0) = some (Em g (wi t 183 0 (nI 0))) from x_w183_0 X, Option.bind_some, hw, Option.bind_some, if_neg (show ¬ ¬ bI false = (0 : Int32) by decide)]
      rfl
theorem r_undo_l (X : Fx g) {u : Nat} (hu : u ≤ 9) (hb : b 127 = nI u) : ∀ (d k fuel : Nat), k + d = 20 → d < fuel → F_X12_undo_b44 fuel 183 (nI k) (Em g (wr t 184 (fb_put b (fun j => b (128 + 20 * u + j)) 107 k))) = some (nI u, Em g (wr t 184 (fb_put b (fun j => b (128 + 20 * u + j)) 107 20))) := by
  intro d
  induction d with
  | zero =>
    intro k fuel hk hf
    obtain ⟨f, rfl⟩ : ∃ f, fuel = f + 1 := ⟨fuel - 1, by omega⟩
    have hk : k = 20 := by omega
    subst hk
    have e : fb_put b (fun j => b (128 + 20 * u + j)) 107 20 127 = nI u := by rw [fb_put_out (by omega), hb]
    rw [F_X12_undo_b44]
    simp (disch := omega) only [x_rc183 X, x_i183_0 X, x_w183_0 X, x_r183_1 X, x_r183_2 X, x_r183_3 X, x_r183_4 X, x_i183_5 X, x_w183_5 X, x_i183_6 X, x_w183_6 X, x_i183_7 X, x_w183_7 X, x_i183_8 X, x_w183_8 X, x_i183_9 X, x_w183_9 X, x_i183_10 X, x_w183_10 X, x_i183_11 X, x_w183_11 X, x_i183_12 X, x_w183_12 X, x_i183_13 X, x_w183_13 X, x_i183_14 X, x_w183_14 X, x_i183_15 X, x_w183_15 X, x_r183_16 X, x_r183_17 X, x_r183_18 X, x_i183_19 X, x_w183_19 X, x_i183_20 X, x_w183_20 X, x_r183_21 X, x_r183_22 X, x_r183_23 X, x_r183_24 X, x_r183_25 X, x_i183_26 X, x_w183_26 X, x_r183_27 X, x_r183_28 X, x_r183_29 X, x_i183_30 X, x_w183_30 X, x_r183_31 X, x_r183_32 X, x_r183_33 X, x_r183_34 X, x_r183_35 X, x_r183_36 X, x_a184 X, x_s184 X, x_a185 X, x_s185 X, x_a186 X, x_s186 X, x_a187 X, x_s187 X, x_a188 X, x_s188 X, x_a189 X, x_s189 X, x_a190 X, x_s190 X, x_a191 X, x_s191 X, x_a192 X, x_s192 X, x_a193 X, x_s193 X, x_a194 X, x_s194 X, x_a195 X, x_s195 X, x_a196 X, x_s196 X, x_a197 X, x_s197 X, x_a198 X, x_s198 X, x_a199 X, x_s199 X, x_a200 X, x_s200 X, x_a201 X, x_s201 X, x_a202 X, x_s202 X, x_a203 X, x_s203 X, x_a204 X, x_s204 X, Option.bind_some, ↓reduceIte, ite_not, fa_lit, nI_add, nI_mulN, nI_an, nI_sub, irm_n, nI_eq, nI_leI, nI_ltI, v_pow, v_shr, v_bit, nI_cl, nI_m1e, Nat.le_refl, tA_rs, e]
  | succ d ih =>
    intro k fuel hk hf
    obtain ⟨f, rfl⟩ : ∃ f, fuel = f + 1 := ⟨fuel - 1, by omega⟩
    have hk2 : ¬ 20 ≤ k := by omega
    have e : fb_put b (fun j => b (128 + 20 * u + j)) 107 k 127 = nI u := by rw [fb_put_out (by omega), hb]
    have e2 : fb_put b (fun j => b (128 + 20 * u + j)) 107 k (128 + 20 * u + k) = b (128 + 20 * u + k) := by rw [fb_put_out (by omega)]
    rw [F_X12_undo_b44, ← ih (k + 1) f (by omega) (by omega)]
    simp (disch := omega) only [x_rc183 X, x_i183_0 X, x_w183_0 X, x_r183_1 X, x_r183_2 X, x_r183_3 X, x_r183_4 X, x_i183_5 X, x_w183_5 X, x_i183_6 X, x_w183_6 X, x_i183_7 X, x_w183_7 X, x_i183_8 X, x_w183_8 X, x_i183_9 X, x_w183_9 X, x_i183_10 X, x_w183_10 X, x_i183_11 X, x_w183_11 X, x_i183_12 X, x_w183_12 X, x_i183_13 X, x_w183_13 X, x_i183_14 X, x_w183_14 X, x_i183_15 X, x_w183_15 X, x_r183_16 X, x_r183_17 X, x_r183_18 X, x_i183_19 X, x_w183_19 X, x_i183_20 X, x_w183_20 X, x_r183_21 X, x_r183_22 X, x_r183_23 X, x_r183_24 X, x_r183_25 X, x_i183_26 X, x_w183_26 X, x_r183_27 X, x_r183_28 X, x_r183_29 X, x_i183_30 X, x_w183_30 X, x_r183_31 X, x_r183_32 X, x_r183_33 X, x_r183_34 X, x_r183_35 X, x_r183_36 X, x_a184 X, x_s184 X, x_a185 X, x_s185 X, x_a186 X, x_s186 X, x_a187 X, x_s187 X, x_a188 X, x_s188 X, x_a189 X, x_s189 X, x_a190 X, x_s190 X, x_a191 X, x_s191 X, x_a192 X, x_s192 X, x_a193 X, x_s193 X, x_a194 X, x_s194 X, x_a195 X, x_s195 X, x_a196 X, x_s196 X, x_a197 X, x_s197 X, x_a198 X, x_s198 X, x_a199 X, x_s199 X, x_a200 X, x_s200 X, x_a201 X, x_s201 X, x_a202 X, x_s202 X, x_a203 X, x_s203 X, x_a204 X, x_s204 X, Option.bind_some, ↓reduceIte, ite_not, fa_lit, nI_add, nI_mulN, nI_an, nI_sub, irm_n, nI_eq, nI_leI, nI_ltI, v_pow, v_shr, v_bit, nI_cl, nI_m1e, hk2, tA_rs, e, e2, wa_r]
    rw [← fb_put_succ b (fun j => b (128 + 20 * u + j)) 107 k]
theorem ok_undo (I : IV g t v a D n nx) (hD : D + 100 < 2 ^ 30) (x : Int32) : Okc (F_X11_undo 69 x) (F_X12_undo 183 x) g t D := by
  have X := I.1
  have C := I.2.2.1
  have W := C.1
  have hP := wP2 W
  have H := I.2.2.2.1
  have h0 := H.1
  have hw10 : ∀ h : xH, F_X12_within x.toInt64 1 10 h = some (bI (decide (1 ≤ x.toInt ∧ x.toInt ≤ 10)), h) := by
    intro h
    rw [p_within, i64]
    rfl
  have ti1 : (nI 1).toInt = 1 := rfl
  have tin : (nI n).toInt = n := nI_toInt (by omega)
  have ha0 : tA (wi t 183 0 (nI 0)) 184 = a := I.2.1
  by_cases h : 1 ≤ x.toInt ∧ x.toInt ≤ n
  · obtain ⟨u, hu1, hu, rfl⟩ : ∃ m, 1 ≤ m ∧ m ≤ n ∧ x = nI m := ⟨x.toInt.toNat, by omega, by omega, Int32.toInt_inj.mp (by rw [nI_toInt (by omega)]; omega)⟩
    have c1 : ¬ nI u < nI 1 := by rw [fa_lt]; omega
    have c2 : nI u ≤ nI n := by rw [fa_le]; omega
    have hbo : ∀ i, i < 107 ∨ 128 ≤ i → fb_put (upd a 127 (nI (n - u))) (fun j => upd a 127 (nI (n - u)) (128 + 20 * (n - u) + j)) 107 20 i = a i := fun i hi => by
      rw [fb_put_out (by omega), upd_n (by omega)]
    have hb1 : fb_put (upd a 127 (nI (n - u))) (fun j => upd a 127 (nI (n - u)) (128 + 20 * (n - u) + j)) 107 20 127 = nI (n - u) := by rw [fb_put_out (by omega), upd_s]
    have hbn : ∀ k, k < 20 → fb_put (upd a 127 (nI (n - u))) (fun j => upd a 127 (nI (n - u)) (128 + 20 * (n - u) + j)) 107 20 (107 + k) = a (128 + 20 * (n - u) + k) := fun k hk => by
      rw [fb_put_in (by omega) (by omega), upd_n (by omega), show 107 + k - 107 = k by omega]
    obtain ⟨t1, e1, r1, h1, s1, w1⟩ := k_back X H hP hu1 hu hbo hb1
    have q : Vq a (fb_put (upd a 127 (nI (n - u))) (fun j => upd a 127 (nI (n - u)) (128 + 20 * (n - u) + j)) 107 20) := fun i hi => hbo i (by omega)
    have hl := fun t => r_undo_l (g := g) (t := t) (b := upd a 127 (nI (n - u))) (u := n - u) X (by omega) upd_s 20 0 FU rfl (by decide)
    have e103 : tI t1 103 2 = nI (n - u) := h1.2.1.2
    have r184 : tA t1 184 = a := by rw [r1.2.1 184 (by decide)]; exact I.2.1
    generalize hbd : fb_put (upd a 127 (nI (n - u))) (fun j => upd a 127 (nI (n - u)) (128 + 20 * (n - u) + j)) 107 20 = bb at *
    have s2 : Sw Pd g t (wr (wi t1 183 0 (nI 0)) 184 bb) := Sw_wr (Sw_wi (Sw_g r1 (fun b h1 h2 => by unfold Pd; rw [decide_eq_true_eq]; omega)) (Or.inr rfl)) (Or.inl rfl)
    refine ⟨nI (n - u), g, t1, g, wr (wi t1 183 0 (nI 0)) 184 bb, v, bb, n - u, (nx + 10 - u) % 10, ?_, ?_, rfl, rfl, rfl, rfl, IV_m (by omega) hD (IV_e I (Nat.le_refl D) s2 q (fun i hi => hbo i (by omega)) (WA_q q W (WB_c hP hbn w1)) ?_ ?_ tA_rs)⟩
    · unfold F_X11_undo
      simp only [fa_lit, c1, if_false, x_r69_4 X, x_r69_2 X, x_rc103 X, x_i103_2 X, Option.bind_some, H.2.1.2, c2, if_true, e1, e103]
    · have hw := hw10 (Em g (wi t1 183 0 (nI 0)))
      rw [decide_eq_true (by omega)] at hw
      have ha1 : tA (wi t1 183 0 (nI 0)) 184 = a := r184
      have e184 : wa (wi t1 183 0 (nI 0)) 184 127 (nI n - nI u) = wr (wi t1 183 0 (nI 0)) 184 (upd a 127 (nI (n - u))) := by rw [wa_wr, ha1, nI_sub hu]
      have hlt := hl (wi t1 183 0 (nI 0))
      rw [fb_put_0] at hlt
      unfold F_X12_undo
      have a127 : ∀ t, aI (Em g t) 184 127 = some (tA t 184 127) := fun t => x_a184 X (k := 127) (by decide)
      have s127 : ∀ t z, sI (Em g t) 184 127 z = some (Em g (wa t 184 127 z)) := fun t z => x_s184 X (k := 127) (by decide)
      rw [show (wI (Em g t1) 183 11 0 0) = some (Em g (wi t1 183 0 (nI 0))) from x_w183_0 X, Option.bind_some, hw, Option.bind_some, if_neg (show ¬ bI true = (0 : Int32) by decide), x_r183_1 X, Option.bind_some, a127, Option.bind_some, ha1, h0.1, if_pos c2, Option.bind_some, a127, Option.bind_some, ha1, h0.1, s127, Option.bind_some, e184]
      exact hlt
    · rw [q_vP q]
      have s3 : StP (wr (wi t1 183 0 (nI 0)) 184 bb) 95 (vP a) a (128 + 20 * (n - u)) := by
        unfold StP
        rw [tI_wr, tI_ia (by decide), tI_ia (by decide), tA_rn (by decide), tA_rn (by decide), tA_rn (by decide)]
        exact s1
      exact StP_c hP hbn s3
    · refine HP_w (P := fun b => decide (b = 184)) X (fun b h1 h2 => by rw [decide_eq_false_iff_not]; omega) h1 (Sw_wr (Sw_wi Sw_r (Or.inr rfl)) (Or.inl rfl))
  · refine ok_0 (r := -nI 3) (t1 := t) (t2 := wi t 183 0 (nI 0)) I hD ?_ ?_ Sm_r (Sm_wi (a := 183) (k := 0) rfl Sm_r)
    · unfold F_X11_undo
      by_cases c1 : x < nI 1
      · simp only [fa_lit, c1, if_true]
      · have c2 : ¬ x ≤ nI n := by
          rw [fa_lt] at c1
          rw [fa_le]
          omega
        simp only [fa_lit, c1, x_r69_4 X, x_i103_2 X, Option.bind_some, H.2.1.2, c2, if_false]
    · have hw := hw10 (Em g (wi t 183 0 (nI 0)))
      unfold F_X12_undo
      rw [show (wI (Em g t) 183 11 0 0) = some (Em g (wi t 183 0 (nI 0))) from x_w183_0 X, Option.bind_some, hw, Option.bind_some]
      by_cases h10 : 1 ≤ x.toInt ∧ x.toInt ≤ 10
      · have c2 : ¬ x ≤ nI n := by
          rw [fa_le]
          omega
        have a127 : ∀ t, aI (Em g t) 184 127 = some (tA t 184 127) := fun t => x_a184 X (k := 127) (by decide)
        rw [decide_eq_true h10, if_neg (show ¬ bI true = (0 : Int32) by decide), x_r183_1 X, Option.bind_some, a127, Option.bind_some, ha0, h0.1, if_neg c2]
        rfl
      · rw [decide_eq_false h10, if_pos (show bI false = (0 : Int32) by decide)]
        rfl
end XZ3
