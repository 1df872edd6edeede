/-! ===== calls: choir ===== -/
def cns (a : Nat → Int32) (S n : Nat) : Nat → Nat
  | 0 => 0
  | p + 1 => cns a S n p + (S.testBit p && hnow a p n).toNat
theorem cns_le (a : Nat → Int32) (S n : Nat) : ∀ k, cns a S n k ≤ k
  | 0 => Nat.le_refl 0
  | k + 1 => by
    have := cns_le a S n k
    rw [cns]
    cases S.testBit k && hnow a k n <;> simp <;> omega
def chr (a : Nat → Int32) (X m S : Nat) : Prop := ∀ n, n < vN a → X.testBit n = true → m ≤ cns a S n (vP a)
section XCh
variable {g : Sk} {t : Tb} {a : Nat → Int32}
variable {D v x nx p : Nat} {t' t'' t1 t2 : Tb}
theorem heard_bit (W : WA a D) {n : Nat} (hn : n < vN a) : (heard a p).testBit n = hnow a p n := by
  unfold heard
  rw [mk_bit, decide_eq_true hn, Bool.true_and]
theorem heard_31 (W : WA a D) : heard a p < 2 ^ 31 := mk_31 (by have := wN3 W; omega)
/-! who hears what, of all: the tables -/
theorem r_hears_l (X : Fx g) (W : WA a D) : ∀ (d k fuel : Nat) (t : Tb), k + d = vP a → d < fuel → tA t 184 = a → (∀ p, p < k → tA t 193 p = nI (heard a p)) → ∃ t', F_X12_laysHears_b2 fuel 183 (nI k) (Em g t) = some ((), Em g t') ∧ Sm g t t' ∧ ∀ p, p < vP a → tA t' 193 p = nI (heard a p) := by
  have hP := wP2 W
  intro d
  induction d with
  | zero =>
    intro k fuel t hk hf ha h9
    obtain ⟨f, rfl⟩ : ∃ f, fuel = f + 1 := ⟨fuel - 1, by omega⟩
    have hk : k = vP a := by omega
    subst hk
    refine ⟨t, ?_, Sm_r, h9⟩
    rw [F_X12_laysHears_b2]
    simp (disch := omega) only [x_rc183 X, x_i183_0 X, x_w183_0 X, x_r183_1 X, x_r183_2 X, x_r183_3 X, x_r183_4 X, x_i183_5 X, x_w183_5 X, x_i183_6 X, x_w183_6 X, x_i183_7 X, x_w183_7 X, x_i183_8 X, x_w183_8 X, x_i183_9 X, x_w183_9 X, x_i183_10 X, x_w183_10 X, x_i183_11 X, x_w183_11 X, x_i183_12 X, x_w183_12 X, x_i183_13 X, x_w183_13 X, x_i183_14 X, x_w183_14 X, x_i183_15 X, x_w183_15 X, x_r183_16 X, x_r183_17 X, x_r183_18 X, x_i183_19 X, x_w183_19 X, x_i183_20 X, x_w183_20 X, x_r183_21 X, x_r183_22 X, x_r183_23 X, x_r183_24 X, x_r183_25 X, x_i183_26 X, x_w183_26 X, x_r183_27 X, x_r183_28 X, x_r183_29 X, x_i183_30 X, x_w183_30 X, x_r183_31 X, x_r183_32 X, x_r183_33 X, x_r183_34 X, x_r183_35 X, x_r183_36 X, x_a184 X, x_s184 X, x_a185 X, x_s185 X, x_a186 X, x_s186 X, x_a187 X, x_s187 X, x_a188 X, x_s188 X, x_a189 X, x_s189 X, x_a190 X, x_s190 X, x_a191 X, x_s191 X, x_a192 X, x_s192 X, x_a193 X, x_s193 X, x_a194 X, x_s194 X, x_a195 X, x_s195 X, x_a196 X, x_s196 X, x_a197 X, x_s197 X, x_a198 X, x_s198 X, x_a199 X, x_s199 X, x_a200 X, x_s200 X, x_a201 X, x_s201 X, x_a202 X, x_s202 X, x_a203 X, x_s203 X, x_a204 X, x_s204 X, Option.bind_some, ↓reduceIte, ite_not, fa_lit, nI_add, nI_mulN, nI_an, nI_sub, irm_n, nI_eq, nI_leI, nI_ltI, v_pow, v_shr, v_bit, nI_cl, nI_m1e, ha, wP W, Nat.le_refl]
  | succ d ih =>
    intro k fuel t hk hf ha h9
    obtain ⟨f, rfl⟩ : ∃ f, fuel = f + 1 := ⟨fuel - 1, by omega⟩
    have hk2 : ¬ vP a ≤ k := by omega
    obtain ⟨t1, e1, s1⟩ := q_heardByn (p := k) X W ha (by omega)
    obtain ⟨t2, e2, s2, k2⟩ := ih (k + 1) f (wa t1 193 k (nI (heard a k))) (by omega) (by omega) (by rw [tA_an (by decide), Sm_a X (Sn_m s1), ha]) (fun p hp => by
      rw [tA_as]
      by_cases e : p = k
      · rw [e, upd_s]
      · rw [upd_n e, s1.2.1 193 (sn_x X rfl)]
        exact h9 p (by omega))
    refine ⟨t2, ?_, Sm_t (Sm_wa (sc_f rfl) (Sn_m s1)) s2, k2⟩
    rw [F_X12_laysHears_b2]
    simp (disch := omega) only [x_rc183 X, x_i183_0 X, x_w183_0 X, x_r183_1 X, x_r183_2 X, x_r183_3 X, x_r183_4 X, x_i183_5 X, x_w183_5 X, x_i183_6 X, x_w183_6 X, x_i183_7 X, x_w183_7 X, x_i183_8 X, x_w183_8 X, x_i183_9 X, x_w183_9 X, x_i183_10 X, x_w183_10 X, x_i183_11 X, x_w183_11 X, x_i183_12 X, x_w183_12 X, x_i183_13 X, x_w183_13 X, x_i183_14 X, x_w183_14 X, x_i183_15 X, x_w183_15 X, x_r183_16 X, x_r183_17 X, x_r183_18 X, x_i183_19 X, x_w183_19 X, x_i183_20 X, x_w183_20 X, x_r183_21 X, x_r183_22 X, x_r183_23 X, x_r183_24 X, x_r183_25 X, x_i183_26 X, x_w183_26 X, x_r183_27 X, x_r183_28 X, x_r183_29 X, x_i183_30 X, x_w183_30 X, x_r183_31 X, x_r183_32 X, x_r183_33 X, x_r183_34 X, x_r183_35 X, x_r183_36 X, x_a184 X, x_s184 X, x_a185 X, x_s185 X, x_a186 X, x_s186 X, x_a187 X, x_s187 X, x_a188 X, x_s188 X, x_a189 X, x_s189 X, x_a190 X, x_s190 X, x_a191 X, x_s191 X, x_a192 X, x_s192 X, x_a193 X, x_s193 X, x_a194 X, x_s194 X, x_a195 X, x_s195 X, x_a196 X, x_s196 X, x_a197 X, x_s197 X, x_a198 X, x_s198 X, x_a199 X, x_s199 X, x_a200 X, x_s200 X, x_a201 X, x_s201 X, x_a202 X, x_s202 X, x_a203 X, x_s203 X, x_a204 X, x_s204 X, Option.bind_some, ↓reduceIte, ite_not, fa_lit, nI_add, nI_mulN, nI_an, nI_sub, irm_n, nI_eq, nI_leI, nI_ltI, v_pow, v_shr, v_bit, nI_cl, nI_m1e, ha, wP W, hk2, e1]
    exact e2
theorem r_hears (X : Fx g) (W : WA a D) (ha : tA t 184 = a) : ∃ t', F_X12_laysHears 183 (Em g t) = some ((), Em g t') ∧ Sm g t t' ∧ ∀ p, p < vP a → tA t' 193 p = nI (heard a p) := by
  have hP := wP2 W
  have hfu : vP a < FU := by show vP a < 1000000; omega
  exact r_hears_l X W (vP a) 0 FU t (by omega) hfu ha (fun p hp => absurd hp (by omega))
theorem k_tg_l (X : Fx g) {z : Int32} : ∀ (d k fuel : Nat) (t : Tb), CP g t v a D → k + d = vP a → d < fuel → tI t 153 0 = nI (vP a) → tI t 153 1 = z → (∀ p, p < k → tA t 154 p = nI (heard a p)) → ∃ t', F_X7_gather_b16 fuel 153 v 95 (nI k) (Em g t) = some ((), Em g t') ∧ Sm g t t' ∧ tI t' 153 0 = nI (vP a) ∧ tI t' 153 1 = z ∧ ∀ p, p < vP a → tA t' 154 p = nI (heard a p) := by
  intro d
  induction d with
  | zero =>
    intro k fuel t C hk hf h0 h1 h9
    have hP := wP2 C.1
    obtain ⟨f, rfl⟩ : ∃ f, fuel = f + 1 := ⟨fuel - 1, by omega⟩
    have hk : k = vP a := by omega
    subst hk
    refine ⟨t, ?_, Sm_r, h0, h1, h9⟩
    rw [F_X7_gather_b16]
    simp (disch := omega) only [x_rc153 X, x_i153_0 X, x_w153_0 X, x_i153_1 X, x_w153_1 X, x_r153_2 X, x_r153_3 X, x_r153_4 X, x_a154 X, x_s154 X, x_a155 X, x_s155 X, x_a156 X, x_s156 X, Option.bind_some, ↓reduceIte, ite_not, fa_lit, nI_add, nI_mulN, nI_an, nI_sub, irm_n, nI_eq, nI_leI, nI_ltI, v_pow, v_shr, v_bit, nI_cl, nI_m1e, h0, Nat.le_refl]
  | succ d ih =>
    intro k fuel t C hk hf h0 h1 h9
    have hP := wP2 C.1
    have V := C.2.1
    obtain ⟨f, rfl⟩ : ∃ f, fuel = f + 1 := ⟨fuel - 1, by omega⟩
    have hk2 : ¬ vP a ≤ k := by omega
    obtain ⟨t1, e1, s1⟩ := k_heardByn (p := k) X V C (by omega)
    have s2m : Sm g t (wa t1 154 k (nI (heard a k))) := Sm_wa (sc_f rfl) (Sn_m s1)
    obtain ⟨t2, e2, s2, k2⟩ := ih (k + 1) f (wa t1 154 k (nI (heard a k))) (CP_s X C s2m) (by omega) (by omega) (by rw [tI_wa, s1.1]; exact h0) (by rw [tI_wa, s1.1]; exact h1) (fun p hp => by
      rw [tA_as]
      by_cases e : p = k
      · rw [e, upd_s]
      · rw [upd_n e, s1.2.1 154 (sn_x X rfl)]
        exact h9 p (by omega))
    refine ⟨t2, ?_, Sm_t s2m s2, k2⟩
    rw [F_X7_gather_b16]
    simp (disch := omega) only [x_rc153 X, x_i153_0 X, x_w153_0 X, x_i153_1 X, x_w153_1 X, x_r153_2 X, x_r153_3 X, x_r153_4 X, x_a154 X, x_s154 X, x_a155 X, x_s155 X, x_a156 X, x_s156 X, v_rc V, v_i0 V, v_i1 V, v_i2 V, v_i3 V, v_i4 V, v_r5 V, v_r6 V, v_r7 V, v_r8 V, v_r9 V, v_r10 V, v_r11 V, v_a1 V, v_a2 V, v_a3 V, v_a4 V, v_a5 V, v_a6 V, Option.bind_some, ↓reduceIte, ite_not, fa_lit, nI_add, nI_mulN, nI_an, nI_sub, irm_n, nI_eq, nI_leI, nI_ltI, v_pow, v_shr, v_bit, nI_cl, nI_m1e, h0, hk2, e1]
    exact e2
theorem k_tg (X : Fx g) (C : CP g t v a D) (z : Int32) : ∃ t', F_X7_gather 153 v 95 z (Em g t) = some ((), Em g t') ∧ Sm g t t' ∧ tI t' 153 0 = nI (vP a) ∧ tI t' 153 1 = z ∧ ∀ p, p < vP a → tA t' 154 p = nI (heard a p) := by
  have hP := wP2 C.1
  have hfu : vP a < FU := by show vP a < 1000000; omega
  have s1 : Sm g t (wi (wi t 153 0 (nI (vP a))) 153 1 z) := Sm_wi rfl (Sm_wi rfl Sm_r)
  obtain ⟨t1, e1, s2, k1⟩ := k_tg_l (z := z) (v := v) (D := D) X (vP a) 0 FU (wi (wi t 153 0 (nI (vP a))) 153 1 z) (CP_s X C s1) (by omega) hfu (by rw [tI_ik (by decide), tI_is]) tI_is (fun p hp => absurd hp (by omega))
  refine ⟨t1, ?_, Sm_t s1 s2, k1⟩
  unfold F_X7_gather
  rw [v_i4 C.2.1, Option.bind_some, vP_ C, x_w153_0 X, Option.bind_some, x_w153_1 X, Option.bind_some]
  exact e1
/-! is it a choir -/
theorem r_ch_i (X : Fx g) (W : WA a D) (ha : tA t 184 = a) (h9 : ∀ p, p < vP a → tA t 193 p = nI (heard a p)) {S m n : Nat} (hS : S < 2 ^ 31) (hm : m ≤ 10) (hn : n < vN a) (z : Int32) (kk : Nat → Int32 → Int32 → Int32 → Int32 → xH → Option (Int32 × xH)) : ∀ (d k fuel : Nat), k + d = vP a → d < fuel → F_X12_isChoir_b33 kk fuel 183 (nI S) z (nI m) (nI n) (nI (cns a S n k)) (nI k) (Em g t) = if m ≤ cns a S n (vP a) then kk 183 (nI S) z (nI m) (nI (n + 1)) (Em g t) else some (nI 0, Em g t) := by
  have hP := wP2 W
  have hN := wN3 W
  intro d
  induction d with
  | zero =>
    intro k fuel hk hf
    obtain ⟨f, rfl⟩ : ∃ f, fuel = f + 1 := ⟨fuel - 1, by omega⟩
    have hk : k = vP a := by omega
    subst hk
    have hc := cns_le a S n (vP a)
    rw [F_X12_isChoir_b33]
    simp (disch := omega) only [x_rc183 X, x_i183_0 X, x_w183_0 X, x_r183_1 X, x_r183_2 X, x_r183_3 X, x_r183_4 X, x_i183_5 X, x_w183_5 X, x_i183_6 X, x_w183_6 X, x_i183_7 X, x_w183_7 X, x_i183_8 X, x_w183_8 X, x_i183_9 X, x_w183_9 X, x_i183_10 X, x_w183_10 X, x_i183_11 X, x_w183_11 X, x_i183_12 X, x_w183_12 X, x_i183_13 X, x_w183_13 X, x_i183_14 X, x_w183_14 X, x_i183_15 X, x_w183_15 X, x_r183_16 X, x_r183_17 X, x_r183_18 X, x_i183_19 X, x_w183_19 X, x_i183_20 X, x_w183_20 X, x_r183_21 X, x_r183_22 X, x_r183_23 X, x_r183_24 X, x_r183_25 X, x_i183_26 X, x_w183_26 X, x_r183_27 X, x_r183_28 X, x_r183_29 X, x_i183_30 X, x_w183_30 X, x_r183_31 X, x_r183_32 X, x_r183_33 X, x_r183_34 X, x_r183_35 X, x_r183_36 X, x_a184 X, x_s184 X, x_a185 X, x_s185 X, x_a186 X, x_s186 X, x_a187 X, x_s187 X, x_a188 X, x_s188 X, x_a189 X, x_s189 X, x_a190 X, x_s190 X, x_a191 X, x_s191 X, x_a192 X, x_s192 X, x_a193 X, x_s193 X, x_a194 X, x_s194 X, x_a195 X, x_s195 X, x_a196 X, x_s196 X, x_a197 X, x_s197 X, x_a198 X, x_s198 X, x_a199 X, x_s199 X, x_a200 X, x_s200 X, x_a201 X, x_s201 X, x_a202 X, x_s202 X, x_a203 X, x_s203 X, x_a204 X, x_s204 X, Option.bind_some, ↓reduceIte, ite_not, fa_lit, nI_add, nI_mulN, nI_an, nI_sub, irm_n, nI_eq, nI_leI, nI_ltI, v_pow, v_shr, v_bit, nI_cl, nI_m1e, ha, wP W, Nat.le_refl]
  | succ d ih =>
    intro k fuel hk hf
    obtain ⟨f, rfl⟩ : ∃ f, fuel = f + 1 := ⟨fuel - 1, by omega⟩
    have hk2 : ¬ vP a ≤ k := by omega
    have hc := cns_le a S n k
    have hh := heard_31 (p := k) W
    have hb := heard_bit (p := k) W hn
    have hi := ih (k + 1) f (by omega) (by omega)
    rw [← hi, F_X12_isChoir_b33, cns]
    cases q1 : S.testBit k
    · simp (disch := omega) only [x_rc183 X, x_i183_0 X, x_w183_0 X, x_r183_1 X, x_r183_2 X, x_r183_3 X, x_r183_4 X, x_i183_5 X, x_w183_5 X, x_i183_6 X, x_w183_6 X, x_i183_7 X, x_w183_7 X, x_i183_8 X, x_w183_8 X, x_i183_9 X, x_w183_9 X, x_i183_10 X, x_w183_10 X, x_i183_11 X, x_w183_11 X, x_i183_12 X, x_w183_12 X, x_i183_13 X, x_w183_13 X, x_i183_14 X, x_w183_14 X, x_i183_15 X, x_w183_15 X, x_r183_16 X, x_r183_17 X, x_r183_18 X, x_i183_19 X, x_w183_19 X, x_i183_20 X, x_w183_20 X, x_r183_21 X, x_r183_22 X, x_r183_23 X, x_r183_24 X, x_r183_25 X, x_i183_26 X, x_w183_26 X, x_r183_27 X, x_r183_28 X, x_r183_29 X, x_i183_30 X, x_w183_30 X, x_r183_31 X, x_r183_32 X, x_r183_33 X, x_r183_34 X, x_r183_35 X, x_r183_36 X, x_a184 X, x_s184 X, x_a185 X, x_s185 X, x_a186 X, x_s186 X, x_a187 X, x_s187 X, x_a188 X, x_s188 X, x_a189 X, x_s189 X, x_a190 X, x_s190 X, x_a191 X, x_s191 X, x_a192 X, x_s192 X, x_a193 X, x_s193 X, x_a194 X, x_s194 X, x_a195 X, x_s195 X, x_a196 X, x_s196 X, x_a197 X, x_s197 X, x_a198 X, x_s198 X, x_a199 X, x_s199 X, x_a200 X, x_s200 X, x_a201 X, x_s201 X, x_a202 X, x_s202 X, x_a203 X, x_s203 X, x_a204 X, x_s204 X, Option.bind_some, ↓reduceIte, ite_not, fa_lit, nI_add, nI_mulN, nI_an, nI_sub, irm_n, nI_eq, nI_leI, nI_ltI, v_pow, v_shr, v_bit, nI_cl, nI_m1e, ha, wP W, hk2, q_isIn, q1, bI_z, F_X12_isChoir_b76, F_X12_isChoir_b77, Bool.false_and, Bool.toNat_false]
    · cases q2 : hnow a k n
      · simp (disch := omega) only [x_rc183 X, x_i183_0 X, x_w183_0 X, x_r183_1 X, x_r183_2 X, x_r183_3 X, x_r183_4 X, x_i183_5 X, x_w183_5 X, x_i183_6 X, x_w183_6 X, x_i183_7 X, x_w183_7 X, x_i183_8 X, x_w183_8 X, x_i183_9 X, x_w183_9 X, x_i183_10 X, x_w183_10 X, x_i183_11 X, x_w183_11 X, x_i183_12 X, x_w183_12 X, x_i183_13 X, x_w183_13 X, x_i183_14 X, x_w183_14 X, x_i183_15 X, x_w183_15 X, x_r183_16 X, x_r183_17 X, x_r183_18 X, x_i183_19 X, x_w183_19 X, x_i183_20 X, x_w183_20 X, x_r183_21 X, x_r183_22 X, x_r183_23 X, x_r183_24 X, x_r183_25 X, x_i183_26 X, x_w183_26 X, x_r183_27 X, x_r183_28 X, x_r183_29 X, x_i183_30 X, x_w183_30 X, x_r183_31 X, x_r183_32 X, x_r183_33 X, x_r183_34 X, x_r183_35 X, x_r183_36 X, x_a184 X, x_s184 X, x_a185 X, x_s185 X, x_a186 X, x_s186 X, x_a187 X, x_s187 X, x_a188 X, x_s188 X, x_a189 X, x_s189 X, x_a190 X, x_s190 X, x_a191 X, x_s191 X, x_a192 X, x_s192 X, x_a193 X, x_s193 X, x_a194 X, x_s194 X, x_a195 X, x_s195 X, x_a196 X, x_s196 X, x_a197 X, x_s197 X, x_a198 X, x_s198 X, x_a199 X, x_s199 X, x_a200 X, x_s200 X, x_a201 X, x_s201 X, x_a202 X, x_s202 X, x_a203 X, x_s203 X, x_a204 X, x_s204 X, Option.bind_some, ↓reduceIte, ite_not, fa_lit, nI_add, nI_mulN, nI_an, nI_sub, irm_n, nI_eq, nI_leI, nI_ltI, v_pow, v_shr, v_bit, nI_cl, nI_m1e, ha, wP W, hk2, q_isIn, q1, h9 k (by omega), hb, q2, bI_z, Bool.true_eq_false, F_X12_isChoir_b76, F_X12_isChoir_b77, Bool.true_and, Bool.toNat_false]
      · simp (disch := omega) only [x_rc183 X, x_i183_0 X, x_w183_0 X, x_r183_1 X, x_r183_2 X, x_r183_3 X, x_r183_4 X, x_i183_5 X, x_w183_5 X, x_i183_6 X, x_w183_6 X, x_i183_7 X, x_w183_7 X, x_i183_8 X, x_w183_8 X, x_i183_9 X, x_w183_9 X, x_i183_10 X, x_w183_10 X, x_i183_11 X, x_w183_11 X, x_i183_12 X, x_w183_12 X, x_i183_13 X, x_w183_13 X, x_i183_14 X, x_w183_14 X, x_i183_15 X, x_w183_15 X, x_r183_16 X, x_r183_17 X, x_r183_18 X, x_i183_19 X, x_w183_19 X, x_i183_20 X, x_w183_20 X, x_r183_21 X, x_r183_22 X, x_r183_23 X, x_r183_24 X, x_r183_25 X, x_i183_26 X, x_w183_26 X, x_r183_27 X, x_r183_28 X, x_r183_29 X, x_i183_30 X, x_w183_30 X, x_r183_31 X, x_r183_32 X, x_r183_33 X, x_r183_34 X, x_r183_35 X, x_r183_36 X, x_a184 X, x_s184 X, x_a185 X, x_s185 X, x_a186 X, x_s186 X, x_a187 X, x_s187 X, x_a188 X, x_s188 X, x_a189 X, x_s189 X, x_a190 X, x_s190 X, x_a191 X, x_s191 X, x_a192 X, x_s192 X, x_a193 X, x_s193 X, x_a194 X, x_s194 X, x_a195 X, x_s195 X, x_a196 X, x_s196 X, x_a197 X, x_s197 X, x_a198 X, x_s198 X, x_a199 X, x_s199 X, x_a200 X, x_s200 X, x_a201 X, x_s201 X, x_a202 X, x_s202 X, x_a203 X, x_s203 X, x_a204 X, x_s204 X, Option.bind_some, ↓reduceIte, ite_not, fa_lit, nI_add, nI_mulN, nI_an, nI_sub, irm_n, nI_eq, nI_leI, nI_ltI, v_pow, v_shr, v_bit, nI_cl, nI_m1e, ha, wP W, hk2, q_isIn, q1, h9 k (by omega), hb, q2, bI_z, Bool.true_eq_false, F_X12_isChoir_b77, Bool.true_and, Bool.toNat_true]
theorem r_ch_l (X : Fx g) (W : WA a D) (ha : tA t 184 = a) (h9 : ∀ p, p < vP a → tA t 193 p = nI (heard a p)) {S m z : Nat} (hS : S < 2 ^ 31) (hz : z < 2 ^ 31) (hm : m ≤ 10) : ∀ (d n fuel : Nat), n + d = vN a → d < fuel → (∀ k, k < n → z.testBit k = true → m ≤ cns a S k (vP a)) → ∃ r : Bool, F_X12_isChoir_b3 fuel 183 (nI S) (nI z) (nI m) (nI n) (Em g t) = some (bI r, Em g t) ∧ (r = true ↔ chr a z m S) := by
  have hP := wP2 W
  have hN := wN3 W
  intro d
  induction d with
  | zero =>
    intro n fuel hn hf hq
    obtain ⟨f, rfl⟩ : ∃ f, fuel = f + 1 := ⟨fuel - 1, by omega⟩
    have hn : n = vN a := by omega
    subst hn
    refine ⟨true, ?_, ⟨fun _ => hq, fun _ => rfl⟩⟩
    rw [F_X12_isChoir_b3]
    simp (disch := omega) only [x_rc183 X, x_i183_0 X, x_w183_0 X, x_r183_1 X, x_r183_2 X, x_r183_3 X, x_r183_4 X, x_i183_5 X, x_w183_5 X, x_i183_6 X, x_w183_6 X, x_i183_7 X, x_w183_7 X, x_i183_8 X, x_w183_8 X, x_i183_9 X, x_w183_9 X, x_i183_10 X, x_w183_10 X, x_i183_11 X, x_w183_11 X, x_i183_12 X, x_w183_12 X, x_i183_13 X, x_w183_13 X, x_i183_14 X, x_w183_14 X, x_i183_15 X, x_w183_15 X, x_r183_16 X, x_r183_17 X, x_r183_18 X, x_i183_19 X, x_w183_19 X, x_i183_20 X, x_w183_20 X, x_r183_21 X, x_r183_22 X, x_r183_23 X, x_r183_24 X, x_r183_25 X, x_i183_26 X, x_w183_26 X, x_r183_27 X, x_r183_28 X, x_r183_29 X, x_i183_30 X, x_w183_30 X, x_r183_31 X, x_r183_32 X, x_r183_33 X, x_r183_34 X, x_r183_35 X, x_r183_36 X, x_a184 X, x_s184 X, x_a185 X, x_s185 X, x_a186 X, x_s186 X, x_a187 X, x_s187 X, x_a188 X, x_s188 X, x_a189 X, x_s189 X, x_a190 X, x_s190 X, x_a191 X, x_s191 X, x_a192 X, x_s192 X, x_a193 X, x_s193 X, x_a194 X, x_s194 X, x_a195 X, x_s195 X, x_a196 X, x_s196 X, x_a197 X, x_s197 X, x_a198 X, x_s198 X, x_a199 X, x_s199 X, x_a200 X, x_s200 X, x_a201 X, x_s201 X, x_a202 X, x_s202 X, x_a203 X, x_s203 X, x_a204 X, x_s204 X, Option.bind_some, ↓reduceIte, ite_not, fa_lit, nI_add, nI_mulN, nI_an, nI_sub, irm_n, nI_eq, nI_leI, nI_ltI, v_pow, v_shr, v_bit, nI_cl, nI_m1e, ha, wN W, Nat.le_refl]
    rfl
  | succ d ih =>
    intro n fuel hn hf hq
    obtain ⟨f, rfl⟩ : ∃ f, fuel = f + 1 := ⟨fuel - 1, by omega⟩
    have hk2 : ¬ vN a ≤ n := by omega
    have hfu : vP a < FU := by show vP a < 1000000; omega
    have ha1 : aI (Em g t) 184 1 = some (tA t 184 1) := x_a184 X (k := 1) (by decide)
    have c1 : ¬ nI (vN a) ≤ nI n := by rw [nI_leI (by omega) (by omega)]; exact hk2
    cases q : z.testBit n
    · obtain ⟨r, e, h⟩ := ih (n + 1) f (by omega) (by omega) (fun k hk hb => by
        by_cases e : k = n
        · rw [e, q] at hb; cases hb
        · exact hq k (by omega) hb)
      refine ⟨r, ?_, h⟩
      rw [← e, F_X12_isChoir_b3]
      rw [x_r183_1 X, Option.bind_some, ha1, Option.bind_some, ha, wN W, if_neg c1, q_isIn hz (by omega), Option.bind_some, q, if_neg (show ¬ ¬ bI false = (0 : Int32) by decide), show nI n + 1 = nI (n + 1) from nI_add n 1]
    · have hi := r_ch_i (t := t) (n := n) X W ha h9 hS hm (by omega) (nI z) (F_X12_isChoir_b3 f) (vP a) 0 FU (by omega) hfu
      have hhead : F_X12_isChoir_b3 (f + 1) 183 (nI S) (nI z) (nI m) (nI n) (Em g t) = if m ≤ cns a S n (vP a) then F_X12_isChoir_b3 f 183 (nI S) (nI z) (nI m) (nI (n + 1)) (Em g t) else some (nI 0, Em g t) := by
        rw [← hi, F_X12_isChoir_b3, x_r183_1 X, Option.bind_some, ha1, Option.bind_some, ha, wN W, if_neg c1, q_isIn hz (by omega), Option.bind_some, q, if_pos (show ¬ bI true = (0 : Int32) by decide)]
        rfl
      rw [hhead]
      by_cases c : m ≤ cns a S n (vP a)
      · obtain ⟨r, e, h⟩ := ih (n + 1) f (by omega) (by omega) (fun k hk hb => by
          by_cases e : k = n
          · rw [e]; exact c
          · exact hq k (by omega) hb)
        exact ⟨r, by rw [if_pos c, e], h⟩
      · exact ⟨false, by rw [if_neg c]; rfl, ⟨fun h => absurd h (by decide), fun h => absurd (h n (by omega) q) c⟩⟩
theorem k_ch_i (X : Fx g) (W : WA a D) (h0 : tI t 153 0 = nI (vP a)) (h9 : ∀ p, p < vP a → tA t 154 p = nI (heard a p)) {S m n z : Nat} (h1 : tI t 153 1 = nI z) (hz : z < 2 ^ vN a) (hS : S < 2 ^ 31) (hm : m ≤ 10) (hn : n < 10) (kk : Nat → Int32 → Int32 → Int32 → xH → Option (Int32 × xH)) : ∀ (d k fuel c : Nat), k + d = vP a → d < fuel → c ≤ k → (n < vN a → c = cns a S n k) → F_X7_isChoir_b14 kk fuel 153 (nI S) (nI m) (nI n) (nI c) (nI k) (Em g t) = if n < vN a ∧ z.testBit n = true ∧ ¬ m ≤ cns a S n (vP a) then some (nI 0, Em g t) else kk 153 (nI S) (nI m) (nI (n + 1)) (Em g t) := by
  have hP := wP2 W
  have hN := wN3 W
  have hz31 := p_31 hz (by omega)
  have b1 : ∀ b : Bool, (bI b = nI 1) = (b = true) := by decide
  intro d
  induction d with
  | zero =>
    intro k fuel c hk hf hck hc
    obtain ⟨f, rfl⟩ : ∃ f, fuel = f + 1 := ⟨fuel - 1, by omega⟩
    have hk : k = vP a := by omega
    subst hk
    rw [F_X7_isChoir_b14]
    cases q : z.testBit n
    · simp (disch := omega) only [x_rc153 X, x_i153_0 X, x_w153_0 X, x_i153_1 X, x_w153_1 X, x_r153_2 X, x_r153_3 X, x_r153_4 X, x_a154 X, x_s154 X, x_a155 X, x_s155 X, x_a156 X, x_s156 X, Option.bind_some, ↓reduceIte, ite_not, fa_lit, nI_add, nI_mulN, nI_an, nI_sub, irm_n, nI_eq, nI_leI, nI_ltI, v_pow, v_shr, v_bit, nI_cl, nI_m1e, h0, h1, Nat.le_refl, q, b1, Bool.false_eq_true, false_and, and_false]
    · have hnN : n < vN a := by
        rcases Nat.lt_or_ge n (vN a) with z' | z'
        · exact z'
        · rw [testBit_ge hz z'] at q; cases q
      have hc2 := hc hnN
      subst hc2
      by_cases c2 : m ≤ cns a S n (vP a)
      · simp (disch := omega) only [x_rc153 X, x_i153_0 X, x_w153_0 X, x_i153_1 X, x_w153_1 X, x_r153_2 X, x_r153_3 X, x_r153_4 X, x_a154 X, x_s154 X, x_a155 X, x_s155 X, x_a156 X, x_s156 X, Option.bind_some, ↓reduceIte, ite_not, fa_lit, nI_add, nI_mulN, nI_an, nI_sub, irm_n, nI_eq, nI_leI, nI_ltI, v_pow, v_shr, v_bit, nI_cl, nI_m1e, h0, h1, Nat.le_refl, q, b1, c2, not_true_eq_false, and_false]
      · simp (disch := omega) only [x_rc153 X, x_i153_0 X, x_w153_0 X, x_i153_1 X, x_w153_1 X, x_r153_2 X, x_r153_3 X, x_r153_4 X, x_a154 X, x_s154 X, x_a155 X, x_s155 X, x_a156 X, x_s156 X, Option.bind_some, ↓reduceIte, ite_not, fa_lit, nI_add, nI_mulN, nI_an, nI_sub, irm_n, nI_eq, nI_leI, nI_ltI, v_pow, v_shr, v_bit, nI_cl, nI_m1e, h0, h1, Nat.le_refl, q, b1, c2, hnN, not_false_eq_true, and_self]
  | succ d ih =>
    intro k fuel c hk hf hck hc
    obtain ⟨f, rfl⟩ : ∃ f, fuel = f + 1 := ⟨fuel - 1, by omega⟩
    have hh := heard_31 (p := k) W
    have eb : nI c + (((nI S >>> (nI k &&& 31)) &&& (nI (heard a k) >>> (nI n &&& 31))) &&& 1) = nI (c + (S.testBit k && (heard a k).testBit n).toNat) := by
      rw [and_bit1 hS hh (by omega) (by omega), nI_add]
    rw [F_X7_isChoir_b14, x_i153_0 X, Option.bind_some, h0, if_neg (by rw [nI_leI (by omega) (by omega)]; omega), x_r153_2 X, Option.bind_some, x_a154 X (by omega), Option.bind_some, h9 k (by omega), eb, show nI k + 1 = nI (k + 1) from nI_add k 1]
    refine ih (k + 1) f _ (by omega) (by omega) ?_ (fun hn2 => ?_)
    · cases S.testBit k && (heard a k).testBit n <;> simp <;> omega
    · rw [hc hn2, heard_bit W hn2]
      rfl
theorem k_ch_l (X : Fx g) (W : WA a D) (h0 : tI t 153 0 = nI (vP a)) (h9 : ∀ p, p < vP a → tA t 154 p = nI (heard a p)) {S m z : Nat} (h1 : tI t 153 1 = nI z) (hz : z < 2 ^ vN a) (hS : S < 2 ^ 31) (hm : m ≤ 10) : ∀ (d n fuel : Nat), n + d = 10 → d < fuel → (∀ k, k < n → k < vN a → z.testBit k = true → m ≤ cns a S k (vP a)) → ∃ r : Bool, F_X7_isChoir_b2 fuel 153 (nI S) (nI m) (nI n) (Em g t) = some (bI r, Em g t) ∧ (r = true ↔ chr a z m S) := by
  have hP := wP2 W
  have hN := wN3 W
  intro d
  induction d with
  | zero =>
    intro n fuel hn hf hq
    obtain ⟨f, rfl⟩ : ∃ f, fuel = f + 1 := ⟨fuel - 1, by omega⟩
    have hn : n = 10 := by omega
    subst hn
    refine ⟨true, ?_, ⟨fun _ k hk hb => hq k (by omega) hk hb, fun _ => rfl⟩⟩
    rw [F_X7_isChoir_b2]
    simp (disch := omega) only [Option.bind_some, ↓reduceIte, ite_not, fa_lit, nI_add, nI_mulN, nI_an, nI_sub, irm_n, nI_eq, nI_leI, nI_ltI, v_pow, v_shr, v_bit, nI_cl, nI_m1e, Nat.le_refl]
    rfl
  | succ d ih =>
    intro n fuel hn hf hq
    obtain ⟨f, rfl⟩ : ∃ f, fuel = f + 1 := ⟨fuel - 1, by omega⟩
    have hfu : vP a < FU := by show vP a < 1000000; omega
    have hi := k_ch_i (t := t) (n := n) X W h0 h9 h1 hz hS hm (by omega) (F_X7_isChoir_b2 f) (vP a) 0 FU 0 (by omega) hfu (Nat.le_refl 0) (fun _ => rfl)
    have c1 : ¬ (10 : Int32) ≤ nI n := show ¬ nI 10 ≤ nI n by rw [nI_leI (by decide) (by omega)]; omega
    have hhead : F_X7_isChoir_b2 (f + 1) 153 (nI S) (nI m) (nI n) (Em g t) = if n < vN a ∧ z.testBit n = true ∧ ¬ m ≤ cns a S n (vP a) then some (nI 0, Em g t) else F_X7_isChoir_b2 f 153 (nI S) (nI m) (nI (n + 1)) (Em g t) := by
      rw [← hi, F_X7_isChoir_b2, if_neg c1]
      rfl
    rw [hhead]
    by_cases c : n < vN a ∧ z.testBit n = true ∧ ¬ m ≤ cns a S n (vP a)
    · exact ⟨false, by rw [if_pos c]; rfl, ⟨fun h => absurd h (by decide), fun h => absurd (h n c.1 c.2.1) c.2.2⟩⟩
    · obtain ⟨r, e, h⟩ := ih (n + 1) f (by omega) (by omega) (fun k hk hk2 hb => by
        by_cases e : k = n
        · subst e
          exact Classical.byContradiction (fun q => c ⟨hk2, hb, q⟩)
        · exact hq k (by omega) hk2 hb)
      exact ⟨r, by rw [if_neg c, e], h⟩
def chA (y : Int32) (o : Option Nat) : Int32 := match o with
  | none => -nI 1
  | some Y => if y = nI 1 then nI Y else nI (pcn Y)
theorem r_choir_l (X : Fx g) (W : WA a D) (ha : tA t 184 = a) (h9 : ∀ p, p < vP a → tA t 193 p = nI (heard a p)) {z m : Nat} {y : Int32} (hz : z < 2 ^ 31) (hm : m ≤ 10) {T : Nat → Bool} (hT : ∀ Y, T Y = true ↔ chr a z m Y) : ∀ (d k fuel : Nat) (o : Option Nat), k + d = 2 ^ vP a → d < fuel → (∀ Y, o = some Y → Y < 2 ^ vP a) → F_X12_choir_b51 fuel 183 (nI z) (nI m) y (oI o) (nI k) (Em g t) = some (chA y (scn T d k o), Em g t) := by
  have hP := wP2 W
  have hN := wN3 W
  have h2k := p2048 (n := vP a) (by omega)
  have neg1 : ∀ Y, Y < 2 ^ vP a → ¬ oI (some Y) = (-1 : Int32) := fun Y hY => by
    show ¬ nI Y = -nI 1
    rw [nI_m1e (by omega)]
    exact id
  intro d
  induction d with
  | zero =>
    intro k fuel o hk hf ho
    obtain ⟨f2, rfl⟩ : ∃ f, fuel = f + 1 := ⟨fuel - 1, by omega⟩
    have hk : k = 2 ^ vP a := by omega
    subst hk
    have ha4 : aI (Em g t) 184 4 = some (tA t 184 4) := x_a184 X (k := 4) (by decide)
    rw [F_X12_choir_b51, x_r183_1 X, Option.bind_some, ha4, Option.bind_some, ha, wP W, show (1 : Int32) <<< (nI (vP a) &&& 31) = nI (2 ^ vP a) from v_pow (by omega), if_pos (by rw [nI_leI (by omega) (by omega)]; exact Nat.le_refl _)]
    cases o with
    | none => rw [if_pos (show oI none = (-1 : Int32) from rfl)]; rfl
    | some Y =>
      have hY := ho Y rfl
      rw [if_neg (neg1 Y hY)]
      show (if ¬ y = (1 : Int32) then _ else _) = some (if y = nI 1 then nI Y else nI (pcn Y), Em g t)
      by_cases c : y = nI 1
      · rw [if_neg (fun q => q c), if_pos c]
        rfl
      · rw [if_pos (show ¬ y = (1 : Int32) from c), if_neg c, show oI (some Y) = nI Y from rfl, q_bits (m := Y) (by omega), Option.bind_some]
  | succ d ih =>
    intro k fuel o hk hf ho
    obtain ⟨f2, rfl⟩ : ∃ f, fuel = f + 1 := ⟨fuel - 1, by omega⟩
    have ha4 : aI (Em g t) 184 4 = some (tA t 184 4) := x_a184 X (k := 4) (by decide)
    have c1 : ¬ nI (2 ^ vP a) ≤ nI k := by rw [nI_leI (by omega) (by omega)]; omega
    have hn1 : nI k + 1 = nI (k + 1) := nI_add k 1
    have hfu : vN a < FU := by show vN a < 1000000; omega
    obtain ⟨r, er, hr⟩ := r_ch_l (t := t) (S := k) X W ha h9 (by omega) hz hm (vN a) 0 FU (by omega) hfu (fun q h => absurd h (by omega))
    have er' : F_X12_isChoir 183 (nI k) (nI z) (nI m) (Em g t) = some (bI r, Em g t) := er
    have hrT : r = T k := by rw [Bool.eq_iff_iff, hr, hT]
    have htest : F_X12_choir_b83 (F_X12_choir_b51 f2) 183 (nI z) (nI m) y (oI o) (nI k) (Em g t) = some (chA y (if T k then scn T d (k + 1) (some k) else scn T d (k + 1) o), Em g t) := by
      unfold F_X12_choir_b83
      rw [x_rc183 X, Option.bind_some, er', Option.bind_some, hn1, hrT]
      cases T k
      · rw [if_pos (show bI false = (0 : Int32) by decide), ih (k + 1) f2 o (by omega) (by omega) ho]
        rfl
      · rw [if_neg (show ¬ bI true = (0 : Int32) by decide)]
        exact ih (k + 1) f2 (some k) (by omega) (by omega) (fun Y hY => by injection hY with hY; omega)
    rw [F_X12_choir_b51, x_r183_1 X, Option.bind_some, ha4, Option.bind_some, ha, wP W, show (1 : Int32) <<< (nI (vP a) &&& 31) = nI (2 ^ vP a) from v_pow (by omega), if_neg c1]
    cases o with
    | none =>
      rw [scn, if_pos (show oI none = (-1 : Int32) from rfl), htest, Bool.true_and]
    | some Y =>
      have hY := ho Y rfl
      have p1 := pcn_31 k
      have p2 := pcn_31 Y
      rw [scn, if_neg (neg1 Y hY), q_bits (m := k) (by omega), Option.bind_some, show oI (some Y) = nI Y from rfl, q_bits (m := Y) (by omega), Option.bind_some]
      by_cases c : pcn Y ≤ pcn k
      · have c' : nI (pcn Y) ≤ nI (pcn k) := by rw [nI_leI (by omega) (by omega)]; exact c
        rw [if_pos c', hn1]
        have := ih (k + 1) f2 (some Y) (by omega) (by omega) ho
        simp only [c, not_true_eq_false, decide_false, Bool.false_and, Bool.false_eq_true, if_false]
        exact this
      · have c' : ¬ nI (pcn Y) ≤ nI (pcn k) := by rw [nI_leI (by omega) (by omega)]; exact c
        rw [if_neg c']
        simp only [c, not_false_eq_true, decide_true, Bool.true_and]
        exact htest
def lss (o : Option Nat) (k : Nat) : Bool := match o with
  | none => true
  | some X => decide (¬ pcn X ≤ pcn k)
theorem scn_s {T : Nat → Bool} {d k : Nat} {o : Option Nat} : scn T (d + 1) k o = if lss o k && T k then scn T d (k + 1) (some k) else scn T d (k + 1) o := by
  cases o with
  | none => rw [scn]; rfl
  | some Y => rw [scn]; rfl
def bbn (P : Nat) (o : Option Nat) : Nat := match o with
  | none => P + 1
  | some Y => pcn Y
theorem pcn_P {k P : Nat} (hk : k < 2 ^ P) (hP : P ≤ 11) : pcn k ≤ P := by
  unfold pcn
  rw [pc_hi hk 11 hP]
  exact pc_le k P
theorem k_choir_l (X : Fx g) (W : WA a D) (h0 : tI t 153 0 = nI (vP a)) (h9 : ∀ p, p < vP a → tA t 154 p = nI (heard a p)) {z m : Nat} (h1 : tI t 153 1 = nI z) (hz : z < 2 ^ vN a) (hm : m ≤ 10) {T : Nat → Bool} (hT : ∀ Y, T Y = true ↔ chr a z m Y) : ∀ (d k fuel : Nat) (o : Option Nat), k + d = 2 ^ vP a → d < fuel → (∀ Y, o = some Y → Y < 2 ^ vP a) → F_X7_leastChoir_b12 fuel 153 (nI m) (oI o) (nI (bbn (vP a) o)) (nI k) (Em g t) = some (oI (scn T d k o), Em g t) := by
  have hP := wP2 W
  have hN := wN3 W
  have h2k := p2048 (n := vP a) (by omega)
  intro d
  induction d with
  | zero =>
    intro k fuel o hk hf ho
    obtain ⟨f2, rfl⟩ : ∃ f, fuel = f + 1 := ⟨fuel - 1, by omega⟩
    have hk : k = 2 ^ vP a := by omega
    subst hk
    rw [F_X7_leastChoir_b12, x_i153_0 X, Option.bind_some, h0, show (1 : Int32) <<< (nI (vP a) &&& 31) = nI (2 ^ vP a) from v_pow (by omega), if_pos (by rw [nI_leI (by omega) (by omega)]; exact Nat.le_refl _)]
    rfl
  | succ d ih =>
    intro k fuel o hk hf ho
    obtain ⟨f2, rfl⟩ : ∃ f, fuel = f + 1 := ⟨fuel - 1, by omega⟩
    have hn1 : nI k + 1 = nI (k + 1) := nI_add k 1
    have hfu : 10 < FU := by decide
    obtain ⟨r, er, hr⟩ := k_ch_l (t := t) (S := k) X W h0 h9 h1 hz (by omega) hm 10 0 FU (by omega) hfu (fun q h => absurd h (by omega))
    have er' : F_X7_isChoir 153 (nI k) (nI m) (Em g t) = some (bI r, Em g t) := er
    have hrT : r = T k := by rw [Bool.eq_iff_iff, hr, hT]
    have p1 := pcn_P (k := k) (P := vP a) (by omega) (by omega)
    have hbb : bbn (vP a) o ≤ 12 := by
      cases o with
      | none => show vP a + 1 ≤ 12; omega
      | some Y => show pcn Y ≤ 12; have := pcn_31 Y; omega
    rw [F_X7_leastChoir_b12, x_i153_0 X, Option.bind_some, h0, show (1 : Int32) <<< (nI (vP a) &&& 31) = nI (2 ^ vP a) from v_pow (by omega), if_neg (by rw [nI_leI (by omega) (by omega)]; omega), k_bits k (by omega), Option.bind_some, hn1]
    have htest : (if nI (bbn (vP a) o) ≤ nI (pcn k) then F_X7_leastChoir_b12 f2 153 (nI m) (oI o) (nI (bbn (vP a) o)) (nI (k + 1)) (Em g t) else (rc (Em g t) 153 6).bind fun _ => (F_X7_isChoir 153 (nI k) (nI m) (Em g t)).bind fun z36 => if z36.1 = 0 then F_X7_leastChoir_b12 f2 153 (nI m) (oI o) (nI (bbn (vP a) o)) (nI (k + 1)) z36.2 else (F_J6_bitCount_0f7a4 (nI k) z36.2).bind fun z47 => F_X7_leastChoir_b12 f2 153 (nI m) (nI k) z47.1 (nI (k + 1)) z47.2) = some (oI (if lss o k && T k then scn T d (k + 1) (some k) else scn T d (k + 1) o), Em g t) := by
      have hin : ¬ nI (bbn (vP a) o) ≤ nI (pcn k) → lss o k = true := by
        intro q
        cases o with
        | none => rfl
        | some Y =>
          rw [nI_leI (by omega) (by omega)] at q
          exact decide_eq_true q
      by_cases c : nI (bbn (vP a) o) ≤ nI (pcn k)
      · have hm2 : lss o k = false := by
          rw [nI_leI (by omega) (by omega)] at c
          cases o with
          | none => exact absurd c (by show ¬ vP a + 1 ≤ pcn k; omega)
          | some Y => exact decide_eq_false (fun q => q c)
        rw [if_pos c, hm2, Bool.false_and, ih (k + 1) f2 o (by omega) (by omega) ho]
        rfl
      · rw [if_neg c, hin c, Bool.true_and, x_rc153 X, Option.bind_some, er', Option.bind_some, hrT]
        cases T k
        · rw [if_pos (show bI false = (0 : Int32) by decide), ih (k + 1) f2 o (by omega) (by omega) ho]
          rfl
        · rw [if_neg (show ¬ bI true = (0 : Int32) by decide), k_bits k (by omega), Option.bind_some]
          exact ih (k + 1) f2 (some k) (by omega) (by omega) (fun Y hY => by injection hY with hY; omega)
    rw [scn_s]
    exact htest
theorem scn_lt {T : Nat → Bool} {M : Nat} : ∀ (d k : Nat) (o : Option Nat), k + d = M → (∀ Y, o = some Y → Y < M) → ∀ Y, scn T d k o = some Y → Y < M
  | 0, _, o, _, ho, Y, h => by
    rw [scn] at h
    exact ho Y h
  | d + 1, k, o, hk, ho, Y, h => by
    have key : scn T (d + 1) k o = scn T d (k + 1) (some k) ∨ scn T (d + 1) k o = scn T d (k + 1) o := by
      cases o with
      | none =>
        rw [scn]
        split
        · exact Or.inl rfl
        · exact Or.inr rfl
      | some Z =>
        rw [scn]
        split
        · exact Or.inl rfl
        · exact Or.inr rfl
    rcases key with e | e
    · rw [e] at h
      exact scn_lt d (k + 1) (some k) (by omega) (fun Z hZ => by injection hZ with hZ; omega) Y h
    · rw [e] at h
      exact scn_lt d (k + 1) o (by omega) ho Y h
theorem within_6 (x : Int32) (h : xH) : F_X12_within x.toInt64 1 6 h = some (bI (decide (1 ≤ x.toInt ∧ x.toInt ≤ 6)), h) := by
  rw [p_within, i64]
  rfl
theorem ok_choir {n : Nat} (I : IV g t v a D n nx) (hD : D + 100 < 2 ^ 30) (x y z : Int32) : Okc (F_X11_choir 69 x y z) (F_X12_choir 183 x y z) g t D := by
  have X := I.1
  have C := I.2.2.1
  have W := C.1
  have V := C.2.1
  have hP := wP2 W
  have hN := wN3 W
  have hw0 : ∀ t, wI (Em g t) 183 11 0 0 = some (Em g (wi t 183 0 (nI 0))) := fun t => x_w183_0 X
  have bf : ¬ ¬ bI false = (0 : Int32) := by decide
  have bf2 : bI false = (0 : Int32) := by decide
  have bt : ¬ bI true = (0 : Int32) := by decide
  have ha0 : tA (wi t 183 0 (nI 0)) 184 = a := I.2.1
  have ti1 : (nI 1).toInt = 1 := rfl
  have ti6 : (nI 6).toInt = 6 := rfl
  rcases okx_c z 2 (by decide) with hz | ⟨hz, w, hw, rfl⟩
  · refine ok_0 (r := -nI 2) (t1 := t) (t2 := wi t 183 0 (nI 0)) I hD ?_ ?_ Sm_r (Sm_wi (a := 183) (k := 0) rfl Sm_r)
    · have z0 : ¬ z = nI 0 := fun e => by rw [e] at hz; exact absurd hz (by decide)
      have z1 : ¬ z = nI 1 := fun e => by rw [e] at hz; exact absurd hz (by decide)
      unfold F_X11_choir
      rw [if_neg (show ¬ z = (0 : Int32) from z0), if_neg (show ¬ z = (1 : Int32) from z1)]
      rfl
    · unfold F_X12_choir
      rw [hw0, Option.bind_some, within_1, Option.bind_some, hz, if_neg bf]
      rfl
  have hcl : F_X11_choir 69 x y (nI w) (Em g t) = F_X11_choir_b12 69 x y (nI w) (Em g t) := by
    unfold F_X11_choir
    rcases (show w = 0 ∨ w = 1 by omega) with e | e <;> subst e <;> rfl
  rcases oks_c x (vN a) (by omega) with hx | ⟨hx, zz, hzz, rfl⟩
  · refine ok_0 (r := -nI 3) (t1 := t) (t2 := wi t 183 0 (nI 0)) I hD ?_ ?_ Sm_r (Sm_wi (a := 183) (k := 0) rfl Sm_r)
    · rw [hcl]
      unfold F_X11_choir_b12
      rw [c_r69 X C.2.2.2.1, Option.bind_some, v_rc V, Option.bind_some, k_isNotes V C, Option.bind_some, hx, if_pos bf2]
      rfl
    · unfold F_X12_choir
      rw [hw0, Option.bind_some, within_1, Option.bind_some, hz, if_pos bt, x_rc183 X, Option.bind_some, q_isNotes X W ha0, Option.bind_some, hx, if_pos bf2]
      rfl
  have hz31 := p_31 hzz (by omega)
  by_cases hy : 1 ≤ y.toInt ∧ y.toInt ≤ 6
  · obtain ⟨m, hm1, hm, rfl⟩ : ∃ m, 1 ≤ m ∧ m ≤ 6 ∧ y = nI m := ⟨y.toInt.toNat, by omega, by omega, Int32.toInt_inj.mp (by rw [nI_toInt (by omega)]; omega)⟩
    have c1 : ¬ nI m < (1 : Int32) := show ¬ nI m < nI 1 by rw [fa_lt]; omega
    have c2 : nI m ≤ (6 : Int32) := show nI m ≤ nI 6 by rw [fa_le]; omega
    obtain ⟨t1, e1, s1, g0, g1, g9⟩ := k_tg X C (nI zz)
    have s2 : Sm g t (wi t1 183 0 (nI 0)) := Sm_wi rfl s1
    have ha2 : tA (wi t1 183 0 (nI 0)) 184 = a := by rw [Sm_a X s2]; exact I.2.1
    obtain ⟨t3, e3, s3, k3⟩ := r_hears (t := wi t1 183 0 (nI 0)) X W ha2
    have h2k := p2048 (n := vP a) (by omega)
    have hfu : 2 ^ vP a < FU := by show 2 ^ vP a < 1000000; omega
    have hT : ∀ Y, (fun Y => @decide (chr a zz m Y) (Classical.propDecidable _)) Y = true ↔ chr a zz m Y := fun Y => @decide_eq_true_iff _ (Classical.propDecidable _)
    generalize (fun Y => @decide (chr a zz m Y) (Classical.propDecidable _)) = T at hT
    have er := r_choir_l (t := t3) (y := nI w) X W (by rw [Sm_a X s3]; exact ha2) k3 hz31 (by omega) hT (2 ^ vP a) 0 FU none (by omega) hfu (fun Y h => by cases h)
    have ec := k_choir_l (t := t1) X W g0 g9 g1 hzz (by omega) hT (2 ^ vP a) 0 FU none (by omega) hfu (fun Y h => by cases h)
    have hlt := scn_lt (T := T) (M := 2 ^ vP a) (2 ^ vP a) 0 none (by omega) (fun Y h => by cases h)
    generalize hSC : scn T (2 ^ vP a) 0 none = R at er ec hlt
    have ec' : F_X7_leastChoir 153 (nI m) (Em g t1) = some (oI R, Em g t1) := by
      unfold F_X7_leastChoir
      rw [x_i153_0 X, Option.bind_some, g0, show nI (vP a) + 1 = nI (vP a + 1) from nI_add (vP a) 1]
      exact ec
    refine ok_0 (r := chA (nI w) R) (t1 := t1) (t2 := t3) I hD ?_ ?_ s1 (Sm_t (Sm_wi (a := 183) (k := 0) rfl Sm_r) s3)
    · rw [hcl]
      unfold F_X11_choir_b12
      rw [c_r69 X C.2.2.2.1, Option.bind_some, v_rc V, Option.bind_some, k_isNotes V C, Option.bind_some, hx, if_neg bt, if_neg c1, if_pos c2, x_r69_9 X, Option.bind_some, c_r69 X C.2.2.2.1, Option.bind_some, x_r69_2 X, Option.bind_some, x_rc153 X, Option.bind_some, e1, Option.bind_some, x_r69_9 X, Option.bind_some, x_rc153 X, Option.bind_some, ec', Option.bind_some]
      rcases (show w = 0 ∨ w = 1 by omega) with e | e
      · subst e
        rw [if_neg (show ¬ ¬ nI 0 = (0 : Int32) from fun q => q rfl)]
        cases R with
        | none => rw [if_pos (show oI none = (-1 : Int32) from rfl)]; rfl
        | some Y =>
          have hY := hlt Y rfl
          have hne : ¬ oI (some Y) = (-1 : Int32) := by
            show ¬ nI Y = -nI 1
            rw [nI_m1e (by omega)]
            exact id
          rw [if_neg hne, show oI (some Y) = nI Y from rfl, k_bits Y (by omega), Option.bind_some]
          rfl
      · subst e
        rw [if_pos (show ¬ nI 1 = (0 : Int32) by decide)]
        cases R with
        | none => rfl
        | some Y => rfl
    · unfold F_X12_choir
      rw [hw0, Option.bind_some, within_1, Option.bind_some, hz, if_pos bt, x_rc183 X, Option.bind_some, q_isNotes X W ha2, Option.bind_some, hx, if_neg bt, within_6, Option.bind_some, decide_eq_true hy, if_pos bt, x_rc183 X, Option.bind_some, e3, Option.bind_some]
      exact er
  · refine ok_0 (r := -nI 3) (t1 := t) (t2 := wi t 183 0 (nI 0)) I hD ?_ ?_ Sm_r (Sm_wi (a := 183) (k := 0) rfl Sm_r)
    · rw [hcl]
      unfold F_X11_choir_b12
      rw [c_r69 X C.2.2.2.1, Option.bind_some, v_rc V, Option.bind_some, k_isNotes V C, Option.bind_some, hx, if_neg bt]
      by_cases c1 : y < nI 1
      · rw [if_pos (show y < (1 : Int32) from c1)]; rfl
      · have c2 : ¬ y ≤ nI 6 := by
          rw [fa_lt] at c1
          rw [fa_le]
          omega
        rw [if_neg (show ¬ y < (1 : Int32) from c1), if_neg (show ¬ y ≤ (6 : Int32) from c2)]; rfl
    · unfold F_X12_choir
      rw [hw0, Option.bind_some, within_1, Option.bind_some, hz, if_pos bt, x_rc183 X, Option.bind_some, q_isNotes X W ha0, Option.bind_some, hx, if_neg bt, within_6, Option.bind_some, decide_eq_false hy, if_neg bf]
      rfl
end XCh
