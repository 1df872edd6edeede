/-! ===== which blank hears which note: the tables of both ===== -/
def Ax (c : Nat) (t t' : Tb) : Prop := (∀ a k, tI t' a k = tI t a k) ∧ (∀ b, b ≠ c → tA t' b = tA t b) ∧ (∀ b, tJ t' b = tJ t b)
def hbl (a : Nat → Int32) (p n : Nat) : Nat := mk (fun b => hears a p n b) (vN a + 1)
def hnt (a : Nat → Int32) (p b : Nat) : Nat := mk (fun n => hears a p n b) (vN a)
/-- the kinds of the first b blanks -/
def Kd (a : Nat → Int32) (p : Nat) (KD : Nat → Nat) (kc b : Nat) : Prop := (∀ i, i < b → ∃ j, j < kc ∧ KD j = hnt a p i) ∧ (∀ j, j < kc → ∃ i, i < b ∧ KD j = hnt a p i) ∧ (∀ i j, i < j → j < kc → KD i ≠ KD j) ∧ kc ≤ b
section XTa
variable {g : Sk} {t : Tb} {a : Nat → Int32}
variable {D v x n nx p : Nat} {b c : Nat → Int32} {t' t'' t1 t2 : Tb}
theorem Ax_r {c : Nat} : Ax c t t := ⟨fun _ _ => rfl, fun _ _ => rfl, fun _ => rfl⟩
theorem Ax_t {c : Nat} (h : Ax c t t') (h2 : Ax c t' t'') : Ax c t t'' := ⟨fun a k => (h2.1 a k).trans (h.1 a k), fun b q => (h2.2.1 b q).trans (h.2.1 b q), fun b => (h2.2.2 b).trans (h.2.2 b)⟩
theorem Ax_wa {c k : Nat} {z : Int32} (h : Ax c t t') : Ax c t (wa t' c k z) := ⟨h.1, fun b q => (tA_an q).trans (h.2.1 b q), h.2.2⟩
theorem Ax_m {c : Nat} (hc : scA g c = true) (h : Ax c t t') : Sm g t t' := ⟨fun a k _ => h.1 a k, fun b q => h.2.1 b (by
  rintro rfl
  rw [hc] at q
  exact absurd q (by decide)), fun b _ => h.2.2 b⟩
theorem sn_x (X : Fx g) {b : Nat} (h : decide (69 ≤ b ∧ b < 205 ∧ S0 b ≠ 30 ∧ b ≠ 188 ∧ b ≠ 189) = true) : snA g b = false := by
  obtain ⟨h1, h2, h3, h4, h5⟩ := of_decide_eq_true h
  unfold snA
  rw [(X.1 b h1 h2).1]
  simp [h3, h4, h5]
theorem k_fillI_l {c L : Nat} {z : Int32} (hs : ic (gS g c)) (hL : gN g c = L) (hl : L < 500000) (h69 : 69 ≤ c) : ∀ (d k fuel : Nat) (t : Tb), k + d = L → d < fuel → ∃ t', F_J7_fill_53178_b5 fuel c z (nI k) (nI L) (Em g t) = some ((), Em g t') ∧ Ax c t t' ∧ (∀ j, k ≤ j → j < L → tA t' c j = z) ∧ (∀ j, j < k → tA t' c j = tA t c j) := by
  intro d
  induction d with
  | zero =>
    intro k fuel t hk hf
    obtain ⟨f, rfl⟩ : ∃ f, fuel = f + 1 := ⟨fuel - 1, by omega⟩
    have hk : k = L := by omega
    subst hk
    refine ⟨t, ?_, Ax_r, fun j h1 h2 => absurd h1 (by omega), fun _ _ => rfl⟩
    rw [F_J7_fill_53178_b5]
    simp (disch := omega) only [Option.bind_some, ↓reduceIte, ite_not, fa_lit, nI_add, nI_mulN, nI_an, nI_sub, irm_n, nI_eq, nI_leI, nI_ltI, v_pow, v_shr, v_bit, nI_cl, nI_m1e, Nat.le_refl]
  | succ d ih =>
    intro k fuel t hk hf
    obtain ⟨f, rfl⟩ : ∃ f, fuel = f + 1 := ⟨fuel - 1, by omega⟩
    have hk2 : ¬ L ≤ k := by omega
    have hw : sI (Em g t) c (nI k) z = some (Em g (wa t c k z)) := y_sI hs hL h69 (by omega) (by omega)
    obtain ⟨t2, e2, j2, z2, z3⟩ := ih (k + 1) f (wa t c k z) (by omega) (by omega)
    refine ⟨t2, ?_, Ax_t (Ax_wa Ax_r) j2, fun j h1 h2 => ?_, fun j hj => by rw [z3 j (by omega), tA_as, upd_n (by omega)]⟩
    · rw [F_J7_fill_53178_b5]
      simp (disch := omega) only [Option.bind_some, ↓reduceIte, ite_not, fa_lit, nI_add, nI_mulN, nI_an, nI_sub, irm_n, nI_eq, nI_leI, nI_ltI, v_pow, v_shr, v_bit, nI_cl, nI_m1e, hk2, hw]
      exact e2
    · by_cases e : j = k
      · rw [e, z3 k (by omega), tA_as, upd_s]
      · exact z2 j (by omega) h2
theorem k_fillI {c L : Nat} {z : Int32} (hs : ic (gS g c)) (hL : gN g c = L) (hl : L < 500000) (h69 : 69 ≤ c) : ∃ t', F_J7_fill_53178 c z (Em g t) = some ((), Em g t') ∧ Ax c t t' ∧ (∀ j, j < L → tA t' c j = z) := by
  have hfu : L < FU := by show L < 1000000; omega
  obtain ⟨t1, e1, j1, z1, _⟩ := k_fillI_l (z := z) hs hL hl h69 L 0 FU t (by omega) hfu
  refine ⟨t1, ?_, j1, fun j hj => z1 j (by omega) hj⟩
  have hal : al (Em g t) c = some (nI L) := by
    have h := E_al (sc := g.1) (n := gn g) (S := gS g) (N := gN g) (I := tI t) (A := tA t) (J := tJ t) (R := gR g) (Q := gQ g) (a := c) h69 (by
      rcases hs with q | q <;> omega)
    rw [hL] at h
    exact h
  unfold F_J7_fill_53178
  rw [hal, Option.bind_some]
  exact e1
/-! the reference -/
theorem r_lays_i (X : Fx g) (W : WA a D) (hp : p < vP a) {n : Nat} (hn : n < vN a) (kk : Nat → Int32 → Int32 → xH → Option (Unit × xH)) : ∀ (d b fuel : Nat) (t : Tb), b + d = vN a + 1 → d < fuel → tA t 184 = a → tA t 191 n = nI (mk (fun b => hears a p n b) b) → ∃ t', F_X12_laysHeard_b21 kk fuel 183 (nI p) (nI n) (nI b) (Em g t) = kk 183 (nI p) (nI (n + 1)) (Em g t') ∧ Sm g t t' ∧ tA t' 191 n = nI (hbl a p n) ∧ ∀ j, j ≠ n → tA t' 191 j = tA t 191 j := by
  have hN := wN3 W
  have hP := wP2 W
  intro d
  induction d with
  | zero =>
    intro b fuel t hb hf ha h9
    obtain ⟨f, rfl⟩ : ∃ f, fuel = f + 1 := ⟨fuel - 1, by omega⟩
    have hb : b = vN a + 1 := by omega
    subst hb
    have h1 : vN a < vN a + 1 := by omega
    refine ⟨t, ?_, Sm_r, h9, fun _ _ => rfl⟩
    rw [F_X12_laysHeard_b21]
    simp (disch := omega) only [x_rc183 X, x_i183_0 X, x_w183_0 X, x_r183_1 X, x_r183_2 X, x_r183_3 X, x_r183_4 X, x_i183_5 X, x_w183_5 X, x_i183_6 X, x_w183_6 X, x_i183_7 X, x_w183_7 X, x_i183_8 X, x_w183_8 X, x_i183_9 X, x_w183_9 X, x_i183_10 X, x_w183_10 X, x_i183_11 X, x_w183_11 X, x_i183_12 X, x_w183_12 X, x_i183_13 X, x_w183_13 X, x_i183_14 X, x_w183_14 X, x_i183_15 X, x_w183_15 X, x_r183_16 X, x_r183_17 X, x_r183_18 X, x_i183_19 X, x_w183_19 X, x_i183_20 X, x_w183_20 X, x_r183_21 X, x_r183_22 X, x_r183_23 X, x_r183_24 X, x_r183_25 X, x_i183_26 X, x_w183_26 X, x_r183_27 X, x_r183_28 X, x_r183_29 X, x_i183_30 X, x_w183_30 X, x_r183_31 X, x_r183_32 X, x_r183_33 X, x_r183_34 X, x_r183_35 X, x_r183_36 X, x_a184 X, x_s184 X, x_a185 X, x_s185 X, x_a186 X, x_s186 X, x_a187 X, x_s187 X, x_a188 X, x_s188 X, x_a189 X, x_s189 X, x_a190 X, x_s190 X, x_a191 X, x_s191 X, x_a192 X, x_s192 X, x_a193 X, x_s193 X, x_a194 X, x_s194 X, x_a195 X, x_s195 X, x_a196 X, x_s196 X, x_a197 X, x_s197 X, x_a198 X, x_s198 X, x_a199 X, x_s199 X, x_a200 X, x_s200 X, x_a201 X, x_s201 X, x_a202 X, x_s202 X, x_a203 X, x_s203 X, x_a204 X, x_s204 X, Option.bind_some, ↓reduceIte, ite_not, fa_lit, nI_add, nI_mulN, nI_an, nI_sub, irm_n, nI_eq, nI_leI, nI_ltI, v_pow, v_shr, v_bit, nI_cl, nI_m1e, ha, wN W, h1]
  | succ d ih =>
    intro b fuel t hb hf ha h9
    obtain ⟨f, rfl⟩ : ∃ f, fuel = f + 1 := ⟨fuel - 1, by omega⟩
    have h1 : ¬ vN a < b := by omega
    obtain ⟨t1, e1, s1⟩ := q_hearsByn X W ha hp (show n ≤ 20 by omega) (show b ≤ 20 by omega)
    have s1m := Sn_m s1
    have h91 : tA t1 191 = tA t 191 := s1.2.1 191 (sn_x X rfl)
    have fin : ∀ z : Int32, nI (mk (fun b => hears a p n b) b) ||| z = nI (mk (fun b => hears a p n b) (b + 1)) → ∃ t', F_X12_laysHeard_b55 kk (F_X12_laysHeard_b21 kk f) 183 (nI p) (nI n) (nI b) 191 (nI n) (nI (mk (fun b => hears a p n b) b)) z (Em g t1) = kk 183 (nI p) (nI (n + 1)) (Em g t') ∧ Sm g t t' ∧ tA t' 191 n = nI (hbl a p n) ∧ ∀ j, j ≠ n → tA t' 191 j = tA t 191 j := by
      intro z hz
      obtain ⟨t2, e2, s2, k2, k3⟩ := ih (b + 1) f (wa t1 191 n (nI (mk (fun b => hears a p n b) (b + 1)))) (by omega) (by omega) (by rw [tA_an (by decide), Sm_a X s1m, ha]) (by rw [tA_as, upd_s])
      refine ⟨t2, ?_, Sm_t (Sm_wa (sc_f rfl) s1m) s2, k2, fun j hj => by rw [k3 j hj, tA_as, upd_n hj, h91]⟩
      unfold F_X12_laysHeard_b55
      rw [hz]
      simp (disch := omega) only [x_rc183 X, x_i183_0 X, x_w183_0 X, x_r183_1 X, x_r183_2 X, x_r183_3 X, x_r183_4 X, x_i183_5 X, x_w183_5 X, x_i183_6 X, x_w183_6 X, x_i183_7 X, x_w183_7 X, x_i183_8 X, x_w183_8 X, x_i183_9 X, x_w183_9 X, x_i183_10 X, x_w183_10 X, x_i183_11 X, x_w183_11 X, x_i183_12 X, x_w183_12 X, x_i183_13 X, x_w183_13 X, x_i183_14 X, x_w183_14 X, x_i183_15 X, x_w183_15 X, x_r183_16 X, x_r183_17 X, x_r183_18 X, x_i183_19 X, x_w183_19 X, x_i183_20 X, x_w183_20 X, x_r183_21 X, x_r183_22 X, x_r183_23 X, x_r183_24 X, x_r183_25 X, x_i183_26 X, x_w183_26 X, x_r183_27 X, x_r183_28 X, x_r183_29 X, x_i183_30 X, x_w183_30 X, x_r183_31 X, x_r183_32 X, x_r183_33 X, x_r183_34 X, x_r183_35 X, x_r183_36 X, x_a184 X, x_s184 X, x_a185 X, x_s185 X, x_a186 X, x_s186 X, x_a187 X, x_s187 X, x_a188 X, x_s188 X, x_a189 X, x_s189 X, x_a190 X, x_s190 X, x_a191 X, x_s191 X, x_a192 X, x_s192 X, x_a193 X, x_s193 X, x_a194 X, x_s194 X, x_a195 X, x_s195 X, x_a196 X, x_s196 X, x_a197 X, x_s197 X, x_a198 X, x_s198 X, x_a199 X, x_s199 X, x_a200 X, x_s200 X, x_a201 X, x_s201 X, x_a202 X, x_s202 X, x_a203 X, x_s203 X, x_a204 X, x_s204 X, Option.bind_some, ↓reduceIte, ite_not, fa_lit, nI_add, nI_mulN, nI_an, nI_sub, irm_n, nI_eq, nI_leI, nI_ltI, v_pow, v_shr, v_bit, nI_cl, nI_m1e]
      exact e2
    rw [F_X12_laysHeard_b21]
    cases hh : hears a p n b
    · obtain ⟨t', e', r⟩ := fin (nI 0) (s_or0 (f := fun b => hears a p n b) hh)
      refine ⟨t', ?_, r⟩
      rw [hh] at e1
      simp (disch := omega) only [x_rc183 X, x_i183_0 X, x_w183_0 X, x_r183_1 X, x_r183_2 X, x_r183_3 X, x_r183_4 X, x_i183_5 X, x_w183_5 X, x_i183_6 X, x_w183_6 X, x_i183_7 X, x_w183_7 X, x_i183_8 X, x_w183_8 X, x_i183_9 X, x_w183_9 X, x_i183_10 X, x_w183_10 X, x_i183_11 X, x_w183_11 X, x_i183_12 X, x_w183_12 X, x_i183_13 X, x_w183_13 X, x_i183_14 X, x_w183_14 X, x_i183_15 X, x_w183_15 X, x_r183_16 X, x_r183_17 X, x_r183_18 X, x_i183_19 X, x_w183_19 X, x_i183_20 X, x_w183_20 X, x_r183_21 X, x_r183_22 X, x_r183_23 X, x_r183_24 X, x_r183_25 X, x_i183_26 X, x_w183_26 X, x_r183_27 X, x_r183_28 X, x_r183_29 X, x_i183_30 X, x_w183_30 X, x_r183_31 X, x_r183_32 X, x_r183_33 X, x_r183_34 X, x_r183_35 X, x_r183_36 X, x_a184 X, x_s184 X, x_a185 X, x_s185 X, x_a186 X, x_s186 X, x_a187 X, x_s187 X, x_a188 X, x_s188 X, x_a189 X, x_s189 X, x_a190 X, x_s190 X, x_a191 X, x_s191 X, x_a192 X, x_s192 X, x_a193 X, x_s193 X, x_a194 X, x_s194 X, x_a195 X, x_s195 X, x_a196 X, x_s196 X, x_a197 X, x_s197 X, x_a198 X, x_s198 X, x_a199 X, x_s199 X, x_a200 X, x_s200 X, x_a201 X, x_s201 X, x_a202 X, x_s202 X, x_a203 X, x_s203 X, x_a204 X, x_s204 X, Option.bind_some, ↓reduceIte, ite_not, fa_lit, nI_add, nI_mulN, nI_an, nI_sub, irm_n, nI_eq, nI_leI, nI_ltI, v_pow, v_shr, v_bit, nI_cl, nI_m1e, ha, wN W, h1, h9, e1, bI_z]
      exact e'
    · obtain ⟨t', e', r⟩ := fin (nI (2 ^ b)) (s_or1 (f := fun b => hears a p n b) hh)
      refine ⟨t', ?_, r⟩
      rw [hh] at e1
      simp (disch := omega) only [x_rc183 X, x_i183_0 X, x_w183_0 X, x_r183_1 X, x_r183_2 X, x_r183_3 X, x_r183_4 X, x_i183_5 X, x_w183_5 X, x_i183_6 X, x_w183_6 X, x_i183_7 X, x_w183_7 X, x_i183_8 X, x_w183_8 X, x_i183_9 X, x_w183_9 X, x_i183_10 X, x_w183_10 X, x_i183_11 X, x_w183_11 X, x_i183_12 X, x_w183_12 X, x_i183_13 X, x_w183_13 X, x_i183_14 X, x_w183_14 X, x_i183_15 X, x_w183_15 X, x_r183_16 X, x_r183_17 X, x_r183_18 X, x_i183_19 X, x_w183_19 X, x_i183_20 X, x_w183_20 X, x_r183_21 X, x_r183_22 X, x_r183_23 X, x_r183_24 X, x_r183_25 X, x_i183_26 X, x_w183_26 X, x_r183_27 X, x_r183_28 X, x_r183_29 X, x_i183_30 X, x_w183_30 X, x_r183_31 X, x_r183_32 X, x_r183_33 X, x_r183_34 X, x_r183_35 X, x_r183_36 X, x_a184 X, x_s184 X, x_a185 X, x_s185 X, x_a186 X, x_s186 X, x_a187 X, x_s187 X, x_a188 X, x_s188 X, x_a189 X, x_s189 X, x_a190 X, x_s190 X, x_a191 X, x_s191 X, x_a192 X, x_s192 X, x_a193 X, x_s193 X, x_a194 X, x_s194 X, x_a195 X, x_s195 X, x_a196 X, x_s196 X, x_a197 X, x_s197 X, x_a198 X, x_s198 X, x_a199 X, x_s199 X, x_a200 X, x_s200 X, x_a201 X, x_s201 X, x_a202 X, x_s202 X, x_a203 X, x_s203 X, x_a204 X, x_s204 X, Option.bind_some, ↓reduceIte, ite_not, fa_lit, nI_add, nI_mulN, nI_an, nI_sub, irm_n, nI_eq, nI_leI, nI_ltI, v_pow, v_shr, v_bit, nI_cl, nI_m1e, ha, wN W, h1, h9, e1, bI_z, Bool.true_eq_false]
      exact e'
theorem r_lays_l (X : Fx g) (W : WA a D) (hp : p < vP a) : ∀ (d n fuel : Nat) (t : Tb), n + d = vN a → d < fuel → tA t 184 = a → (∀ j, j < n → tA t 191 j = nI (hbl a p j)) → ∃ t', F_X12_laysHeard_b2 fuel 183 (nI p) (nI n) (Em g t) = some ((), Em g t') ∧ Sm g t t' ∧ ∀ j, j < vN a → tA t' 191 j = nI (hbl a p j) := by
  have hN := wN3 W
  have hP := wP2 W
  intro d
  induction d with
  | zero =>
    intro n fuel t hn hf ha h9
    obtain ⟨f, rfl⟩ : ∃ f, fuel = f + 1 := ⟨fuel - 1, by omega⟩
    have hn : n = vN a := by omega
    subst hn
    refine ⟨t, ?_, Sm_r, h9⟩
    rw [F_X12_laysHeard_b2]
    simp (disch := omega) only [x_rc183 X, x_i183_0 X, x_w183_0 X, x_r183_1 X, x_r183_2 X, x_r183_3 X, x_r183_4 X, x_i183_5 X, x_w183_5 X, x_i183_6 X, x_w183_6 X, x_i183_7 X, x_w183_7 X, x_i183_8 X, x_w183_8 X, x_i183_9 X, x_w183_9 X, x_i183_10 X, x_w183_10 X, x_i183_11 X, x_w183_11 X, x_i183_12 X, x_w183_12 X, x_i183_13 X, x_w183_13 X, x_i183_14 X, x_w183_14 X, x_i183_15 X, x_w183_15 X, x_r183_16 X, x_r183_17 X, x_r183_18 X, x_i183_19 X, x_w183_19 X, x_i183_20 X, x_w183_20 X, x_r183_21 X, x_r183_22 X, x_r183_23 X, x_r183_24 X, x_r183_25 X, x_i183_26 X, x_w183_26 X, x_r183_27 X, x_r183_28 X, x_r183_29 X, x_i183_30 X, x_w183_30 X, x_r183_31 X, x_r183_32 X, x_r183_33 X, x_r183_34 X, x_r183_35 X, x_r183_36 X, x_a184 X, x_s184 X, x_a185 X, x_s185 X, x_a186 X, x_s186 X, x_a187 X, x_s187 X, x_a188 X, x_s188 X, x_a189 X, x_s189 X, x_a190 X, x_s190 X, x_a191 X, x_s191 X, x_a192 X, x_s192 X, x_a193 X, x_s193 X, x_a194 X, x_s194 X, x_a195 X, x_s195 X, x_a196 X, x_s196 X, x_a197 X, x_s197 X, x_a198 X, x_s198 X, x_a199 X, x_s199 X, x_a200 X, x_s200 X, x_a201 X, x_s201 X, x_a202 X, x_s202 X, x_a203 X, x_s203 X, x_a204 X, x_s204 X, Option.bind_some, ↓reduceIte, ite_not, fa_lit, nI_add, nI_mulN, nI_an, nI_sub, irm_n, nI_eq, nI_leI, nI_ltI, v_pow, v_shr, v_bit, nI_cl, nI_m1e, ha, wN W, Nat.le_refl]
  | succ d ih =>
    intro n fuel t hn hf ha h9
    obtain ⟨f, rfl⟩ : ∃ f, fuel = f + 1 := ⟨fuel - 1, by omega⟩
    have h1 : ¬ vN a ≤ n := by omega
    have hfu : vN a + 1 < FU := by show vN a + 1 < 1000000; omega
    obtain ⟨t1, e1, s1, k1, k2⟩ := r_lays_i X W hp (n := n) (by omega) (F_X12_laysHeard_b2 f) (vN a + 1) 0 FU (wa t 191 n (nI 0)) (by omega) hfu (by rw [tA_an (by decide), ha]) (by rw [tA_as, upd_s]; rfl)
    have s0 : Sm g t (wa t 191 n (nI 0)) := Sm_wa (sc_f rfl) Sm_r
    obtain ⟨t2, e2, s2, k3⟩ := ih (n + 1) f t1 (by omega) (by omega) (by rw [Sm_a X s1, tA_an (by decide), ha]) (fun j hj => by
      by_cases e : j = n
      · rw [e]; exact k1
      · rw [k2 j e, tA_as, upd_n e]
        exact h9 j (by omega))
    refine ⟨t2, ?_, Sm_t s0 (Sm_t s1 s2), k3⟩
    rw [F_X12_laysHeard_b2]
    have a1 : aI (Em g t) 184 1 = some (tA t 184 1) := x_a184 X (k := 1) (by decide)
    have c1 : ¬ nI (vN a) ≤ nI n := by rw [nI_leI (by omega) (by omega)]; exact h1
    rw [x_r183_1 X, Option.bind_some, a1, Option.bind_some, ha, wN W, if_neg c1, x_r183_21 X, Option.bind_some, x_s191 X (by omega), Option.bind_some]
    exact e1.trans e2
theorem r_lays (X : Fx g) (W : WA a D) (hp : p < vP a) (ha : tA t 184 = a) : ∃ t', F_X12_laysHeard 183 (nI p) (Em g t) = some ((), Em g t') ∧ Sm g t t' ∧ ∀ j, j < vN a → tA t' 191 j = nI (hbl a p j) := by
  have hN := wN3 W
  have hfu : vN a < FU := by show vN a < 1000000; omega
  exact r_lays_l X W hp (vN a) 0 FU t (by omega) hfu ha (fun j hj => absurd hj (by omega))
/-! the class -/
theorem k_new_l (X : Fx g) {KD : Nat → Nat} {kc z : Nat} (h3 : tI t 148 3 = nI kc) (hkc : kc ≤ 11) (hz : z < 2 ^ 31) (hb : ∀ j, j < kc → KD j < 2 ^ 31 ∧ tA t 150 j = nI (KD j)) : ∀ (d k fuel : Nat), k + d = kc → d < fuel → (∀ j, j < k → KD j ≠ z) → ∃ r : Bool, F_X9_isNewKind_b2 fuel 148 (nI z) (nI k) (Em g t) = some (bI r, Em g t) ∧ (r = true ↔ ∀ j, j < kc → KD j ≠ z) := by
  intro d
  induction d with
  | zero =>
    intro k fuel hk hf hn
    obtain ⟨f, rfl⟩ : ∃ f, fuel = f + 1 := ⟨fuel - 1, by omega⟩
    have hk : k = kc := by omega
    subst hk
    refine ⟨true, ?_, ⟨fun _ => hn, fun _ => rfl⟩⟩
    rw [F_X9_isNewKind_b2]
    simp (disch := omega) only [x_rc148 X, x_i148_0 X, x_w148_0 X, x_r148_1 X, x_r148_2 X, x_i148_3 X, x_w148_3 X, x_r148_4 X, x_r148_5 X, x_a149 X, x_s149 X, x_a150 X, x_s150 X, x_a151 X, x_s151 X, x_a152 X, x_s152 X, Option.bind_some, ↓reduceIte, ite_not, fa_lit, nI_add, nI_mulN, nI_an, nI_sub, irm_n, nI_eq, nI_leI, nI_ltI, v_pow, v_shr, v_bit, nI_cl, nI_m1e, h3, Nat.le_refl]
    rfl
  | succ d ih =>
    intro k fuel hk hf hn
    obtain ⟨f, rfl⟩ : ∃ f, fuel = f + 1 := ⟨fuel - 1, by omega⟩
    have h1 : ¬ kc ≤ k := by omega
    have hb2 := hb k (by omega)
    have hkd := hb2.1
    by_cases e : KD k = z
    · refine ⟨false, ?_, ⟨fun h => absurd h (by decide), fun h => absurd e (h k (by omega))⟩⟩
      rw [F_X9_isNewKind_b2]
      simp (disch := omega) only [x_rc148 X, x_i148_0 X, x_w148_0 X, x_r148_1 X, x_r148_2 X, x_i148_3 X, x_w148_3 X, x_r148_4 X, x_r148_5 X, x_a149 X, x_s149 X, x_a150 X, x_s150 X, x_a151 X, x_s151 X, x_a152 X, x_s152 X, Option.bind_some, ↓reduceIte, ite_not, fa_lit, nI_add, nI_mulN, nI_an, nI_sub, irm_n, nI_eq, nI_leI, nI_ltI, v_pow, v_shr, v_bit, nI_cl, nI_m1e, h3, h1, hb2.2, e]
      rfl
    · obtain ⟨r, e2, h2⟩ := ih (k + 1) f (by omega) (by omega) (fun j hj => by
        by_cases e3 : j = k
        · rw [e3]; exact e
        · exact hn j (by omega))
      refine ⟨r, ?_, h2⟩
      rw [← e2, F_X9_isNewKind_b2]
      simp (disch := omega) only [x_rc148 X, x_i148_0 X, x_w148_0 X, x_r148_1 X, x_r148_2 X, x_i148_3 X, x_w148_3 X, x_r148_4 X, x_r148_5 X, x_a149 X, x_s149 X, x_a150 X, x_s150 X, x_a151 X, x_s151 X, x_a152 X, x_s152 X, Option.bind_some, ↓reduceIte, ite_not, fa_lit, nI_add, nI_mulN, nI_an, nI_sub, irm_n, nI_eq, nI_leI, nI_ltI, v_pow, v_shr, v_bit, nI_cl, nI_m1e, h3, h1, hb2.2, e]
theorem k_add_l (X : Fx g) {KD : Nat → Nat} {kc z N : Nat} (hN : N ≤ 10) (hkc : kc < 11) (hz : z < 2 ^ 31) (hzk : KD kc = z) : ∀ (d k fuel : Nat) (t : Tb), k + d = N → d < fuel → tI t 148 0 = nI N → tI t 148 3 = nI kc → (∀ n, n < N → tA t 151 n = nI (mk (fun j => (KD j).testBit n) (if n < k then kc + 1 else kc))) → ∃ t', F_X9_addKind_b12 fuel 148 (nI z) (nI k) (Em g t) = some ((), Em g t') ∧ (Sm g t t' ∧ (∀ b, b ≠ 151 → tA t' b = tA t b)) ∧ tI t' 148 0 = nI N ∧ tI t' 148 3 = nI (kc + 1) ∧ (∀ n, n < N → tA t' 151 n = nI (mk (fun j => (KD j).testBit n) (kc + 1))) := by
  intro d
  induction d with
  | zero =>
    intro k fuel t hk hf h0 h3 h5
    obtain ⟨f, rfl⟩ : ∃ f, fuel = f + 1 := ⟨fuel - 1, by omega⟩
    have hk : k = N := by omega
    subst hk
    refine ⟨wi t 148 3 (nI (kc + 1)), ?_, ⟨Sm_wi rfl Sm_r, fun _ _ => rfl⟩, by rw [tI_ik (by decide)]; exact h0, tI_is, fun n hn => ?_⟩
    · rw [F_X9_addKind_b12]
      simp (disch := omega) only [x_rc148 X, x_i148_0 X, x_w148_0 X, x_r148_1 X, x_r148_2 X, x_i148_3 X, x_w148_3 X, x_r148_4 X, x_r148_5 X, x_a149 X, x_s149 X, x_a150 X, x_s150 X, x_a151 X, x_s151 X, x_a152 X, x_s152 X, Option.bind_some, ↓reduceIte, ite_not, fa_lit, nI_add, nI_mulN, nI_an, nI_sub, irm_n, nI_eq, nI_leI, nI_ltI, v_pow, v_shr, v_bit, nI_cl, nI_m1e, h0, h3, Nat.le_refl]
    · have := h5 n hn
      rw [if_pos hn] at this
      exact this
  | succ d ih =>
    intro k fuel t hk hf h0 h3 h5
    obtain ⟨f, rfl⟩ : ∃ f, fuel = f + 1 := ⟨fuel - 1, by omega⟩
    have h1 : ¬ N ≤ k := by omega
    have b1 : ∀ b : Bool, (bI b = nI 1) = (b = true) := by decide
    have hk5 := h5 k (by omega)
    rw [if_neg (by omega)] at hk5
    cases hq : z.testBit k
    · obtain ⟨t2, e2, r⟩ := ih (k + 1) f t (by omega) (by omega) h0 h3 (fun n hn => by
        by_cases e : n = k
        · rw [e, if_pos (by omega), mk_no _ _ (by rw [hzk]; exact hq)]
          exact hk5
        · rw [h5 n hn]
          by_cases e2 : n < k
          · rw [if_pos e2, if_pos (by omega)]
          · rw [if_neg e2, if_neg (by omega)])
      refine ⟨t2, ?_, r⟩
      rw [← e2, F_X9_addKind_b12]
      simp (disch := omega) only [x_rc148 X, x_i148_0 X, x_w148_0 X, x_r148_1 X, x_r148_2 X, x_i148_3 X, x_w148_3 X, x_r148_4 X, x_r148_5 X, x_a149 X, x_s149 X, x_a150 X, x_s150 X, x_a151 X, x_s151 X, x_a152 X, x_s152 X, Option.bind_some, ↓reduceIte, ite_not, fa_lit, nI_add, nI_mulN, nI_an, nI_sub, irm_n, nI_eq, nI_leI, nI_ltI, v_pow, v_shr, v_bit, nI_cl, nI_m1e, h0, h1, hq, b1, Bool.false_eq_true]
    · obtain ⟨t2, e2, r1, r2⟩ := ih (k + 1) f (wa t 151 k (nI (mk (fun j => (KD j).testBit k) (kc + 1)))) (by omega) (by omega) h0 h3 (fun n hn => by
        rw [tA_as]
        by_cases e : n = k
        · rw [e, if_pos (by omega), upd_s]
        · rw [upd_n e, h5 n hn]
          by_cases e2 : n < k
          · rw [if_pos e2, if_pos (by omega)]
          · rw [if_neg e2, if_neg (by omega)])
      refine ⟨t2, ?_, ⟨Sm_t (Sm_wa (sc_f rfl) Sm_r) r1.1, fun b hb => by rw [r1.2 b hb, tA_an hb]⟩, r2⟩
      have eor : nI (mk (fun j => (KD j).testBit k) kc) ||| nI (2 ^ kc) = nI (mk (fun j => (KD j).testBit k) (kc + 1)) := s_or1 (f := fun j => (KD j).testBit k) (by rw [hzk]; exact hq)
      rw [← e2, F_X9_addKind_b12]
      simp (disch := omega) only [x_rc148 X, x_i148_0 X, x_w148_0 X, x_r148_1 X, x_r148_2 X, x_i148_3 X, x_w148_3 X, x_r148_4 X, x_r148_5 X, x_a149 X, x_s149 X, x_a150 X, x_s150 X, x_a151 X, x_s151 X, x_a152 X, x_s152 X, Option.bind_some, ↓reduceIte, ite_not, fa_lit, nI_add, nI_mulN, nI_an, nI_sub, irm_n, nI_eq, nI_leI, nI_ltI, v_pow, v_shr, v_bit, nI_cl, nI_m1e, h0, h3, h1, hq, b1, hk5, eor]
theorem hnt_31 (W : WA a D) {q : Nat} : hnt a p q < 2 ^ 31 := mk_31 (by have := wN3 W; omega)
theorem k_gath_l (X : Fx g) (hp : p < vP a) : ∀ (d b fuel : Nat) (t : Tb) (KD : Nat → Nat) (kc : Nat), CP g t v a D → b + d = vN a + 1 → d < fuel → Kd a p KD kc b → tI t 148 0 = nI (vN a) → tI t 148 3 = nI kc → (∀ q, q < b → tA t 149 q = nI (hnt a p q)) → (∀ j, j < kc → tA t 150 j = nI (KD j)) → (∀ n, n < vN a → tA t 151 n = nI (mk (fun j => (KD j).testBit n) kc)) → ∃ t' KD' kc', F_X9_gather_b24 fuel 148 v 95 (nI p) (nI b) (Em g t) = some ((), Em g t') ∧ Sm g t t' ∧ Kd a p KD' kc' (vN a + 1) ∧ tI t' 148 0 = nI (vN a) ∧ tI t' 148 3 = nI kc' ∧ (∀ q, q < vN a + 1 → tA t' 149 q = nI (hnt a p q)) ∧ (∀ j, j < kc' → tA t' 150 j = nI (KD' j)) ∧ (∀ n, n < vN a → tA t' 151 n = nI (mk (fun j => (KD' j).testBit n) kc')) := by
  intro d
  induction d with
  | zero =>
    intro b fuel t KD kc C hb hf hK h0 h3 h9 h50 h51
    have W := C.1
    have hN := wN3 W
    have hP := wP2 W
    obtain ⟨f, rfl⟩ : ∃ f, fuel = f + 1 := ⟨fuel - 1, by omega⟩
    have hb : b = vN a + 1 := by omega
    subst hb
    have h1 : vN a < vN a + 1 := by omega
    refine ⟨t, KD, kc, ?_, Sm_r, hK, h0, h3, h9, h50, h51⟩
    rw [F_X9_gather_b24]
    simp (disch := omega) only [x_rc148 X, x_i148_0 X, x_w148_0 X, x_r148_1 X, x_r148_2 X, x_i148_3 X, x_w148_3 X, x_r148_4 X, x_r148_5 X, x_a149 X, x_s149 X, x_a150 X, x_s150 X, x_a151 X, x_s151 X, x_a152 X, x_s152 X, Option.bind_some, ↓reduceIte, ite_not, fa_lit, nI_add, nI_mulN, nI_an, nI_sub, irm_n, nI_eq, nI_leI, nI_ltI, v_pow, v_shr, v_bit, nI_cl, nI_m1e, h0, h1]
  | succ d ih =>
    intro b fuel t KD kc C hb hf hK h0 h3 h9 h50 h51
    have W := C.1
    have V := C.2.1
    have hN := wN3 W
    have hP := wP2 W
    obtain ⟨f, rfl⟩ : ∃ f, fuel = f + 1 := ⟨fuel - 1, by omega⟩
    have h1 : ¬ vN a < b := by omega
    have hkc : kc ≤ b := hK.2.2.2
    obtain ⟨t1, e1, s1⟩ := k_heardWithn X V C hp (show b ≤ 20 by omega)
    rw [show mk (fun n => hears a p n b) (vN a) = hnt a p b from rfl] at e1
    have s1m := Sn_m s1
    have hz := hnt_31 (p := p) (q := b) W
    have i0 : ∀ k, tI (wa t1 149 b (nI (hnt a p b))) 148 k = tI t 148 k := fun k => s1.1 148 k
    have a50 : tA (wa t1 149 b (nI (hnt a p b))) 150 = tA t 150 := by rw [tA_an (by decide)]; exact s1.2.1 150 (sn_x X rfl)
    have a51 : tA (wa t1 149 b (nI (hnt a p b))) 151 = tA t 151 := by rw [tA_an (by decide)]; exact s1.2.1 151 (sn_x X rfl)
    have a49 : ∀ q, q < b + 1 → tA (wa t1 149 b (nI (hnt a p b))) 149 q = nI (hnt a p q) := fun q hq => by
      rw [tA_as]
      by_cases e : q = b
      · rw [e, upd_s]
      · rw [upd_n e, s1.2.1 149 (sn_x X rfl)]
        exact h9 q (by omega)
    have s2m : Sm g t (wa t1 149 b (nI (hnt a p b))) := Sm_wa (sc_f rfl) s1m
    have C2 := CP_s X C s2m
    generalize ht2 : wa t1 149 b (nI (hnt a p b)) = t2 at i0 a50 a51 a49 s2m C2
    have hfk : kc < FU := by show kc < 1000000; omega
    have hkb : ∀ j, j < kc → KD j < 2 ^ 31 := fun j hj => by
      obtain ⟨i, _, e⟩ := hK.2.1 j hj
      rw [e]; exact hnt_31 W
    obtain ⟨r, er, hr⟩ := k_new_l (t := t2) (KD := KD) (z := hnt a p b) X (by rw [i0]; exact h3) (by omega) hz (fun j hj => ⟨hkb j hj, by rw [a50]; exact h50 j hj⟩) kc 0 FU (by omega) hfk (fun j hj => absurd hj (by omega))
    have hset : sI (Em g t1) 149 (nI b) (nI (hnt a p b)) = some (Em g t2) := by rw [← ht2]; exact x_s149 X (by omega)
    have h49b : tA t2 149 b = nI (hnt a p b) := a49 b (by omega)
    have er' : F_X9_isNewKind 148 (nI (hnt a p b)) (Em g t2) = some (bI r, Em g t2) := er
    have c1 : ¬ nI (vN a) < nI b := by rw [nI_ltI (by omega) (by omega)]; exact h1
    have r49 : ∀ t, aI (Em g t) 149 (nI b) = some (tA t 149 b) := fun t => x_a149 X (by omega)
    have head : F_X9_gather_b24 (f + 1) 148 v 95 (nI p) (nI b) (Em g t) = if bI r = 0 then F_X9_gather_b24 f 148 v 95 (nI p) (nI (b + 1)) (Em g t2) else (F_X9_addKind 148 (nI (hnt a p b)) (Em g t2)).bind fun z => F_X9_gather_b24 f 148 v 95 (nI p) (nI (b + 1)) z.2 := by
      rw [F_X9_gather_b24, x_i148_0 X, Option.bind_some, h0, if_neg c1, x_r148_1 X, Option.bind_some, v_rc V, Option.bind_some, e1, Option.bind_some, hset, Option.bind_some, x_r148_1 X, Option.bind_some, r49, Option.bind_some, h49b, x_rc148 X, Option.bind_some, er', Option.bind_some]
      have hb1 : nI b + 1 = nI (b + 1) := nI_add b 1
      rw [hb1]
      split
      · rfl
      · rw [x_r148_1 X, Option.bind_some, r49, Option.bind_some, h49b, x_rc148 X, Option.bind_some]
    rw [head]
    cases r
    · have hnn : ¬ ∀ j, j < kc → KD j ≠ hnt a p b := fun h => absurd (hr.mpr h) (by decide)
      have hex : ∃ j, j < kc ∧ KD j = hnt a p b := by
        apply Classical.byContradiction
        intro h
        exact hnn (fun j hj e => h ⟨j, hj, e⟩)
      have hK2 : Kd a p KD kc (b + 1) := by
        refine ⟨fun i hi => ?_, fun j hj => ?_, hK.2.2.1, by omega⟩
        · by_cases e : i = b
          · rw [e]; exact hex
          · exact hK.1 i (by omega)
        · obtain ⟨i, h2, h4⟩ := hK.2.1 j hj
          exact ⟨i, by omega, h4⟩
      obtain ⟨t3, KD', kc', e3, s3, r3⟩ := ih (b + 1) f t2 KD kc C2 (by omega) (by omega) hK2 (by rw [i0]; exact h0) (by rw [i0]; exact h3) a49 (fun j hj => by rw [a50]; exact h50 j hj) (fun n hn => by rw [a51]; exact h51 n hn)
      refine ⟨t3, KD', kc', ?_, Sm_t s2m s3, r3⟩
      rw [if_pos (show bI false = (0 : Int32) by decide)]
      exact e3
    · have hnew := hr.mp rfl
      obtain ⟨KD2, hk1, hk2⟩ : ∃ KD2 : Nat → Nat, KD2 kc = hnt a p b ∧ ∀ j, j ≠ kc → KD2 j = KD j := ⟨fun j => if j = kc then hnt a p b else KD j, if_pos rfl, fun j h => if_neg h⟩
      have hK2 : Kd a p KD2 (kc + 1) (b + 1) := by
        refine ⟨fun i hi => ?_, fun j hj => ?_, fun i j hij hj => ?_, by omega⟩
        · by_cases e : i = b
          · exact ⟨kc, by omega, by rw [hk1, e]⟩
          · obtain ⟨j, h2, h4⟩ := hK.1 i (by omega)
            exact ⟨j, by omega, by rw [hk2 j (by omega)]; exact h4⟩
        · by_cases e : j = kc
          · exact ⟨b, by omega, by rw [e]; exact hk1⟩
          · obtain ⟨i, h2, h4⟩ := hK.2.1 j (by omega)
            exact ⟨i, by omega, by rw [hk2 j e]; exact h4⟩
        · rw [hk2 i (by omega)]
          by_cases e : j = kc
          · rw [e, hk1]; exact hnew i (by omega)
          · rw [hk2 j e]; exact hK.2.2.1 i j hij (by omega)
      have hkd1 : ∀ m n, m ≤ kc → mk (fun j => (KD2 j).testBit n) m = mk (fun j => (KD j).testBit n) m := fun m n hm => mk_cong (fun j hj => by rw [hk2 j (by omega)])
      have hfn : vN a < FU := by show vN a < 1000000; omega
      obtain ⟨t3, e3, r1, r2, r3, r4⟩ := k_add_l (KD := KD2) (kc := kc) (z := hnt a p b) X hN (by omega) hz hk1 (vN a) 0 FU (wa t2 150 kc (nI (hnt a p b))) (by omega) hfn (by rw [tI_wa, i0]; exact h0) (by rw [tI_wa, i0]; exact h3) (fun n hn => by
        rw [if_neg (by omega), hkd1 kc n (Nat.le_refl kc), tA_an (by decide), a51]
        exact h51 n hn)
      have s3m : Sm g t2 (wa t2 150 kc (nI (hnt a p b))) := Sm_wa (sc_f rfl) Sm_r
      have C3 := CP_s X C2 (Sm_t s3m r1.1)
      obtain ⟨t4, KD', kc', e4, s4, r5⟩ := ih (b + 1) f t3 KD2 (kc + 1) C3 (by omega) (by omega) hK2 r2 r3 (fun q hq => by rw [r1.2 149 (by decide), tA_an (by decide)]; exact a49 q hq) (fun j hj => by
        rw [r1.2 150 (by decide), tA_as]
        by_cases e : j = kc
        · rw [e, upd_s, hk1]
        · rw [upd_n e, hk2 j e, a50]
          exact h50 j (by omega)) r4
      refine ⟨t4, KD', kc', ?_, Sm_t s2m (Sm_t s3m (Sm_t r1.1 s4)), r5⟩
      have e3' : F_X9_addKind 148 (nI (hnt a p b)) (Em g t2) = some ((), Em g t3) := by
        unfold F_X9_addKind
        rw [x_r148_2 X, Option.bind_some, x_i148_3 X, Option.bind_some, i0, h3, x_s150 X (by omega), Option.bind_some]
        exact e3
      rw [if_neg (show ¬ bI true = (0 : Int32) by decide), e3', Option.bind_some]
      exact e4
theorem k_gather (X : Fx g) (C : CP g t v a D) (hp : p < vP a) : ∃ t' KD kc, F_X9_gather 148 v 95 (nI p) (Em g t) = some ((), Em g t') ∧ Sm g t t' ∧ Kd a p KD kc (vN a + 1) ∧ tI t' 148 0 = nI (vN a) ∧ tI t' 148 3 = nI kc ∧ (∀ q, q < vN a + 1 → tA t' 149 q = nI (hnt a p q)) ∧ (∀ j, j < kc → tA t' 150 j = nI (KD j)) ∧ (∀ n, n < vN a → tA t' 151 n = nI (mk (fun j => (KD j).testBit n) kc)) := by
  have W := C.1
  have hN := wN3 W
  obtain ⟨t1, e1, j1, z1⟩ := k_fillI (g := g) (c := 151) (L := 10) (z := nI 0) (t := wi (wi t 148 0 (nI (vN a))) 148 3 (nI 0)) (Or.inl (x_S X 20 rfl)) (x_N X 10 rfl) (by decide) (by decide)
  have s1 : Sm g t t1 := Sm_t (Sm_wi rfl (Sm_wi rfl Sm_r)) (Ax_m (sc_f rfl) j1)
  have hfu : vN a + 1 < FU := by show vN a + 1 < 1000000; omega
  obtain ⟨t2, KD, kc, e2, s2, r⟩ := k_gath_l (v := v) (D := D) X hp (vN a + 1) 0 FU t1 (fun _ => 0) 0 (CP_s X C s1) (by omega) hfu ⟨fun i hi => absurd hi (by omega), fun j hj => absurd hj (by omega), fun i j _ hj => absurd hj (by omega), Nat.le_refl 0⟩ (by rw [j1.1, tI_ik (by decide), tI_is]) (by rw [j1.1, tI_is]) (fun q hq => absurd hq (by omega)) (fun j hj => absurd hj (by omega)) (fun n hn => z1 n (by omega))
  refine ⟨t2, KD, kc, ?_, Sm_t s1 s2, r⟩
  unfold F_X9_gather
  rw [v_i0 C.2.1, Option.bind_some, vN_ C, x_w148_0 X, Option.bind_some, show wI (Em g (wi t 148 0 (nI (vN a)))) 148 8 3 0 = some (Em g (wi (wi t 148 0 (nI (vN a))) 148 3 (nI 0))) from x_w148_3 X, Option.bind_some, x_r148_4 X, Option.bind_some, show F_J7_fill_53178 151 0 (Em g (wi (wi t 148 0 (nI (vN a))) 148 3 (nI 0))) = some ((), Em g t1) from e1, Option.bind_some]
  exact e2
end XTa
