/-! ===== calls: atOnce ===== -/
def scn (T : Nat → Bool) : Nat → Nat → Option Nat → Option Nat
  | 0, _, b => b
  | d + 1, k, b => if (match b with | none => true | some X => decide (¬ pcn X ≤ pcn k)) && T k then scn T d (k + 1) (some k) else scn T d (k + 1) b
theorem pc_full : ∀ N, N ≤ 10 → ∀ k, k < 2 ^ N - 1 → ¬ pcn (2 ^ N - 1) ≤ pcn k := by decide +kernel
theorem scn_eq {T : Nat → Bool} {N : Nat} (hN : N ≤ 10) (hT : T (2 ^ N - 1) = true) : ∀ (d k : Nat), k + d = 2 ^ N → 1 ≤ d → scn T d k none = scn T d k (some (2 ^ N - 1))
  | 0, _, _, h => absurd h (by decide)
  | d + 1, k, hk, _ => by
    rw [scn, scn]
    by_cases e : d = 0
    · subst e
      have hk2 : k = 2 ^ N - 1 := by omega
      rw [hk2]
      simp [hT, scn]
    · have hp := pc_full N hN k (by omega)
      have ih := scn_eq (T := T) hN hT d (k + 1) (by omega) (by omega)
      cases hk3 : T k
      · simp [ih]
      · simp [hp]
/-- told apart by the notes of X -/
def tap (h : Nat → Nat → Bool) (N X b c : Nat) : Bool := exb (fun n => X.testBit n && (h b n != h c n)) N
section XOn
variable {g : Sk} {t : Tb} {a : Nat → Int32}
variable {D v x nx p : Nat} {t' t'' t1 t2 : Tb}
theorem r_tap_l (X : Fx g) (W : WA a D) (ha : tA t 184 = a) (h9 : ∀ n, n < vN a → tA t 191 n = nI (hbl a p n)) {Y b c : Nat} (hY : Y < 2 ^ 31) (hb : b < vN a + 1) (hc : c < vN a + 1) : ∀ (d k fuel : Nat), k + d = vN a → d < fuel → (∀ n, n < k → (Y.testBit n && (hears a p n b != hears a p n c)) = false) → F_X12_tellsApart_b3 fuel 183 (nI Y) (nI b) (nI c) (nI k) (Em g t) = some (bI (tap (fun b n => hears a p n b) (vN a) Y b c), Em g t) := by
  have hN := wN3 W
  have bie : ∀ x y : Bool, (bI x = bI y) ↔ (x = y) := by decide
  intro d
  induction d with
  | zero =>
    intro k fuel hk hf hn
    obtain ⟨f2, rfl⟩ : ∃ f, fuel = f + 1 := ⟨fuel - 1, by omega⟩
    have hk : k = vN a := by omega
    subst hk
    have e : tap (fun b n => hears a p n b) (vN a) Y b c = false := by
      cases q : tap (fun b n => hears a p n b) (vN a) Y b c
      · rfl
      · obtain ⟨n, h1, h2⟩ := exb_i.mp q
        rw [hn n h1] at h2
        cases h2
    rw [F_X12_tellsApart_b3, e]
    simp (disch := omega) only [x_rc183 X, x_i183_0 X, x_w183_0 X, x_r183_1 X, x_r183_2 X, x_r183_3 X, x_r183_4 X, x_i183_5 X, x_w183_5 X, x_i183_6 X, x_w183_6 X, x_i183_7 X, x_w183_7 X, x_i183_8 X, x_w183_8 X, x_i183_9 X, x_w183_9 X, x_i183_10 X, x_w183_10 X, x_i183_11 X, x_w183_11 X, x_i183_12 X, x_w183_12 X, x_i183_13 X, x_w183_13 X, x_i183_14 X, x_w183_14 X, x_i183_15 X, x_w183_15 X, x_r183_16 X, x_r183_17 X, x_r183_18 X, x_i183_19 X, x_w183_19 X, x_i183_20 X, x_w183_20 X, x_r183_21 X, x_r183_22 X, x_r183_23 X, x_r183_24 X, x_r183_25 X, x_i183_26 X, x_w183_26 X, x_r183_27 X, x_r183_28 X, x_r183_29 X, x_i183_30 X, x_w183_30 X, x_r183_31 X, x_r183_32 X, x_r183_33 X, x_r183_34 X, x_r183_35 X, x_r183_36 X, x_a184 X, x_s184 X, x_a185 X, x_s185 X, x_a186 X, x_s186 X, x_a187 X, x_s187 X, x_a188 X, x_s188 X, x_a189 X, x_s189 X, x_a190 X, x_s190 X, x_a191 X, x_s191 X, x_a192 X, x_s192 X, x_a193 X, x_s193 X, x_a194 X, x_s194 X, x_a195 X, x_s195 X, x_a196 X, x_s196 X, x_a197 X, x_s197 X, x_a198 X, x_s198 X, x_a199 X, x_s199 X, x_a200 X, x_s200 X, x_a201 X, x_s201 X, x_a202 X, x_s202 X, x_a203 X, x_s203 X, x_a204 X, x_s204 X, Option.bind_some, ↓reduceIte, ite_not, fa_lit, nI_add, nI_mulN, nI_an, nI_sub, irm_n, nI_eq, nI_leI, nI_ltI, v_pow, v_shr, v_bit, nI_cl, nI_m1e, ha, wN W, Nat.le_refl]
    rfl
  | succ d ih =>
    intro k fuel hk hf hn
    obtain ⟨f2, rfl⟩ : ∃ f, fuel = f + 1 := ⟨fuel - 1, by omega⟩
    have hk2 : ¬ vN a ≤ k := by omega
    have hh := hbl_31 (p := p) (n := k) W
    have hbit : ∀ q, q < vN a + 1 → (hbl a p k).testBit q = hears a p k q := fun q hq => by
      unfold hbl
      rw [mk_bit, decide_eq_true hq, Bool.true_and]
    rw [F_X12_tellsApart_b3]
    cases hYk : Y.testBit k
    · simp (disch := omega) only [x_rc183 X, x_i183_0 X, x_w183_0 X, x_r183_1 X, x_r183_2 X, x_r183_3 X, x_r183_4 X, x_i183_5 X, x_w183_5 X, x_i183_6 X, x_w183_6 X, x_i183_7 X, x_w183_7 X, x_i183_8 X, x_w183_8 X, x_i183_9 X, x_w183_9 X, x_i183_10 X, x_w183_10 X, x_i183_11 X, x_w183_11 X, x_i183_12 X, x_w183_12 X, x_i183_13 X, x_w183_13 X, x_i183_14 X, x_w183_14 X, x_i183_15 X, x_w183_15 X, x_r183_16 X, x_r183_17 X, x_r183_18 X, x_i183_19 X, x_w183_19 X, x_i183_20 X, x_w183_20 X, x_r183_21 X, x_r183_22 X, x_r183_23 X, x_r183_24 X, x_r183_25 X, x_i183_26 X, x_w183_26 X, x_r183_27 X, x_r183_28 X, x_r183_29 X, x_i183_30 X, x_w183_30 X, x_r183_31 X, x_r183_32 X, x_r183_33 X, x_r183_34 X, x_r183_35 X, x_r183_36 X, x_a184 X, x_s184 X, x_a185 X, x_s185 X, x_a186 X, x_s186 X, x_a187 X, x_s187 X, x_a188 X, x_s188 X, x_a189 X, x_s189 X, x_a190 X, x_s190 X, x_a191 X, x_s191 X, x_a192 X, x_s192 X, x_a193 X, x_s193 X, x_a194 X, x_s194 X, x_a195 X, x_s195 X, x_a196 X, x_s196 X, x_a197 X, x_s197 X, x_a198 X, x_s198 X, x_a199 X, x_s199 X, x_a200 X, x_s200 X, x_a201 X, x_s201 X, x_a202 X, x_s202 X, x_a203 X, x_s203 X, x_a204 X, x_s204 X, Option.bind_some, ↓reduceIte, ite_not, fa_lit, nI_add, nI_mulN, nI_an, nI_sub, irm_n, nI_eq, nI_leI, nI_ltI, v_pow, v_shr, v_bit, nI_cl, nI_m1e, ha, wN W, hk2, q_isIn, hYk, bI_z]
      exact ih (k + 1) f2 (by omega) (by omega) (fun n hn2 => by
        by_cases e : n = k
        · rw [e, hYk]; rfl
        · exact hn n (by omega))
    · by_cases e : hears a p k b = hears a p k c
      · have e' : bI (hears a p k b) = bI (hears a p k c) := by rw [e]
        simp (disch := omega) only [x_rc183 X, x_i183_0 X, x_w183_0 X, x_r183_1 X, x_r183_2 X, x_r183_3 X, x_r183_4 X, x_i183_5 X, x_w183_5 X, x_i183_6 X, x_w183_6 X, x_i183_7 X, x_w183_7 X, x_i183_8 X, x_w183_8 X, x_i183_9 X, x_w183_9 X, x_i183_10 X, x_w183_10 X, x_i183_11 X, x_w183_11 X, x_i183_12 X, x_w183_12 X, x_i183_13 X, x_w183_13 X, x_i183_14 X, x_w183_14 X, x_i183_15 X, x_w183_15 X, x_r183_16 X, x_r183_17 X, x_r183_18 X, x_i183_19 X, x_w183_19 X, x_i183_20 X, x_w183_20 X, x_r183_21 X, x_r183_22 X, x_r183_23 X, x_r183_24 X, x_r183_25 X, x_i183_26 X, x_w183_26 X, x_r183_27 X, x_r183_28 X, x_r183_29 X, x_i183_30 X, x_w183_30 X, x_r183_31 X, x_r183_32 X, x_r183_33 X, x_r183_34 X, x_r183_35 X, x_r183_36 X, x_a184 X, x_s184 X, x_a185 X, x_s185 X, x_a186 X, x_s186 X, x_a187 X, x_s187 X, x_a188 X, x_s188 X, x_a189 X, x_s189 X, x_a190 X, x_s190 X, x_a191 X, x_s191 X, x_a192 X, x_s192 X, x_a193 X, x_s193 X, x_a194 X, x_s194 X, x_a195 X, x_s195 X, x_a196 X, x_s196 X, x_a197 X, x_s197 X, x_a198 X, x_s198 X, x_a199 X, x_s199 X, x_a200 X, x_s200 X, x_a201 X, x_s201 X, x_a202 X, x_s202 X, x_a203 X, x_s203 X, x_a204 X, x_s204 X, Option.bind_some, ↓reduceIte, ite_not, fa_lit, nI_add, nI_mulN, nI_an, nI_sub, irm_n, nI_eq, nI_leI, nI_ltI, v_pow, v_shr, v_bit, nI_cl, nI_m1e, ha, wN W, hk2, q_isIn, hYk, bI_z, Bool.true_eq_false, h9 k (by omega), hbit b hb, hbit c hc, e']
        exact ih (k + 1) f2 (by omega) (by omega) (fun n hn2 => by
          by_cases e2 : n = k
          · rw [e2, e]; simp
          · exact hn n (by omega))
      · have e' : ¬ bI (hears a p k b) = bI (hears a p k c) := fun q => e ((bie _ _).mp q)
        have et : tap (fun b n => hears a p n b) (vN a) Y b c = true := exb_i.mpr ⟨k, by omega, by rw [hYk]; simp [e]⟩
        rw [et]
        simp (disch := omega) only [x_rc183 X, x_i183_0 X, x_w183_0 X, x_r183_1 X, x_r183_2 X, x_r183_3 X, x_r183_4 X, x_i183_5 X, x_w183_5 X, x_i183_6 X, x_w183_6 X, x_i183_7 X, x_w183_7 X, x_i183_8 X, x_w183_8 X, x_i183_9 X, x_w183_9 X, x_i183_10 X, x_w183_10 X, x_i183_11 X, x_w183_11 X, x_i183_12 X, x_w183_12 X, x_i183_13 X, x_w183_13 X, x_i183_14 X, x_w183_14 X, x_i183_15 X, x_w183_15 X, x_r183_16 X, x_r183_17 X, x_r183_18 X, x_i183_19 X, x_w183_19 X, x_i183_20 X, x_w183_20 X, x_r183_21 X, x_r183_22 X, x_r183_23 X, x_r183_24 X, x_r183_25 X, x_i183_26 X, x_w183_26 X, x_r183_27 X, x_r183_28 X, x_r183_29 X, x_i183_30 X, x_w183_30 X, x_r183_31 X, x_r183_32 X, x_r183_33 X, x_r183_34 X, x_r183_35 X, x_r183_36 X, x_a184 X, x_s184 X, x_a185 X, x_s185 X, x_a186 X, x_s186 X, x_a187 X, x_s187 X, x_a188 X, x_s188 X, x_a189 X, x_s189 X, x_a190 X, x_s190 X, x_a191 X, x_s191 X, x_a192 X, x_s192 X, x_a193 X, x_s193 X, x_a194 X, x_s194 X, x_a195 X, x_s195 X, x_a196 X, x_s196 X, x_a197 X, x_s197 X, x_a198 X, x_s198 X, x_a199 X, x_s199 X, x_a200 X, x_s200 X, x_a201 X, x_s201 X, x_a202 X, x_s202 X, x_a203 X, x_s203 X, x_a204 X, x_s204 X, Option.bind_some, ↓reduceIte, ite_not, fa_lit, nI_add, nI_mulN, nI_an, nI_sub, irm_n, nI_eq, nI_leI, nI_ltI, v_pow, v_shr, v_bit, nI_cl, nI_m1e, ha, wN W, hk2, q_isIn, hYk, bI_z, Bool.true_eq_false, h9 k (by omega), hbit b hb, hbit c hc, e']
        rfl
theorem r_tap (X : Fx g) (W : WA a D) (ha : tA t 184 = a) (h9 : ∀ n, n < vN a → tA t 191 n = nI (hbl a p n)) {Y b c : Nat} (hY : Y < 2 ^ 31) (hb : b < vN a + 1) (hc : c < vN a + 1) : F_X12_tellsApart 183 (nI Y) (nI b) (nI c) (Em g t) = some (bI (tap (fun b n => hears a p n b) (vN a) Y b c), Em g t) := by
  have hN := wN3 W
  have hfn : vN a < FU := by show vN a < 1000000; omega
  exact r_tap_l X W ha h9 hY hb hc (vN a) 0 FU (by omega) hfn (fun n hn => absurd hn (by omega))
/-- what the reference asks of a set of notes -/
def tlr (a : Nat → Int32) (p Y : Nat) : Prop := ∀ b, b < vN a + 1 → ∀ c, c < b → tap (fun b n => hears a p n b) (vN a) (2 ^ vN a - 1) b c = true → tap (fun b n => hears a p n b) (vN a) Y b c = true
theorem r_tall_i (X : Fx g) (W : WA a D) (ha : tA t 184 = a) (h9 : ∀ n, n < vN a → tA t 191 n = nI (hbl a p n)) {Y b : Nat} (hY : Y < 2 ^ 31) (hb : b < vN a + 1) (kk : Nat → Int32 → Int32 → xH → Option (Int32 × xH)) : ∀ (d c fuel : Nat), c + d = b → d < fuel → (∀ q, q < c → tap (fun b n => hears a p n b) (vN a) (2 ^ vN a - 1) b q = true → tap (fun b n => hears a p n b) (vN a) Y b q = true) → (F_X12_tellsAll_b14 kk fuel 183 (nI Y) (nI b) (nI c) (Em g t) = kk 183 (nI Y) (nI (b + 1)) (Em g t) ∧ (∀ q, q < b → tap (fun b n => hears a p n b) (vN a) (2 ^ vN a - 1) b q = true → tap (fun b n => hears a p n b) (vN a) Y b q = true)) ∨ (F_X12_tellsAll_b14 kk fuel 183 (nI Y) (nI b) (nI c) (Em g t) = some (nI 0, Em g t) ∧ ¬ tlr a p Y) := by
  have hN := wN3 W
  have h2k := p2048 (n := vN a) (by omega)
  have hp2 := Nat.two_pow_pos (vN a)
  intro d
  induction d with
  | zero =>
    intro c fuel hc hf hq
    obtain ⟨f2, rfl⟩ : ∃ f, fuel = f + 1 := ⟨fuel - 1, by omega⟩
    have hc : c = b := by omega
    subst hc
    left
    refine ⟨?_, hq⟩
    rw [F_X12_tellsAll_b14]
    simp (disch := omega) only [Option.bind_some, ↓reduceIte, ite_not, fa_lit, nI_add, nI_mulN, nI_an, nI_sub, irm_n, nI_eq, nI_leI, nI_ltI, v_pow, v_shr, v_bit, nI_cl, nI_m1e, Nat.le_refl]
  | succ d ih =>
    intro c fuel hc hf hq
    obtain ⟨f2, rfl⟩ : ∃ f, fuel = f + 1 := ⟨fuel - 1, by omega⟩
    have c1 : ¬ b ≤ c := by omega
    have t1 := r_tap (t := t) (Y := 2 ^ vN a - 1) (b := b) (c := c) X W ha h9 (by omega) hb (by omega)
    have t2 := r_tap (t := t) (Y := Y) (b := b) (c := c) X W ha h9 hY hb (by omega)
    rw [F_X12_tellsAll_b14]
    cases e1 : tap (fun b n => hears a p n b) (vN a) (2 ^ vN a - 1) b c
    · rw [e1] at t1
      simp (disch := omega) only [x_rc183 X, x_i183_0 X, x_w183_0 X, x_r183_1 X, x_r183_2 X, x_r183_3 X, x_r183_4 X, x_i183_5 X, x_w183_5 X, x_i183_6 X, x_w183_6 X, x_i183_7 X, x_w183_7 X, x_i183_8 X, x_w183_8 X, x_i183_9 X, x_w183_9 X, x_i183_10 X, x_w183_10 X, x_i183_11 X, x_w183_11 X, x_i183_12 X, x_w183_12 X, x_i183_13 X, x_w183_13 X, x_i183_14 X, x_w183_14 X, x_i183_15 X, x_w183_15 X, x_r183_16 X, x_r183_17 X, x_r183_18 X, x_i183_19 X, x_w183_19 X, x_i183_20 X, x_w183_20 X, x_r183_21 X, x_r183_22 X, x_r183_23 X, x_r183_24 X, x_r183_25 X, x_i183_26 X, x_w183_26 X, x_r183_27 X, x_r183_28 X, x_r183_29 X, x_i183_30 X, x_w183_30 X, x_r183_31 X, x_r183_32 X, x_r183_33 X, x_r183_34 X, x_r183_35 X, x_r183_36 X, x_a184 X, x_s184 X, x_a185 X, x_s185 X, x_a186 X, x_s186 X, x_a187 X, x_s187 X, x_a188 X, x_s188 X, x_a189 X, x_s189 X, x_a190 X, x_s190 X, x_a191 X, x_s191 X, x_a192 X, x_s192 X, x_a193 X, x_s193 X, x_a194 X, x_s194 X, x_a195 X, x_s195 X, x_a196 X, x_s196 X, x_a197 X, x_s197 X, x_a198 X, x_s198 X, x_a199 X, x_s199 X, x_a200 X, x_s200 X, x_a201 X, x_s201 X, x_a202 X, x_s202 X, x_a203 X, x_s203 X, x_a204 X, x_s204 X, Option.bind_some, ↓reduceIte, ite_not, fa_lit, nI_add, nI_mulN, nI_an, nI_sub, irm_n, nI_eq, nI_leI, nI_ltI, v_pow, v_shr, v_bit, nI_cl, nI_m1e, c1, ha, wN W, t1, bI_z]
      exact ih (c + 1) f2 (by omega) (by omega) (fun q h1 h2 => by
        by_cases e : q = c
        · rw [e, e1] at h2; cases h2
        · exact hq q (by omega) h2)
    · rw [e1] at t1
      cases e2 : tap (fun b n => hears a p n b) (vN a) Y b c
      · rw [e2] at t2
        right
        refine ⟨?_, fun h => ?_⟩
        · simp (disch := omega) only [x_rc183 X, x_i183_0 X, x_w183_0 X, x_r183_1 X, x_r183_2 X, x_r183_3 X, x_r183_4 X, x_i183_5 X, x_w183_5 X, x_i183_6 X, x_w183_6 X, x_i183_7 X, x_w183_7 X, x_i183_8 X, x_w183_8 X, x_i183_9 X, x_w183_9 X, x_i183_10 X, x_w183_10 X, x_i183_11 X, x_w183_11 X, x_i183_12 X, x_w183_12 X, x_i183_13 X, x_w183_13 X, x_i183_14 X, x_w183_14 X, x_i183_15 X, x_w183_15 X, x_r183_16 X, x_r183_17 X, x_r183_18 X, x_i183_19 X, x_w183_19 X, x_i183_20 X, x_w183_20 X, x_r183_21 X, x_r183_22 X, x_r183_23 X, x_r183_24 X, x_r183_25 X, x_i183_26 X, x_w183_26 X, x_r183_27 X, x_r183_28 X, x_r183_29 X, x_i183_30 X, x_w183_30 X, x_r183_31 X, x_r183_32 X, x_r183_33 X, x_r183_34 X, x_r183_35 X, x_r183_36 X, x_a184 X, x_s184 X, x_a185 X, x_s185 X, x_a186 X, x_s186 X, x_a187 X, x_s187 X, x_a188 X, x_s188 X, x_a189 X, x_s189 X, x_a190 X, x_s190 X, x_a191 X, x_s191 X, x_a192 X, x_s192 X, x_a193 X, x_s193 X, x_a194 X, x_s194 X, x_a195 X, x_s195 X, x_a196 X, x_s196 X, x_a197 X, x_s197 X, x_a198 X, x_s198 X, x_a199 X, x_s199 X, x_a200 X, x_s200 X, x_a201 X, x_s201 X, x_a202 X, x_s202 X, x_a203 X, x_s203 X, x_a204 X, x_s204 X, Option.bind_some, ↓reduceIte, ite_not, fa_lit, nI_add, nI_mulN, nI_an, nI_sub, irm_n, nI_eq, nI_leI, nI_ltI, v_pow, v_shr, v_bit, nI_cl, nI_m1e, c1, ha, wN W, t1, t2, bI_z, Bool.true_eq_false]
        · have := h b hb c (by omega) e1
          rw [e2] at this
          cases this
      · rw [e2] at t2
        simp (disch := omega) only [x_rc183 X, x_i183_0 X, x_w183_0 X, x_r183_1 X, x_r183_2 X, x_r183_3 X, x_r183_4 X, x_i183_5 X, x_w183_5 X, x_i183_6 X, x_w183_6 X, x_i183_7 X, x_w183_7 X, x_i183_8 X, x_w183_8 X, x_i183_9 X, x_w183_9 X, x_i183_10 X, x_w183_10 X, x_i183_11 X, x_w183_11 X, x_i183_12 X, x_w183_12 X, x_i183_13 X, x_w183_13 X, x_i183_14 X, x_w183_14 X, x_i183_15 X, x_w183_15 X, x_r183_16 X, x_r183_17 X, x_r183_18 X, x_i183_19 X, x_w183_19 X, x_i183_20 X, x_w183_20 X, x_r183_21 X, x_r183_22 X, x_r183_23 X, x_r183_24 X, x_r183_25 X, x_i183_26 X, x_w183_26 X, x_r183_27 X, x_r183_28 X, x_r183_29 X, x_i183_30 X, x_w183_30 X, x_r183_31 X, x_r183_32 X, x_r183_33 X, x_r183_34 X, x_r183_35 X, x_r183_36 X, x_a184 X, x_s184 X, x_a185 X, x_s185 X, x_a186 X, x_s186 X, x_a187 X, x_s187 X, x_a188 X, x_s188 X, x_a189 X, x_s189 X, x_a190 X, x_s190 X, x_a191 X, x_s191 X, x_a192 X, x_s192 X, x_a193 X, x_s193 X, x_a194 X, x_s194 X, x_a195 X, x_s195 X, x_a196 X, x_s196 X, x_a197 X, x_s197 X, x_a198 X, x_s198 X, x_a199 X, x_s199 X, x_a200 X, x_s200 X, x_a201 X, x_s201 X, x_a202 X, x_s202 X, x_a203 X, x_s203 X, x_a204 X, x_s204 X, Option.bind_some, ↓reduceIte, ite_not, fa_lit, nI_add, nI_mulN, nI_an, nI_sub, irm_n, nI_eq, nI_leI, nI_ltI, v_pow, v_shr, v_bit, nI_cl, nI_m1e, c1, ha, wN W, t1, t2, bI_z, Bool.true_eq_false]
        exact ih (c + 1) f2 (by omega) (by omega) (fun q h1 h2 => by
          by_cases e : q = c
          · rw [e]; exact e2
          · exact hq q (by omega) h2)
theorem r_tall_l (X : Fx g) (W : WA a D) (ha : tA t 184 = a) (h9 : ∀ n, n < vN a → tA t 191 n = nI (hbl a p n)) {Y : Nat} (hY : Y < 2 ^ 31) : ∀ (d b fuel : Nat), b + d = vN a + 1 → d < fuel → (∀ q, q < b → ∀ c, c < q → tap (fun b n => hears a p n b) (vN a) (2 ^ vN a - 1) q c = true → tap (fun b n => hears a p n b) (vN a) Y q c = true) → ∃ r : Bool, F_X12_tellsAll_b2 fuel 183 (nI Y) (nI b) (Em g t) = some (bI r, Em g t) ∧ (r = true ↔ tlr a p Y) := by
  have hN := wN3 W
  intro d
  induction d with
  | zero =>
    intro b fuel hb hf hq
    obtain ⟨f2, rfl⟩ : ∃ f, fuel = f + 1 := ⟨fuel - 1, by omega⟩
    have hb : b = vN a + 1 := by omega
    subst hb
    refine ⟨true, ?_, ⟨fun _ => hq, fun _ => rfl⟩⟩
    have h1 : vN a < vN a + 1 := by omega
    rw [F_X12_tellsAll_b2]
    simp (disch := omega) only [x_rc183 X, x_i183_0 X, x_w183_0 X, x_r183_1 X, x_r183_2 X, x_r183_3 X, x_r183_4 X, x_i183_5 X, x_w183_5 X, x_i183_6 X, x_w183_6 X, x_i183_7 X, x_w183_7 X, x_i183_8 X, x_w183_8 X, x_i183_9 X, x_w183_9 X, x_i183_10 X, x_w183_10 X, x_i183_11 X, x_w183_11 X, x_i183_12 X, x_w183_12 X, x_i183_13 X, x_w183_13 X, x_i183_14 X, x_w183_14 X, x_i183_15 X, x_w183_15 X, x_r183_16 X, x_r183_17 X, x_r183_18 X, x_i183_19 X, x_w183_19 X, x_i183_20 X, x_w183_20 X, x_r183_21 X, x_r183_22 X, x_r183_23 X, x_r183_24 X, x_r183_25 X, x_i183_26 X, x_w183_26 X, x_r183_27 X, x_r183_28 X, x_r183_29 X, x_i183_30 X, x_w183_30 X, x_r183_31 X, x_r183_32 X, x_r183_33 X, x_r183_34 X, x_r183_35 X, x_r183_36 X, x_a184 X, x_s184 X, x_a185 X, x_s185 X, x_a186 X, x_s186 X, x_a187 X, x_s187 X, x_a188 X, x_s188 X, x_a189 X, x_s189 X, x_a190 X, x_s190 X, x_a191 X, x_s191 X, x_a192 X, x_s192 X, x_a193 X, x_s193 X, x_a194 X, x_s194 X, x_a195 X, x_s195 X, x_a196 X, x_s196 X, x_a197 X, x_s197 X, x_a198 X, x_s198 X, x_a199 X, x_s199 X, x_a200 X, x_s200 X, x_a201 X, x_s201 X, x_a202 X, x_s202 X, x_a203 X, x_s203 X, x_a204 X, x_s204 X, Option.bind_some, ↓reduceIte, ite_not, fa_lit, nI_add, nI_mulN, nI_an, nI_sub, irm_n, nI_eq, nI_leI, nI_ltI, v_pow, v_shr, v_bit, nI_cl, nI_m1e, ha, wN W, h1]
    rfl
  | succ d ih =>
    intro b fuel hb hf hq
    obtain ⟨f2, rfl⟩ : ∃ f, fuel = f + 1 := ⟨fuel - 1, by omega⟩
    have hfb : b < FU := by show b < 1000000; omega
    have ha1 : aI (Em g t) 184 1 = some (tA t 184 1) := x_a184 X (k := 1) (by decide)
    have c1 : ¬ nI (vN a) < nI b := by rw [nI_ltI (by omega) (by omega)]; omega
    have hhead : F_X12_tellsAll_b2 (f2 + 1) 183 (nI Y) (nI b) (Em g t) = F_X12_tellsAll_b14 (F_X12_tellsAll_b2 f2) FU 183 (nI Y) (nI b) (nI 0) (Em g t) := by
      rw [F_X12_tellsAll_b2, x_r183_1 X, Option.bind_some, ha1, Option.bind_some, ha, wN W, if_neg c1]
      rfl
    rcases r_tall_i (t := t) (b := b) X W ha h9 hY (by omega) (F_X12_tellsAll_b2 f2) b 0 FU (by omega) hfb (fun q h => absurd h (by omega)) with ⟨e1, h1⟩ | ⟨e1, h1⟩
    · obtain ⟨r, e2, h2⟩ := ih (b + 1) f2 (by omega) (by omega) (fun q hq2 c hc => by
        by_cases e : q = b
        · rw [e]; exact h1 c (by omega)
        · exact hq q (by omega) c hc)
      exact ⟨r, by rw [hhead, e1, e2], h2⟩
    · exact ⟨false, by rw [hhead, e1]; rfl, ⟨fun h => absurd h (by decide), fun h => absurd h h1⟩⟩
/-- what the class asks of a set of notes -/
def tlk (KD : Nat → Nat) (kc Y : Nat) : Prop := ∀ i, i < kc → ∀ j, j < i → ¬ (KD i ^^^ KD j) &&& Y = 0
theorem k_tap_i (X : Fx g) {KD : Nat → Nat} {kc i Y : Nat} (hkc : kc ≤ 11) (hi : i < kc) (hY : Y < 2 ^ 31) (h5 : ∀ j, j < kc → KD j < 2 ^ 31 ∧ tA t 150 j = nI (KD j)) (kk : Nat → Int32 → Int32 → xH → Option (Int32 × xH)) : ∀ (d j fuel : Nat), j + d = i → d < fuel → (∀ q, q < j → ¬ (KD i ^^^ KD q) &&& Y = 0) → (F_X9_tellsApart_b12 kk fuel 148 (nI Y) (nI i) (nI j) (Em g t) = kk 148 (nI Y) (nI (i + 1)) (Em g t) ∧ (∀ q, q < i → ¬ (KD i ^^^ KD q) &&& Y = 0)) ∨ (F_X9_tellsApart_b12 kk fuel 148 (nI Y) (nI i) (nI j) (Em g t) = some (nI 0, Em g t) ∧ ¬ tlk KD kc Y) := by
  intro d
  induction d with
  | zero =>
    intro j fuel hj hf hq
    obtain ⟨f2, rfl⟩ : ∃ f, fuel = f + 1 := ⟨fuel - 1, by omega⟩
    have hj : j = i := by omega
    subst hj
    left
    refine ⟨?_, hq⟩
    rw [F_X9_tellsApart_b12]
    simp (disch := omega) only [Option.bind_some, ↓reduceIte, ite_not, fa_lit, nI_add, nI_mulN, nI_an, nI_sub, irm_n, nI_eq, nI_leI, nI_ltI, v_pow, v_shr, v_bit, nI_cl, nI_m1e, Nat.le_refl]
  | succ d ih =>
    intro j fuel hj hf hq
    obtain ⟨f2, rfl⟩ : ∃ f, fuel = f + 1 := ⟨fuel - 1, by omega⟩
    have c1 : ¬ i ≤ j := by omega
    have hl : (KD i ^^^ KD j) &&& Y ≤ Y := Nat.and_le_right
    have ex : (nI (KD i) ^^^ nI (KD j)) &&& nI Y = nI ((KD i ^^^ KD j) &&& Y) := by rw [fb_xorI, fa_and]
    rw [F_X9_tellsApart_b12]
    by_cases e : (KD i ^^^ KD j) &&& Y = 0
    · right
      refine ⟨?_, fun h => h i hi j (by omega) e⟩
      have e0 : nI ((KD i ^^^ KD j) &&& Y) = nI 0 := by rw [e]
      simp (disch := omega) only [x_rc148 X, x_i148_0 X, x_w148_0 X, x_r148_1 X, x_r148_2 X, x_i148_3 X, x_w148_3 X, x_r148_4 X, x_r148_5 X, x_a149 X, x_s149 X, x_a150 X, x_s150 X, x_a151 X, x_s151 X, x_a152 X, x_s152 X, Option.bind_some, ↓reduceIte, ite_not, fa_lit, nI_leI, c1, (h5 i hi).2, (h5 j (by omega)).2, ex, e0]
    · have e0 : ¬ nI ((KD i ^^^ KD j) &&& Y) = nI 0 := by rw [nI_eq (by omega) (by decide)]; exact e
      simp (disch := omega) only [x_rc148 X, x_i148_0 X, x_w148_0 X, x_r148_1 X, x_r148_2 X, x_i148_3 X, x_w148_3 X, x_r148_4 X, x_r148_5 X, x_a149 X, x_s149 X, x_a150 X, x_s150 X, x_a151 X, x_s151 X, x_a152 X, x_s152 X, Option.bind_some, ↓reduceIte, ite_not, fa_lit, nI_leI, c1, (h5 i hi).2, (h5 j (by omega)).2, ex, e0, nI_add]
      exact ih (j + 1) f2 (by omega) (by omega) (fun q hq2 => by
        by_cases e2 : q = j
        · rw [e2]; exact e
        · exact hq q (by omega))
theorem k_tap_l (X : Fx g) {KD : Nat → Nat} {kc Y : Nat} (hkc : kc ≤ 11) (hY : Y < 2 ^ 31) (h3 : tI t 148 3 = nI kc) (h5 : ∀ j, j < kc → KD j < 2 ^ 31 ∧ tA t 150 j = nI (KD j)) : ∀ (d i fuel : Nat), i + d = kc → d < fuel → (∀ q, q < i → ∀ j, j < q → ¬ (KD q ^^^ KD j) &&& Y = 0) → ∃ r : Bool, F_X9_tellsApart_b2 fuel 148 (nI Y) (nI i) (Em g t) = some (bI r, Em g t) ∧ (r = true ↔ tlk KD kc Y) := by
  intro d
  induction d with
  | zero =>
    intro i fuel hi hf hq
    obtain ⟨f2, rfl⟩ : ∃ f, fuel = f + 1 := ⟨fuel - 1, by omega⟩
    have hi : i = kc := by omega
    subst hi
    refine ⟨true, ?_, ⟨fun _ => hq, fun _ => rfl⟩⟩
    rw [F_X9_tellsApart_b2, x_i148_3 X, Option.bind_some, h3, if_pos (by rw [nI_leI (by omega) (by omega)]; exact Nat.le_refl i)]
    rfl
  | succ d ih =>
    intro i fuel hi hf hq
    obtain ⟨f2, rfl⟩ : ∃ f, fuel = f + 1 := ⟨fuel - 1, by omega⟩
    have hfb : i < FU := by show i < 1000000; omega
    have hhead : F_X9_tellsApart_b2 (f2 + 1) 148 (nI Y) (nI i) (Em g t) = F_X9_tellsApart_b12 (F_X9_tellsApart_b2 f2) FU 148 (nI Y) (nI i) (nI 0) (Em g t) := by
      rw [F_X9_tellsApart_b2, x_i148_3 X, Option.bind_some, h3, if_neg (by rw [nI_leI (by omega) (by omega)]; omega)]
      rfl
    rcases k_tap_i (t := t) (i := i) X hkc (by omega) hY h5 (F_X9_tellsApart_b2 f2) i 0 FU (by omega) hfb (fun q h => absurd h (by omega)) with ⟨e1, h1⟩ | ⟨e1, h1⟩
    · obtain ⟨r, e2, h2⟩ := ih (i + 1) f2 (by omega) (by omega) (fun q hq2 j hj => by
        by_cases e : q = i
        · rw [e]; exact h1 j (by omega)
        · exact hq q (by omega) j hj)
      exact ⟨r, by rw [hhead, e1, e2], h2⟩
    · exact ⟨false, by rw [hhead, e1]; rfl, ⟨fun h => absurd h (by decide), fun h => absurd h h1⟩⟩
theorem xor_and {x y Y : Nat} : ¬ (x ^^^ y) &&& Y = 0 ↔ ∃ n, Y.testBit n = true ∧ x.testBit n ≠ y.testBit n := by
  constructor
  · intro h
    apply Classical.byContradiction
    intro q
    apply h
    apply Nat.eq_of_testBit_eq
    intro i
    rw [Nat.testBit_and, Nat.testBit_xor, Nat.zero_testBit]
    cases hy : Y.testBit i
    · simp
    · have : x.testBit i = y.testBit i := Classical.byContradiction (fun z => q ⟨i, hy, z⟩)
      rw [this]
      simp
  · rintro ⟨n, h1, h2⟩ h
    have := congrArg (fun z => z.testBit n) h
    simp only [Nat.testBit_and, Nat.testBit_xor, Nat.zero_testBit, h1, Bool.and_true] at this
    cases q1 : x.testBit n <;> cases q2 : y.testBit n <;> simp_all
theorem tap_i {h : Nat → Nat → Bool} {N X b c : Nat} : tap h N X b c = true ↔ ∃ n, n < N ∧ X.testBit n = true ∧ h b n ≠ h c n := by
  unfold tap
  rw [exb_i]
  simp only [Bool.and_eq_true, bne_iff_ne, ne_eq]
theorem tl_eq {KD : Nat → Nat} {kc Y : Nat} (hK : Kd a p KD kc (vN a + 1)) : tlr a p Y ↔ tlk KD kc Y := by
  have hbit : ∀ b n, n < vN a → (hnt a p b).testBit n = hears a p n b := fun b n hn => by
    unfold hnt
    rw [mk_bit, decide_eq_true hn, Bool.true_and]
  have hhi : ∀ b n, vN a ≤ n → (hnt a p b).testBit n = false := fun b n h => testBit_ge (mk_lt _ _) h
  have full : ∀ n, n < vN a → (2 ^ vN a - 1).testBit n = true := fun n hn => by rw [Nat.testBit_two_pow_sub_one]; exact decide_eq_true hn
  have sym : ∀ b c, b < vN a + 1 → c < vN a + 1 → tlr a p Y → hnt a p b ≠ hnt a p c → ∃ n, n < vN a ∧ Y.testBit n = true ∧ hears a p n b ≠ hears a p n c := by
    intro b c hb hc h hne
    have hex : ∃ n, n < vN a ∧ hears a p n b ≠ hears a p n c := by
      apply Classical.byContradiction
      intro q
      apply hne
      apply mk_ext (m := hnt a p b) (m' := hnt a p c) (n := vN a) (mk_lt _ _) (mk_lt _ _)
      intro k hk
      rw [hbit b k hk, hbit c k hk]
      exact Classical.byContradiction (fun z => q ⟨k, hk, z⟩)
    obtain ⟨n, hn, hq⟩ := hex
    rcases Nat.lt_trichotomy b c with q | q | q
    · have := h c hc b q (tap_i.mpr ⟨n, hn, full n hn, fun e => hq e.symm⟩)
      obtain ⟨n', a1, a2, a3⟩ := tap_i.mp this
      exact ⟨n', a1, a2, fun e => a3 e.symm⟩
    · rw [q] at hne; exact absurd rfl hne
    · exact tap_i.mp (h b hb c q (tap_i.mpr ⟨n, hn, full n hn, hq⟩))
  constructor
  · intro h i hi j hj
    obtain ⟨b, hb, eb⟩ := hK.2.1 i hi
    obtain ⟨c, hc, ec⟩ := hK.2.1 j (by omega)
    have hne : hnt a p b ≠ hnt a p c := by
      rw [← eb, ← ec]
      exact fun e => hK.2.2.1 j i hj hi e.symm
    obtain ⟨n, hn, h1, h2⟩ := sym b c hb hc h hne
    rw [xor_and]
    refine ⟨n, h1, ?_⟩
    rw [eb, ec, hbit b n hn, hbit c n hn]
    exact h2
  · intro h b hb c hc ht
    obtain ⟨n, hn, h1, h2⟩ := tap_i.mp ht
    obtain ⟨i, hi, ei⟩ := hK.1 b hb
    obtain ⟨j, hj, ej⟩ := hK.1 c (by omega)
    have hij : i ≠ j := by
      rintro rfl
      apply h2
      show hears a p n b = hears a p n c
      rw [← hbit b n hn, ← hbit c n hn, ← ei, ← ej]
    have fin : ∀ x y, x ^^^ y = y ^^^ x := Nat.xor_comm
    have hx : ¬ (KD i ^^^ KD j) &&& Y = 0 := by
      rcases Nat.lt_or_ge j i with q | q
      · exact h i hi j q
      · rw [fin]
        exact h j hj i (by omega)
    obtain ⟨m, h3, h4⟩ := xor_and.mp hx
    rw [ei, ej] at h4
    have hm : m < vN a := by
      apply Classical.byContradiction
      intro q
      apply h4
      rw [hhi b m (Nat.le_of_not_lt q), hhi c m (Nat.le_of_not_lt q)]
    refine tap_i.mpr ⟨m, hm, h3, ?_⟩
    show hears a p m b ≠ hears a p m c
    rw [← hbit b m hm, ← hbit c m hm]
    exact h4
def oI (o : Option Nat) : Int32 := match o with
  | none => -nI 1
  | some X => nI X
theorem r_once_l (X : Fx g) (W : WA a D) (ha : tA t 184 = a) (h9 : ∀ n, n < vN a → tA t 191 n = nI (hbl a p n)) {T : Nat → Bool} (hT : ∀ Y, T Y = true ↔ tlr a p Y) : ∀ (d k fuel : Nat) (o : Option Nat), k + d = 2 ^ vN a → d < fuel → (∀ Y, o = some Y → Y < 2 ^ vN a) → F_X12_atOnce_b26 fuel 183 (oI o) (nI k) (Em g t) = some (oI (scn T d k o), Em g t) := by
  have hN := wN3 W
  have h2k := p2048 (n := vN a) (by omega)
  intro d
  induction d with
  | zero =>
    intro k fuel o hk hf ho
    obtain ⟨f2, rfl⟩ : ∃ f, fuel = f + 1 := ⟨fuel - 1, by omega⟩
    have hk : k = 2 ^ vN a := by omega
    subst hk
    rw [F_X12_atOnce_b26]
    simp (disch := omega) only [x_rc183 X, x_i183_0 X, x_w183_0 X, x_r183_1 X, x_r183_2 X, x_r183_3 X, x_r183_4 X, x_i183_5 X, x_w183_5 X, x_i183_6 X, x_w183_6 X, x_i183_7 X, x_w183_7 X, x_i183_8 X, x_w183_8 X, x_i183_9 X, x_w183_9 X, x_i183_10 X, x_w183_10 X, x_i183_11 X, x_w183_11 X, x_i183_12 X, x_w183_12 X, x_i183_13 X, x_w183_13 X, x_i183_14 X, x_w183_14 X, x_i183_15 X, x_w183_15 X, x_r183_16 X, x_r183_17 X, x_r183_18 X, x_i183_19 X, x_w183_19 X, x_i183_20 X, x_w183_20 X, x_r183_21 X, x_r183_22 X, x_r183_23 X, x_r183_24 X, x_r183_25 X, x_i183_26 X, x_w183_26 X, x_r183_27 X, x_r183_28 X, x_r183_29 X, x_i183_30 X, x_w183_30 X, x_r183_31 X, x_r183_32 X, x_r183_33 X, x_r183_34 X, x_r183_35 X, x_r183_36 X, x_a184 X, x_s184 X, x_a185 X, x_s185 X, x_a186 X, x_s186 X, x_a187 X, x_s187 X, x_a188 X, x_s188 X, x_a189 X, x_s189 X, x_a190 X, x_s190 X, x_a191 X, x_s191 X, x_a192 X, x_s192 X, x_a193 X, x_s193 X, x_a194 X, x_s194 X, x_a195 X, x_s195 X, x_a196 X, x_s196 X, x_a197 X, x_s197 X, x_a198 X, x_s198 X, x_a199 X, x_s199 X, x_a200 X, x_s200 X, x_a201 X, x_s201 X, x_a202 X, x_s202 X, x_a203 X, x_s203 X, x_a204 X, x_s204 X, Option.bind_some, ↓reduceIte, ite_not, fa_lit, nI_add, nI_mulN, nI_an, nI_sub, irm_n, nI_eq, nI_leI, nI_ltI, v_pow, v_shr, v_bit, nI_cl, nI_m1e, ha, wN W, Nat.le_refl]
    rfl
  | succ d ih =>
    intro k fuel o hk hf ho
    obtain ⟨f2, rfl⟩ : ∃ f, fuel = f + 1 := ⟨fuel - 1, by omega⟩
    have ha1 : aI (Em g t) 184 1 = some (tA t 184 1) := x_a184 X (k := 1) (by decide)
    have c1 : ¬ nI (2 ^ vN a) ≤ nI k := by rw [nI_leI (by omega) (by omega)]; omega
    have hn1 : nI k + 1 = nI (k + 1) := nI_add k 1
    have hfu : vN a + 1 < FU := by show vN a + 1 < 1000000; omega
    obtain ⟨r, er, hr⟩ := r_tall_l (t := t) (Y := k) X W ha h9 (by omega) (vN a + 1) 0 FU (by omega) hfu (fun q h => absurd h (by omega))
    have er' : F_X12_tellsAll 183 (nI k) (Em g t) = some (bI r, Em g t) := er
    have hrT : r = T k := by rw [Bool.eq_iff_iff, hr, hT]
    have htest : F_X12_atOnce_b54 (F_X12_atOnce_b26 f2) 183 (oI o) (nI k) (Em g t) = some (oI (if T k then scn T d (k + 1) (some k) else scn T d (k + 1) o), Em g t) := by
      unfold F_X12_atOnce_b54
      rw [x_rc183 X, Option.bind_some, er', Option.bind_some, hn1, hrT]
      cases T k
      · rw [if_pos (show bI false = (0 : Int32) by decide), ih (k + 1) f2 o (by omega) (by omega) ho]
        rfl
      · rw [if_neg (show ¬ bI true = (0 : Int32) by decide)]
        exact ih (k + 1) f2 (some k) (by omega) (by omega) (fun Y hY => by injection hY with hY; omega)
    rw [F_X12_atOnce_b26, x_r183_1 X, Option.bind_some, ha1, Option.bind_some, ha, wN W, show (1 : Int32) <<< (nI (vN a) &&& 31) = nI (2 ^ vN a) from v_pow (by omega), if_neg c1]
    cases o with
    | none =>
      rw [scn, if_pos (show oI none = (-1 : Int32) from rfl), htest, Bool.true_and]
    | some Y =>
      have hY := ho Y rfl
      have hne : ¬ oI (some Y) = (-1 : Int32) := by
        show ¬ nI Y = -nI 1
        rw [nI_m1e (by omega)]
        exact id
      have p1 := pcn_31 k
      have p2 := pcn_31 Y
      rw [scn, if_neg hne, q_bits (m := k) (by omega), Option.bind_some, show oI (some Y) = nI Y from rfl, q_bits (m := Y) (by omega), Option.bind_some]
      by_cases c : pcn Y ≤ pcn k
      · have c' : nI (pcn Y) ≤ nI (pcn k) := by rw [nI_leI (by omega) (by omega)]; exact c
        rw [if_pos c', hn1]
        have := ih (k + 1) f2 (some Y) (by omega) (by omega) ho
        simp only [c, not_true_eq_false, decide_false, Bool.false_and, Bool.false_eq_true, if_false]
        exact this
      · have c' : ¬ nI (pcn Y) ≤ nI (pcn k) := by rw [nI_leI (by omega) (by omega)]; exact c
        rw [if_neg c']
        simp only [c, not_false_eq_true, decide_true, Bool.true_and]
        exact htest
theorem k_once_l (X : Fx g) {KD : Nat → Nat} {kc N : Nat} (hN : N ≤ 10) (hkc : kc ≤ 11) (h0 : tI t 148 0 = nI N) (h3 : tI t 148 3 = nI kc) (h5 : ∀ j, j < kc → KD j < 2 ^ 31 ∧ tA t 150 j = nI (KD j)) {T : Nat → Bool} (hT : ∀ Y, T Y = true ↔ tlk KD kc Y) : ∀ (d k fuel Y : Nat), k + d = 2 ^ N → d < fuel → Y < 2 ^ N → F_X9_leastSet_b11 fuel 148 (nI Y) (nI k) (Em g t) = some (oI (scn T d k (some Y)), Em g t) := by
  have h2k := p2048 (n := N) (by omega)
  intro d
  induction d with
  | zero =>
    intro k fuel Y hk hf hY
    obtain ⟨f2, rfl⟩ : ∃ f, fuel = f + 1 := ⟨fuel - 1, by omega⟩
    have hk : k = 2 ^ N := by omega
    subst hk
    rw [F_X9_leastSet_b11, x_i148_0 X, Option.bind_some, h0, show (1 : Int32) <<< (nI N &&& 31) = nI (2 ^ N) from v_pow (by omega), if_pos (by rw [nI_leI (by omega) (by omega)]; exact Nat.le_refl _)]
    rfl
  | succ d ih =>
    intro k fuel Y hk hf hY
    obtain ⟨f2, rfl⟩ : ∃ f, fuel = f + 1 := ⟨fuel - 1, by omega⟩
    have hn1 : nI k + 1 = nI (k + 1) := nI_add k 1
    have hfu : kc < FU := by show kc < 1000000; omega
    obtain ⟨r, er, hr⟩ := k_tap_l (t := t) (Y := k) X hkc (by omega) h3 h5 kc 0 FU (by omega) hfu (fun q h => absurd h (by omega))
    have er' : F_X9_tellsApart 148 (nI k) (Em g t) = some (bI r, Em g t) := er
    have hrT : r = T k := by rw [Bool.eq_iff_iff, hr, hT]
    have p1 := pcn_31 k
    have p2 := pcn_31 Y
    rw [F_X9_leastSet_b11, x_i148_0 X, Option.bind_some, h0, show (1 : Int32) <<< (nI N &&& 31) = nI (2 ^ N) from v_pow (by omega), if_neg (by rw [nI_leI (by omega) (by omega)]; omega), k_bits k (by omega), Option.bind_some, k_bits Y (by omega), Option.bind_some, hn1, scn]
    by_cases c : pcn Y ≤ pcn k
    · have c' : nI (pcn Y) ≤ nI (pcn k) := by rw [nI_leI (by omega) (by omega)]; exact c
      rw [if_pos c']
      simp only [c, not_true_eq_false, decide_false, Bool.false_and, Bool.false_eq_true, if_false]
      exact ih (k + 1) f2 Y (by omega) (by omega) hY
    · have c' : ¬ nI (pcn Y) ≤ nI (pcn k) := by rw [nI_leI (by omega) (by omega)]; exact c
      rw [if_neg c', x_rc148 X, Option.bind_some, er', Option.bind_some, hrT]
      simp only [c, not_false_eq_true, decide_true, Bool.true_and]
      cases T k
      · rw [if_pos (show bI false = (0 : Int32) by decide)]
        exact ih (k + 1) f2 Y (by omega) (by omega) hY
      · rw [if_neg (show ¬ bI true = (0 : Int32) by decide)]
        exact ih (k + 1) f2 k (by omega) (by omega) (by omega)
theorem ok_atOnce {n : Nat} (I : IV g t v a D n nx) (hD : D + 100 < 2 ^ 30) (x : Int32) : Okc (F_X11_atOnce 69 x) (F_X12_atOnce 183 x) g t D := by
  have X := I.1
  have C := I.2.2.1
  have W := C.1
  have V := C.2.1
  have hP := wP2 W
  have hN := wN3 W
  have hw0 : ∀ t, wI (Em g t) 183 11 0 0 = some (Em g (wi t 183 0 (nI 0))) := fun t => x_w183_0 X
  rcases okx_c x (vP a) (by omega) with hx | ⟨hx, p, hp, rfl⟩
  · refine ok_0 (r := -nI 2) (t1 := t) (t2 := wi t 183 0 (nI 0)) I hD ?_ ?_ Sm_r (Sm_wi (a := 183) (k := 0) rfl Sm_r)
    · unfold F_X11_atOnce
      rw [c_r69 X C.2.2.2.1, Option.bind_some, v_rc V, Option.bind_some, k_person V C, Option.bind_some, hx, if_neg (show ¬ ¬ bI false = (0 : Int32) by decide)]
      rfl
    · unfold F_X12_atOnce
      rw [hw0, Option.bind_some, x_rc183 X, Option.bind_some, q_personX (t := wi t 183 0 (nI 0)) X W I.2.1, Option.bind_some, hx, if_neg (show ¬ ¬ bI false = (0 : Int32) by decide)]
      rfl
  · obtain ⟨t1, KD, kc, e1, s1, hK, h0, h3, h49, h50, h51⟩ := k_gather (p := p) X C hp
    obtain ⟨kd, q1, q2, q3, q4, q5, q6, _⟩ := kd_ex W hK
    have s2 : Sm g t (wi t1 183 0 (nI 0)) := Sm_wi rfl s1
    have ha2 : tA (wi t1 183 0 (nI 0)) 184 = a := by rw [Sm_a X s2]; exact I.2.1
    obtain ⟨t3, e3, s3, k3⟩ := r_lays (t := wi t1 183 0 (nI 0)) X W hp ha2
    have h2k := p2048 (n := vN a) (by omega)
    have hp2 := Nat.two_pow_pos (vN a)
    have hfu : 2 ^ vN a < FU := by show 2 ^ vN a < 1000000; omega
    have hT : ∀ Y, (fun Y => @decide (tlr a p Y) (Classical.propDecidable _)) Y = true ↔ tlr a p Y := fun Y => @decide_eq_true_iff _ (Classical.propDecidable _)
    have hT2 : ∀ Y, (fun Y => @decide (tlr a p Y) (Classical.propDecidable _)) Y = true ↔ tlk KD kc Y := fun Y => (hT Y).trans (tl_eq hK)
    generalize (fun Y => @decide (tlr a p Y) (Classical.propDecidable _)) = T at hT hT2
    have hfull : T (2 ^ vN a - 1) = true := (hT _).mpr (fun _ _ _ _ h => h)
    have er := r_once_l (t := t3) X W (by rw [Sm_a X s3]; exact ha2) k3 hT (2 ^ vN a) 0 FU none (by omega) hfu (fun Y h => by cases h)
    have ec := k_once_l (t := t1) (N := vN a) X hN q5 h0 h3 (fun j hj => ⟨p_31 (q6 j hj) (by omega), h50 j hj⟩) hT2 (2 ^ vN a) 0 FU (2 ^ vN a - 1) (by omega) hfu (by omega)
    rw [scn_eq hN hfull (2 ^ vN a) 0 (by omega) (by omega)] at er
    have hsh : ((1 : Int32) <<< (nI (vN a) &&& 31)) - 1 = nI (2 ^ vN a - 1) := by
      rw [show (1 : Int32) <<< (nI (vN a) &&& 31) = nI (2 ^ vN a) from v_pow (by omega), show nI (2 ^ vN a) - 1 = nI (2 ^ vN a - 1) from nI_sub (b := 1) (by omega)]
    have ec' : F_X9_leastSet 148 (Em g t1) = some (oI (scn T (2 ^ vN a) 0 (some (2 ^ vN a - 1))), Em g t1) := by
      unfold F_X9_leastSet
      rw [x_i148_0 X, Option.bind_some, h0, hsh]
      exact ec
    refine ok_0 (r := oI (scn T (2 ^ vN a) 0 (some (2 ^ vN a - 1)))) (t1 := t1) (t2 := t3) I hD ?_ ?_ s1 (Sm_t (Sm_wi (a := 183) (k := 0) rfl Sm_r) s3)
    · unfold F_X11_atOnce
      rw [c_r69 X C.2.2.2.1, Option.bind_some, v_rc V, Option.bind_some, k_person V C, Option.bind_some, hx, if_pos (show ¬ bI true = (0 : Int32) by decide), x_r69_8 X, Option.bind_some, c_r69 X C.2.2.2.1, Option.bind_some, x_r69_2 X, Option.bind_some, x_rc148 X, Option.bind_some, e1, Option.bind_some, x_r69_8 X, Option.bind_some, x_rc148 X, Option.bind_some, ec', Option.bind_some]
    · unfold F_X12_atOnce
      rw [hw0, Option.bind_some, x_rc183 X, Option.bind_some, q_personX (t := wi t1 183 0 (nI 0)) X W ha2, Option.bind_some, hx, if_pos (show ¬ bI true = (0 : Int32) by decide), x_rc183 X, Option.bind_some, e3, Option.bind_some]
      exact er
end XOn
