/-! ===== the reference: follows, sounds, people at a place, steps, the plain answers ===== -/
def pcn (m : Nat) : Nat := pc m 11
def aFault (k p x : Int32) : Int32 := if x = nI 0 then k else if x = nI 1 then p else -nI 1
def okx (x : Int32) (n : Nat) : Bool := decide (0 ≤ x.toInt ∧ x.toInt < n)
def aPerson (a : Nat → Int32) (x y : Int32) : Int32 := if okx x (vP a) then (if y = nI 0 then a (109 + tn x) else if y = nI 1 then a (121 + tn x) else if y = nI 2 then a (115 + tn x) else if y = nI 3 then bI ((vFo a).testBit (tn x)) else if y = nI 4 then nI (heard a (tn x)) else -nI 2) else -nI 2
def aSounds (a : Nat → Int32) (x y : Int32) : Int32 := if okx x (vK a) then (if nI 0 ≤ y then snd a (tn x) (tn y) else -nI 3) else -nI 2
def aPlace (a : Nat → Int32) (x y : Int32) : Int32 := if okx x (vK a) then (if y = nI 0 then a (77 + tn x) else if y = nI 1 then nI (atp a (tn x)) else if y = nI 2 then a (71 + tn x) else -nI 2) else -nI 2
def aNote (a : Nat → Int32) (x y : Int32) : Int32 := if okx x (vT a) then (if nI 0 ≤ y then (if vLg a (tn x) ≤ tn y then -nI 1 else a (17 + 9 * tn x + tn y)) else -nI 3) else -nI 2
def aSteps (a : Nat → Int32) (x y : Int32) : Int32 := if okx x (vT a) && okx y (vP a) then nI (stepo a (tn x) (tn y)) else -nI 2
def oks (x : Int32) (n : Nat) : Bool := decide (0 ≤ x.toInt ∧ x.toInt < 2 ^ n)
def wholes (a : Nat → Int32) (s : Nat) : Nat := mk (fun u => decide (∀ p, p < vP a → s.testBit p = true → stepo a u p = 0)) (vT a)
def aWhole (a : Nat → Int32) (x : Int32) : Int32 := if oks x (vP a) then nI (wholes a (tn x)) else -nI 3
def ownrs (a : Nat → Int32) (n : Nat) : Nat := mk (fun p => !hnow a p n) (vP a)
def aOwners (a : Nat → Int32) (x : Int32) : Int32 := if okx x (vN a) then nI (ownrs a (tn x)) else -nI 2
def ends (a : Nat → Int32) : Nat → Nat
  | 0 => 0
  | k + 1 => ends a k + pcn (vWy a k)
def aCount (a : Nat → Int32) (tp x : Int32) : Int32 := if x = nI 0 then a 1 else if x = nI 1 then a 2 else if x = nI 2 then a 3 else if x = nI 3 then a 4 else if x = nI 4 then a 108 else if x = nI 5 then a 107 else if x = nI 6 then nI (ends a (vK a) / 2) else if x = nI 7 then a 127 else if x = nI 8 then tp else if x = nI 9 then a 0 else -nI 1
/-- a number within bounds, or not -/
theorem okx_c (x : Int32) (n : Nat) (hn : n ≤ 1000) : (okx x n = false) ∨ (okx x n = true ∧ ∃ k, k < n ∧ x = nI k) := by
  unfold okx
  by_cases h : 0 ≤ x.toInt ∧ x.toInt < n
  · right
    refine ⟨by simp [h], x.toInt.toNat, by omega, ?_⟩
    apply Int32.toInt_inj.mp
    rw [nI_toInt (by omega)]
    omega
  · left
    simp [h]
theorem okx_n {k n : Nat} (h : k < n) (hn : n ≤ 1000) : okx (nI k) n = true := by
  unfold okx
  rw [nI_toInt (by omega)]
  simp
  omega
theorem oks_c (x : Int32) (n : Nat) (hn : n ≤ 30) : (oks x n = false) ∨ (oks x n = true ∧ ∃ k, k < 2 ^ n ∧ x = nI k) := by
  have h2 : 2 ^ n < 2 ^ 31 := Nat.pow_lt_pow_right (by decide) (by omega)
  unfold oks
  by_cases h : 0 ≤ x.toInt ∧ x.toInt < 2 ^ n
  · right
    have h3 : x.toInt.toNat < 2 ^ n := by
      have := h.2
      have e : ((2 ^ n : Nat) : Int) = (2 : Int) ^ n := by push_cast; rfl
      omega
    refine ⟨by simp [h], x.toInt.toNat, h3, ?_⟩
    apply Int32.toInt_inj.mp
    rw [nI_toInt (by omega)]
    omega
  · left
    simp [h]
theorem nn_c (x : Int32) : (¬ nI 0 ≤ x) ∨ (nI 0 ≤ x ∧ ∃ k, k < 2 ^ 31 ∧ x = nI k) := by
  by_cases h : x < 0
  · left
    intro q
    have := (fa_lt _ _).mp h
    have := (fa_le _ _).mp q
    have e : (nI 0).toInt = 0 := rfl
    have e2 : (0 : Int32).toInt = 0 := rfl
    omega
  · right
    exact ⟨fa_of_nlt h, nI_of h⟩
theorem idv_2 : ∀ n, n ≤ 1000 → idv (nI n) (nI 2) = nI (n / 2) := by
  intro n hn
  exact pk_div (by omega) (by decide) (by decide)
section XR2
variable {g : Sk} {t : Tb} {a : Nat → Int32}
variable {D : Nat}
theorem q_follows (X : Fx g) (W : WA a D) (ha : tA t 184 = a) {i j : Nat} (hi : i ≤ 20) (hj : j ≤ 20) : ∃ t', F_X12_follows 183 (nI i) (nI j) (Em g t) = some (bI (fol a i j), Em g t') ∧ Sm g t t' := by
  unfold F_X12_follows
  by_cases h6 : a 6 = nI 0
  · simp (disch := omega) only [x_rc183 X, x_i183_0 X, x_w183_0 X, x_r183_1 X, x_r183_2 X, x_r183_3 X, x_r183_4 X, x_i183_5 X, x_w183_5 X, x_i183_6 X, x_w183_6 X, x_i183_7 X, x_w183_7 X, x_i183_8 X, x_w183_8 X, x_i183_9 X, x_w183_9 X, x_i183_10 X, x_w183_10 X, x_i183_11 X, x_w183_11 X, x_i183_12 X, x_w183_12 X, x_i183_13 X, x_w183_13 X, x_i183_14 X, x_w183_14 X, x_i183_15 X, x_w183_15 X, x_r183_16 X, x_r183_17 X, x_r183_18 X, x_i183_19 X, x_w183_19 X, x_i183_20 X, x_w183_20 X, x_r183_21 X, x_r183_22 X, x_r183_23 X, x_r183_24 X, x_r183_25 X, x_i183_26 X, x_w183_26 X, x_r183_27 X, x_r183_28 X, x_r183_29 X, x_i183_30 X, x_w183_30 X, x_r183_31 X, x_r183_32 X, x_r183_33 X, x_r183_34 X, x_r183_35 X, x_r183_36 X, x_a184 X, x_s184 X, x_a185 X, x_s185 X, x_a186 X, x_s186 X, x_a187 X, x_s187 X, x_a188 X, x_s188 X, x_a189 X, x_s189 X, x_a190 X, x_s190 X, x_a191 X, x_s191 X, x_a192 X, x_s192 X, x_a193 X, x_s193 X, x_a194 X, x_s194 X, x_a195 X, x_s195 X, x_a196 X, x_s196 X, x_a197 X, x_s197 X, x_a198 X, x_s198 X, x_a199 X, x_s199 X, x_a200 X, x_s200 X, x_a201 X, x_s201 X, x_a202 X, x_s202 X, x_a203 X, x_s203 X, x_a204 X, x_s204 X, Option.bind_some, ↓reduceIte, ite_not, fa_lit, nI_add, nI_mulN, nI_an, nI_sub, irm_n, nI_eq, nI_leI, nI_ltI, v_pow, v_shr, v_bit, nI_cl, nI_m1e, ha, h6]
    refine ⟨t, ?_, Sm_r⟩
    unfold fol
    rw [if_pos h6]
    rfl
  · have hh : ∃ t', F_X12_follows_b47 183 189 (nI 7) (nI (if i < j then j - i else i - j)) (Em g (wa (wa t 189 5 (nI i)) 189 6 (nI j))) = some (bI (fol a i j), Em g t') ∧ Sm g t t' := by
      unfold F_X12_follows_b47
      simp (disch := omega) only [x_rc183 X, x_i183_0 X, x_w183_0 X, x_r183_1 X, x_r183_2 X, x_r183_3 X, x_r183_4 X, x_i183_5 X, x_w183_5 X, x_i183_6 X, x_w183_6 X, x_i183_7 X, x_w183_7 X, x_i183_8 X, x_w183_8 X, x_i183_9 X, x_w183_9 X, x_i183_10 X, x_w183_10 X, x_i183_11 X, x_w183_11 X, x_i183_12 X, x_w183_12 X, x_i183_13 X, x_w183_13 X, x_i183_14 X, x_w183_14 X, x_i183_15 X, x_w183_15 X, x_r183_16 X, x_r183_17 X, x_r183_18 X, x_i183_19 X, x_w183_19 X, x_i183_20 X, x_w183_20 X, x_r183_21 X, x_r183_22 X, x_r183_23 X, x_r183_24 X, x_r183_25 X, x_i183_26 X, x_w183_26 X, x_r183_27 X, x_r183_28 X, x_r183_29 X, x_i183_30 X, x_w183_30 X, x_r183_31 X, x_r183_32 X, x_r183_33 X, x_r183_34 X, x_r183_35 X, x_r183_36 X, x_a184 X, x_s184 X, x_a185 X, x_s185 X, x_a186 X, x_s186 X, x_a187 X, x_s187 X, x_a188 X, x_s188 X, x_a189 X, x_s189 X, x_a190 X, x_s190 X, x_a191 X, x_s191 X, x_a192 X, x_s192 X, x_a193 X, x_s193 X, x_a194 X, x_s194 X, x_a195 X, x_s195 X, x_a196 X, x_s196 X, x_a197 X, x_s197 X, x_a198 X, x_s198 X, x_a199 X, x_s199 X, x_a200 X, x_s200 X, x_a201 X, x_s201 X, x_a202 X, x_s202 X, x_a203 X, x_s203 X, x_a204 X, x_s204 X, Option.bind_some, ↓reduceIte, ite_not, fa_lit, nI_add, nI_mulN, nI_an, nI_sub, irm_n, nI_eq, nI_leI, nI_ltI, v_pow, v_shr, v_bit, nI_cl, nI_m1e]
      obtain ⟨t', e, hS⟩ := q_reckons (t := wa (wa (wa t 189 5 (nI i)) 189 6 (nI j)) 189 7 (nI (if i < j then j - i else i - j))) X W (by rw [tA_an (by decide), tA_an (by decide), tA_an (by decide), ha]) (l := 1) (by decide) h6 (gw i j) (fun q hq => by
        have : 5 ≤ q ∧ q < 8 := by rcases hq with h | h <;> omega
        simp only [tA_as]
        rcases (show q = 5 ∨ q = 6 ∨ q = 7 by omega) with e | e | e <;> subst e <;> simp [upd, gw])
      rw [e]
      refine ⟨t', ?_, Sm_t (Sm_wa (sc_f rfl) (Sm_wa (sc_f rfl) (Sm_wa (sc_f rfl) Sm_r))) hS⟩
      simp only [Option.bind_some, rz_b]
      unfold fol
      rw [if_neg h6]
    obtain ⟨t', e, hS⟩ := hh
    refine ⟨t', ?_, hS⟩
    by_cases hij : i < j
    · rw [if_pos hij] at e
      have h1 : ¬ j ≤ i := by omega
      simp (disch := omega) only [x_rc183 X, x_i183_0 X, x_w183_0 X, x_r183_1 X, x_r183_2 X, x_r183_3 X, x_r183_4 X, x_i183_5 X, x_w183_5 X, x_i183_6 X, x_w183_6 X, x_i183_7 X, x_w183_7 X, x_i183_8 X, x_w183_8 X, x_i183_9 X, x_w183_9 X, x_i183_10 X, x_w183_10 X, x_i183_11 X, x_w183_11 X, x_i183_12 X, x_w183_12 X, x_i183_13 X, x_w183_13 X, x_i183_14 X, x_w183_14 X, x_i183_15 X, x_w183_15 X, x_r183_16 X, x_r183_17 X, x_r183_18 X, x_i183_19 X, x_w183_19 X, x_i183_20 X, x_w183_20 X, x_r183_21 X, x_r183_22 X, x_r183_23 X, x_r183_24 X, x_r183_25 X, x_i183_26 X, x_w183_26 X, x_r183_27 X, x_r183_28 X, x_r183_29 X, x_i183_30 X, x_w183_30 X, x_r183_31 X, x_r183_32 X, x_r183_33 X, x_r183_34 X, x_r183_35 X, x_r183_36 X, x_a184 X, x_s184 X, x_a185 X, x_s185 X, x_a186 X, x_s186 X, x_a187 X, x_s187 X, x_a188 X, x_s188 X, x_a189 X, x_s189 X, x_a190 X, x_s190 X, x_a191 X, x_s191 X, x_a192 X, x_s192 X, x_a193 X, x_s193 X, x_a194 X, x_s194 X, x_a195 X, x_s195 X, x_a196 X, x_s196 X, x_a197 X, x_s197 X, x_a198 X, x_s198 X, x_a199 X, x_s199 X, x_a200 X, x_s200 X, x_a201 X, x_s201 X, x_a202 X, x_s202 X, x_a203 X, x_s203 X, x_a204 X, x_s204 X, Option.bind_some, ↓reduceIte, ite_not, fa_lit, nI_add, nI_mulN, nI_an, nI_sub, irm_n, nI_eq, nI_leI, nI_ltI, v_pow, v_shr, v_bit, nI_cl, nI_m1e, ha, h6, h1, e]
    · rw [if_neg hij] at e
      have h1 : j ≤ i := by omega
      simp (disch := omega) only [x_rc183 X, x_i183_0 X, x_w183_0 X, x_r183_1 X, x_r183_2 X, x_r183_3 X, x_r183_4 X, x_i183_5 X, x_w183_5 X, x_i183_6 X, x_w183_6 X, x_i183_7 X, x_w183_7 X, x_i183_8 X, x_w183_8 X, x_i183_9 X, x_w183_9 X, x_i183_10 X, x_w183_10 X, x_i183_11 X, x_w183_11 X, x_i183_12 X, x_w183_12 X, x_i183_13 X, x_w183_13 X, x_i183_14 X, x_w183_14 X, x_i183_15 X, x_w183_15 X, x_r183_16 X, x_r183_17 X, x_r183_18 X, x_i183_19 X, x_w183_19 X, x_i183_20 X, x_w183_20 X, x_r183_21 X, x_r183_22 X, x_r183_23 X, x_r183_24 X, x_r183_25 X, x_i183_26 X, x_w183_26 X, x_r183_27 X, x_r183_28 X, x_r183_29 X, x_i183_30 X, x_w183_30 X, x_r183_31 X, x_r183_32 X, x_r183_33 X, x_r183_34 X, x_r183_35 X, x_r183_36 X, x_a184 X, x_s184 X, x_a185 X, x_s185 X, x_a186 X, x_s186 X, x_a187 X, x_s187 X, x_a188 X, x_s188 X, x_a189 X, x_s189 X, x_a190 X, x_s190 X, x_a191 X, x_s191 X, x_a192 X, x_s192 X, x_a193 X, x_s193 X, x_a194 X, x_s194 X, x_a195 X, x_s195 X, x_a196 X, x_s196 X, x_a197 X, x_s197 X, x_a198 X, x_s198 X, x_a199 X, x_s199 X, x_a200 X, x_s200 X, x_a201 X, x_s201 X, x_a202 X, x_s202 X, x_a203 X, x_s203 X, x_a204 X, x_s204 X, Option.bind_some, ↓reduceIte, ite_not, fa_lit, nI_add, nI_mulN, nI_an, nI_sub, irm_n, nI_eq, nI_leI, nI_ltI, v_pow, v_shr, v_bit, nI_cl, nI_m1e, ha, h6, h1, e]
theorem sno_le (W : WA a D) {k d : Nat} (hk : k < vK a) : sno a k d ≤ vN a := wSd2 W hk (Nat.mod_lt _ (wCo1 W hk))
theorem q_soundOf (X : Fx g) (W : WA a D) (ha : tA t 184 = a) {k d : Nat} (hk : k < vK a) (hd : d < 2 ^ 31) : F_X12_soundOf 183 (nI k) (nI d) (Em g t) = some (snd a k d, Em g t) := by
  have h2 := wK2 W
  have h3 := wCo1 W hk
  have h4 := wCo2 W hk
  have h5 := wN3 W
  have hm : d % vCo a k < vCo a k := Nat.mod_lt _ h3
  have h6 : vSd a k (d % vCo a k) ≤ vN a := wSd2 W hk hm
  have h7 : ¬ vCo a k = 0 := by omega
  unfold F_X12_soundOf
  simp (disch := omega) only [x_rc183 X, x_i183_0 X, x_w183_0 X, x_r183_1 X, x_r183_2 X, x_r183_3 X, x_r183_4 X, x_i183_5 X, x_w183_5 X, x_i183_6 X, x_w183_6 X, x_i183_7 X, x_w183_7 X, x_i183_8 X, x_w183_8 X, x_i183_9 X, x_w183_9 X, x_i183_10 X, x_w183_10 X, x_i183_11 X, x_w183_11 X, x_i183_12 X, x_w183_12 X, x_i183_13 X, x_w183_13 X, x_i183_14 X, x_w183_14 X, x_i183_15 X, x_w183_15 X, x_r183_16 X, x_r183_17 X, x_r183_18 X, x_i183_19 X, x_w183_19 X, x_i183_20 X, x_w183_20 X, x_r183_21 X, x_r183_22 X, x_r183_23 X, x_r183_24 X, x_r183_25 X, x_i183_26 X, x_w183_26 X, x_r183_27 X, x_r183_28 X, x_r183_29 X, x_i183_30 X, x_w183_30 X, x_r183_31 X, x_r183_32 X, x_r183_33 X, x_r183_34 X, x_r183_35 X, x_r183_36 X, x_a184 X, x_s184 X, x_a185 X, x_s185 X, x_a186 X, x_s186 X, x_a187 X, x_s187 X, x_a188 X, x_s188 X, x_a189 X, x_s189 X, x_a190 X, x_s190 X, x_a191 X, x_s191 X, x_a192 X, x_s192 X, x_a193 X, x_s193 X, x_a194 X, x_s194 X, x_a195 X, x_s195 X, x_a196 X, x_s196 X, x_a197 X, x_s197 X, x_a198 X, x_s198 X, x_a199 X, x_s199 X, x_a200 X, x_s200 X, x_a201 X, x_s201 X, x_a202 X, x_s202 X, x_a203 X, x_s203 X, x_a204 X, x_s204 X, Option.bind_some, ↓reduceIte, ite_not, fa_lit, nI_add, nI_mulN, nI_an, nI_sub, irm_n, nI_eq, nI_leI, nI_ltI, v_pow, v_shr, v_bit, nI_cl, nI_m1e, ha, wCo W hk, wSd W hk hm, wN W, h7]
  unfold snd sno
  split <;> rfl
theorem q_peopleAt_l (X : Fx g) (W : WA a D) (ha : tA t 184 = a) {q : Nat} (hq : q ≤ 20) : ∀ (d k fuel : Nat), k + d = vP a → d < fuel → F_X12_peopleAt_b4 fuel 183 (nI q) (nI (mk (fun p => decide (vAt a p = q)) k)) (nI k) (Em g t) = some (nI (atp a q), Em g t) := by
  have h4 := wP2 W
  have h5 := wK2 W
  intro d
  induction d with
  | zero =>
    intro k fuel hk hf
    obtain ⟨f, rfl⟩ : ∃ f, fuel = f + 1 := ⟨fuel - 1, by omega⟩
    have hk : k = vP a := by omega
    subst hk
    rw [F_X12_peopleAt_b4]
    simp (disch := omega) only [x_rc183 X, x_i183_0 X, x_w183_0 X, x_r183_1 X, x_r183_2 X, x_r183_3 X, x_r183_4 X, x_i183_5 X, x_w183_5 X, x_i183_6 X, x_w183_6 X, x_i183_7 X, x_w183_7 X, x_i183_8 X, x_w183_8 X, x_i183_9 X, x_w183_9 X, x_i183_10 X, x_w183_10 X, x_i183_11 X, x_w183_11 X, x_i183_12 X, x_w183_12 X, x_i183_13 X, x_w183_13 X, x_i183_14 X, x_w183_14 X, x_i183_15 X, x_w183_15 X, x_r183_16 X, x_r183_17 X, x_r183_18 X, x_i183_19 X, x_w183_19 X, x_i183_20 X, x_w183_20 X, x_r183_21 X, x_r183_22 X, x_r183_23 X, x_r183_24 X, x_r183_25 X, x_i183_26 X, x_w183_26 X, x_r183_27 X, x_r183_28 X, x_r183_29 X, x_i183_30 X, x_w183_30 X, x_r183_31 X, x_r183_32 X, x_r183_33 X, x_r183_34 X, x_r183_35 X, x_r183_36 X, x_a184 X, x_s184 X, x_a185 X, x_s185 X, x_a186 X, x_s186 X, x_a187 X, x_s187 X, x_a188 X, x_s188 X, x_a189 X, x_s189 X, x_a190 X, x_s190 X, x_a191 X, x_s191 X, x_a192 X, x_s192 X, x_a193 X, x_s193 X, x_a194 X, x_s194 X, x_a195 X, x_s195 X, x_a196 X, x_s196 X, x_a197 X, x_s197 X, x_a198 X, x_s198 X, x_a199 X, x_s199 X, x_a200 X, x_s200 X, x_a201 X, x_s201 X, x_a202 X, x_s202 X, x_a203 X, x_s203 X, x_a204 X, x_s204 X, Option.bind_some, ↓reduceIte, ite_not, fa_lit, nI_add, nI_mulN, nI_an, nI_sub, irm_n, nI_eq, nI_leI, nI_ltI, v_pow, v_shr, v_bit, nI_cl, nI_m1e, ha, wP W, Nat.le_refl]
    rfl
  | succ d ih =>
    intro k fuel hk hf
    obtain ⟨f, rfl⟩ : ∃ f, fuel = f + 1 := ⟨fuel - 1, by omega⟩
    have hk2 : ¬ vP a ≤ k := by omega
    have h6 := wAt2 W (show k < vP a by omega)
    rw [F_X12_peopleAt_b4, ← ih (k + 1) f (by omega) (by omega)]
    by_cases hh : vAt a k = q
    · simp (disch := omega) only [x_rc183 X, x_i183_0 X, x_w183_0 X, x_r183_1 X, x_r183_2 X, x_r183_3 X, x_r183_4 X, x_i183_5 X, x_w183_5 X, x_i183_6 X, x_w183_6 X, x_i183_7 X, x_w183_7 X, x_i183_8 X, x_w183_8 X, x_i183_9 X, x_w183_9 X, x_i183_10 X, x_w183_10 X, x_i183_11 X, x_w183_11 X, x_i183_12 X, x_w183_12 X, x_i183_13 X, x_w183_13 X, x_i183_14 X, x_w183_14 X, x_i183_15 X, x_w183_15 X, x_r183_16 X, x_r183_17 X, x_r183_18 X, x_i183_19 X, x_w183_19 X, x_i183_20 X, x_w183_20 X, x_r183_21 X, x_r183_22 X, x_r183_23 X, x_r183_24 X, x_r183_25 X, x_i183_26 X, x_w183_26 X, x_r183_27 X, x_r183_28 X, x_r183_29 X, x_i183_30 X, x_w183_30 X, x_r183_31 X, x_r183_32 X, x_r183_33 X, x_r183_34 X, x_r183_35 X, x_r183_36 X, x_a184 X, x_s184 X, x_a185 X, x_s185 X, x_a186 X, x_s186 X, x_a187 X, x_s187 X, x_a188 X, x_s188 X, x_a189 X, x_s189 X, x_a190 X, x_s190 X, x_a191 X, x_s191 X, x_a192 X, x_s192 X, x_a193 X, x_s193 X, x_a194 X, x_s194 X, x_a195 X, x_s195 X, x_a196 X, x_s196 X, x_a197 X, x_s197 X, x_a198 X, x_s198 X, x_a199 X, x_s199 X, x_a200 X, x_s200 X, x_a201 X, x_s201 X, x_a202 X, x_s202 X, x_a203 X, x_s203 X, x_a204 X, x_s204 X, Option.bind_some, ↓reduceIte, ite_not, fa_lit, nI_add, nI_mulN, nI_an, nI_sub, irm_n, nI_eq, nI_leI, nI_ltI, v_pow, v_shr, v_bit, nI_cl, nI_m1e, ha, wP W, hk2, wAt W (show k < vP a by omega), hh, F_X12_peopleAt_b35]
      rw [← s_or1 (f := fun p => decide (vAt a p = q)) (by simp [hh])]
    · simp (disch := omega) only [x_rc183 X, x_i183_0 X, x_w183_0 X, x_r183_1 X, x_r183_2 X, x_r183_3 X, x_r183_4 X, x_i183_5 X, x_w183_5 X, x_i183_6 X, x_w183_6 X, x_i183_7 X, x_w183_7 X, x_i183_8 X, x_w183_8 X, x_i183_9 X, x_w183_9 X, x_i183_10 X, x_w183_10 X, x_i183_11 X, x_w183_11 X, x_i183_12 X, x_w183_12 X, x_i183_13 X, x_w183_13 X, x_i183_14 X, x_w183_14 X, x_i183_15 X, x_w183_15 X, x_r183_16 X, x_r183_17 X, x_r183_18 X, x_i183_19 X, x_w183_19 X, x_i183_20 X, x_w183_20 X, x_r183_21 X, x_r183_22 X, x_r183_23 X, x_r183_24 X, x_r183_25 X, x_i183_26 X, x_w183_26 X, x_r183_27 X, x_r183_28 X, x_r183_29 X, x_i183_30 X, x_w183_30 X, x_r183_31 X, x_r183_32 X, x_r183_33 X, x_r183_34 X, x_r183_35 X, x_r183_36 X, x_a184 X, x_s184 X, x_a185 X, x_s185 X, x_a186 X, x_s186 X, x_a187 X, x_s187 X, x_a188 X, x_s188 X, x_a189 X, x_s189 X, x_a190 X, x_s190 X, x_a191 X, x_s191 X, x_a192 X, x_s192 X, x_a193 X, x_s193 X, x_a194 X, x_s194 X, x_a195 X, x_s195 X, x_a196 X, x_s196 X, x_a197 X, x_s197 X, x_a198 X, x_s198 X, x_a199 X, x_s199 X, x_a200 X, x_s200 X, x_a201 X, x_s201 X, x_a202 X, x_s202 X, x_a203 X, x_s203 X, x_a204 X, x_s204 X, Option.bind_some, ↓reduceIte, ite_not, fa_lit, nI_add, nI_mulN, nI_an, nI_sub, irm_n, nI_eq, nI_leI, nI_ltI, v_pow, v_shr, v_bit, nI_cl, nI_m1e, ha, wP W, hk2, wAt W (show k < vP a by omega), hh, F_X12_peopleAt_b35]
      rw [← s_or0 (f := fun p => decide (vAt a p = q)) (by simp [hh])]
theorem q_peopleAt (X : Fx g) (W : WA a D) (ha : tA t 184 = a) {q : Nat} (hq : q ≤ 20) : F_X12_peopleAt 183 (nI q) (Em g t) = some (nI (atp a q), Em g t) := by
  have h4 := wP2 W
  exact q_peopleAt_l X W ha hq (vP a) 0 FU (by omega) (by show vP a < 1000000; omega)
theorem q_stepsOf_l (X : Fx g) (W : WA a D) {u p : Nat} (hu : u < vT a) (hp : p < vP a) : ∀ (d k fuel : Nat) (t : Tb), k + d = vLg a u → d < fuel → tA t 184 = a → ∃ t', F_X12_stepsOf_b5 fuel 183 (nI u) (nI p) (nI (mk (fun i => !hnow a p (vNt a u i)) k)) (nI k) (Em g t) = some (nI (stepo a u p), Em g t') ∧ Sm g t t' := by
  have h4 := wN3 W
  have h5 := wLg2 W hu
  have h6 := wT2 W
  intro d
  induction d with
  | zero =>
    intro k fuel t hk hf ha
    obtain ⟨f, rfl⟩ : ∃ f, fuel = f + 1 := ⟨fuel - 1, by omega⟩
    have hk : k = vLg a u := by omega
    subst hk
    rw [F_X12_stepsOf_b5]
    simp (disch := omega) only [x_rc183 X, x_i183_0 X, x_w183_0 X, x_r183_1 X, x_r183_2 X, x_r183_3 X, x_r183_4 X, x_i183_5 X, x_w183_5 X, x_i183_6 X, x_w183_6 X, x_i183_7 X, x_w183_7 X, x_i183_8 X, x_w183_8 X, x_i183_9 X, x_w183_9 X, x_i183_10 X, x_w183_10 X, x_i183_11 X, x_w183_11 X, x_i183_12 X, x_w183_12 X, x_i183_13 X, x_w183_13 X, x_i183_14 X, x_w183_14 X, x_i183_15 X, x_w183_15 X, x_r183_16 X, x_r183_17 X, x_r183_18 X, x_i183_19 X, x_w183_19 X, x_i183_20 X, x_w183_20 X, x_r183_21 X, x_r183_22 X, x_r183_23 X, x_r183_24 X, x_r183_25 X, x_i183_26 X, x_w183_26 X, x_r183_27 X, x_r183_28 X, x_r183_29 X, x_i183_30 X, x_w183_30 X, x_r183_31 X, x_r183_32 X, x_r183_33 X, x_r183_34 X, x_r183_35 X, x_r183_36 X, x_a184 X, x_s184 X, x_a185 X, x_s185 X, x_a186 X, x_s186 X, x_a187 X, x_s187 X, x_a188 X, x_s188 X, x_a189 X, x_s189 X, x_a190 X, x_s190 X, x_a191 X, x_s191 X, x_a192 X, x_s192 X, x_a193 X, x_s193 X, x_a194 X, x_s194 X, x_a195 X, x_s195 X, x_a196 X, x_s196 X, x_a197 X, x_s197 X, x_a198 X, x_s198 X, x_a199 X, x_s199 X, x_a200 X, x_s200 X, x_a201 X, x_s201 X, x_a202 X, x_s202 X, x_a203 X, x_s203 X, x_a204 X, x_s204 X, Option.bind_some, ↓reduceIte, ite_not, fa_lit, nI_add, nI_mulN, nI_an, nI_sub, irm_n, nI_eq, nI_leI, nI_ltI, v_pow, v_shr, v_bit, nI_cl, nI_m1e, ha, wLg W hu, Nat.le_refl]
    exact ⟨t, rfl, Sm_r⟩
  | succ d ih =>
    intro k fuel t hk hf ha
    obtain ⟨f, rfl⟩ : ∃ f, fuel = f + 1 := ⟨fuel - 1, by omega⟩
    have hk2 : ¬ vLg a u ≤ k := by omega
    have hk3 : k < vLg a u := by omega
    have h7 := wNt2 W hu hk3
    rw [F_X12_stepsOf_b5]
    obtain ⟨t1, e1, s1⟩ := q_hearsNow X W ha hp (show vNt a u k ≤ 20 by omega)
    obtain ⟨t2, e2, s2⟩ := ih (k + 1) f t1 (by omega) (by omega) (by rw [Sm_a X s1, ha])
    refine ⟨t2, ?_, Sm_t s1 s2⟩
    cases hh : hnow a p (vNt a u k)
    · simp (disch := omega) only [x_rc183 X, x_i183_0 X, x_w183_0 X, x_r183_1 X, x_r183_2 X, x_r183_3 X, x_r183_4 X, x_i183_5 X, x_w183_5 X, x_i183_6 X, x_w183_6 X, x_i183_7 X, x_w183_7 X, x_i183_8 X, x_w183_8 X, x_i183_9 X, x_w183_9 X, x_i183_10 X, x_w183_10 X, x_i183_11 X, x_w183_11 X, x_i183_12 X, x_w183_12 X, x_i183_13 X, x_w183_13 X, x_i183_14 X, x_w183_14 X, x_i183_15 X, x_w183_15 X, x_r183_16 X, x_r183_17 X, x_r183_18 X, x_i183_19 X, x_w183_19 X, x_i183_20 X, x_w183_20 X, x_r183_21 X, x_r183_22 X, x_r183_23 X, x_r183_24 X, x_r183_25 X, x_i183_26 X, x_w183_26 X, x_r183_27 X, x_r183_28 X, x_r183_29 X, x_i183_30 X, x_w183_30 X, x_r183_31 X, x_r183_32 X, x_r183_33 X, x_r183_34 X, x_r183_35 X, x_r183_36 X, x_a184 X, x_s184 X, x_a185 X, x_s185 X, x_a186 X, x_s186 X, x_a187 X, x_s187 X, x_a188 X, x_s188 X, x_a189 X, x_s189 X, x_a190 X, x_s190 X, x_a191 X, x_s191 X, x_a192 X, x_s192 X, x_a193 X, x_s193 X, x_a194 X, x_s194 X, x_a195 X, x_s195 X, x_a196 X, x_s196 X, x_a197 X, x_s197 X, x_a198 X, x_s198 X, x_a199 X, x_s199 X, x_a200 X, x_s200 X, x_a201 X, x_s201 X, x_a202 X, x_s202 X, x_a203 X, x_s203 X, x_a204 X, x_s204 X, Option.bind_some, ↓reduceIte, ite_not, fa_lit, nI_add, nI_mulN, nI_an, nI_sub, irm_n, nI_eq, nI_leI, nI_ltI, v_pow, v_shr, v_bit, nI_cl, nI_m1e, ha, wLg W hu, wNt W hu hk3, hk2, e1, hh, bI_z, F_X12_stepsOf_b51]
      rw [← e2, ← s_or1 (f := fun i => !hnow a p (vNt a u i)) (by simp [hh])]
    · simp (disch := omega) only [x_rc183 X, x_i183_0 X, x_w183_0 X, x_r183_1 X, x_r183_2 X, x_r183_3 X, x_r183_4 X, x_i183_5 X, x_w183_5 X, x_i183_6 X, x_w183_6 X, x_i183_7 X, x_w183_7 X, x_i183_8 X, x_w183_8 X, x_i183_9 X, x_w183_9 X, x_i183_10 X, x_w183_10 X, x_i183_11 X, x_w183_11 X, x_i183_12 X, x_w183_12 X, x_i183_13 X, x_w183_13 X, x_i183_14 X, x_w183_14 X, x_i183_15 X, x_w183_15 X, x_r183_16 X, x_r183_17 X, x_r183_18 X, x_i183_19 X, x_w183_19 X, x_i183_20 X, x_w183_20 X, x_r183_21 X, x_r183_22 X, x_r183_23 X, x_r183_24 X, x_r183_25 X, x_i183_26 X, x_w183_26 X, x_r183_27 X, x_r183_28 X, x_r183_29 X, x_i183_30 X, x_w183_30 X, x_r183_31 X, x_r183_32 X, x_r183_33 X, x_r183_34 X, x_r183_35 X, x_r183_36 X, x_a184 X, x_s184 X, x_a185 X, x_s185 X, x_a186 X, x_s186 X, x_a187 X, x_s187 X, x_a188 X, x_s188 X, x_a189 X, x_s189 X, x_a190 X, x_s190 X, x_a191 X, x_s191 X, x_a192 X, x_s192 X, x_a193 X, x_s193 X, x_a194 X, x_s194 X, x_a195 X, x_s195 X, x_a196 X, x_s196 X, x_a197 X, x_s197 X, x_a198 X, x_s198 X, x_a199 X, x_s199 X, x_a200 X, x_s200 X, x_a201 X, x_s201 X, x_a202 X, x_s202 X, x_a203 X, x_s203 X, x_a204 X, x_s204 X, Option.bind_some, ↓reduceIte, ite_not, fa_lit, nI_add, nI_mulN, nI_an, nI_sub, irm_n, nI_eq, nI_leI, nI_ltI, v_pow, v_shr, v_bit, nI_cl, nI_m1e, ha, wLg W hu, wNt W hu hk3, hk2, e1, hh, bI_z, F_X12_stepsOf_b51, Bool.true_eq_false]
      rw [← e2, ← s_or0 (f := fun i => !hnow a p (vNt a u i)) (by simp [hh])]
theorem q_stepsOf (X : Fx g) (W : WA a D) (ha : tA t 184 = a) {u p : Nat} (hu : u < vT a) (hp : p < vP a) : ∃ t', F_X12_stepsOf 183 (nI u) (nI p) (Em g t) = some (nI (stepo a u p), Em g t') ∧ Sm g t t' := by
  have h4 := wLg2 W hu
  exact q_stepsOf_l X W hu hp (vLg a u) 0 FU t (by omega) (by show vLg a u < 1000000; omega) ha
theorem q_isPeople (X : Fx g) (W : WA a D) (ha : tA t 184 = a) (x : Int32) : F_X12_isPeople 183 x (Em g t) = some (bI (oks x (vP a)), Em g t) := by
  have h4 := wP2 W
  unfold F_X12_isPeople
  have e : aI (Em g t) 184 4 = some (tA t 184 4) := x_a184 X (k := 4) (by decide)
  simp only [x_r183_1 X, e, Option.bind_some, ha, wP W]
  have := p_set (x := x) (P := vP a) (by omega)
  unfold oks
  by_cases h0 : x < 0
  · rw [if_pos h0] at this ⊢
    injection this with this
    rw [← this]
  · rw [if_neg h0] at this ⊢
    split at this <;> rename_i h1
    · rw [if_pos h1]
      injection this with this
      rw [← this]
    · rw [if_neg h1]
      injection this with this
      rw [← this]
theorem q_isNotes (X : Fx g) (W : WA a D) (ha : tA t 184 = a) (x : Int32) : F_X12_isNotes 183 x (Em g t) = some (bI (oks x (vN a)), Em g t) := by
  have h4 := wN3 W
  unfold F_X12_isNotes
  have e : aI (Em g t) 184 1 = some (tA t 184 1) := x_a184 X (k := 1) (by decide)
  simp only [x_r183_1 X, e, Option.bind_some, ha, wN W]
  have := p_set (x := x) (P := vN a) (by omega)
  unfold oks
  by_cases h0 : x < 0
  · rw [if_pos h0] at this ⊢
    injection this with this
    rw [← this]
  · rw [if_neg h0] at this ⊢
    split at this <;> rename_i h1
    · rw [if_pos h1]
      injection this with this
      rw [← this]
    · rw [if_neg h1]
      injection this with this
      rw [← this]
theorem q_bits_l {m : Nat} (hm : m < 2 ^ 31) (h : xH) : ∀ (d k fuel : Nat), k + d = 11 → d < fuel → F_X12_bitsOf_b4 fuel (nI m) (nI (pc m k)) (nI k) h = some (nI (pcn m), h) := by
  intro d
  induction d with
  | zero =>
    intro k fuel hk hf
    obtain ⟨f, rfl⟩ : ∃ f, fuel = f + 1 := ⟨fuel - 1, by omega⟩
    have hk : k = 11 := by omega
    subst hk
    rw [F_X12_bitsOf_b4]
    simp (disch := omega) only [Option.bind_some, ↓reduceIte, ite_not, fa_lit, nI_add, nI_mulN, nI_an, nI_sub, irm_n, nI_eq, nI_leI, nI_ltI, v_pow, v_shr, v_bit, nI_cl, nI_m1e, Nat.reduceLT]
    rfl
  | succ d ih =>
    intro k fuel hk hf
    obtain ⟨f, rfl⟩ : ∃ f, fuel = f + 1 := ⟨fuel - 1, by omega⟩
    have h1 : ¬ 10 < k := by omega
    rw [F_X12_bitsOf_b4, ← ih (k + 1) f (by omega) (by omega)]
    simp (disch := omega) only [Option.bind_some, ↓reduceIte, ite_not, fa_lit, nI_add, nI_mulN, nI_an, nI_sub, irm_n, nI_eq, nI_leI, nI_ltI, v_pow, v_shr, v_bit, nI_cl, nI_m1e, h1, nI_b]
    congr 2
    rw [pc]
    cases m.testBit k <;> rfl
theorem q_bits {m : Nat} (hm : m < 2 ^ 31) (h : xH) : F_X12_bitsOf (nI m) h = some (nI (pcn m), h) := q_bits_l hm h 11 0 FU rfl (by decide)
theorem q_waysAll_l (X : Fx g) (W : WA a D) (ha : tA t 184 = a) : ∀ (d k fuel : Nat), k + d = vK a → d < fuel → F_X12_waysAll_b4 fuel 183 (nI (ends a k)) (nI k) (Em g t) = some (nI (ends a (vK a) / 2), Em g t) := by
  have h5 := wK2 W
  have hb : ∀ k, ends a k ≤ 11 * k := by
    intro k
    induction k with
    | zero => exact Nat.le_refl _
    | succ k ih =>
      have := pc_le (vWy a k) 11
      rw [ends]
      unfold pcn
      omega
  intro d
  induction d with
  | zero =>
    intro k fuel hk hf
    obtain ⟨f, rfl⟩ : ∃ f, fuel = f + 1 := ⟨fuel - 1, by omega⟩
    have hk : k = vK a := by omega
    subst hk
    have := hb (vK a)
    rw [F_X12_waysAll_b4]
    simp (disch := omega) only [x_rc183 X, x_i183_0 X, x_w183_0 X, x_r183_1 X, x_r183_2 X, x_r183_3 X, x_r183_4 X, x_i183_5 X, x_w183_5 X, x_i183_6 X, x_w183_6 X, x_i183_7 X, x_w183_7 X, x_i183_8 X, x_w183_8 X, x_i183_9 X, x_w183_9 X, x_i183_10 X, x_w183_10 X, x_i183_11 X, x_w183_11 X, x_i183_12 X, x_w183_12 X, x_i183_13 X, x_w183_13 X, x_i183_14 X, x_w183_14 X, x_i183_15 X, x_w183_15 X, x_r183_16 X, x_r183_17 X, x_r183_18 X, x_i183_19 X, x_w183_19 X, x_i183_20 X, x_w183_20 X, x_r183_21 X, x_r183_22 X, x_r183_23 X, x_r183_24 X, x_r183_25 X, x_i183_26 X, x_w183_26 X, x_r183_27 X, x_r183_28 X, x_r183_29 X, x_i183_30 X, x_w183_30 X, x_r183_31 X, x_r183_32 X, x_r183_33 X, x_r183_34 X, x_r183_35 X, x_r183_36 X, x_a184 X, x_s184 X, x_a185 X, x_s185 X, x_a186 X, x_s186 X, x_a187 X, x_s187 X, x_a188 X, x_s188 X, x_a189 X, x_s189 X, x_a190 X, x_s190 X, x_a191 X, x_s191 X, x_a192 X, x_s192 X, x_a193 X, x_s193 X, x_a194 X, x_s194 X, x_a195 X, x_s195 X, x_a196 X, x_s196 X, x_a197 X, x_s197 X, x_a198 X, x_s198 X, x_a199 X, x_s199 X, x_a200 X, x_s200 X, x_a201 X, x_s201 X, x_a202 X, x_s202 X, x_a203 X, x_s203 X, x_a204 X, x_s204 X, Option.bind_some, ↓reduceIte, ite_not, fa_lit, nI_add, nI_mulN, nI_an, nI_sub, irm_n, nI_eq, nI_leI, nI_ltI, v_pow, v_shr, v_bit, nI_cl, nI_m1e, ha, wK W, Nat.le_refl]
    rw [idv_2 _ (by omega)]
  | succ d ih =>
    intro k fuel hk hf
    obtain ⟨f, rfl⟩ : ∃ f, fuel = f + 1 := ⟨fuel - 1, by omega⟩
    have hk2 : ¬ vK a ≤ k := by omega
    have hk3 : k < vK a := by omega
    have h6 := p_31 (wWy2 W hk3) (by omega)
    rw [F_X12_waysAll_b4, ← ih (k + 1) f (by omega) (by omega)]
    simp (disch := omega) only [x_rc183 X, x_i183_0 X, x_w183_0 X, x_r183_1 X, x_r183_2 X, x_r183_3 X, x_r183_4 X, x_i183_5 X, x_w183_5 X, x_i183_6 X, x_w183_6 X, x_i183_7 X, x_w183_7 X, x_i183_8 X, x_w183_8 X, x_i183_9 X, x_w183_9 X, x_i183_10 X, x_w183_10 X, x_i183_11 X, x_w183_11 X, x_i183_12 X, x_w183_12 X, x_i183_13 X, x_w183_13 X, x_i183_14 X, x_w183_14 X, x_i183_15 X, x_w183_15 X, x_r183_16 X, x_r183_17 X, x_r183_18 X, x_i183_19 X, x_w183_19 X, x_i183_20 X, x_w183_20 X, x_r183_21 X, x_r183_22 X, x_r183_23 X, x_r183_24 X, x_r183_25 X, x_i183_26 X, x_w183_26 X, x_r183_27 X, x_r183_28 X, x_r183_29 X, x_i183_30 X, x_w183_30 X, x_r183_31 X, x_r183_32 X, x_r183_33 X, x_r183_34 X, x_r183_35 X, x_r183_36 X, x_a184 X, x_s184 X, x_a185 X, x_s185 X, x_a186 X, x_s186 X, x_a187 X, x_s187 X, x_a188 X, x_s188 X, x_a189 X, x_s189 X, x_a190 X, x_s190 X, x_a191 X, x_s191 X, x_a192 X, x_s192 X, x_a193 X, x_s193 X, x_a194 X, x_s194 X, x_a195 X, x_s195 X, x_a196 X, x_s196 X, x_a197 X, x_s197 X, x_a198 X, x_s198 X, x_a199 X, x_s199 X, x_a200 X, x_s200 X, x_a201 X, x_s201 X, x_a202 X, x_s202 X, x_a203 X, x_s203 X, x_a204 X, x_s204 X, Option.bind_some, ↓reduceIte, ite_not, fa_lit, nI_add, nI_mulN, nI_an, nI_sub, irm_n, nI_eq, nI_leI, nI_ltI, v_pow, v_shr, v_bit, nI_cl, nI_m1e, ha, wK W, hk2, wWy W hk3, q_bits]
    rfl
theorem q_waysAll (X : Fx g) (W : WA a D) (ha : tA t 184 = a) : F_X12_waysAll 183 (Em g t) = some (nI (ends a (vK a) / 2), Em g t) := by
  have h4 := wK2 W
  exact q_waysAll_l X W ha (vK a) 0 FU (by omega) (by show vK a < 1000000; omega)
end XR2
