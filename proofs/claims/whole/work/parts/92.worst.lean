/-! ===== knowing, begins ===== -/
theorem an_g (m f : Nat) : nI m &&& (nI f ^^^ -nI 1) = nI (an_ m f) := by
  apply bb_inj
  show BitVec.ofNat 32 m &&& (BitVec.ofNat 32 f ^^^ BitVec.allOnes 32) = BitVec.ofNat 32 (an_ m f)
  apply BitVec.eq_of_getLsbD_eq
  intro i hi
  rw [BitVec.getLsbD_and, BitVec.getLsbD_xor, BitVec.getLsbD_allOnes, BitVec.getLsbD_ofNat, BitVec.getLsbD_ofNat, BitVec.getLsbD_ofNat, an_bit]
  simp [hi]
theorem one_c : ∀ S, S < 2048 → S &&& (S - 1) = 0 → S = 0 ∨ ∃ k, k < 11 ∧ S = 2 ^ k := by decide +kernel
theorem two_c : ∀ S, S < 2048 → ¬ S &&& (S - 1) = 0 → ∃ j, j < 11 ∧ ∃ i, i < j ∧ S.testBit i = true ∧ S.testBit j = true := by decide +kernel
theorem spl_one {H : Nat → Nat} {k n : Nat} : spl H (2 ^ k) n = false := by
  apply decide_eq_false
  rintro ⟨h1, h2⟩
  cases q : (H n).testBit k
  · apply h1
    apply Nat.eq_of_testBit_eq
    intro i
    rw [Nat.testBit_and, Nat.testBit_two_pow]
    by_cases e : k = i
    · subst e
      simp [q]
    · simp [e]
  · apply h2
    apply Nat.eq_of_testBit_eq
    intro i
    rw [an_bit, Nat.testBit_two_pow]
    by_cases e : k = i
    · subst e
      simp [q]
    · simp [e]
theorem spl_0 {H : Nat → Nat} {n : Nat} : spl H 0 n = false := by
  apply decide_eq_false
  rintro ⟨h1, _⟩
  exact h1 (Nat.zero_and _)
theorem vmn_no {H V : Nat → Nat} {S : Nat} (h : ∀ n, spl H S n = false) : ∀ n, vmn H V S n = none
  | 0 => rfl
  | n + 1 => by
    rw [vmn, if_neg (by rw [h n]; decide), vmn_no h n]
theorem val_no {H : Nat → Nat} {N S : Nat} (h : ∀ n, spl H S n = false) : val H N S = 0 := by
  rw [val_eq, vmn_no h]
  rfl
def bgf (f : Nat → Bool) : Nat → Nat → Int32
  | 0, _ => -nI 1
  | d + 1, k => if f k then nI k else bgf f d (k + 1)
theorem bgf_c {f h : Nat → Bool} : ∀ (d k : Nat), (∀ j, k ≤ j → j < k + d → f j = h j) → bgf f d k = bgf h d k
  | 0, _, _ => rfl
  | d + 1, k, e => by
    rw [bgf, bgf, e k (by omega) (by omega), bgf_c d (k + 1) (fun j h1 h2 => e j (by omega) (by omega))]
section XWo
variable {g : Sk} {t : Tb} {a : Nat → Int32}
variable {D v x nx p : Nat} {t' t'' t1 t2 : Tb}
/-! the reference -/
theorem r_worstBy (X : Fx g) {H V : Nat → Nat} {S n : Nat} (hS : S < 2048) (hn : n < 10) (hH : H n < 2 ^ 31) (h9 : tA t 191 n = nI (H n)) (hV : ∀ T, T < S → tA t 192 T = nI (V T) ∧ V T ≤ 20) : F_X12_worstBy 183 (nI S) (nI n) (Em g t) = some (if spl H S n then nI (vst H V S n) else nI 268435456, Em g t) := by
  unfold F_X12_worstBy
  have hl : S &&& H n ≤ S := Nat.and_le_left
  have hl2 := an_leS S (H n)
  by_cases h1 : S &&& H n = 0
  · have hs : spl H S n = false := decide_eq_false (fun q => q.1 h1)
    rw [hs]
    have e : nI S &&& nI (H n) = nI 0 := by rw [fa_and, h1]
    simp (disch := omega) only [x_rc183 X, x_i183_0 X, x_w183_0 X, x_r183_1 X, x_r183_2 X, x_r183_3 X, x_r183_4 X, x_i183_5 X, x_w183_5 X, x_i183_6 X, x_w183_6 X, x_i183_7 X, x_w183_7 X, x_i183_8 X, x_w183_8 X, x_i183_9 X, x_w183_9 X, x_i183_10 X, x_w183_10 X, x_i183_11 X, x_w183_11 X, x_i183_12 X, x_w183_12 X, x_i183_13 X, x_w183_13 X, x_i183_14 X, x_w183_14 X, x_i183_15 X, x_w183_15 X, x_r183_16 X, x_r183_17 X, x_r183_18 X, x_i183_19 X, x_w183_19 X, x_i183_20 X, x_w183_20 X, x_r183_21 X, x_r183_22 X, x_r183_23 X, x_r183_24 X, x_r183_25 X, x_i183_26 X, x_w183_26 X, x_r183_27 X, x_r183_28 X, x_r183_29 X, x_i183_30 X, x_w183_30 X, x_r183_31 X, x_r183_32 X, x_r183_33 X, x_r183_34 X, x_r183_35 X, x_r183_36 X, x_a184 X, x_s184 X, x_a185 X, x_s185 X, x_a186 X, x_s186 X, x_a187 X, x_s187 X, x_a188 X, x_s188 X, x_a189 X, x_s189 X, x_a190 X, x_s190 X, x_a191 X, x_s191 X, x_a192 X, x_s192 X, x_a193 X, x_s193 X, x_a194 X, x_s194 X, x_a195 X, x_s195 X, x_a196 X, x_s196 X, x_a197 X, x_s197 X, x_a198 X, x_s198 X, x_a199 X, x_s199 X, x_a200 X, x_s200 X, x_a201 X, x_s201 X, x_a202 X, x_s202 X, x_a203 X, x_s203 X, x_a204 X, x_s204 X, Option.bind_some, ↓reduceIte, ite_not, fa_lit, h9, e, Bool.false_eq_true]
  · have e : nI S &&& nI (H n) = nI (S &&& H n) := fa_and _ _
    have n1 : ¬ nI (S &&& H n) = nI 0 := by rw [nI_eq (by omega) (by decide)]; exact h1
    have e2 := an_g S (H n)
    by_cases h2 : an_ S (H n) = 0
    · have hs : spl H S n = false := decide_eq_false (fun q => q.2 h2)
      rw [hs]
      rw [h2] at e2
      simp (disch := omega) only [x_rc183 X, x_i183_0 X, x_w183_0 X, x_r183_1 X, x_r183_2 X, x_r183_3 X, x_r183_4 X, x_i183_5 X, x_w183_5 X, x_i183_6 X, x_w183_6 X, x_i183_7 X, x_w183_7 X, x_i183_8 X, x_w183_8 X, x_i183_9 X, x_w183_9 X, x_i183_10 X, x_w183_10 X, x_i183_11 X, x_w183_11 X, x_i183_12 X, x_w183_12 X, x_i183_13 X, x_w183_13 X, x_i183_14 X, x_w183_14 X, x_i183_15 X, x_w183_15 X, x_r183_16 X, x_r183_17 X, x_r183_18 X, x_i183_19 X, x_w183_19 X, x_i183_20 X, x_w183_20 X, x_r183_21 X, x_r183_22 X, x_r183_23 X, x_r183_24 X, x_r183_25 X, x_i183_26 X, x_w183_26 X, x_r183_27 X, x_r183_28 X, x_r183_29 X, x_i183_30 X, x_w183_30 X, x_r183_31 X, x_r183_32 X, x_r183_33 X, x_r183_34 X, x_r183_35 X, x_r183_36 X, x_a184 X, x_s184 X, x_a185 X, x_s185 X, x_a186 X, x_s186 X, x_a187 X, x_s187 X, x_a188 X, x_s188 X, x_a189 X, x_s189 X, x_a190 X, x_s190 X, x_a191 X, x_s191 X, x_a192 X, x_s192 X, x_a193 X, x_s193 X, x_a194 X, x_s194 X, x_a195 X, x_s195 X, x_a196 X, x_s196 X, x_a197 X, x_s197 X, x_a198 X, x_s198 X, x_a199 X, x_s199 X, x_a200 X, x_s200 X, x_a201 X, x_s201 X, x_a202 X, x_s202 X, x_a203 X, x_s203 X, x_a204 X, x_s204 X, Option.bind_some, ↓reduceIte, ite_not, fa_lit, h9, e, n1, e2, Bool.false_eq_true]
    · have hs : spl H S n = true := decide_eq_true ⟨h1, h2⟩
      have n2 : ¬ nI (an_ S (H n)) = nI 0 := by rw [nI_eq (by omega) (by decide)]; exact h2
      have l1 := and_ltS h2
      have l2 := an_ltS h1
      have v1 := hV _ l1
      have v2 := hV _ l2
      have v11 := v1.2
      have v22 := v2.2
      rw [hs]
      unfold vst mxn
      by_cases c : V (S &&& H n) ≤ V (an_ S (H n))
      · simp (disch := omega) only [x_rc183 X, x_i183_0 X, x_w183_0 X, x_r183_1 X, x_r183_2 X, x_r183_3 X, x_r183_4 X, x_i183_5 X, x_w183_5 X, x_i183_6 X, x_w183_6 X, x_i183_7 X, x_w183_7 X, x_i183_8 X, x_w183_8 X, x_i183_9 X, x_w183_9 X, x_i183_10 X, x_w183_10 X, x_i183_11 X, x_w183_11 X, x_i183_12 X, x_w183_12 X, x_i183_13 X, x_w183_13 X, x_i183_14 X, x_w183_14 X, x_i183_15 X, x_w183_15 X, x_r183_16 X, x_r183_17 X, x_r183_18 X, x_i183_19 X, x_w183_19 X, x_i183_20 X, x_w183_20 X, x_r183_21 X, x_r183_22 X, x_r183_23 X, x_r183_24 X, x_r183_25 X, x_i183_26 X, x_w183_26 X, x_r183_27 X, x_r183_28 X, x_r183_29 X, x_i183_30 X, x_w183_30 X, x_r183_31 X, x_r183_32 X, x_r183_33 X, x_r183_34 X, x_r183_35 X, x_r183_36 X, x_a184 X, x_s184 X, x_a185 X, x_s185 X, x_a186 X, x_s186 X, x_a187 X, x_s187 X, x_a188 X, x_s188 X, x_a189 X, x_s189 X, x_a190 X, x_s190 X, x_a191 X, x_s191 X, x_a192 X, x_s192 X, x_a193 X, x_s193 X, x_a194 X, x_s194 X, x_a195 X, x_s195 X, x_a196 X, x_s196 X, x_a197 X, x_s197 X, x_a198 X, x_s198 X, x_a199 X, x_s199 X, x_a200 X, x_s200 X, x_a201 X, x_s201 X, x_a202 X, x_s202 X, x_a203 X, x_s203 X, x_a204 X, x_s204 X, Option.bind_some, ↓reduceIte, ite_not, fa_lit, h9, e, n1, e2, n2, v1.1, v2.1, nI_leI, c, nI_add]
      · simp (disch := omega) only [x_rc183 X, x_i183_0 X, x_w183_0 X, x_r183_1 X, x_r183_2 X, x_r183_3 X, x_r183_4 X, x_i183_5 X, x_w183_5 X, x_i183_6 X, x_w183_6 X, x_i183_7 X, x_w183_7 X, x_i183_8 X, x_w183_8 X, x_i183_9 X, x_w183_9 X, x_i183_10 X, x_w183_10 X, x_i183_11 X, x_w183_11 X, x_i183_12 X, x_w183_12 X, x_i183_13 X, x_w183_13 X, x_i183_14 X, x_w183_14 X, x_i183_15 X, x_w183_15 X, x_r183_16 X, x_r183_17 X, x_r183_18 X, x_i183_19 X, x_w183_19 X, x_i183_20 X, x_w183_20 X, x_r183_21 X, x_r183_22 X, x_r183_23 X, x_r183_24 X, x_r183_25 X, x_i183_26 X, x_w183_26 X, x_r183_27 X, x_r183_28 X, x_r183_29 X, x_i183_30 X, x_w183_30 X, x_r183_31 X, x_r183_32 X, x_r183_33 X, x_r183_34 X, x_r183_35 X, x_r183_36 X, x_a184 X, x_s184 X, x_a185 X, x_s185 X, x_a186 X, x_s186 X, x_a187 X, x_s187 X, x_a188 X, x_s188 X, x_a189 X, x_s189 X, x_a190 X, x_s190 X, x_a191 X, x_s191 X, x_a192 X, x_s192 X, x_a193 X, x_s193 X, x_a194 X, x_s194 X, x_a195 X, x_s195 X, x_a196 X, x_s196 X, x_a197 X, x_s197 X, x_a198 X, x_s198 X, x_a199 X, x_s199 X, x_a200 X, x_s200 X, x_a201 X, x_s201 X, x_a202 X, x_s202 X, x_a203 X, x_s203 X, x_a204 X, x_s204 X, Option.bind_some, ↓reduceIte, ite_not, fa_lit, h9, e, n1, e2, n2, v1.1, v2.1, nI_leI, c, nI_add]
theorem vmn_b {H V : Nat → Nat} {S n m : Nat} (hV : ∀ T, T < S → V T ≤ 20) (h : vmn H V S n = some m) : 1 ≤ m ∧ m ≤ 21 := by
  obtain ⟨j, _, hs, hm⟩ := (vmn_m h).1
  have q := spl_t hs
  have a1 := hV _ (and_ltS q.2)
  have a2 := hV _ (an_ltS q.1)
  rw [hm]
  unfold vst mxn
  split <;> omega
theorem r_worst_i (X : Fx g) (W : WA a D) {H V : Nat → Nat} {S : Nat} (hS : S < 2048) (hH : ∀ n, n < vN a → H n < 2 ^ 31) (ha : tA t 184 = a) (h9 : ∀ n, n < vN a → tA t 191 n = nI (H n)) (hV : ∀ T, T < S → tA t 192 T = nI (V T) ∧ V T ≤ 20) (kk : Nat → Int32 → xH → Option (Int32 × xH)) : ∀ (d n fuel : Nat), n + d = vN a → d < fuel → F_X12_laysWorst_b22 kk fuel 183 (nI S) (nI ((vmn H V S n).getD 268435456)) (nI n) (Em g t) = kk 183 (nI (S + 1)) (Em g (wa t 192 S (nI ((vmn H V S (vN a)).getD 0)))) := by
  have hN := wN3 W
  have hV2 : ∀ T, T < S → V T ≤ 20 := fun T hT => (hV T hT).2
  intro d
  induction d with
  | zero =>
    intro n fuel hn hf
    obtain ⟨f, rfl⟩ : ∃ f, fuel = f + 1 := ⟨fuel - 1, by omega⟩
    have hn : n = vN a := by omega
    subst hn
    rw [F_X12_laysWorst_b22]
    cases e : vmn H V S (vN a) with
    | none =>
      simp (disch := omega) only [x_rc183 X, x_i183_0 X, x_w183_0 X, x_r183_1 X, x_r183_2 X, x_r183_3 X, x_r183_4 X, x_i183_5 X, x_w183_5 X, x_i183_6 X, x_w183_6 X, x_i183_7 X, x_w183_7 X, x_i183_8 X, x_w183_8 X, x_i183_9 X, x_w183_9 X, x_i183_10 X, x_w183_10 X, x_i183_11 X, x_w183_11 X, x_i183_12 X, x_w183_12 X, x_i183_13 X, x_w183_13 X, x_i183_14 X, x_w183_14 X, x_i183_15 X, x_w183_15 X, x_r183_16 X, x_r183_17 X, x_r183_18 X, x_i183_19 X, x_w183_19 X, x_i183_20 X, x_w183_20 X, x_r183_21 X, x_r183_22 X, x_r183_23 X, x_r183_24 X, x_r183_25 X, x_i183_26 X, x_w183_26 X, x_r183_27 X, x_r183_28 X, x_r183_29 X, x_i183_30 X, x_w183_30 X, x_r183_31 X, x_r183_32 X, x_r183_33 X, x_r183_34 X, x_r183_35 X, x_r183_36 X, x_a184 X, x_s184 X, x_a185 X, x_s185 X, x_a186 X, x_s186 X, x_a187 X, x_s187 X, x_a188 X, x_s188 X, x_a189 X, x_s189 X, x_a190 X, x_s190 X, x_a191 X, x_s191 X, x_a192 X, x_s192 X, x_a193 X, x_s193 X, x_a194 X, x_s194 X, x_a195 X, x_s195 X, x_a196 X, x_s196 X, x_a197 X, x_s197 X, x_a198 X, x_s198 X, x_a199 X, x_s199 X, x_a200 X, x_s200 X, x_a201 X, x_s201 X, x_a202 X, x_s202 X, x_a203 X, x_s203 X, x_a204 X, x_s204 X, Option.bind_some, ↓reduceIte, ite_not, fa_lit, nI_add, nI_mulN, nI_an, nI_sub, irm_n, nI_eq, nI_leI, nI_ltI, v_pow, v_shr, v_bit, nI_cl, nI_m1e, ha, wN W, Nat.le_refl, Option.getD_none]
    | some m =>
      have hb := vmn_b hV2 e
      have h1 : ¬ m = 268435456 := by omega
      simp (disch := omega) only [x_rc183 X, x_i183_0 X, x_w183_0 X, x_r183_1 X, x_r183_2 X, x_r183_3 X, x_r183_4 X, x_i183_5 X, x_w183_5 X, x_i183_6 X, x_w183_6 X, x_i183_7 X, x_w183_7 X, x_i183_8 X, x_w183_8 X, x_i183_9 X, x_w183_9 X, x_i183_10 X, x_w183_10 X, x_i183_11 X, x_w183_11 X, x_i183_12 X, x_w183_12 X, x_i183_13 X, x_w183_13 X, x_i183_14 X, x_w183_14 X, x_i183_15 X, x_w183_15 X, x_r183_16 X, x_r183_17 X, x_r183_18 X, x_i183_19 X, x_w183_19 X, x_i183_20 X, x_w183_20 X, x_r183_21 X, x_r183_22 X, x_r183_23 X, x_r183_24 X, x_r183_25 X, x_i183_26 X, x_w183_26 X, x_r183_27 X, x_r183_28 X, x_r183_29 X, x_i183_30 X, x_w183_30 X, x_r183_31 X, x_r183_32 X, x_r183_33 X, x_r183_34 X, x_r183_35 X, x_r183_36 X, x_a184 X, x_s184 X, x_a185 X, x_s185 X, x_a186 X, x_s186 X, x_a187 X, x_s187 X, x_a188 X, x_s188 X, x_a189 X, x_s189 X, x_a190 X, x_s190 X, x_a191 X, x_s191 X, x_a192 X, x_s192 X, x_a193 X, x_s193 X, x_a194 X, x_s194 X, x_a195 X, x_s195 X, x_a196 X, x_s196 X, x_a197 X, x_s197 X, x_a198 X, x_s198 X, x_a199 X, x_s199 X, x_a200 X, x_s200 X, x_a201 X, x_s201 X, x_a202 X, x_s202 X, x_a203 X, x_s203 X, x_a204 X, x_s204 X, Option.bind_some, ↓reduceIte, ite_not, fa_lit, nI_add, nI_mulN, nI_an, nI_sub, irm_n, nI_eq, nI_leI, nI_ltI, v_pow, v_shr, v_bit, nI_cl, nI_m1e, ha, wN W, Nat.le_refl, Option.getD_some, h1]
  | succ d ih =>
    intro n fuel hn hf
    obtain ⟨f, rfl⟩ : ∃ f, fuel = f + 1 := ⟨fuel - 1, by omega⟩
    have h1 : ¬ vN a ≤ n := by omega
    have hw := r_worstBy (t := t) (V := V) X hS (show n < 10 by omega) (hH n (by omega)) (h9 n (by omega)) hV
    have ha1 : aI (Em g t) 184 1 = some (tA t 184 1) := x_a184 X (k := 1) (by decide)
    have c1 : ¬ nI (vN a) ≤ nI n := by rw [nI_leI (by omega) (by omega)]; exact h1
    have hn1 : nI n + 1 = nI (n + 1) := nI_add n 1
    rw [F_X12_laysWorst_b22, ← ih (n + 1) f (by omega) (by omega), vmn]
    rw [x_r183_1 X, Option.bind_some, ha1, Option.bind_some, ha, wN W, if_neg c1, x_rc183 X, Option.bind_some, hw, Option.bind_some, hn1]
    by_cases q : spl H S n = true
    · rw [if_pos q, if_pos q, Option.getD_some]
      have q2 := spl_t q
      have a1 := hV2 _ (and_ltS q2.2)
      have a2 := hV2 _ (an_ltS q2.1)
      have hvl : vst H V S n ≤ 21 := by
        unfold vst mxn
        split <;> omega
      rw [if_pos q] at hw
      cases e : vmn H V S n with
      | none =>
        have c : ¬ nI 268435456 ≤ nI (vst H V S n) := by rw [nI_leI (by decide) (by omega)]; omega
        rw [Option.getD_none, if_neg c, x_rc183 X, Option.bind_some, hw, Option.bind_some]
        rfl
      | some m =>
        have hb := vmn_b hV2 e
        rw [Option.getD_some]
        unfold omn
        by_cases c : m ≤ vst H V S n
        · have c' : nI m ≤ nI (vst H V S n) := by rw [nI_leI (by omega) (by omega)]; exact c
          rw [if_pos c']
          simp only [c, if_true]
        · have c' : ¬ nI m ≤ nI (vst H V S n) := by rw [nI_leI (by omega) (by omega)]; exact c
          rw [if_neg c', x_rc183 X, Option.bind_some, hw, Option.bind_some]
          simp only [c, if_false]
    · rw [if_neg q, if_neg q]
      have c : nI ((vmn H V S n).getD 268435456) ≤ nI 268435456 := by
        cases e : vmn H V S n with
        | none => exact (nI_leI (by decide) (by decide)).mpr (Nat.le_refl _)
        | some m =>
          have hb := vmn_b hV2 e
          rw [Option.getD_some, nI_leI (by omega) (by decide)]
          omega
      rw [if_pos c]
theorem r_every (X : Fx g) (W : WA a D) (ha : tA t 184 = a) : F_X12_everyBlank 183 (Em g t) = some (nI (2 ^ (vN a + 1) - 1), Em g t) := by
  have hN := wN3 W
  have hp := Nat.two_pow_pos (vN a + 1)
  unfold F_X12_everyBlank
  simp (disch := omega) only [x_rc183 X, x_i183_0 X, x_w183_0 X, x_r183_1 X, x_r183_2 X, x_r183_3 X, x_r183_4 X, x_i183_5 X, x_w183_5 X, x_i183_6 X, x_w183_6 X, x_i183_7 X, x_w183_7 X, x_i183_8 X, x_w183_8 X, x_i183_9 X, x_w183_9 X, x_i183_10 X, x_w183_10 X, x_i183_11 X, x_w183_11 X, x_i183_12 X, x_w183_12 X, x_i183_13 X, x_w183_13 X, x_i183_14 X, x_w183_14 X, x_i183_15 X, x_w183_15 X, x_r183_16 X, x_r183_17 X, x_r183_18 X, x_i183_19 X, x_w183_19 X, x_i183_20 X, x_w183_20 X, x_r183_21 X, x_r183_22 X, x_r183_23 X, x_r183_24 X, x_r183_25 X, x_i183_26 X, x_w183_26 X, x_r183_27 X, x_r183_28 X, x_r183_29 X, x_i183_30 X, x_w183_30 X, x_r183_31 X, x_r183_32 X, x_r183_33 X, x_r183_34 X, x_r183_35 X, x_r183_36 X, x_a184 X, x_s184 X, x_a185 X, x_s185 X, x_a186 X, x_s186 X, x_a187 X, x_s187 X, x_a188 X, x_s188 X, x_a189 X, x_s189 X, x_a190 X, x_s190 X, x_a191 X, x_s191 X, x_a192 X, x_s192 X, x_a193 X, x_s193 X, x_a194 X, x_s194 X, x_a195 X, x_s195 X, x_a196 X, x_s196 X, x_a197 X, x_s197 X, x_a198 X, x_s198 X, x_a199 X, x_s199 X, x_a200 X, x_s200 X, x_a201 X, x_s201 X, x_a202 X, x_s202 X, x_a203 X, x_s203 X, x_a204 X, x_s204 X, Option.bind_some, ↓reduceIte, ite_not, fa_lit, nI_add, nI_mulN, nI_an, nI_sub, irm_n, nI_eq, nI_leI, nI_ltI, v_pow, v_shr, v_bit, nI_cl, nI_m1e, ha, wN W]
theorem p2048 {n : Nat} (h : n ≤ 11) : 2 ^ n ≤ 2048 := Nat.pow_le_pow_right (n := 2) (by decide) h
theorem r_worst_l (X : Fx g) (W : WA a D) {H : Nat → Nat} (hH : ∀ n, n < vN a → H n < 2 ^ 31) : ∀ (d S fuel : Nat) (t : Tb), S + d = 2 ^ (vN a + 1) → d < fuel → tA t 184 = a → (∀ n, n < vN a → tA t 191 n = nI (H n)) → (∀ T, T < S → tA t 192 T = nI (val H (vN a) T)) → ∃ t', F_X12_laysWorst_b7 fuel 183 (nI S) (Em g t) = some (nI (val H (vN a) (2 ^ (vN a + 1) - 1)), Em g t') ∧ Ax 192 t t' ∧ (∀ T, T < 2 ^ (vN a + 1) → tA t' 192 T = nI (val H (vN a) T)) := by
  have hN := wN3 W
  have hp := Nat.two_pow_pos (vN a + 1)
  have h2k := p2048 (n := vN a + 1) (by omega)
  intro d
  induction d with
  | zero =>
    intro S fuel t hS hf ha h9 hV
    obtain ⟨f, rfl⟩ : ∃ f, fuel = f + 1 := ⟨fuel - 1, by omega⟩
    have hS : S = 2 ^ (vN a + 1) := by omega
    subst hS
    refine ⟨t, ?_, Ax_r, hV⟩
    have c : nI (2 ^ (vN a + 1) - 1) < nI (2 ^ (vN a + 1)) := by rw [nI_ltI (by omega) (by omega)]; omega
    rw [F_X12_laysWorst_b7, x_rc183 X, Option.bind_some, r_every X W ha, Option.bind_some, if_pos c, x_r183_22 X, Option.bind_some, x_rc183 X, Option.bind_some, r_every X W ha, Option.bind_some, x_a192 X (by omega), Option.bind_some, hV _ (by omega)]
  | succ d ih =>
    intro S fuel t hS hf ha h9 hV
    obtain ⟨f, rfl⟩ : ∃ f, fuel = f + 1 := ⟨fuel - 1, by omega⟩
    have c : ¬ nI (2 ^ (vN a + 1) - 1) < nI S := by rw [nI_ltI (by omega) (by omega)]; omega
    have hfu : vN a < FU := by show vN a < 1000000; omega
    have hi := r_worst_i (t := t) (V := val H (vN a)) (S := S) X W (by omega) hH ha h9 (fun T hT => ⟨hV T hT, by have := val_N H (vN a) T; omega⟩) (F_X12_laysWorst_b7 f) (vN a) 0 FU (by omega) hfu
    rw [← val_eq] at hi
    obtain ⟨t2, e2, j2, k2⟩ := ih (S + 1) f (wa t 192 S (nI (val H (vN a) S))) (by omega) (by omega) (by rw [tA_an (by decide), ha]) (fun n hn => by rw [tA_an (by decide)]; exact h9 n hn) (fun T hT => by
      rw [tA_as]
      by_cases e : T = S
      · rw [e, upd_s]
      · rw [upd_n e]; exact hV T (by omega))
    refine ⟨t2, ?_, Ax_t (Ax_wa Ax_r) j2, k2⟩
    rw [F_X12_laysWorst_b7, x_rc183 X, Option.bind_some, r_every X W ha, Option.bind_some, if_neg c]
    exact hi.trans e2
theorem hbl_31 (W : WA a D) {n : Nat} : hbl a p n < 2 ^ 31 := mk_31 (by have := wN3 W; omega)
theorem r_worst (X : Fx g) (W : WA a D) (hp : p < vP a) (ha : tA t 184 = a) : ∃ t', F_X12_laysWorst 183 (nI p) (Em g t) = some (nI (val (hbl a p) (vN a) (2 ^ (vN a + 1) - 1)), Em g t') ∧ Sm g t t' ∧ (∀ n, n < vN a → tA t' 191 n = nI (hbl a p n)) ∧ (∀ T, T < 2 ^ (vN a + 1) → tA t' 192 T = nI (val (hbl a p) (vN a) T)) := by
  have hN := wN3 W
  have h2k := p2048 (n := vN a + 1) (by omega)
  obtain ⟨t1, e1, s1, k1⟩ := r_lays X W hp ha
  have hfu : 2 ^ (vN a + 1) < FU := by show 2 ^ (vN a + 1) < 1000000; omega
  obtain ⟨t2, e2, j2, k2⟩ := r_worst_l X W (H := hbl a p) (fun n _ => hbl_31 W) (2 ^ (vN a + 1)) 0 FU t1 (by omega) hfu (by rw [Sm_a X s1, ha]) k1 (fun T hT => absurd hT (by omega))
  refine ⟨t2, ?_, Sm_t s1 (Ax_m (sc_f rfl) j2), fun n hn => by rw [j2.2.1 191 (by decide)]; exact k1 n hn, k2⟩
  unfold F_X12_laysWorst
  rw [x_rc183 X, Option.bind_some, e1, Option.bind_some]
  exact e2
theorem r_begins_l (X : Fx g) (W : WA a D) (ha : tA t 184 = a) {H V : Nat → Nat} {m : Nat} (hm : m ≤ 20) (hH : ∀ n, n < vN a → H n < 2 ^ 31) (h9 : ∀ n, n < vN a → tA t 191 n = nI (H n)) (hV : ∀ T, T < 2 ^ (vN a + 1) → tA t 192 T = nI (V T) ∧ V T ≤ 20) : ∀ (d n fuel : Nat), n + d = vN a → d < fuel → F_X12_begins_b25 fuel 183 (nI m) (nI n) (Em g t) = some (if m = 0 then -nI 1 else bgf (fun n => spl H (2 ^ (vN a + 1) - 1) n && decide (vst H V (2 ^ (vN a + 1) - 1) n = m)) d n, Em g t) := by
  have hN := wN3 W
  have h2k := p2048 (n := vN a + 1) (by omega)
  have hp := Nat.two_pow_pos (vN a + 1)
  intro d
  induction d with
  | zero =>
    intro n fuel hn hf
    obtain ⟨f, rfl⟩ : ∃ f, fuel = f + 1 := ⟨fuel - 1, by omega⟩
    have hn : n = vN a := by omega
    subst hn
    rw [F_X12_begins_b25]
    simp (disch := omega) only [x_rc183 X, x_i183_0 X, x_w183_0 X, x_r183_1 X, x_r183_2 X, x_r183_3 X, x_r183_4 X, x_i183_5 X, x_w183_5 X, x_i183_6 X, x_w183_6 X, x_i183_7 X, x_w183_7 X, x_i183_8 X, x_w183_8 X, x_i183_9 X, x_w183_9 X, x_i183_10 X, x_w183_10 X, x_i183_11 X, x_w183_11 X, x_i183_12 X, x_w183_12 X, x_i183_13 X, x_w183_13 X, x_i183_14 X, x_w183_14 X, x_i183_15 X, x_w183_15 X, x_r183_16 X, x_r183_17 X, x_r183_18 X, x_i183_19 X, x_w183_19 X, x_i183_20 X, x_w183_20 X, x_r183_21 X, x_r183_22 X, x_r183_23 X, x_r183_24 X, x_r183_25 X, x_i183_26 X, x_w183_26 X, x_r183_27 X, x_r183_28 X, x_r183_29 X, x_i183_30 X, x_w183_30 X, x_r183_31 X, x_r183_32 X, x_r183_33 X, x_r183_34 X, x_r183_35 X, x_r183_36 X, x_a184 X, x_s184 X, x_a185 X, x_s185 X, x_a186 X, x_s186 X, x_a187 X, x_s187 X, x_a188 X, x_s188 X, x_a189 X, x_s189 X, x_a190 X, x_s190 X, x_a191 X, x_s191 X, x_a192 X, x_s192 X, x_a193 X, x_s193 X, x_a194 X, x_s194 X, x_a195 X, x_s195 X, x_a196 X, x_s196 X, x_a197 X, x_s197 X, x_a198 X, x_s198 X, x_a199 X, x_s199 X, x_a200 X, x_s200 X, x_a201 X, x_s201 X, x_a202 X, x_s202 X, x_a203 X, x_s203 X, x_a204 X, x_s204 X, Option.bind_some, ↓reduceIte, ite_not, fa_lit, nI_add, nI_mulN, nI_an, nI_sub, irm_n, nI_eq, nI_leI, nI_ltI, v_pow, v_shr, v_bit, nI_cl, nI_m1e, ha, wN W, Nat.le_refl]
    split <;> rfl
  | succ d ih =>
    intro n fuel hn hf
    obtain ⟨f, rfl⟩ : ∃ f, fuel = f + 1 := ⟨fuel - 1, by omega⟩
    have c1 : ¬ nI (vN a) ≤ nI n := by rw [nI_leI (by omega) (by omega)]; omega
    have ha1 : aI (Em g t) 184 1 = some (tA t 184 1) := x_a184 X (k := 1) (by decide)
    have hn1 : nI n + 1 = nI (n + 1) := nI_add n 1
    have hw := r_worstBy (t := t) (V := V) (S := 2 ^ (vN a + 1) - 1) X (by omega) (show n < 10 by omega) (hH n (by omega)) (h9 n (by omega)) (fun T hT => hV T (by omega))
    rw [F_X12_begins_b25, x_r183_1 X, Option.bind_some, ha1, Option.bind_some, ha, wN W, if_neg c1]
    by_cases hz : m = 0
    · subst hz
      rw [if_pos (show nI 0 ≤ (0 : Int32) by decide), if_pos rfl]
      rfl
    · have c2 : ¬ nI m ≤ (0 : Int32) := show ¬ nI m ≤ nI 0 by rw [nI_leI (by omega) (by decide)]; omega
      have ih2 := ih (n + 1) f (by omega) (by omega)
      rw [if_neg hz] at ih2
      rw [if_neg c2, if_neg hz, x_rc183 X, Option.bind_some, r_every X W ha, Option.bind_some, x_rc183 X, Option.bind_some, hw, Option.bind_some, hn1, ih2, bgf]
      by_cases q : spl H (2 ^ (vN a + 1) - 1) n = true
      · have q2 := spl_t q
        have l1 := and_ltS q2.2
        have l2 := an_ltS q2.1
        have a1 := (hV (2 ^ (vN a + 1) - 1 &&& H n) (by omega)).2
        have a2 := (hV (an_ (2 ^ (vN a + 1) - 1) (H n)) (by omega)).2
        have hvl : vst H V (2 ^ (vN a + 1) - 1) n ≤ 21 := by
          unfold vst mxn
          split <;> omega
        rw [if_pos q, q]
        by_cases e : vst H V (2 ^ (vN a + 1) - 1) n = m
        · rw [if_neg (fun z => z (by rw [e])), if_pos (by simp [e])]
        · rw [if_pos (show ¬ nI (vst H V (2 ^ (vN a + 1) - 1) n) = nI m by rw [nI_eq (by omega) (by omega)]; exact e), if_neg (by simp [e])]
      · rw [if_neg q, if_pos (show ¬ nI 268435456 = nI m by rw [nI_eq (by decide) (by omega)]; omega), if_neg (by simp [q])]
end XWo
