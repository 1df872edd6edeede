/-! ===== the class's plain answers ===== -/
theorem mk_and (f h : Nat → Bool) (n : Nat) : mk f n &&& mk h n = mk (fun k => f k && h k) n := by
  apply mk_ext (n := n) (Nat.lt_of_le_of_lt Nat.and_le_left (mk_lt f n)) (mk_lt _ n)
  intro k hk
  rw [Nat.testBit_and, mk_bit, mk_bit, mk_bit]
  simp [hk]
theorem mk_all : ∀ n, mk (fun _ => true) n = 2 ^ n - 1
  | 0 => rfl
  | n + 1 => by
    have h := Nat.two_pow_pos n
    rw [mk, mk_all n, Nat.pow_succ]
    simp
    omega
theorem mk_zero {f : Nat → Bool} {n : Nat} : mk f n = 0 ↔ ∀ i, i < n → f i = false := by
  constructor
  · intro h i hi
    have := mk_bit f i n
    rw [h] at this
    simp [hi] at this
    exact this
  · intro h
    apply mk_ext (n := n) (mk_lt f n) (Nat.two_pow_pos n)
    intro k hk
    rw [mk_bit]
    simp [h k hk]
def hall (a : Nat → Int32) (s k n : Nat) : Bool := decide (∀ p, p < k → s.testBit p = true → hnow a p n = true)
def sto (a : Nat → Int32) (u hs : Nat) : Nat := mk (fun i => !hs.testBit (vNt a u i)) (vLg a u)
section XC4
variable {g : Sk} {t : Tb} {a : Nat → Int32}
variable {D v w m x : Nat} {t' : Tb}
theorem k_peopleAt_l (X : Fx g) (C : CP g t v a D) {q : Nat} (hq : q ≤ 20) : ∀ (d k fuel : Nat), k + d = vP a → d < fuel → F_X6_peopleAt_b5 fuel 95 (nI q) (nI (vP a)) (nI (mk (fun p => decide (vAt a p = q)) k)) (nI k) (Em g t) = some (nI (atp a q), Em g t) := by
  have W := C.1
  have h4 := wP2 W
  have h5 := wK2 W
  intro d
  induction d with
  | zero =>
    intro k fuel hk hf
    obtain ⟨f, rfl⟩ : ∃ f, fuel = f + 1 := ⟨fuel - 1, by omega⟩
    have hk : k = vP a := by omega
    subst hk
    rw [F_X6_peopleAt_b5]
    simp (disch := omega) only [Option.bind_some, ↓reduceIte, ite_not, fa_lit, nI_add, nI_mulN, nI_an, nI_sub, irm_n, nI_eq, nI_leI, nI_ltI, v_pow, v_shr, v_bit, nI_cl, nI_m1e, Nat.le_refl]
    rfl
  | succ d ih =>
    intro k fuel hk hf
    obtain ⟨f, rfl⟩ : ∃ f, fuel = f + 1 := ⟨fuel - 1, by omega⟩
    have hk2 : ¬ vP a ≤ k := by omega
    have h6 := wAt2 W (show k < vP a by omega)
    rw [F_X6_peopleAt_b5, ← ih (k + 1) f (by omega) (by omega)]
    by_cases hh : vAt a k = q
    · simp (disch := omega) only [x_rc95 X, x_r95_0 X, x_r95_1 X, x_r95_2 X, x_i95_3 X, x_w95_3 X, x_i95_4 X, x_w95_4 X, x_a96 X, x_s96 X, x_a97 X, x_s97 X, x_a98 X, x_s98 X, Option.bind_some, ↓reduceIte, ite_not, fa_lit, nI_add, nI_mulN, nI_an, nI_sub, irm_n, nI_eq, nI_leI, nI_ltI, v_pow, v_shr, v_bit, nI_cl, nI_m1e, hk2, cAt_ C (show k < vP a by omega), hh]
      rw [← s_or1 (f := fun p => decide (vAt a p = q)) (by simp [hh])]
    · simp (disch := omega) only [x_rc95 X, x_r95_0 X, x_r95_1 X, x_r95_2 X, x_i95_3 X, x_w95_3 X, x_i95_4 X, x_w95_4 X, x_a96 X, x_s96 X, x_a97 X, x_s97 X, x_a98 X, x_s98 X, Option.bind_some, ↓reduceIte, ite_not, fa_lit, nI_add, nI_mulN, nI_an, nI_sub, irm_n, nI_eq, nI_leI, nI_ltI, v_pow, v_shr, v_bit, nI_cl, nI_m1e, hk2, cAt_ C (show k < vP a by omega), hh]
      rw [mk_no (fun p => decide (vAt a p = q)) k (by simp [hh])]
theorem k_peopleAt (X : Fx g) (C : CP g t v a D) {q : Nat} (hq : q ≤ 20) : F_X6_peopleAt 95 (nI q) (nI (vP a)) (Em g t) = some (nI (atp a q), Em g t) := by
  have h4 := wP2 C.1
  exact k_peopleAt_l X C hq (vP a) 0 FU (by omega) (by show vP a < 1000000; omega)
theorem k_tuneNote (V : VaS g v) (C : CP g t v a D) {u i : Nat} (hu : u < vT a) (hi : i < vLg a u) : F_X10_tuneNote v (nI u) (nI i) (Em g t) = some (nI (vNt a u i), Em g t) := by
  have h2 := wT2 C.1
  have h3 := wLg2 C.1 hu
  unfold F_X10_tuneNote
  simp (disch := omega) only [v_rc V, v_i0 V, v_i1 V, v_i2 V, v_i3 V, v_i4 V, v_r5 V, v_r6 V, v_r7 V, v_r8 V, v_r9 V, v_r10 V, v_r11 V, v_a1 V, v_a2 V, v_a3 V, v_a4 V, v_a5 V, v_a6 V, Option.bind_some, ↓reduceIte, ite_not, fa_lit, nI_add, nI_mulN, nI_an, nI_sub, irm_n, nI_eq, nI_leI, nI_ltI, v_pow, v_shr, v_bit, nI_cl, nI_m1e, vNt_ C hu hi]
theorem k_stepped_l (V : VaS g v) (C : CP g t v a D) {u hs : Nat} (hu : u < vT a) (hh : hs < 2 ^ 31) : ∀ (d k fuel : Nat), k + d = vLg a u → d < fuel → F_X10_steppedOver_b5 fuel v (nI u) (nI hs) (nI (mk (fun i => !hs.testBit (vNt a u i)) k)) (nI k) (Em g t) = some (nI (sto a u hs), Em g t) := by
  have W := C.1
  have h4 := wN3 W
  have h5 := wLg2 W hu
  have h6 := wT2 W
  intro d
  induction d with
  | zero =>
    intro k fuel hk hf
    obtain ⟨f, rfl⟩ : ∃ f, fuel = f + 1 := ⟨fuel - 1, by omega⟩
    have hk : k = vLg a u := by omega
    subst hk
    rw [F_X10_steppedOver_b5]
    simp (disch := omega) only [v_rc V, v_i0 V, v_i1 V, v_i2 V, v_i3 V, v_i4 V, v_r5 V, v_r6 V, v_r7 V, v_r8 V, v_r9 V, v_r10 V, v_r11 V, v_a1 V, v_a2 V, v_a3 V, v_a4 V, v_a5 V, v_a6 V, Option.bind_some, ↓reduceIte, ite_not, fa_lit, nI_add, nI_mulN, nI_an, nI_sub, irm_n, nI_eq, nI_leI, nI_ltI, v_pow, v_shr, v_bit, nI_cl, nI_m1e, vLg_ C hu, Nat.le_refl]
    rfl
  | succ d ih =>
    intro k fuel hk hf
    obtain ⟨f, rfl⟩ : ∃ f, fuel = f + 1 := ⟨fuel - 1, by omega⟩
    have hk2 : ¬ vLg a u ≤ k := by omega
    have hk3 : k < vLg a u := by omega
    have h7 := wNt2 W hu hk3
    rw [F_X10_steppedOver_b5, ← ih (k + 1) f (by omega) (by omega)]
    cases hq : hs.testBit (vNt a u k)
    · simp (disch := omega) only [v_rc V, v_i0 V, v_i1 V, v_i2 V, v_i3 V, v_i4 V, v_r5 V, v_r6 V, v_r7 V, v_r8 V, v_r9 V, v_r10 V, v_r11 V, v_a1 V, v_a2 V, v_a3 V, v_a4 V, v_a5 V, v_a6 V, Option.bind_some, ↓reduceIte, ite_not, fa_lit, nI_add, nI_mulN, nI_an, nI_sub, irm_n, nI_eq, nI_leI, nI_ltI, v_pow, v_shr, v_bit, nI_cl, nI_m1e, vLg_ C hu, hk2, k_tuneNote V C hu hk3, hq, bI_z]
      rw [← s_or1 (f := fun i => !hs.testBit (vNt a u i)) (by simp [hq])]
    · simp (disch := omega) only [v_rc V, v_i0 V, v_i1 V, v_i2 V, v_i3 V, v_i4 V, v_r5 V, v_r6 V, v_r7 V, v_r8 V, v_r9 V, v_r10 V, v_r11 V, v_a1 V, v_a2 V, v_a3 V, v_a4 V, v_a5 V, v_a6 V, Option.bind_some, ↓reduceIte, ite_not, fa_lit, nI_add, nI_mulN, nI_an, nI_sub, irm_n, nI_eq, nI_leI, nI_ltI, v_pow, v_shr, v_bit, nI_cl, nI_m1e, vLg_ C hu, hk2, k_tuneNote V C hu hk3, hq, bI_z, Bool.true_eq_false]
      rw [mk_no (fun i => !hs.testBit (vNt a u i)) k (by simp [hq])]
theorem k_stepped (V : VaS g v) (C : CP g t v a D) {u hs : Nat} (hu : u < vT a) (hh : hs < 2 ^ 31) : F_X10_steppedOver v (nI u) (nI hs) (Em g t) = some (nI (sto a u hs), Em g t) := by
  have h4 := wLg2 C.1 hu
  exact k_stepped_l V C hu hh (vLg a u) 0 FU (by omega) (by show vLg a u < 1000000; omega)
theorem sto_heard (W : WA a D) {u p : Nat} (hu : u < vT a) : sto a u (heard a p) = stepo a u p := by
  unfold sto stepo
  apply mk_cong
  intro k hk
  have h7 := wNt2 W hu hk
  unfold heard
  rw [mk_bit]
  simp [h7]
theorem k_ways_l (V : VaS g v) (C : CP g t v a D) : ∀ (d k fuel : Nat), k + d = vK a → d < fuel → F_X10_countWays_b4 fuel v (nI (ends a k)) (nI k) (Em g t) = some (nI (ends a (vK a) / 2), Em g t) := by
  have W := C.1
  have h5 := wK2 W
  have hb : ∀ k, ends a k ≤ 11 * k := by
    intro k
    induction k with
    | zero => exact Nat.le_refl _
    | succ k ih =>
      have := pc_le (vWy a k) 11
      rw [ends]
      unfold pcn
      omega
  intro d
  induction d with
  | zero =>
    intro k fuel hk hf
    obtain ⟨f, rfl⟩ : ∃ f, fuel = f + 1 := ⟨fuel - 1, by omega⟩
    have hk : k = vK a := by omega
    subst hk
    have := hb (vK a)
    rw [F_X10_countWays_b4]
    simp (disch := omega) only [v_rc V, v_i0 V, v_i1 V, v_i2 V, v_i3 V, v_i4 V, v_r5 V, v_r6 V, v_r7 V, v_r8 V, v_r9 V, v_r10 V, v_r11 V, v_a1 V, v_a2 V, v_a3 V, v_a4 V, v_a5 V, v_a6 V, Option.bind_some, ↓reduceIte, ite_not, fa_lit, nI_add, nI_mulN, nI_an, nI_sub, irm_n, nI_eq, nI_leI, nI_ltI, v_pow, v_shr, v_bit, nI_cl, nI_m1e, vK_ C, Nat.le_refl]
    rw [idv_2 _ (by omega)]
  | succ d ih =>
    intro k fuel hk hf
    obtain ⟨f, rfl⟩ : ∃ f, fuel = f + 1 := ⟨fuel - 1, by omega⟩
    have hk2 : ¬ vK a ≤ k := by omega
    have hk3 : k < vK a := by omega
    have h6 : vWy a k < 2048 := Nat.lt_of_lt_of_le (wWy2 W hk3) (Nat.pow_le_pow_right (n := 2) (by decide) (show vK a ≤ 11 by omega))
    rw [F_X10_countWays_b4, ← ih (k + 1) f (by omega) (by omega)]
    simp (disch := omega) only [v_rc V, v_i0 V, v_i1 V, v_i2 V, v_i3 V, v_i4 V, v_r5 V, v_r6 V, v_r7 V, v_r8 V, v_r9 V, v_r10 V, v_r11 V, v_a1 V, v_a2 V, v_a3 V, v_a4 V, v_a5 V, v_a6 V, Option.bind_some, ↓reduceIte, ite_not, fa_lit, nI_add, nI_mulN, nI_an, nI_sub, irm_n, nI_eq, nI_leI, nI_ltI, v_pow, v_shr, v_bit, nI_cl, nI_m1e, vK_ C, hk2, vWy_ C hk3, k_bits _ h6]
    rfl
theorem k_ways (V : VaS g v) (C : CP g t v a D) : F_X10_countWays v (Em g t) = some (nI (ends a (vK a) / 2), Em g t) := by
  have h4 := wK2 C.1
  exact k_ways_l V C (vK a) 0 FU (by omega) (by show vK a < 1000000; omega)
theorem k_hall_l (X : Fx g) (V : VaS g v) {s : Nat} (hs : s < 2 ^ 31) : ∀ (d k fuel : Nat) (t : Tb), CP g t v a D → k + d = vP a → d < fuel → ∃ t', F_X10_heardByAll_b12 fuel v 95 (nI s) (nI (mk (hall a s k) (vN a))) (nI k) (Em g t) = some (nI (mk (hall a s (vP a)) (vN a)), Em g t') ∧ Sm g t t' := by
  intro d
  induction d with
  | zero =>
    intro k fuel t C hk hf
    have h4 := wP2 C.1
    obtain ⟨f, rfl⟩ : ∃ f, fuel = f + 1 := ⟨fuel - 1, by omega⟩
    have hk : k = vP a := by omega
    subst hk
    rw [F_X10_heardByAll_b12]
    simp (disch := omega) only [v_rc V, v_i0 V, v_i1 V, v_i2 V, v_i3 V, v_i4 V, v_r5 V, v_r6 V, v_r7 V, v_r8 V, v_r9 V, v_r10 V, v_r11 V, v_a1 V, v_a2 V, v_a3 V, v_a4 V, v_a5 V, v_a6 V, Option.bind_some, ↓reduceIte, ite_not, fa_lit, nI_add, nI_mulN, nI_an, nI_sub, irm_n, nI_eq, nI_leI, nI_ltI, v_pow, v_shr, v_bit, nI_cl, nI_m1e, vP_ C, Nat.le_refl]
    exact ⟨t, rfl, Sm_r⟩
  | succ d ih =>
    intro k fuel t C hk hf
    have h4 := wP2 C.1
    obtain ⟨f, rfl⟩ : ∃ f, fuel = f + 1 := ⟨fuel - 1, by omega⟩
    have hk2 : ¬ vP a ≤ k := by omega
    rw [F_X10_heardByAll_b12]
    have hsp : ∀ n, hall a s (k + 1) n = (hall a s k n && decide (s.testBit k = true → hnow a k n = true)) := by
      intro n
      unfold hall
      rw [Bool.eq_iff_iff]
      simp only [Bool.and_eq_true, decide_eq_true_eq]
      constructor
      · intro h
        exact ⟨fun p hp => h p (by omega), h k (by omega)⟩
      · rintro ⟨h1, h2⟩ p hp
        rcases Nat.lt_or_ge p k with h | h
        · exact h1 p h
        · rw [show p = k by omega]
          exact h2
    have n1 : nI 1 = bI true := rfl
    have b1 : ∀ b : Bool, (bI b = nI 1) = (b = true) := by decide
    cases hq : s.testBit k
    · obtain ⟨t2, e2, s2⟩ := ih (k + 1) f t C (by omega) (by omega)
      refine ⟨t2, ?_, s2⟩
      rw [← e2]
      have e3 : mk (hall a s k) (vN a) = mk (hall a s (k + 1)) (vN a) := mk_cong (fun n _ => by rw [hsp]; simp [hq])
      simp (disch := omega) only [v_rc V, v_i0 V, v_i1 V, v_i2 V, v_i3 V, v_i4 V, v_r5 V, v_r6 V, v_r7 V, v_r8 V, v_r9 V, v_r10 V, v_r11 V, v_a1 V, v_a2 V, v_a3 V, v_a4 V, v_a5 V, v_a6 V, Option.bind_some, ↓reduceIte, ite_not, fa_lit, nI_add, nI_mulN, nI_an, nI_sub, irm_n, nI_eq, nI_leI, nI_ltI, v_pow, v_shr, v_bit, nI_cl, nI_m1e, vP_ C, hk2, hq, b1, e3, Bool.false_eq_true]
    · obtain ⟨t1, e1, s1⟩ := k_heardBy X V C (show k < vP a by omega)
      obtain ⟨t2, e2, s2⟩ := ih (k + 1) f t1 (CP_s X C s1) (by omega) (by omega)
      refine ⟨t2, ?_, Sm_t s1 s2⟩
      rw [← e2]
      have e3 : mk (hall a s k) (vN a) &&& heard a k = mk (hall a s (k + 1)) (vN a) := by
        unfold heard
        rw [mk_and]
        exact mk_cong (fun n _ => by rw [hsp]; simp [hq])
      have e4 : nI (mk (hall a s k) (vN a)) &&& nI (heard a k) = nI (mk (hall a s (k + 1)) (vN a)) := by rw [fa_and, e3]
      simp (disch := omega) only [v_rc V, v_i0 V, v_i1 V, v_i2 V, v_i3 V, v_i4 V, v_r5 V, v_r6 V, v_r7 V, v_r8 V, v_r9 V, v_r10 V, v_r11 V, v_a1 V, v_a2 V, v_a3 V, v_a4 V, v_a5 V, v_a6 V, Option.bind_some, ↓reduceIte, ite_not, fa_lit, nI_add, nI_mulN, nI_an, nI_sub, irm_n, nI_eq, nI_leI, nI_ltI, v_pow, v_shr, v_bit, nI_cl, nI_m1e, vP_ C, hk2, hq, b1, e1, e4]
theorem k_heardByAll (X : Fx g) (V : VaS g v) (C : CP g t v a D) {s : Nat} (hs : s < 2 ^ 31) : ∃ t', F_X10_heardByAll v 95 (nI s) (Em g t) = some (nI (mk (hall a s (vP a)) (vN a)), Em g t') ∧ Sm g t t' := by
  have h4 := wP2 C.1
  have h5 := wN3 C.1
  have hp := Nat.two_pow_pos (vN a)
  obtain ⟨t', e, h⟩ := k_hall_l X V hs (vP a) 0 FU t C (by omega) (by show vP a < 1000000; omega)
  refine ⟨t', ?_, h⟩
  rw [← e]
  unfold F_X10_heardByAll
  simp (disch := omega) only [v_rc V, v_i0 V, v_i1 V, v_i2 V, v_i3 V, v_i4 V, v_r5 V, v_r6 V, v_r7 V, v_r8 V, v_r9 V, v_r10 V, v_r11 V, v_a1 V, v_a2 V, v_a3 V, v_a4 V, v_a5 V, v_a6 V, Option.bind_some, ↓reduceIte, ite_not, fa_lit, nI_add, nI_mulN, nI_an, nI_sub, irm_n, nI_eq, nI_leI, nI_ltI, v_pow, v_shr, v_bit, nI_cl, nI_m1e, vN_ C]
  rw [show mk (hall a s 0) (vN a) = 2 ^ vN a - 1 by
    rw [← mk_all]
    exact mk_cong (fun n _ => by simp [hall])]
theorem sto_hall (W : WA a D) {u s : Nat} (hu : u < vT a) : (sto a u (mk (hall a s (vP a)) (vN a)) = 0) ↔ (∀ p, p < vP a → s.testBit p = true → stepo a u p = 0) := by
  unfold sto stepo
  rw [mk_zero]
  constructor
  · intro h p hp hs
    rw [mk_zero]
    intro i hi
    have h7 := wNt2 W hu hi
    have := h i hi
    rw [mk_bit] at this
    simp only [h7, decide_true, Bool.true_and, Bool.not_eq_false', hall, decide_eq_true_eq] at this
    simp [this p hp hs]
  · intro h i hi
    have h7 := wNt2 W hu hi
    rw [mk_bit]
    simp only [h7, decide_true, Bool.true_and, Bool.not_eq_false', hall, decide_eq_true_eq]
    intro p hp hs
    have := mk_zero.mp (h p hp hs) i hi
    simpa using this
/-! the answers -/
theorem c_fault (X : Fx g) (x : Int32) : F_X11_fault 69 x (Em g t) = some (aFault (tI t 70 11) (tI t 70 12) x, Em g t) := by
  unfold F_X11_fault aFault
  by_cases h0 : x = nI 0
  · simp only [x_rc69 X, x_r69_0 X, x_r69_2 X, x_r69_3 X, x_r69_4 X, x_r69_5 X, x_r69_6 X, x_r69_7 X, x_r69_8 X, x_r69_9 X, x_r69_10 X, x_r69_11 X, x_rc70 X, x_r70_0 X, x_i70_1 X, x_w70_1 X, x_r70_2 X, x_i70_3 X, x_w70_3 X, x_i70_4 X, x_w70_4 X, x_i70_5 X, x_w70_5 X, x_i70_6 X, x_w70_6 X, x_i70_7 X, x_w70_7 X, x_i70_8 X, x_w70_8 X, x_i70_9 X, x_w70_9 X, x_i70_11 X, x_w70_11 X, x_i70_12 X, x_w70_12 X, x_a71 X, x_s71 X, x_a72 X, x_s72 X, Option.bind_some, ↓reduceIte, ite_not, fa_lit, h0]
  · by_cases h1 : x = nI 1
    · have h10 : ¬ nI 1 = nI 0 := by decide
      simp only [x_rc69 X, x_r69_0 X, x_r69_2 X, x_r69_3 X, x_r69_4 X, x_r69_5 X, x_r69_6 X, x_r69_7 X, x_r69_8 X, x_r69_9 X, x_r69_10 X, x_r69_11 X, x_rc70 X, x_r70_0 X, x_i70_1 X, x_w70_1 X, x_r70_2 X, x_i70_3 X, x_w70_3 X, x_i70_4 X, x_w70_4 X, x_i70_5 X, x_w70_5 X, x_i70_6 X, x_w70_6 X, x_i70_7 X, x_w70_7 X, x_i70_8 X, x_w70_8 X, x_i70_9 X, x_w70_9 X, x_i70_11 X, x_w70_11 X, x_i70_12 X, x_w70_12 X, x_a71 X, x_s71 X, x_a72 X, x_s72 X, Option.bind_some, ↓reduceIte, ite_not, fa_lit, h1, h10]
    · simp only [x_rc69 X, x_r69_0 X, x_r69_2 X, x_r69_3 X, x_r69_4 X, x_r69_5 X, x_r69_6 X, x_r69_7 X, x_r69_8 X, x_r69_9 X, x_r69_10 X, x_r69_11 X, x_rc70 X, x_r70_0 X, x_i70_1 X, x_w70_1 X, x_r70_2 X, x_i70_3 X, x_w70_3 X, x_i70_4 X, x_w70_4 X, x_i70_5 X, x_w70_5 X, x_i70_6 X, x_w70_6 X, x_i70_7 X, x_w70_7 X, x_i70_8 X, x_w70_8 X, x_i70_9 X, x_w70_9 X, x_i70_11 X, x_w70_11 X, x_i70_12 X, x_w70_12 X, x_a71 X, x_s71 X, x_a72 X, x_s72 X, Option.bind_some, ↓reduceIte, ite_not, fa_lit, h0, h1]
theorem c_person (X : Fx g) (C : CP g t v a D) (x y : Int32) : ∃ t', F_X11_person 69 x y (Em g t) = some (aPerson a x y, Em g t') ∧ Sm g t t' := by
  have V := C.2.1
  have h2 := wP2 C.1
  unfold F_X11_person aPerson
  rcases okx_c x (vP a) (by omega) with hx | ⟨hx, p, hp, rfl⟩
  · refine ⟨t, ?_, Sm_r⟩
    simp (disch := omega) only [v_rc V, v_i0 V, v_i1 V, v_i2 V, v_i3 V, v_i4 V, v_r5 V, v_r6 V, v_r7 V, v_r8 V, v_r9 V, v_r10 V, v_r11 V, v_a1 V, v_a2 V, v_a3 V, v_a4 V, v_a5 V, v_a6 V, c_r69 X C.2.2.2.1, Option.bind_some, ↓reduceIte, ite_not, fa_lit, k_person V C, hx, bI_z, ifb_f]
  · have e : tn (nI p) = p := tn_n (by omega)
    rw [hx, e]
    by_cases y0 : y = nI 0
    · refine ⟨t, ?_, Sm_r⟩
      simp (disch := omega) only [v_rc V, v_i0 V, v_i1 V, v_i2 V, v_i3 V, v_i4 V, v_r5 V, v_r6 V, v_r7 V, v_r8 V, v_r9 V, v_r10 V, v_r11 V, v_a1 V, v_a2 V, v_a3 V, v_a4 V, v_a5 V, v_a6 V, x_rc69 X, x_r69_0 X, x_r69_2 X, x_r69_3 X, x_r69_4 X, x_r69_5 X, x_r69_6 X, x_r69_7 X, x_r69_8 X, x_r69_9 X, x_r69_10 X, x_r69_11 X, x_rc95 X, x_r95_0 X, x_r95_1 X, x_r95_2 X, x_i95_3 X, x_w95_3 X, x_i95_4 X, x_w95_4 X, x_a96 X, x_s96 X, x_a97 X, x_s97 X, x_a98 X, x_s98 X, c_r69 X C.2.2.2.1, Option.bind_some, ↓reduceIte, ite_not, fa_lit, k_person V C, hx, bI_z, ifb_t, Bool.true_eq_false, y0, (C.2.2.2.2.2 p hp).1]
    by_cases y1 : y = nI 1
    · refine ⟨t, ?_, Sm_r⟩
      have h10 : ¬ nI 1 = nI 0 := by decide
      simp (disch := omega) only [v_rc V, v_i0 V, v_i1 V, v_i2 V, v_i3 V, v_i4 V, v_r5 V, v_r6 V, v_r7 V, v_r8 V, v_r9 V, v_r10 V, v_r11 V, v_a1 V, v_a2 V, v_a3 V, v_a4 V, v_a5 V, v_a6 V, x_rc69 X, x_r69_0 X, x_r69_2 X, x_r69_3 X, x_r69_4 X, x_r69_5 X, x_r69_6 X, x_r69_7 X, x_r69_8 X, x_r69_9 X, x_r69_10 X, x_r69_11 X, x_rc95 X, x_r95_0 X, x_r95_1 X, x_r95_2 X, x_i95_3 X, x_w95_3 X, x_i95_4 X, x_w95_4 X, x_a96 X, x_s96 X, x_a97 X, x_s97 X, x_a98 X, x_s98 X, c_r69 X C.2.2.2.1, Option.bind_some, ↓reduceIte, ite_not, fa_lit, k_person V C, hx, bI_z, ifb_t, Bool.true_eq_false, y1, h10, cBl_ C hp]
    by_cases y2 : y = nI 2
    · refine ⟨t, ?_, Sm_r⟩
      have h10 : ¬ nI 2 = nI 0 := by decide
      have h11 : ¬ nI 2 = nI 1 := by decide
      simp (disch := omega) only [v_rc V, v_i0 V, v_i1 V, v_i2 V, v_i3 V, v_i4 V, v_r5 V, v_r6 V, v_r7 V, v_r8 V, v_r9 V, v_r10 V, v_r11 V, v_a1 V, v_a2 V, v_a3 V, v_a4 V, v_a5 V, v_a6 V, x_rc69 X, x_r69_0 X, x_r69_2 X, x_r69_3 X, x_r69_4 X, x_r69_5 X, x_r69_6 X, x_r69_7 X, x_r69_8 X, x_r69_9 X, x_r69_10 X, x_r69_11 X, x_rc95 X, x_r95_0 X, x_r95_1 X, x_r95_2 X, x_i95_3 X, x_w95_3 X, x_i95_4 X, x_w95_4 X, x_a96 X, x_s96 X, x_a97 X, x_s97 X, x_a98 X, x_s98 X, c_r69 X C.2.2.2.1, Option.bind_some, ↓reduceIte, ite_not, fa_lit, k_person V C, hx, bI_z, ifb_t, Bool.true_eq_false, y2, h10, h11, cEa_ C hp]
    by_cases y3 : y = nI 3
    · refine ⟨t, ?_, Sm_r⟩
      have h3 := wFo3 C.1
      simp (disch := omega) only [v_rc V, v_i0 V, v_i1 V, v_i2 V, v_i3 V, v_i4 V, v_r5 V, v_r6 V, v_r7 V, v_r8 V, v_r9 V, v_r10 V, v_r11 V, v_a1 V, v_a2 V, v_a3 V, v_a4 V, v_a5 V, v_a6 V, x_rc69 X, x_r69_0 X, x_r69_2 X, x_r69_3 X, x_r69_4 X, x_r69_5 X, x_r69_6 X, x_r69_7 X, x_r69_8 X, x_r69_9 X, x_r69_10 X, x_r69_11 X, x_rc95 X, x_r95_0 X, x_r95_1 X, x_r95_2 X, x_i95_3 X, x_w95_3 X, x_i95_4 X, x_w95_4 X, x_a96 X, x_s96 X, x_a97 X, x_s97 X, x_a98 X, x_s98 X, c_r69 X C.2.2.2.1, Option.bind_some, ↓reduceIte, ite_not, fa_lit, k_person V C, hx, bI_z, ifb_t, Bool.true_eq_false, y0, y1, y2, cFo_ C, v_shr, v_bit]
      rw [if_pos y3, if_pos y3]
    by_cases y4 : y = nI 4
    · obtain ⟨t', e1, s1⟩ := k_heardBy X V C hp
      refine ⟨t', ?_, s1⟩
      simp (disch := omega) only [v_rc V, v_i0 V, v_i1 V, v_i2 V, v_i3 V, v_i4 V, v_r5 V, v_r6 V, v_r7 V, v_r8 V, v_r9 V, v_r10 V, v_r11 V, v_a1 V, v_a2 V, v_a3 V, v_a4 V, v_a5 V, v_a6 V, x_rc69 X, x_r69_0 X, x_r69_2 X, x_r69_3 X, x_r69_4 X, x_r69_5 X, x_r69_6 X, x_r69_7 X, x_r69_8 X, x_r69_9 X, x_r69_10 X, x_r69_11 X, x_rc95 X, x_r95_0 X, x_r95_1 X, x_r95_2 X, x_i95_3 X, x_w95_3 X, x_i95_4 X, x_w95_4 X, x_a96 X, x_s96 X, x_a97 X, x_s97 X, x_a98 X, x_s98 X, c_r69 X C.2.2.2.1, Option.bind_some, ↓reduceIte, ite_not, fa_lit, k_person V C, hx, bI_z, ifb_t, Bool.true_eq_false, y0, y1, y2, y3, e1]
      rw [if_pos y4, if_pos y4]
    · refine ⟨t, ?_, Sm_r⟩
      simp (disch := omega) only [v_rc V, v_i0 V, v_i1 V, v_i2 V, v_i3 V, v_i4 V, v_r5 V, v_r6 V, v_r7 V, v_r8 V, v_r9 V, v_r10 V, v_r11 V, v_a1 V, v_a2 V, v_a3 V, v_a4 V, v_a5 V, v_a6 V, x_rc69 X, x_r69_0 X, x_r69_2 X, x_r69_3 X, x_r69_4 X, x_r69_5 X, x_r69_6 X, x_r69_7 X, x_r69_8 X, x_r69_9 X, x_r69_10 X, x_r69_11 X, x_rc95 X, x_r95_0 X, x_r95_1 X, x_r95_2 X, x_i95_3 X, x_w95_3 X, x_i95_4 X, x_w95_4 X, x_a96 X, x_s96 X, x_a97 X, x_s97 X, x_a98 X, x_s98 X, c_r69 X C.2.2.2.1, Option.bind_some, ↓reduceIte, ite_not, fa_lit, k_person V C, hx, bI_z, ifb_t, Bool.true_eq_false, y0, y1, y2, y3, y4]
theorem c_sounds (X : Fx g) (C : CP g t v a D) (x y : Int32) : F_X11_sounds 69 x y (Em g t) = some (aSounds a x y, Em g t) := by
  have V := C.2.1
  have h2 := wK2 C.1
  unfold F_X11_sounds aSounds
  rcases okx_c x (vK a) (by omega) with hx | ⟨hx, p, hp, rfl⟩
  · simp (disch := omega) only [v_rc V, v_i0 V, v_i1 V, v_i2 V, v_i3 V, v_i4 V, v_r5 V, v_r6 V, v_r7 V, v_r8 V, v_r9 V, v_r10 V, v_r11 V, v_a1 V, v_a2 V, v_a3 V, v_a4 V, v_a5 V, v_a6 V, c_r69 X C.2.2.2.1, Option.bind_some, ↓reduceIte, ite_not, fa_lit, k_place V C, hx, bI_z, ifb_f]
  · have e : tn (nI p) = p := tn_n (by omega)
    rw [hx, e]
    rcases nn_c y with hy | ⟨hy, d, hd, rfl⟩
    · simp (disch := omega) only [v_rc V, v_i0 V, v_i1 V, v_i2 V, v_i3 V, v_i4 V, v_r5 V, v_r6 V, v_r7 V, v_r8 V, v_r9 V, v_r10 V, v_r11 V, v_a1 V, v_a2 V, v_a3 V, v_a4 V, v_a5 V, v_a6 V, c_r69 X C.2.2.2.1, Option.bind_some, ↓reduceIte, ite_not, fa_lit, k_place V C, hx, bI_z, ifb_t, Bool.true_eq_false, hy]
    · have e2 : tn (nI d) = d := tn_n hd
      simp (disch := omega) only [v_rc V, v_i0 V, v_i1 V, v_i2 V, v_i3 V, v_i4 V, v_r5 V, v_r6 V, v_r7 V, v_r8 V, v_r9 V, v_r10 V, v_r11 V, v_a1 V, v_a2 V, v_a3 V, v_a4 V, v_a5 V, v_a6 V, c_r69 X C.2.2.2.1, Option.bind_some, ↓reduceIte, ite_not, fa_lit, k_place V C, hx, bI_z, ifb_t, Bool.true_eq_false, hy, k_soundOn V C hp hd, e2]
theorem c_place (X : Fx g) (C : CP g t v a D) (x y : Int32) : F_X11_place 69 x y (Em g t) = some (aPlace a x y, Em g t) := by
  have V := C.2.1
  have h2 := wK2 C.1
  unfold F_X11_place aPlace
  rcases okx_c x (vK a) (by omega) with hx | ⟨hx, p, hp, rfl⟩
  · simp (disch := omega) only [v_rc V, v_i0 V, v_i1 V, v_i2 V, v_i3 V, v_i4 V, v_r5 V, v_r6 V, v_r7 V, v_r8 V, v_r9 V, v_r10 V, v_r11 V, v_a1 V, v_a2 V, v_a3 V, v_a4 V, v_a5 V, v_a6 V, c_r69 X C.2.2.2.1, Option.bind_some, ↓reduceIte, ite_not, fa_lit, k_place V C, hx, bI_z, ifb_f]
  · have e : tn (nI p) = p := tn_n (by omega)
    rw [hx, e]
    by_cases y0 : y = nI 0
    · simp (disch := omega) only [v_rc V, v_i0 V, v_i1 V, v_i2 V, v_i3 V, v_i4 V, v_r5 V, v_r6 V, v_r7 V, v_r8 V, v_r9 V, v_r10 V, v_r11 V, v_a1 V, v_a2 V, v_a3 V, v_a4 V, v_a5 V, v_a6 V, x_rc69 X, x_r69_0 X, x_r69_2 X, x_r69_3 X, x_r69_4 X, x_r69_5 X, x_r69_6 X, x_r69_7 X, x_r69_8 X, x_r69_9 X, x_r69_10 X, x_r69_11 X, x_rc95 X, x_r95_0 X, x_r95_1 X, x_r95_2 X, x_i95_3 X, x_w95_3 X, x_i95_4 X, x_w95_4 X, x_a96 X, x_s96 X, x_a97 X, x_s97 X, x_a98 X, x_s98 X, c_r69 X C.2.2.2.1, Option.bind_some, ↓reduceIte, ite_not, fa_lit, k_place V C, hx, bI_z, ifb_t, Bool.true_eq_false, y0, (C.2.2.1.2.2.1 p hp).2.1]
    by_cases y1 : y = nI 1
    · have h10 : ¬ nI 1 = nI 0 := by decide
      simp (disch := omega) only [v_rc V, v_i0 V, v_i1 V, v_i2 V, v_i3 V, v_i4 V, v_r5 V, v_r6 V, v_r7 V, v_r8 V, v_r9 V, v_r10 V, v_r11 V, v_a1 V, v_a2 V, v_a3 V, v_a4 V, v_a5 V, v_a6 V, x_rc69 X, x_r69_0 X, x_r69_2 X, x_r69_3 X, x_r69_4 X, x_r69_5 X, x_r69_6 X, x_r69_7 X, x_r69_8 X, x_r69_9 X, x_r69_10 X, x_r69_11 X, x_rc95 X, x_r95_0 X, x_r95_1 X, x_r95_2 X, x_i95_3 X, x_w95_3 X, x_i95_4 X, x_w95_4 X, x_a96 X, x_s96 X, x_a97 X, x_s97 X, x_a98 X, x_s98 X, c_r69 X C.2.2.2.1, Option.bind_some, ↓reduceIte, ite_not, fa_lit, k_place V C, hx, bI_z, ifb_t, Bool.true_eq_false, y1, h10, vP_ C, k_peopleAt X C (show p ≤ 20 by omega)]
    by_cases y2 : y = nI 2
    · have h10 : ¬ nI 2 = nI 0 := by decide
      have h11 : ¬ nI 2 = nI 1 := by decide
      simp (disch := omega) only [v_rc V, v_i0 V, v_i1 V, v_i2 V, v_i3 V, v_i4 V, v_r5 V, v_r6 V, v_r7 V, v_r8 V, v_r9 V, v_r10 V, v_r11 V, v_a1 V, v_a2 V, v_a3 V, v_a4 V, v_a5 V, v_a6 V, x_rc69 X, x_r69_0 X, x_r69_2 X, x_r69_3 X, x_r69_4 X, x_r69_5 X, x_r69_6 X, x_r69_7 X, x_r69_8 X, x_r69_9 X, x_r69_10 X, x_r69_11 X, x_rc95 X, x_r95_0 X, x_r95_1 X, x_r95_2 X, x_i95_3 X, x_w95_3 X, x_i95_4 X, x_w95_4 X, x_a96 X, x_s96 X, x_a97 X, x_s97 X, x_a98 X, x_s98 X, c_r69 X C.2.2.2.1, Option.bind_some, ↓reduceIte, ite_not, fa_lit, k_place V C, hx, bI_z, ifb_t, Bool.true_eq_false, y2, h10, h11, (C.2.2.1.2.2.1 p hp).1]
    · simp (disch := omega) only [v_rc V, v_i0 V, v_i1 V, v_i2 V, v_i3 V, v_i4 V, v_r5 V, v_r6 V, v_r7 V, v_r8 V, v_r9 V, v_r10 V, v_r11 V, v_a1 V, v_a2 V, v_a3 V, v_a4 V, v_a5 V, v_a6 V, x_rc69 X, x_r69_0 X, x_r69_2 X, x_r69_3 X, x_r69_4 X, x_r69_5 X, x_r69_6 X, x_r69_7 X, x_r69_8 X, x_r69_9 X, x_r69_10 X, x_r69_11 X, x_rc95 X, x_r95_0 X, x_r95_1 X, x_r95_2 X, x_i95_3 X, x_w95_3 X, x_i95_4 X, x_w95_4 X, x_a96 X, x_s96 X, x_a97 X, x_s97 X, x_a98 X, x_s98 X, c_r69 X C.2.2.2.1, Option.bind_some, ↓reduceIte, ite_not, fa_lit, k_place V C, hx, bI_z, ifb_t, Bool.true_eq_false, y0, y1, y2]
theorem c_note (X : Fx g) (C : CP g t v a D) (x y : Int32) : F_X11_note 69 x y (Em g t) = some (aNote a x y, Em g t) := by
  have V := C.2.1
  have h2 := wT2 C.1
  unfold F_X11_note aNote
  rcases okx_c x (vT a) (by omega) with hx | ⟨hx, p, hp, rfl⟩
  · simp (disch := omega) only [v_rc V, v_i0 V, v_i1 V, v_i2 V, v_i3 V, v_i4 V, v_r5 V, v_r6 V, v_r7 V, v_r8 V, v_r9 V, v_r10 V, v_r11 V, v_a1 V, v_a2 V, v_a3 V, v_a4 V, v_a5 V, v_a6 V, c_r69 X C.2.2.2.1, Option.bind_some, ↓reduceIte, ite_not, fa_lit, k_tune V C, hx, bI_z, ifb_f]
  · have e : tn (nI p) = p := tn_n (by omega)
    have h3 := wLg2 C.1 hp
    rw [hx, e]
    rcases nn_c y with hy | ⟨hy, d, hd, rfl⟩
    · simp (disch := omega) only [v_rc V, v_i0 V, v_i1 V, v_i2 V, v_i3 V, v_i4 V, v_r5 V, v_r6 V, v_r7 V, v_r8 V, v_r9 V, v_r10 V, v_r11 V, v_a1 V, v_a2 V, v_a3 V, v_a4 V, v_a5 V, v_a6 V, c_r69 X C.2.2.2.1, Option.bind_some, ↓reduceIte, ite_not, fa_lit, k_tune V C, hx, bI_z, ifb_t, Bool.true_eq_false, hy]
    · have e2 : tn (nI d) = d := tn_n hd
      by_cases hl : vLg a p ≤ d
      · simp (disch := omega) only [v_rc V, v_i0 V, v_i1 V, v_i2 V, v_i3 V, v_i4 V, v_r5 V, v_r6 V, v_r7 V, v_r8 V, v_r9 V, v_r10 V, v_r11 V, v_a1 V, v_a2 V, v_a3 V, v_a4 V, v_a5 V, v_a6 V, c_r69 X C.2.2.2.1, Option.bind_some, ↓reduceIte, ite_not, fa_lit, nI_add, nI_mulN, nI_an, nI_sub, irm_n, nI_eq, nI_leI, nI_ltI, v_pow, v_shr, v_bit, nI_cl, nI_m1e, k_tune V C, hx, bI_z, ifb_t, Bool.true_eq_false, vLg_ C hp, hl, e2, Nat.zero_le]
      · simp (disch := omega) only [v_rc V, v_i0 V, v_i1 V, v_i2 V, v_i3 V, v_i4 V, v_r5 V, v_r6 V, v_r7 V, v_r8 V, v_r9 V, v_r10 V, v_r11 V, v_a1 V, v_a2 V, v_a3 V, v_a4 V, v_a5 V, v_a6 V, c_r69 X C.2.2.2.1, Option.bind_some, ↓reduceIte, ite_not, fa_lit, nI_add, nI_mulN, nI_an, nI_sub, irm_n, nI_eq, nI_leI, nI_ltI, v_pow, v_shr, v_bit, nI_cl, nI_m1e, k_tune V C, hx, bI_z, ifb_t, Bool.true_eq_false, vLg_ C hp, hl, e2, Nat.zero_le, k_tuneNote V C hp (show d < vLg a p by omega), wNt C.1 hp (show d < vLg a p by omega)]
theorem c_steps (X : Fx g) (C : CP g t v a D) (x y : Int32) : ∃ t', F_X11_steps 69 x y (Em g t) = some (aSteps a x y, Em g t') ∧ Sm g t t' := by
  have V := C.2.1
  have h2 := wT2 C.1
  have h3 := wP2 C.1
  have h4 := wN3 C.1
  unfold F_X11_steps aSteps
  rcases okx_c x (vT a) (by omega) with hx | ⟨hx, u, hu, rfl⟩
  · refine ⟨t, ?_, Sm_r⟩
    simp (disch := omega) only [v_rc V, v_i0 V, v_i1 V, v_i2 V, v_i3 V, v_i4 V, v_r5 V, v_r6 V, v_r7 V, v_r8 V, v_r9 V, v_r10 V, v_r11 V, v_a1 V, v_a2 V, v_a3 V, v_a4 V, v_a5 V, v_a6 V, c_r69 X C.2.2.2.1, Option.bind_some, ↓reduceIte, ite_not, fa_lit, k_tune V C, hx, bI_z, Bool.false_and, ifb_f]
  · rw [hx, tn_n (n := u) (by omega)]
    rcases okx_c y (vP a) (by omega) with hy | ⟨hy, p, hp, rfl⟩
    · refine ⟨t, ?_, Sm_r⟩
      simp (disch := omega) only [v_rc V, v_i0 V, v_i1 V, v_i2 V, v_i3 V, v_i4 V, v_r5 V, v_r6 V, v_r7 V, v_r8 V, v_r9 V, v_r10 V, v_r11 V, v_a1 V, v_a2 V, v_a3 V, v_a4 V, v_a5 V, v_a6 V, c_r69 X C.2.2.2.1, Option.bind_some, ↓reduceIte, ite_not, fa_lit, k_tune V C, k_person V C, hx, hy, bI_z, Bool.true_and, ifb_f, Bool.true_eq_false]
    · obtain ⟨t', e1, s1⟩ := k_heardBy X V C hp
      have C2 := CP_s X C s1
      have hh : heard a p < 2 ^ 31 := mk_31 (by omega)
      refine ⟨t', ?_, s1⟩
      simp (disch := omega) only [v_rc V, v_i0 V, v_i1 V, v_i2 V, v_i3 V, v_i4 V, v_r5 V, v_r6 V, v_r7 V, v_r8 V, v_r9 V, v_r10 V, v_r11 V, v_a1 V, v_a2 V, v_a3 V, v_a4 V, v_a5 V, v_a6 V, x_rc69 X, x_r69_0 X, x_r69_2 X, x_r69_3 X, x_r69_4 X, x_r69_5 X, x_r69_6 X, x_r69_7 X, x_r69_8 X, x_r69_9 X, x_r69_10 X, x_r69_11 X, c_r69 X C.2.2.2.1, Option.bind_some, ↓reduceIte, ite_not, fa_lit, k_tune V C, k_person V C, hx, hy, bI_z, Bool.true_and, ifb_t, Bool.true_eq_false, e1, tn_n (n := p) (show p < 2 ^ 31 by omega), k_stepped V C2 hu hh, sto_heard C.1 hu]
theorem c_whole_l (X : Fx g) (C : CP g t v a D) {s : Nat} : ∀ (d k fuel : Nat), k + d = vT a → d < fuel → F_X11_whole_b32 fuel 69 (nI (mk (hall a s (vP a)) (vN a))) (nI (mk (fun u => decide (∀ p, p < vP a → s.testBit p = true → stepo a u p = 0)) k)) (nI k) (Em g t) = some (nI (wholes a s), Em g t) := by
  have V := C.2.1
  have h2 := wP2 C.1
  have h3 := wT2 C.1
  have h4 := wN3 C.1
  have hh : mk (hall a s (vP a)) (vN a) < 2 ^ 31 := mk_31 (by omega)
  intro d
  induction d with
  | zero =>
    intro k fuel hk hf
    obtain ⟨f, rfl⟩ : ∃ f, fuel = f + 1 := ⟨fuel - 1, by omega⟩
    have hk : k = vT a := by omega
    subst hk
    rw [F_X11_whole_b32]
    simp (disch := omega) only [v_rc V, v_i0 V, v_i1 V, v_i2 V, v_i3 V, v_i4 V, v_r5 V, v_r6 V, v_r7 V, v_r8 V, v_r9 V, v_r10 V, v_r11 V, v_a1 V, v_a2 V, v_a3 V, v_a4 V, v_a5 V, v_a6 V, c_r69 X C.2.2.2.1, Option.bind_some, ↓reduceIte, ite_not, fa_lit, nI_add, nI_mulN, nI_an, nI_sub, irm_n, nI_eq, nI_leI, nI_ltI, v_pow, v_shr, v_bit, nI_cl, nI_m1e, vT_ C, Nat.le_refl]
    rfl
  | succ d ih =>
    intro k fuel hk hf
    obtain ⟨f, rfl⟩ : ∃ f, fuel = f + 1 := ⟨fuel - 1, by omega⟩
    have hk2 : ¬ vT a ≤ k := by omega
    have hk3 : k < vT a := by omega
    have hst : sto a k (mk (hall a s (vP a)) (vN a)) < 2 ^ 31 := mk_31 (by have := wLg2 C.1 hk3; omega)
    rw [F_X11_whole_b32, ← ih (k + 1) f (by omega) (by omega)]
    by_cases hz : sto a k (mk (hall a s (vP a)) (vN a)) = 0
    · simp (disch := omega) only [v_rc V, v_i0 V, v_i1 V, v_i2 V, v_i3 V, v_i4 V, v_r5 V, v_r6 V, v_r7 V, v_r8 V, v_r9 V, v_r10 V, v_r11 V, v_a1 V, v_a2 V, v_a3 V, v_a4 V, v_a5 V, v_a6 V, c_r69 X C.2.2.2.1, Option.bind_some, ↓reduceIte, ite_not, fa_lit, nI_add, nI_mulN, nI_an, nI_sub, irm_n, nI_eq, nI_leI, nI_ltI, v_pow, v_shr, v_bit, nI_cl, nI_m1e, vT_ C, hk2, k_stepped V C hk3 hh, hz]
      rw [← s_or1 (f := fun u => decide (∀ p, p < vP a → s.testBit p = true → stepo a u p = 0)) (by rw [decide_eq_true_eq]; exact (sto_hall C.1 hk3).mp hz)]
    · simp (disch := omega) only [v_rc V, v_i0 V, v_i1 V, v_i2 V, v_i3 V, v_i4 V, v_r5 V, v_r6 V, v_r7 V, v_r8 V, v_r9 V, v_r10 V, v_r11 V, v_a1 V, v_a2 V, v_a3 V, v_a4 V, v_a5 V, v_a6 V, c_r69 X C.2.2.2.1, Option.bind_some, ↓reduceIte, ite_not, fa_lit, nI_add, nI_mulN, nI_an, nI_sub, irm_n, nI_eq, nI_leI, nI_ltI, v_pow, v_shr, v_bit, nI_cl, nI_m1e, vT_ C, hk2, k_stepped V C hk3 hh, hz]
      rw [mk_no (fun u => decide (∀ p, p < vP a → s.testBit p = true → stepo a u p = 0)) k (by rw [decide_eq_false_iff_not]; exact fun q => hz ((sto_hall C.1 hk3).mpr q))]
theorem c_whole_0 (X : Fx g) (C : CP g t v a D) {s : Nat} : F_X11_whole_b32 FU 69 (nI (mk (hall a s (vP a)) (vN a))) (nI 0) (nI 0) (Em g t) = some (nI (wholes a s), Em g t) := by
  have h3 := wT2 C.1
  have hfu : vT a < FU := by show vT a < 1000000; omega
  have e := c_whole_l (s := s) X C (vT a) 0 FU (by omega) hfu
  rw [mk] at e
  exact e
theorem c_whole (X : Fx g) (C : CP g t v a D) (x : Int32) : ∃ t', F_X11_whole 69 x (Em g t) = some (aWhole a x, Em g t') ∧ Sm g t t' := by
  have V := C.2.1
  have h2 := wP2 C.1
  unfold F_X11_whole aWhole
  rcases oks_c x (vP a) (by omega) with hx | ⟨hx, s, hs, rfl⟩
  · refine ⟨t, ?_, Sm_r⟩
    rw [c_r69 X C.2.2.2.1, Option.bind_some, v_rc V, Option.bind_some, k_isPeople V C, Option.bind_some, hx]
    rfl
  · have hs2 := p_31 hs (by omega)
    obtain ⟨t', e1, s1⟩ := k_heardByAll X V C hs2
    refine ⟨t', ?_, s1⟩
    rw [c_r69 X C.2.2.2.1, Option.bind_some, v_rc V, Option.bind_some, k_isPeople V C, Option.bind_some, hx, ifb_t, tn_n hs2, if_pos (show ¬ bI true = (0 : Int32) by decide), c_r69 X C.2.2.2.1, Option.bind_some, x_r69_2 X, Option.bind_some, v_rc V, Option.bind_some, e1, Option.bind_some]
    exact c_whole_0 (s := s) X (CP_s X C s1)
theorem c_owners_l (X : Fx g) {n : Nat} (hn : n < vN a) : ∀ (d k fuel : Nat) (t : Tb), CP g t v a D → k + d = vP a → d < fuel → ∃ t', F_X11_owners_b18 fuel 69 (nI n) (nI (mk (fun p => !hnow a p n) k)) (nI k) (Em g t) = some (nI (ownrs a n), Em g t') ∧ Sm g t t' := by
  intro d
  induction d with
  | zero =>
    intro k fuel t C hk hf
    have V := C.2.1
    have h4 := wP2 C.1
    obtain ⟨f, rfl⟩ : ∃ f, fuel = f + 1 := ⟨fuel - 1, by omega⟩
    have hk : k = vP a := by omega
    subst hk
    rw [F_X11_owners_b18]
    simp (disch := omega) only [v_rc V, v_i0 V, v_i1 V, v_i2 V, v_i3 V, v_i4 V, v_r5 V, v_r6 V, v_r7 V, v_r8 V, v_r9 V, v_r10 V, v_r11 V, v_a1 V, v_a2 V, v_a3 V, v_a4 V, v_a5 V, v_a6 V, c_r69 X C.2.2.2.1, Option.bind_some, ↓reduceIte, ite_not, fa_lit, nI_add, nI_mulN, nI_an, nI_sub, irm_n, nI_eq, nI_leI, nI_ltI, v_pow, v_shr, v_bit, nI_cl, nI_m1e, vP_ C, Nat.le_refl]
    exact ⟨t, rfl, Sm_r⟩
  | succ d ih =>
    intro k fuel t C hk hf
    have V := C.2.1
    have h4 := wP2 C.1
    have h5 := wN3 C.1
    obtain ⟨f, rfl⟩ : ∃ f, fuel = f + 1 := ⟨fuel - 1, by omega⟩
    have hk2 : ¬ vP a ≤ k := by omega
    rw [F_X11_owners_b18]
    obtain ⟨t1, e1, s1⟩ := k_heardBy X V C (show k < vP a by omega)
    obtain ⟨t2, e2, s2⟩ := ih (k + 1) f t1 (CP_s X C s1) (by omega) (by omega)
    have hh : heard a k < 2 ^ 31 := mk_31 (by omega)
    have hb : (heard a k).testBit n = hnow a k n := by
      unfold heard
      rw [mk_bit]
      simp [hn]
    refine ⟨t2, ?_, Sm_t s1 s2⟩
    cases hq : hnow a k n
    · simp (disch := omega) only [v_rc V, v_i0 V, v_i1 V, v_i2 V, v_i3 V, v_i4 V, v_r5 V, v_r6 V, v_r7 V, v_r8 V, v_r9 V, v_r10 V, v_r11 V, v_a1 V, v_a2 V, v_a3 V, v_a4 V, v_a5 V, v_a6 V, x_rc69 X, x_r69_0 X, x_r69_2 X, x_r69_3 X, x_r69_4 X, x_r69_5 X, x_r69_6 X, x_r69_7 X, x_r69_8 X, x_r69_9 X, x_r69_10 X, x_r69_11 X, c_r69 X C.2.2.2.1, Option.bind_some, ↓reduceIte, ite_not, fa_lit, nI_add, nI_mulN, nI_an, nI_sub, irm_n, nI_eq, nI_leI, nI_ltI, v_pow, v_shr, v_bit, nI_cl, nI_m1e, vP_ C, hk2, e1, hb, hq, bI_z]
      rw [← e2, ← s_or1 (f := fun p => !hnow a p n) (by simp [hq])]
    · simp (disch := omega) only [v_rc V, v_i0 V, v_i1 V, v_i2 V, v_i3 V, v_i4 V, v_r5 V, v_r6 V, v_r7 V, v_r8 V, v_r9 V, v_r10 V, v_r11 V, v_a1 V, v_a2 V, v_a3 V, v_a4 V, v_a5 V, v_a6 V, x_rc69 X, x_r69_0 X, x_r69_2 X, x_r69_3 X, x_r69_4 X, x_r69_5 X, x_r69_6 X, x_r69_7 X, x_r69_8 X, x_r69_9 X, x_r69_10 X, x_r69_11 X, c_r69 X C.2.2.2.1, Option.bind_some, ↓reduceIte, ite_not, fa_lit, nI_add, nI_mulN, nI_an, nI_sub, irm_n, nI_eq, nI_leI, nI_ltI, v_pow, v_shr, v_bit, nI_cl, nI_m1e, vP_ C, hk2, e1, hb, hq, bI_z, Bool.true_eq_false]
      rw [← e2, mk_no (fun p => !hnow a p n) k (by simp [hq])]
theorem c_owners (X : Fx g) (C : CP g t v a D) (x : Int32) : ∃ t', F_X11_owners 69 x (Em g t) = some (aOwners a x, Em g t') ∧ Sm g t t' := by
  have V := C.2.1
  have h2 := wN3 C.1
  have h3 := wP2 C.1
  unfold F_X11_owners aOwners
  rcases okx_c x (vN a) (by omega) with hx | ⟨hx, n, hn, rfl⟩
  · refine ⟨t, ?_, Sm_r⟩
    simp (disch := omega) only [v_rc V, v_i0 V, v_i1 V, v_i2 V, v_i3 V, v_i4 V, v_r5 V, v_r6 V, v_r7 V, v_r8 V, v_r9 V, v_r10 V, v_r11 V, v_a1 V, v_a2 V, v_a3 V, v_a4 V, v_a5 V, v_a6 V, c_r69 X C.2.2.2.1, Option.bind_some, ↓reduceIte, ite_not, fa_lit, k_note V C, hx, bI_z, ifb_f]
  · obtain ⟨t', e1, s1⟩ := c_owners_l X hn (vP a) 0 FU t C (by omega) (by show vP a < 1000000; omega)
    refine ⟨t', ?_, s1⟩
    simp (disch := omega) only [v_rc V, v_i0 V, v_i1 V, v_i2 V, v_i3 V, v_i4 V, v_r5 V, v_r6 V, v_r7 V, v_r8 V, v_r9 V, v_r10 V, v_r11 V, v_a1 V, v_a2 V, v_a3 V, v_a4 V, v_a5 V, v_a6 V, c_r69 X C.2.2.2.1, Option.bind_some, ↓reduceIte, ite_not, fa_lit, k_note V C, hx, bI_z, ifb_t, Bool.true_eq_false, tn_n (n := n) (show n < 2 ^ 31 by omega)]
    exact e1
theorem c_count (X : Fx g) (C : CP g t v a D) (hh : tI t 103 2 = a 127) (x : Int32) : F_X11_count 69 x (Em g t) = some (aCount a (tI t 70 1) x, Em g t) := by
  have V := C.2.1
  unfold F_X11_count aCount
  by_cases h : ∃ k, k < 10 ∧ x = nI k
  · obtain ⟨k, hk, rfl⟩ := h
    rcases (show k = 0 ∨ k = 1 ∨ k = 2 ∨ k = 3 ∨ k = 4 ∨ k = 5 ∨ k = 6 ∨ k = 7 ∨ k = 8 ∨ k = 9 by omega) with e | e | e | e | e | e | e | e | e | e <;> subst e <;> simp (disch := omega) only [v_rc V, v_i0 V, v_i1 V, v_i2 V, v_i3 V, v_i4 V, v_r5 V, v_r6 V, v_r7 V, v_r8 V, v_r9 V, v_r10 V, v_r11 V, v_a1 V, v_a2 V, v_a3 V, v_a4 V, v_a5 V, v_a6 V, x_rc69 X, x_r69_0 X, x_r69_2 X, x_r69_3 X, x_r69_4 X, x_r69_5 X, x_r69_6 X, x_r69_7 X, x_r69_8 X, x_r69_9 X, x_r69_10 X, x_r69_11 X, x_rc70 X, x_r70_0 X, x_i70_1 X, x_w70_1 X, x_r70_2 X, x_i70_3 X, x_w70_3 X, x_i70_4 X, x_w70_4 X, x_i70_5 X, x_w70_5 X, x_i70_6 X, x_w70_6 X, x_i70_7 X, x_w70_7 X, x_i70_8 X, x_w70_8 X, x_i70_9 X, x_w70_9 X, x_i70_11 X, x_w70_11 X, x_i70_12 X, x_w70_12 X, x_a71 X, x_s71 X, x_a72 X, x_s72 X, x_rc95 X, x_r95_0 X, x_r95_1 X, x_r95_2 X, x_i95_3 X, x_w95_3 X, x_i95_4 X, x_w95_4 X, x_a96 X, x_s96 X, x_a97 X, x_s97 X, x_a98 X, x_s98 X, x_rc103 X, x_r103_0 X, x_i103_1 X, x_w103_1 X, x_i103_2 X, x_w103_2 X, c_r69 X C.2.2.2.1, Option.bind_some, ↓reduceIte, ite_not, fa_lit, nI_add, nI_mulN, nI_an, nI_sub, irm_n, nI_eq, nI_leI, nI_ltI, v_pow, v_shr, v_bit, nI_cl, nI_m1e, C.2.2.1.1.1, C.2.2.1.1.2.1, C.2.2.1.1.2.2.1, C.2.2.1.1.2.2.2.1, C.2.2.1.1.2.2.2.2, C.2.2.2.2.1.1, C.2.2.2.2.1.2, hh, k_ways V C, Nat.reduceEqDiff]
  · have hk : ∀ k, k < 10 → ¬ x = nI k := fun k hk e => h ⟨k, hk, e⟩
    simp (disch := omega) only [Option.bind_some, ↓reduceIte, ite_not, fa_lit, hk 0 (by decide), hk 1 (by decide), hk 2 (by decide), hk 3 (by decide), hk 4 (by decide), hk 5 (by decide), hk 6 (by decide), hk 7 (by decide), hk 8 (by decide), hk 9 (by decide)]
end XC4
