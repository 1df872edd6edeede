/-! ===== the draft against the fresh valley, part by part ===== -/
def DrT (t : Tb) (v : Nat) (a : Nat → Int32) (N U : Nat) : Prop := (tI t v 2 = nI U ∧ a 2 = nI U ∧ U ≤ 6) ∧ ∀ u, u < U → ∃ i, (1 ≤ i ∧ i ≤ 9) ∧ tA t (v + 2) u = nI i ∧ a (11 + u) = nI i ∧ ∀ j, j < i → tA t (v + 1) (u * 9 + j) = a (17 + 9 * u + j) ∧ ∃ m, m ≤ N - 1 ∧ a (17 + 9 * u + j) = nI m
def DrK (t : Tb) (v : Nat) (a : Nat → Int32) (N K : Nat) : Prop := (tI t v 3 = nI K ∧ a 3 = nI K ∧ K ≤ 6) ∧ ∀ u, u < K → ∃ i, (1 ≤ i ∧ i ≤ 4) ∧ tA t (v + 4) u = nI i ∧ a (71 + u) = nI i ∧ ∀ j, j < i → tA t (v + 3) (u * 4 + j) = a (83 + 4 * u + j) ∧ ∃ m, m ≤ N ∧ a (83 + 4 * u + j) = nI m
def DrW (t : Tb) (v : Nat) (a : Nat → Int32) (K : Nat) : Prop := ∃ w : Nat → Nat, (∀ k, k < 6 → tA t (v + 5) k = nI (w k) ∧ a (77 + k) = nI (w k)) ∧ (∀ k j, (w k).testBit j = true → k < K ∧ j < K ∧ k ≠ j) ∧ ∀ k j, (w k).testBit j = (w j).testBit k
def DrP (t : Tb) (v : Nat) (a : Nat → Int32) (N K P fo : Nat) : Prop := (tI t v 4 = nI P ∧ a 4 = nI P ∧ P ≤ 6) ∧ (tI t (v + 7) 3 = nI fo ∧ a 108 = nI fo ∧ fo < 2 ^ P) ∧ (tI t (v + 7) 4 = nI 0 ∧ a 107 = nI 0 ∧ a 127 = nI 0) ∧ (∀ p, p < P → (tA t (v + 8) p = a (109 + p) ∧ ∃ m, m < K ∧ a (109 + p) = nI m) ∧ (tA t (v + 9) p = a (115 + p) ∧ ∃ m, m ≤ 9 ∧ a (115 + p) = nI m) ∧ (tA t (v + 10) p = a (121 + p) ∧ (a (121 + p) = -nI 1 ∨ ∃ m, m < N ∧ a (121 + p) = nI m))) ∧ ∀ p, P ≤ p → p < 6 → tA t (v + 9) p = nI 0 ∧ a (115 + p) = nI 0 ∧ a (121 + p) = -nI 1
section XDp
variable {t t' s s' : Tb} {a a' : Nat → Int32} {v N U K P fo i x y : Nat}
theorem DrT_c (h : DrT t v a N U) (e1 : tI t' v 2 = tI t v 2) (e2 : tA t' (v + 1) = tA t (v + 1)) (e3 : tA t' (v + 2) = tA t (v + 2)) (e4 : a' 2 = a 2) (e5 : ∀ x, 11 ≤ x → x < 71 → a' x = a x) : DrT t' v a' N U := by
  refine ⟨⟨by rw [e1]; exact h.1.1, by rw [e4]; exact h.1.2.1, h.1.2.2⟩, fun u hu => ?_⟩
  have h6 := h.1.2.2
  obtain ⟨i, h1, h2, h3, h4⟩ := h.2 u hu
  refine ⟨i, h1, by rw [e3]; exact h2, by rw [e5 _ (by omega) (by omega)]; exact h3, fun j hj => ?_⟩
  rw [e2, e5 _ (by omega) (by omega)]
  exact h4 j hj
theorem DrK_c (h : DrK t v a N K) (e1 : tI t' v 3 = tI t v 3) (e2 : tA t' (v + 3) = tA t (v + 3)) (e3 : tA t' (v + 4) = tA t (v + 4)) (e4 : a' 3 = a 3) (e5 : ∀ x, 71 ≤ x → x < 77 → a' x = a x) (e6 : ∀ x, 83 ≤ x → x < 107 → a' x = a x) : DrK t' v a' N K := by
  refine ⟨⟨by rw [e1]; exact h.1.1, by rw [e4]; exact h.1.2.1, h.1.2.2⟩, fun u hu => ?_⟩
  have h6 := h.1.2.2
  obtain ⟨i, h1, h2, h3, h4⟩ := h.2 u hu
  refine ⟨i, h1, by rw [e3]; exact h2, by rw [e5 _ (by omega) (by omega)]; exact h3, fun j hj => ?_⟩
  rw [e2, e6 _ (by omega) (by omega)]
  exact h4 j hj
theorem DrW_c (h : DrW t v a K) (e1 : tA t' (v + 5) = tA t (v + 5)) (e5 : ∀ x, 77 ≤ x → x < 83 → a' x = a x) : DrW t' v a' K := by
  obtain ⟨w, h1, h2⟩ := h
  exact ⟨w, fun k hk => by rw [e1, e5 _ (by omega) (by omega)]; exact h1 k hk, h2⟩
theorem DrW_K {K' : Nat} (h : DrW t v a K) (hK : K ≤ K') : DrW t v a K' := by
  obtain ⟨w, h1, h2, h3⟩ := h
  exact ⟨w, h1, fun k j q => by have := h2 k j q; omega, h3⟩
theorem DrP_c (h : DrP t v a N K P fo) (e1 : tI t' v 4 = tI t v 4) (e2 : ∀ k, tI t' (v + 7) k = tI t (v + 7) k) (e3 : tA t' (v + 8) = tA t (v + 8)) (e4 : tA t' (v + 9) = tA t (v + 9)) (e5 : tA t' (v + 10) = tA t (v + 10)) (e6 : a' 4 = a 4) (e7 : ∀ x, 107 ≤ x → x < 128 → a' x = a x) : DrP t' v a' N K P fo := by
  have h6 := h.1.2.2
  refine ⟨⟨by rw [e1]; exact h.1.1, by rw [e6]; exact h.1.2.1, h6⟩, ⟨by rw [e2]; exact h.2.1.1, by rw [e7 _ (by omega) (by omega)]; exact h.2.1.2.1, h.2.1.2.2⟩, ⟨by rw [e2]; exact h.2.2.1.1, by rw [e7 _ (by omega) (by omega)]; exact h.2.2.1.2.1, by rw [e7 _ (by omega) (by omega)]; exact h.2.2.1.2.2⟩, fun p hp => ?_, fun p hp hp6 => ?_⟩
  · rw [e3, e4, e5, e7 (109 + p) (by omega) (by omega), e7 (115 + p) (by omega) (by omega), e7 (121 + p) (by omega) (by omega)]
    exact h.2.2.2.1 p hp
  · rw [e4, e7 (115 + p) (by omega) (by omega), e7 (121 + p) (by omega) (by omega)]
    exact h.2.2.2.2 p hp hp6
theorem DrP_K {K' : Nat} (h : DrP t v a N K P fo) (hK : K ≤ K') : DrP t v a N K' P fo := by
  refine ⟨h.1, h.2.1, h.2.2.1, fun p hp => ?_, h.2.2.2.2⟩
  obtain ⟨⟨h1, m, h2, h3⟩, h4, h5⟩ := h.2.2.2.1 p hp
  exact ⟨⟨h1, m, by omega, h3⟩, h4, h5⟩
theorem DrT_t (h : DrT t v (tA s 187) N U) (hU : U < 6) (hi : 1 ≤ i ∧ i ≤ 9) (E : Tne t s v U N i t' s') : DrT t' v (tA s' 187) N (U + 1) := by
  obtain ⟨⟨e1, e2⟩, e3, e4, ⟨e5, e6⟩, ⟨e7, e8, e9⟩, e10⟩ := E
  refine ⟨⟨e1, e7, by omega⟩, fun u hu => ?_⟩
  by_cases c : u = U
  · subst c
    exact ⟨i, hi, e5, e8, e10⟩
  · obtain ⟨k, h1, h2, h3, h4⟩ := h.2 u (by omega)
    refine ⟨k, h1, by rw [e6 u c]; exact h2, by rw [e9 _ (by omega) (by omega) (by omega)]; exact h3, fun j hj => ?_⟩
    rw [e4 _ (by omega), e9 _ (by omega) (by omega) (by omega)]
    exact h4 j hj
theorem DrK_t (h : DrK t v (tA s 187) N K) (hU : K < 6) (hi : 1 ≤ i ∧ i ≤ 4) (E : Pce t s v K N i t' s') : DrK t' v (tA s' 187) N (K + 1) := by
  obtain ⟨⟨e1, e2⟩, e3, e4, ⟨e5, e6⟩, ⟨e7, e8, e9⟩, e10⟩ := E
  refine ⟨⟨e1, e7, by omega⟩, fun u hu => ?_⟩
  by_cases c : u = K
  · subst c
    exact ⟨i, hi, e5, e8, e10⟩
  · obtain ⟨k, h1, h2, h3, h4⟩ := h.2 u (by omega)
    refine ⟨k, h1, by rw [e6 u c]; exact h2, by rw [e9 _ (by omega) (by omega) (by omega)]; exact h3, fun j hj => ?_⟩
    rw [e4 _ (by omega), e9 _ (by omega) (by omega) (by omega)]
    exact h4 j hj
theorem DrP_t {tz sz : Tb} (h : DrP t v (tA s 187) N K P fo) (hP : P < 6) (I : Psi t s v P N K fo tz sz) : ∃ fo', DrP (wi tz v 4 (nI (P + 1))) v (tA (wa sz 187 4 (nI (P + 1))) 187) N K (P + 1) fo' := by
  obtain ⟨i1, i2, i3, i4, i5, i6, i7, i8⟩ := I
  have ao : ∀ x, x ≠ 4 → tA (wa sz 187 4 (nI (P + 1))) 187 x = tA sz 187 x := fun x hx => by rw [tA_as, upd_n hx]
  obtain ⟨fo', f1, f2⟩ : ∃ fo', tA sz 187 108 = nI fo' ∧ fo' < 2 ^ (P + 1) := by
    have hf := h.2.1.2.2
    have h2 : 2 ^ P < 2 ^ (P + 1) := Nat.pow_lt_pow_right (by decide) (by omega)
    rcases i8.2 with q | q
    · exact ⟨fo, q, by omega⟩
    · exact ⟨fo ||| 2 ^ P, q, Nat.or_lt_two_pow (by omega) h2⟩
  refine ⟨fo', ⟨tI_is, by rw [tA_as, upd_s], by omega⟩, ⟨by rw [tI_ia (by omega), i8.1, f1], by rw [ao _ (by omega), f1], f2⟩, ⟨by rw [tI_ia (by omega), i1 (v + 7) 4 (by omega) (by omega)]; exact h.2.2.1.1, by rw [ao _ (by omega), i4 107 (by omega) (by omega) (by omega) (by omega)]; exact h.2.2.1.2.1, by rw [ao _ (by omega), i4 127 (by omega) (by omega) (by omega) (by omega)]; exact h.2.2.1.2.2⟩, fun p hp => ?_, fun p hp hp6 => ?_⟩
  · rw [tA_wi, ao _ (by omega), ao _ (by omega), ao _ (by omega)]
    by_cases c : p = P
    · subst c
      exact ⟨i5, i6, i7⟩
    · rw [(i3 p c).1, (i3 p c).2.1, (i3 p c).2.2, i4 (109 + p) (by omega) (by omega) (by omega) (by omega), i4 (115 + p) (by omega) (by omega) (by omega) (by omega), i4 (121 + p) (by omega) (by omega) (by omega) (by omega)]
      exact h.2.2.2.1 p (by omega)
  · rw [tA_wi, ao _ (by omega), ao _ (by omega), (i3 p (by omega)).2.1, i4 (115 + p) (by omega) (by omega) (by omega) (by omega), i4 (121 + p) (by omega) (by omega) (by omega) (by omega)]
    exact h.2.2.2.2 p (by omega) hp6
theorem DrW_t (h : DrW t v (tA s 187) K) (hK : K ≤ 6) (hx : x < K) (hy : y < K) (hxy : x ≠ y) (E : Wye t s v x y t' s') : DrW t' v (tA s' 187) K := by
  obtain ⟨w, h1, h2, h3⟩ := h
  obtain ⟨_, _, e3, e4⟩ := E
  have px : (1 : Int32) <<< (nI x &&& 31) = nI (2 ^ x) := bb_pow x (by omega)
  have py : (1 : Int32) <<< (nI y &&& 31) = nI (2 ^ y) := bb_pow y (by omega)
  refine ⟨fun k => if k = x then w x ||| 2 ^ y else if k = y then w y ||| 2 ^ x else w k, fun k hk => ?_, fun k j hb => ?_, fun k j => ?_⟩
  · rw [e3, e4]
    unfold or2
    rw [px, py, (h1 x (by omega)).1, (h1 x (by omega)).2, fa_or]
    dsimp only
    by_cases c1 : k = x
    · subst c1
      rw [upd_n hxy, upd_n (show 77 + k ≠ 77 + y by omega), upd_s, upd_s, if_pos rfl]
      exact ⟨rfl, rfl⟩
    · rw [if_neg c1]
      by_cases c2 : k = y
      · subst c2
        rw [upd_s, upd_s, upd_n c1, upd_n (show 77 + k ≠ 77 + x by omega), (h1 k hk).1, (h1 k hk).2, fa_or, if_pos rfl]
        exact ⟨rfl, rfl⟩
      · rw [upd_n c2, upd_n (show 77 + k ≠ 77 + y by omega), upd_n c1, upd_n (show 77 + k ≠ 77 + x by omega), if_neg c2]
        exact h1 k hk
  · dsimp only at hb
    by_cases c1 : k = x
    · rw [if_pos c1, Nat.testBit_or, Nat.testBit_two_pow, Bool.or_eq_true] at hb
      rcases hb with hb | hb
      · have := h2 x j hb; omega
      · have := of_decide_eq_true hb; omega
    · rw [if_neg c1] at hb
      by_cases c2 : k = y
      · rw [if_pos c2, Nat.testBit_or, Nat.testBit_two_pow, Bool.or_eq_true] at hb
        rcases hb with hb | hb
        · have := h2 y j hb; omega
        · have := of_decide_eq_true hb; omega
      · rw [if_neg c2] at hb
        exact h2 k j hb
  · have key : ∀ k j, ((if k = x then w x ||| 2 ^ y else if k = y then w y ||| 2 ^ x else w k).testBit j) = ((w k).testBit j || (decide (k = x ∧ j = y) || decide (k = y ∧ j = x))) := fun k j => by
      by_cases c1 : k = x
      · subst c1
        rw [if_pos rfl, Nat.testBit_or, Nat.testBit_two_pow, decide_eq_false (show ¬ (k = y ∧ j = k) from fun h => hxy h.1), Bool.or_false]
        congr 1
        exact decide_eq_decide.mpr ⟨fun h => ⟨rfl, h.symm⟩, fun h => h.2.symm⟩
      · rw [if_neg c1, decide_eq_false (show ¬ (k = x ∧ j = y) from fun h => c1 h.1), Bool.false_or]
        by_cases c2 : k = y
        · subst c2
          rw [if_pos rfl, Nat.testBit_or, Nat.testBit_two_pow]
          congr 1
          exact decide_eq_decide.mpr ⟨fun h => ⟨rfl, h.symm⟩, fun h => h.2.symm⟩
        · rw [if_neg c2, decide_eq_false (show ¬ (k = y ∧ j = x) from fun h => c2 h.1), Bool.or_false]
    show (if k = x then w x ||| 2 ^ y else if k = y then w y ||| 2 ^ x else w k).testBit j = (if j = x then w x ||| 2 ^ y else if j = y then w y ||| 2 ^ x else w j).testBit k
    rw [key, key, h3 k j]
    congr 1
    rw [Bool.or_comm]
    congr 1
    · exact decide_eq_decide.mpr ⟨fun h => ⟨h.2, h.1⟩, fun h => ⟨h.2, h.1⟩⟩
    · exact decide_eq_decide.mpr ⟨fun h => ⟨h.2, h.1⟩, fun h => ⟨h.2, h.1⟩⟩
end XDp
