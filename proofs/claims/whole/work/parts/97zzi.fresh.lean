/-! ===== the draft is a valley ===== -/
section XFr
variable {g : Sk} {t t' : Tb} {a : Nat → Int32} {v nc D : Nat}
theorem DrL1_1 {l : Nat} (h : DrL1 g t v a nc l) (hn : nc ≤ 900) : (a (5 + l) = nI 0 ∧ gR g v (12 + l) = none) ∨ (a (5 + l) = nI 1 ∧ a (7 + l) = nI (vFr a l) ∧ a (9 + l) = nI (vMa a l) ∧ vFr a l + vMa a l ≤ 900 ∧ okc l (cds a l) [] ∧ ∃ w, gR g v (12 + l) = some w ∧ v + 11 ≤ w ∧ LwP g t w a l) := by
  rcases h with h | ⟨w, fr, cl, ⟨h1, h2, h3, h4⟩, h5, ⟨h6, h7⟩, h8, h9⟩
  · exact Or.inl h
  · have e1 : vFr a l = fr := by unfold vFr; rw [h2, tn_n (by omega)]
    have e2 : vMa a l = cl := by unfold vMa; rw [h3, tn_n (by omega)]
    refine Or.inr ⟨h1, by rw [e1]; exact h2, by rw [e2]; exact h3, by omega, ?_, w, h5, h6, ?_, ?_⟩
    · unfold cds
      rw [e1, e2]
      exact h9
    · rw [e2]; exact h7
    · rw [e1, e2]; exact h8
theorem Dra_F (A : Dra g t v a nc) : Fol g t v a := by
  obtain ⟨N, U, K, P, fo, _, _, _, _, _, _, hL⟩ := A
  rcases DrL1_1 hL.2.2 hL.1.2 with h | ⟨h1, _, _, _, h5, w, h6, h7, h8⟩
  · exact Or.inl h
  · refine Or.inr ⟨?_, w, h6, h7, h8, h5⟩
    rw [show a 6 = nI 1 from h1]
    decide
theorem Dra_N (A : Dra g t v a nc) : tI t v 0 = nI (vN a) ∧ vN a ≤ 10 := by
  obtain ⟨N, U, K, P, fo, ⟨n1, n2, n3, n4⟩, _⟩ := A
  have e : vN a = N := by unfold vN; rw [n2, tn_n (by omega)]
  rw [e]
  exact ⟨n1, n4⟩
theorem Dra_W (A : Dra g t v a nc) (hD : D < 2 ^ 30) : WA a D := by
  obtain ⟨N, U, K, P, fo, ⟨n1, n2, n3, n4⟩, z, hT, hK, hW, hP, hL⟩ := A
  have eN : vN a = N := by unfold vN; rw [n2, tn_n (by omega)]
  have eT : vT a = U := by have := hT.1.2.2; unfold vT; rw [hT.1.2.1, tn_n (by omega)]
  have eK : vK a = K := by have := hK.1.2.2; unfold vK; rw [hK.1.2.1, tn_n (by omega)]
  have eP : vP a = P := by have := hP.1.2.2; unfold vP; rw [hP.1.2.1, tn_n (by omega)]
  have hU6 := hT.1.2.2
  have hK6 := hK.1.2.2
  have hP6 := hP.1.2.2
  refine ⟨⟨⟨⟨by rw [eN]; exact n2, by omega, by omega⟩, ⟨by rw [eT]; exact hT.1.2.1, by omega⟩, ⟨by rw [eK]; exact hK.1.2.1, by omega⟩, ⟨by rw [eP]; exact hP.1.2.1, by omega⟩⟩, fun u hu => ?_, fun k hk => ?_, fun l hl => ?_⟩, ⟨?_, ?_, fun p hp => ?_⟩, hD⟩
  · obtain ⟨i, ⟨i1, i9⟩, h2, h3, h4⟩ := hT.2 u (by omega)
    have eL : vLg a u = i := by unfold vLg; rw [h3, tn_n (by omega)]
    refine ⟨⟨by rw [eL]; exact h3, by omega, by omega⟩, fun j hj => ?_⟩
    obtain ⟨_, m, m1, m2⟩ := h4 j (by omega)
    have eM : vNt a u j = m := by unfold vNt; rw [m2, tn_n (by omega)]
    exact ⟨by rw [eM]; exact m2, by omega⟩
  · obtain ⟨i, ⟨i1, i4⟩, h2, h3, h4⟩ := hK.2 k (by omega)
    obtain ⟨w, w1, w2, w3⟩ := hW
    have eC : vCo a k = i := by unfold vCo; rw [h3, tn_n (by omega)]
    have wl : ∀ k, w k < 2 ^ K := fun k => Nat.lt_pow_two_of_testBit _ (fun j hj => by
      cases hb : (w k).testBit j with
      | false => rfl
      | true => have := w2 k j hb; omega)
    have p6 : 2 ^ K ≤ 2 ^ 6 := Nat.pow_le_pow_right (by decide) hK6
    have eW : ∀ k, k < 6 → vWy a k = w k := fun k hk => by
      have := wl k
      unfold vWy
      rw [(w1 k hk).2, tn_n (by omega)]
    refine ⟨⟨by rw [eC]; exact h3, by omega, by omega⟩, fun j hj => ?_, ⟨by rw [eW k (by omega)]; exact (w1 k (by omega)).2, by rw [eW k (by omega), eK]; exact wl k⟩, fun j hj => ?_, ?_⟩
    · obtain ⟨_, m, m1, m2⟩ := h4 j (by omega)
      have eM : vSd a k j = m := by unfold vSd; rw [m2, tn_n (by omega)]
      exact ⟨by rw [eM]; exact m2, by omega⟩
    · rw [eW k (by omega), eW j (by omega)]
      exact w3 k j
    · rw [eW k (by omega)]
      cases hb : (w k).testBit k with
      | false => rfl
      | true => exact absurd rfl (w2 k k hb).2.2
  · have hd : DrL1 g t v a nc l := by
      rcases (show l = 0 ∨ l = 1 by omega) with rfl | rfl
      · exact hL.2.1
      · exact hL.2.2
    rcases DrL1_1 hd hL.1.2 with h | ⟨h1, h2, h3, h4, h5, _⟩
    · exact Or.inl h.1
    · exact Or.inr ⟨h1, h2, h3, h4, h5⟩
  · have e : vDy a = 0 := by unfold vDy; rw [hP.2.2.1.2.1, tn_n (by omega)]
    rw [e]
    exact ⟨hP.2.2.1.2.1, Nat.zero_le _⟩
  · have p6 : 2 ^ P ≤ 2 ^ 6 := Nat.pow_le_pow_right (by decide) hP6
    have hf := hP.2.1.2.2
    have e : vFo a = fo := by unfold vFo; rw [hP.2.1.2.1, tn_n (by omega)]
    rw [e, eP]
    exact ⟨hP.2.1.2.1, hf⟩
  · obtain ⟨⟨_, m, m1, m2⟩, ⟨_, q, q1, q2⟩, _, r⟩ := hP.2.2.2.1 p (by omega)
    have e1 : vAt a p = m := by unfold vAt; rw [m2, tn_n (by omega)]
    have e2 : vEa a p = q := by unfold vEa; rw [q2, tn_n (by omega)]
    refine ⟨⟨by rw [e1]; exact m2, by omega⟩, ⟨by rw [e2]; exact q2, by omega⟩, ?_⟩
    rcases r with r | ⟨b, b1, b2⟩
    · exact Or.inl r
    · have hne : ¬ a (121 + p) = -nI 1 := by
        rw [b2]
        intro h
        have h2 : nI 0 ≤ nI b := (nI_leI (by decide) (by omega)).mpr (Nat.zero_le _)
        rw [h] at h2
        exact absurd h2 (by decide)
      have e3 : vBl a p = b := by unfold vBl; rw [if_neg hne, b2, tn_n (by omega)]
      exact Or.inr ⟨by rw [e3]; exact b2, by omega⟩
theorem Dra_V (A : Dra g t v a nc) (V : VaS g v) (hv : 205 ≤ v) (h31 : ∀ j, 8 ≤ j → j ≤ 10 → gS g (v + j) = 31) (s : Sw (P6 v) g t t') (hf : ∀ i, i < vN a → tA t' (v + 6) i = nI (mk (fol a i) (vN a))) : VaP g t' v a ∧ StP t' (v + 7) (vP a) a 107 ∧ a 127 = nI 0 := by
  obtain ⟨N, U, K, P, fo, ⟨n1, n2, n3, n4⟩, z, hT, hK, hW, hP, hL⟩ := A
  have eT : vT a = U := by have := hT.1.2.2; unfold vT; rw [hT.1.2.1, tn_n (by omega)]
  have eK : vK a = K := by have := hK.1.2.2; unfold vK; rw [hK.1.2.1, tn_n (by omega)]
  have eP : vP a = P := by have := hP.1.2.2; unfold vP; rw [hP.1.2.1, tn_n (by omega)]
  have hU6 := hT.1.2.2
  have hK6 := hK.1.2.2
  have hP6 := hP.1.2.2
  have ti : ∀ b k, 205 ≤ b → b ≠ v + 6 → tI t' b k = tI t b k := fun b k h1 h2 => s.1 b k (by unfold P6; rw [decide_eq_false_iff_not]; exact h2) (sI_v (Or.inr h1))
  have ta : ∀ j, 1 ≤ j → j ≤ 5 → tA t' (v + j) = tA t (v + j) := fun j h1 h2 => s.2.1 (v + j) (by unfold P6; rw [decide_eq_false_iff_not]; omega) (sA_v V h1 (by omega))
  have tb : ∀ j, 8 ≤ j → j ≤ 10 → tA t' (v + j) = tA t (v + j) := fun j h1 h2 => s.2.1 (v + j) (by unfold P6; rw [decide_eq_false_iff_not]; omega) (sc_n (by rw [h31 j h1 h2]; decide) (by rw [h31 j h1 h2]; decide) (sc_205 (by omega)))
  refine ⟨⟨⟨?_, ?_, ?_, ?_, ?_⟩, fun u hu => ?_, fun k hk => ?_, hf, ?_⟩, ⟨⟨?_, ?_⟩, fun p hp => ?_⟩, hP.2.2.1.2.2⟩
  · rw [ti v 0 hv (by omega), n1, n2]
  · rw [ti v 1 hv (by omega), z]
  · rw [ti v 2 hv (by omega), hT.1.1, hT.1.2.1]
  · rw [ti v 3 hv (by omega), hK.1.1, hK.1.2.1]
  · rw [ti v 4 hv (by omega), hP.1.1, hP.1.2.1]
  · obtain ⟨i, ⟨i1, i9⟩, h2, h3, h4⟩ := hT.2 u (by omega)
    have eL : vLg a u = i := by unfold vLg; rw [h3, tn_n (by omega)]
    refine ⟨by rw [ta 2 (by omega) (by omega), h2, h3], fun j hj => ?_⟩
    rw [ta 1 (by omega) (by omega)]
    exact (h4 j (by omega)).1
  · obtain ⟨i, ⟨i1, i4⟩, h2, h3, h4⟩ := hK.2 k (by omega)
    obtain ⟨w, w1, w2, w3⟩ := hW
    have eC : vCo a k = i := by unfold vCo; rw [h3, tn_n (by omega)]
    refine ⟨by rw [ta 4 (by omega) (by omega), h2, h3], by rw [ta 5 (by omega) (by omega), (w1 k (by omega)).1, (w1 k (by omega)).2], fun j hj => ?_⟩
    rw [ta 3 (by omega) (by omega)]
    exact (h4 j (by omega)).1
  · rcases DrL1_1 hL.2.1 hL.1.2 with h | ⟨h1, _, _, _, _, w, h6, h7, h8⟩
    · exact Or.inl h
    · refine Or.inr ⟨?_, w, h6, h8.1, fun k hk => ?_⟩
      · rw [show a 5 = nI 1 from h1]; decide
      · rw [s.2.1 (w + 1) (by unfold P6; rw [decide_eq_false_iff_not]; omega) (sc_n (by rw [h8.1.2.2.2.1.1]; decide) (by rw [h8.1.2.2.2.1.1]; decide) (sc_205 (by omega)))]
        exact h8.2 k hk
  · rw [ti (v + 7) 3 (by omega) (by omega), hP.2.1.1, hP.2.1.2.1]
  · rw [ti (v + 7) 4 (by omega) (by omega), hP.2.2.1.1, hP.2.2.1.2.1]
  · obtain ⟨⟨m1, _⟩, ⟨q1, _⟩, r1, _⟩ := hP.2.2.2.1 p (by omega)
    have e8 : tA t' (v + 7 + 1) = tA t (v + 8) := tb 8 (by omega) (by omega)
    have e9 : tA t' (v + 7 + 2) = tA t (v + 9) := tb 9 (by omega) (by omega)
    have e10 : tA t' (v + 7 + 3) = tA t (v + 10) := tb 10 (by omega) (by omega)
    rw [e8, e9, e10]
    exact ⟨m1, q1, r1⟩
end XFr
