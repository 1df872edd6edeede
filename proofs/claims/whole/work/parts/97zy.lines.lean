/-! ===== lines keep the draft ===== -/
section XLs
variable {g g0 : Sk} {t t' s s' : Tb} {a a' : Nat → Int32} {v nc N U K P fo i x y : Nat}
theorem DrL_c (h : DrL g t v a nc) (hT : ∀ b, v + 11 ≤ b → tA t' b = tA t b) (e1 : ∀ x, 5 ≤ x → x < 11 → a' x = a x) (e2 : ∀ x, 328 ≤ x → a' x = a x) : DrL g t' v a' nc := by
  obtain ⟨⟨h1, h2⟩, h3, h4⟩ := h
  have hT' : ∀ b, v ≤ b → b < gn g → tA t' b = tA t b ∨ b < v + 11 := fun b _ _ => by
    by_cases c : v + 11 ≤ b
    · exact Or.inl (hT b c)
    · exact Or.inr (by omega)
  exact ⟨⟨by rw [e2 328 (by omega)]; exact h1, h2⟩, DrL1_c h3 (by decide) (Nat.le_refl _) h2 Gv_r rfl hT' (fun x q1 q2 _ => e1 x q1 q2) (fun k _ => e2 _ (by omega)), DrL1_c h4 (by decide) (Nat.le_refl _) h2 Gv_r rfl hT' (fun x q1 q2 _ => e1 x q1 q2) (fun k _ => e2 _ (by omega))⟩
theorem Dra_e (A : Dra g t v a nc) (h1 : tI t' v 1 = tI t v 1 + 1) (h2 : ∀ b k, v ≤ b → ¬ (b = v ∧ k = 1) → tI t' b k = tI t b k) (h3 : ∀ b, v ≤ b → tA t' b = tA t b) : Dra g t' v (upd a 0 (a 0 + 1)) nc := by
  obtain ⟨N, U, K, P, fo, ⟨n1, n2, n3, n4⟩, z, hT, hK, hW, hP, hL⟩ := A
  have u : ∀ x, x ≠ 0 → upd a 0 (a 0 + 1) x = a x := fun x hx => upd_n hx
  refine ⟨N, U, K, P, fo, ⟨by rw [h2 v 0 (Nat.le_refl _) (by omega)]; exact n1, by rw [u 1 (by decide)]; exact n2, n3, n4⟩, by rw [h1, upd_s, z], ?_, ?_, ?_, ?_, ?_⟩
  · exact DrT_c hT (h2 _ _ (Nat.le_refl _) (by omega)) (h3 _ (by omega)) (h3 _ (by omega)) (u 2 (by decide)) (fun x _ _ => u x (by omega))
  · exact DrK_c hK (h2 _ _ (Nat.le_refl _) (by omega)) (h3 _ (by omega)) (h3 _ (by omega)) (u 3 (by decide)) (fun x _ _ => u x (by omega)) (fun x _ _ => u x (by omega))
  · exact DrW_c hW (h3 _ (by omega)) (fun x _ _ => u x (by omega))
  · exact DrP_c hP (h2 _ _ (Nat.le_refl _) (by omega)) (fun k => h2 _ _ (by omega) (by omega)) (h3 _ (by omega)) (h3 _ (by omega)) (h3 _ (by omega)) (u 4 (by decide)) (fun x _ _ => u x (by omega))
  · exact DrL_c hL (fun b hb => h3 b (by omega)) (fun x _ _ => u x (by omega)) (fun x _ => u x (by omega))
/-- what holds of the draft, its numbers told -/
def Drn (g : Sk) (t : Tb) (v : Nat) (a : Nat → Int32) (nc N U K P fo : Nat) : Prop := (tI t v 0 = nI N ∧ a 1 = nI N ∧ 2 ≤ N ∧ N ≤ 10) ∧ tI t v 1 = a 0 ∧ DrT t v a N U ∧ DrK t v a N K ∧ DrW t v a K ∧ DrP t v a N K P fo ∧ DrL g t v a nc
theorem Drn_t (A : Drn g t v (tA s 187) nc N U K P fo) (hU : U < 6) (hi : 1 ≤ i ∧ i ≤ 9) (E : Tne t s v U N i t' s') : Drn g t' v (tA s' 187) nc N (U + 1) K P fo := by
  obtain ⟨⟨n1, n2, n3, n4⟩, z, hT, hK, hW, hP, hL⟩ := A
  have hT' := DrT_t hT hU hi E
  obtain ⟨⟨_, e2⟩, e3, _, _, ⟨_, _, e9⟩, _⟩ := E
  have u : ∀ x, x < 11 ∨ 71 ≤ x → x ≠ 2 → tA s' 187 x = tA s 187 x := fun x hx h => e9 x h (by omega) (by omega)
  refine ⟨⟨by rw [e2 v 0 (Nat.le_refl _) (by omega)]; exact n1, by rw [u 1 (by omega) (by decide)]; exact n2, n3, n4⟩, by rw [e2 v 1 (Nat.le_refl _) (by omega), u 0 (by omega) (by decide)]; exact z, hT', ?_, ?_, ?_, ?_⟩
  · exact DrK_c hK (e2 _ _ (Nat.le_refl _) (by omega)) (e3 _ (by omega) (by omega) (by omega)) (e3 _ (by omega) (by omega) (by omega)) (u 3 (by omega) (by decide)) (fun x _ _ => u x (by omega) (by omega)) (fun x _ _ => u x (by omega) (by omega))
  · exact DrW_c hW (e3 _ (by omega) (by omega) (by omega)) (fun x _ _ => u x (by omega) (by omega))
  · exact DrP_c hP (e2 _ _ (Nat.le_refl _) (by omega)) (fun k => e2 _ _ (by omega) (by omega)) (e3 _ (by omega) (by omega) (by omega)) (e3 _ (by omega) (by omega) (by omega)) (e3 _ (by omega) (by omega) (by omega)) (u 4 (by omega) (by decide)) (fun x _ _ => u x (by omega) (by omega))
  · exact DrL_c hL (fun b hb => e3 b (by omega) (by omega) (by omega)) (fun x _ _ => u x (by omega) (by omega)) (fun x _ => u x (by omega) (by omega))
theorem Drn_k (A : Drn g t v (tA s 187) nc N U K P fo) (hU : K < 6) (hi : 1 ≤ i ∧ i ≤ 4) (E : Pce t s v K N i t' s') : Drn g t' v (tA s' 187) nc N U (K + 1) P fo := by
  obtain ⟨⟨n1, n2, n3, n4⟩, z, hT, hK, hW, hP, hL⟩ := A
  have hK' := DrK_t hK hU hi E
  obtain ⟨⟨_, e2⟩, e3, _, _, ⟨_, _, e9⟩, _⟩ := E
  have u : ∀ x, x < 71 ∨ (77 ≤ x ∧ x < 83) ∨ 107 ≤ x → x ≠ 3 → tA s' 187 x = tA s 187 x := fun x hx h => e9 x h (by omega) (by omega)
  refine ⟨⟨by rw [e2 v 0 (Nat.le_refl _) (by omega)]; exact n1, by rw [u 1 (by omega) (by decide)]; exact n2, n3, n4⟩, by rw [e2 v 1 (Nat.le_refl _) (by omega), u 0 (by omega) (by decide)]; exact z, ?_, hK', ?_, ?_, ?_⟩
  · exact DrT_c hT (e2 _ _ (Nat.le_refl _) (by omega)) (e3 _ (by omega) (by omega) (by omega)) (e3 _ (by omega) (by omega) (by omega)) (u 2 (by omega) (by decide)) (fun x _ _ => u x (by omega) (by omega))
  · exact DrW_K (DrW_c hW (e3 _ (by omega) (by omega) (by omega)) (fun x _ _ => u x (by omega) (by omega))) (by omega)
  · exact DrP_K (DrP_c hP (e2 _ _ (Nat.le_refl _) (by omega)) (fun k => e2 _ _ (by omega) (by omega)) (e3 _ (by omega) (by omega) (by omega)) (e3 _ (by omega) (by omega) (by omega)) (e3 _ (by omega) (by omega) (by omega)) (u 4 (by omega) (by decide)) (fun x _ _ => u x (by omega) (by omega))) (by omega)
  · exact DrL_c hL (fun b hb => e3 b (by omega) (by omega) (by omega)) (fun x _ _ => u x (by omega) (by omega)) (fun x _ => u x (by omega) (by omega))
theorem Drn_w (A : Drn g t v (tA s 187) nc N U K P fo) (hx : x < K) (hy : y < K) (hxy : x ≠ y) (E : Wye t s v x y t' s') : Drn g t' v (tA s' 187) nc N U K P fo := by
  obtain ⟨⟨n1, n2, n3, n4⟩, z, hT, hK, hW, hP, hL⟩ := A
  have hK6 := hK.1.2.2
  have hW' := DrW_t hW hK6 hx hy hxy E
  obtain ⟨e2, e3, _, e9⟩ := E
  have u : ∀ x, x < 77 ∨ 83 ≤ x → tA s' 187 x = tA s 187 x := fun x hx => by rw [e9]; exact or2_o (by omega) (by omega)
  refine ⟨⟨by rw [e2 v 0 (Nat.le_refl _)]; exact n1, by rw [u 1 (by omega)]; exact n2, n3, n4⟩, by rw [e2 v 1 (Nat.le_refl _), u 0 (by omega)]; exact z, ?_, ?_, hW', ?_, ?_⟩
  · exact DrT_c hT (e2 _ _ (Nat.le_refl _)) (e3 _ (by omega) (by omega)) (e3 _ (by omega) (by omega)) (u 2 (by omega)) (fun x _ _ => u x (by omega))
  · exact DrK_c hK (e2 _ _ (Nat.le_refl _)) (e3 _ (by omega) (by omega)) (e3 _ (by omega) (by omega)) (u 3 (by omega)) (fun x _ _ => u x (by omega)) (fun x _ _ => u x (by omega))
  · exact DrP_c hP (e2 _ _ (Nat.le_refl _)) (fun k => e2 _ _ (by omega)) (e3 _ (by omega) (by omega)) (e3 _ (by omega) (by omega)) (e3 _ (by omega) (by omega)) (u 4 (by omega)) (fun x _ _ => u x (by omega))
  · exact DrL_c hL (fun b hb => e3 b (by omega) (by omega)) (fun x _ _ => u x (by omega)) (fun x _ => u x (by omega))
theorem Drn_p {tz sz : Tb} (A : Drn g t v (tA s 187) nc N U K P fo) (hP6 : P < 6) (I : Psi t s v P N K fo tz sz) : ∃ fo', Drn g (wi tz v 4 (nI (P + 1))) v (tA (wa sz 187 4 (nI (P + 1))) 187) nc N U K (P + 1) fo' := by
  obtain ⟨⟨n1, n2, n3, n4⟩, z, hT, hK, hW, hP, hL⟩ := A
  obtain ⟨fo', hP'⟩ := DrP_t hP hP6 I
  obtain ⟨i1, i2, _, i4, _⟩ := I
  have u : ∀ x, x < 107 ∨ 127 ≤ x → x ≠ 4 → tA (wa sz 187 4 (nI (P + 1))) 187 x = tA s 187 x := fun x hx h => by rw [tA_as, upd_n h]; exact i4 x (by omega) (by omega) (by omega) (by omega)
  have e2 : ∀ k, k ≠ 4 → tI (wi tz v 4 (nI (P + 1))) v k = tI t v k := fun k hk => by rw [tI_ik hk]; exact i1 v k (Nat.le_refl _) (by omega)
  have e3 : ∀ b, v ≤ b → b ≠ v + 8 → b ≠ v + 9 → b ≠ v + 10 → tA (wi tz v 4 (nI (P + 1))) b = tA t b := fun b h1 h2 h3 h4 => by rw [tA_wi]; exact i2 b h1 h2 h3 h4
  refine ⟨fo', ⟨by rw [e2 0 (by decide)]; exact n1, by rw [u 1 (by omega) (by decide)]; exact n2, n3, n4⟩, by rw [e2 1 (by decide), u 0 (by omega) (by decide)]; exact z, ?_, ?_, ?_, hP', ?_⟩
  · exact DrT_c hT (e2 _ (by decide)) (e3 _ (by omega) (by omega) (by omega) (by omega)) (e3 _ (by omega) (by omega) (by omega) (by omega)) (u 2 (by omega) (by decide)) (fun x _ _ => u x (by omega) (by omega))
  · exact DrK_c hK (e2 _ (by decide)) (e3 _ (by omega) (by omega) (by omega) (by omega)) (e3 _ (by omega) (by omega) (by omega) (by omega)) (u 3 (by omega) (by decide)) (fun x _ _ => u x (by omega) (by omega)) (fun x _ _ => u x (by omega) (by omega))
  · exact DrW_c hW (e3 _ (by omega) (by omega) (by omega) (by omega)) (fun x _ _ => u x (by omega) (by omega))
  · exact DrL_c hL (fun b hb => e3 b (by omega) (by omega) (by omega) (by omega)) (fun x _ _ => u x (by omega) (by omega)) (fun x _ => u x (by omega) (by omega))
end XLs
