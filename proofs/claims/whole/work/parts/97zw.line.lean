/-! ===== a line, both readers ===== -/
def DrL1 (g : Sk) (t : Tb) (v : Nat) (a : Nat → Int32) (nc l : Nat) : Prop := (a (5 + l) = nI 0 ∧ gR g v (12 + l) = none) ∨ (∃ w fr cl, (a (5 + l) = nI 1 ∧ a (7 + l) = nI fr ∧ a (9 + l) = nI cl ∧ fr + cl ≤ nc) ∧ gR g v (12 + l) = some w ∧ (v + 11 ≤ w ∧ LwS g w cl) ∧ (∀ k, k < cl → tA t (w + 1) k = nI (ccn l (tn (a (329 + fr + k))))) ∧ okc l (cdf a (329 + fr) cl) [])
def DrL (g : Sk) (t : Tb) (v : Nat) (a : Nat → Int32) (nc : Nat) : Prop := (a 328 = nI nc ∧ nc ≤ 900) ∧ DrL1 g t v a nc 0 ∧ DrL1 g t v a nc 1
/-- the draft as a whole -/
def Dra (g : Sk) (t : Tb) (v : Nat) (a : Nat → Int32) (nc : Nat) : Prop := ∃ N U K P fo, (tI t v 0 = nI N ∧ a 1 = nI N ∧ 2 ≤ N ∧ N ≤ 10) ∧ tI t v 1 = a 0 ∧ DrT t v a N U ∧ DrK t v a N K ∧ DrW t v a K ∧ DrP t v a N K P fo ∧ DrL g t v a nc
section XLn
variable {g g' g0 : Sk} {t t' s s' : Tb} {a a' : Nat → Int32} {v nc nc' l w m fr cl : Nat}
theorem LwS_v (G : Gv v g g') (L : LwS g w m) (hw : v < w) : LwS g' w m := by
  obtain ⟨h1, h2, h3, h4, h5⟩ := G
  obtain ⟨⟨l1, l2, l3⟩, l4, ⟨l5, l6, l7⟩, ⟨l8, l9⟩, ⟨l10, l11⟩, ⟨l12, l13⟩⟩ := L
  refine ⟨⟨l1, l2, by omega⟩, by rw [(h3 w (by omega)).1]; exact l4, ⟨?_, ?_, ?_⟩, ⟨?_, ?_⟩, ⟨?_, ?_⟩, ⟨?_, ?_⟩⟩
  · rw [h4 w 0 (by omega) (by omega)]; exact l5
  · rw [h4 w 1 (by omega) (by omega)]; exact l6
  · rw [h4 w 2 (by omega) (by omega)]; exact l7
  · rw [(h3 (w + 1) (by omega)).1]; exact l8
  · rw [(h3 (w + 1) (by omega)).2]; exact l9
  · rw [(h3 (w + 2) (by omega)).1]; exact l10
  · rw [(h3 (w + 2) (by omega)).2]; exact l11
  · rw [(h3 (w + 3) (by omega)).1]; exact l12
  · rw [(h3 (w + 3) (by omega)).2]; exact l13
theorem DrL1_c (h : DrL1 g t v a nc l) (hl : l < 2) (hn : nc ≤ nc') (hn9 : nc ≤ 900) (G : Gv v g g') (hR : gR g' v (12 + l) = gR g v (12 + l)) (hT : ∀ b, v ≤ b → b < gn g → tA t' b = tA t b ∨ b < v + 11) (e1 : ∀ x, 5 ≤ x → x < 11 → (x = 5 + l ∨ x = 7 + l ∨ x = 9 + l) → a' x = a x) (e2 : ∀ k, k < nc → a' (329 + k) = a (329 + k)) : DrL1 g' t' v a' nc' l := by
  rcases h with ⟨h1, h2⟩ | ⟨w, fr, cl, ⟨h1, h2, h3, h4⟩, h5, ⟨h6, h7⟩, h8, h9⟩
  · exact Or.inl ⟨by rw [e1 _ (by omega) (by omega) (by omega)]; exact h1, by rw [hR]; exact h2⟩
  · refine Or.inr ⟨w, fr, cl, ⟨by rw [e1 _ (by omega) (by omega) (by omega)]; exact h1, by rw [e1 _ (by omega) (by omega) (by omega)]; exact h2, by rw [e1 _ (by omega) (by omega) (by omega)]; exact h3, by omega⟩, by rw [hR]; exact h5, ⟨h6, LwS_v G h7 (by omega)⟩, fun k hk => ?_, ?_⟩
    · have hw := h7.1.2.2
      rcases hT (w + 1) (by omega) (by omega) with q | q
      · rw [q, show 329 + fr + k = 329 + (fr + k) by omega, e2 (fr + k) (by omega), show 329 + (fr + k) = 329 + fr + k by omega]
        exact h8 k hk
      · omega
    · rw [cdf_cg (f := a') (f' := a) cl (329 + fr) (fun j hj => by
        rw [show 329 + fr + j = 329 + (fr + j) by omega]
        exact e2 (fr + j) (by omega))]
      exact h9
end XLn
