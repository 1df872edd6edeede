/-! ===== a law line, both readers ===== -/
section XLb
variable {g g' g0 : Sk} {t t1 t' s s1 s' : Tb} {T : Nat → Int32} {n b e km v nc l cl x : Nat}
theorem VaS_v (G : Gv v g g') (V : VaS g v) : VaS g' v := by
  have hv := V.1
  have hg := v_gn V
  obtain ⟨h1, h2, h3, h4, h5⟩ := G
  obtain ⟨l1, l2, ⟨l3, l4, l5, l6, l7, l8, l9⟩, ⟨a1, b1⟩, ⟨a2, b2⟩, ⟨a3, b3⟩, ⟨a4, b4⟩, ⟨a5, b5⟩, ⟨a6, b6⟩, l10⟩ := V
  refine ⟨l1, by rw [(h3 v (by omega)).1]; exact l2, ⟨?_, ?_, ?_, ?_, ?_, ?_, ?_⟩, ⟨?_, ?_⟩, ⟨?_, ?_⟩, ⟨?_, ?_⟩, ⟨?_, ?_⟩, ⟨?_, ?_⟩, ⟨?_, ?_⟩, by omega⟩
  · rw [h4 v 5 (by omega) (by omega)]; exact l3
  · rw [h4 v 6 (by omega) (by omega)]; exact l4
  · rw [h4 v 7 (by omega) (by omega)]; exact l5
  · rw [h4 v 8 (by omega) (by omega)]; exact l6
  · rw [h4 v 9 (by omega) (by omega)]; exact l7
  · rw [h4 v 10 (by omega) (by omega)]; exact l8
  · rw [h4 v 11 (by omega) (by omega)]; exact l9
  · rw [(h3 (v + 1) (by omega)).1]; exact a1
  · rw [(h3 (v + 1) (by omega)).2]; exact b1
  · rw [(h3 (v + 2) (by omega)).1]; exact a2
  · rw [(h3 (v + 2) (by omega)).2]; exact b2
  · rw [(h3 (v + 3) (by omega)).1]; exact a3
  · rw [(h3 (v + 3) (by omega)).2]; exact b3
  · rw [(h3 (v + 4) (by omega)).1]; exact a4
  · rw [(h3 (v + 4) (by omega)).2]; exact b4
  · rw [(h3 (v + 5) (by omega)).1]; exact a5
  · rw [(h3 (v + 5) (by omega)).2]; exact b5
  · rw [(h3 (v + 6) (by omega)).1]; exact a6
  · rw [(h3 (v + 6) (by omega)).2]; exact b6
theorem DS_v (X : Fx g) (G : Gv v g g') (D : DS g v) : DS g' v := by
  have hg := v_gn D.1
  have h205 := x_205 X
  have V := VaS_v G D.1
  obtain ⟨_, hv, Z, r⟩ := D
  obtain ⟨h1, h2, h3, h4, h5⟩ := G
  refine ⟨V, hv, ⟨Z.1, ?_, ⟨?_, ?_, ?_⟩, ⟨?_, ?_⟩, ⟨?_, ?_⟩, ⟨?_, ?_⟩⟩, ?_⟩
  · rw [(h3 (v + 7) (by omega)).1]; exact Z.2.1
  · rw [h4 (v + 7) 0 (by omega) (by omega)]; exact Z.2.2.1.1
  · rw [h4 (v + 7) 1 (by omega) (by omega)]; exact Z.2.2.1.2.1
  · rw [h4 (v + 7) 2 (by omega) (by omega)]; exact Z.2.2.1.2.2
  · rw [(h3 (v + 7 + 1) (by omega)).1]; exact Z.2.2.2.1.1
  · rw [(h3 (v + 7 + 1) (by omega)).2]; exact Z.2.2.2.1.2
  · rw [(h3 (v + 7 + 2) (by omega)).1]; exact Z.2.2.2.2.1.1
  · rw [(h3 (v + 7 + 2) (by omega)).2]; exact Z.2.2.2.2.1.2
  · rw [(h3 (v + 7 + 3) (by omega)).1]; exact Z.2.2.2.2.2.1
  · rw [(h3 (v + 7 + 3) (by omega)).2]; exact Z.2.2.2.2.2.2
  · rw [h4 70 10 (by omega) (by omega)]; exact r
def gLv (g : Sk) (v l cl : Nat) : Sk := gsr (gLw g cl) v (12 + l) (some (gn g))
theorem Gv_L (hl : l < 2) : Gv v g (gLv g v l cl) := Gv_t Gv_Lw (Gv_sv (by omega))
theorem Fdw_L (hv : v < gn g) : Fdw v t (tLw g t cl) := ⟨fun b k hb => tLw_I (by omega), fun b hb => tLw_A (by omega), rfl⟩
/-- the draft after a law -/
theorem Dra_l (X : Fx g) (D : DS g v) (hl : l < 2) (hcl : cl < 900) (A : Dra g t v (tA s 187) nc) (di : ∀ b k, v ≤ b → tI t' b k = tI t b k) (da : ∀ b, v ≤ b → tA t' b = tA t b) (h9 : nc + cl ≤ 900) (hs : ∀ k, k < cl → tA t' 72 k = nI (ccn l (tn (tA s' 187 (329 + nc + k))))) (hw : tA s' 187 (5 + l) = nI 1 ∧ tA s' 187 (7 + l) = nI nc ∧ tA s' 187 (9 + l) = nI cl ∧ tA s' 187 328 = nI (nc + cl)) (ho : okc l (cdf (tA s' 187) (329 + nc) cl) []) (hx : ∀ x, x < 328 → x ≠ 5 + l → x ≠ 7 + l → x ≠ 9 + l → tA s' 187 x = tA s 187 x) (hk : ∀ k, k < nc → tA s' 187 (329 + k) = tA s 187 (329 + k)) : Dra (gLv g v l cl) (tLw g t' cl) v (tA s' 187) (nc + cl) := by
  have hg := v_gn D.1
  have hv := D.2.1
  have h205 := x_205 X
  have ti : ∀ b k, v ≤ b → b < gn g → tI (tLw g t' cl) b k = tI t b k := fun b k h1 h2 => by rw [tLw_I (by omega)]; exact di b k h1
  have ta : ∀ b, v ≤ b → b < gn g → tA (tLw g t' cl) b = tA t b := fun b h1 h2 => by rw [tLw_A h2]; exact da b h1
  obtain ⟨N, U, K, P, fo, ⟨n1, n2, n3, n4⟩, z, hT, hK, hW, hP, hL⟩ := A
  have u : ∀ x, x < 5 ∨ (11 ≤ x ∧ x < 328) → tA s' 187 x = tA s 187 x := fun x h => hx x (by omega) (by omega) (by omega) (by omega)
  refine ⟨N, U, K, P, fo, ⟨by rw [ti v 0 (Nat.le_refl _) (by omega)]; exact n1, by rw [u 1 (by omega)]; exact n2, n3, n4⟩, by rw [ti v 1 (Nat.le_refl _) (by omega), u 0 (by omega)]; exact z, ?_, ?_, ?_, ?_, ?_⟩
  · exact DrT_c hT (ti _ _ (Nat.le_refl _) (by omega)) (ta _ (by omega) (by omega)) (ta _ (by omega) (by omega)) (u 2 (by omega)) (fun x _ _ => u x (by omega))
  · exact DrK_c hK (ti _ _ (Nat.le_refl _) (by omega)) (ta _ (by omega) (by omega)) (ta _ (by omega) (by omega)) (u 3 (by omega)) (fun x _ _ => u x (by omega)) (fun x _ _ => u x (by omega))
  · exact DrW_c hW (ta _ (by omega) (by omega)) (fun x _ _ => u x (by omega))
  · exact DrP_c hP (ti _ _ (Nat.le_refl _) (by omega)) (fun k => ti _ _ (by omega) (by omega)) (ta _ (by omega) (by omega)) (ta _ (by omega) (by omega)) (ta _ (by omega) (by omega)) (u 4 (by omega)) (fun x _ _ => u x (by omega))
  · have new : DrL1 (gLv g v l cl) (tLw g t' cl) v (tA s' 187) (nc + cl) l := Or.inr ⟨gn g, nc, cl, ⟨hw.1, hw.2.1, hw.2.2.1, Nat.le_refl _⟩, gsr_Rs, ⟨hg, LwS_v (Gv_sv (by omega)) (LwS_Lw h205 (by omega)) (by omega)⟩, fun k hk => by rw [tLw_s hk]; exact hs k hk, ho⟩
    have old : ∀ l', l' < 2 → l' ≠ l → DrL1 g t v (tA s 187) nc l' → DrL1 (gLv g v l cl) (tLw g t' cl) v (tA s' 187) (nc + cl) l' := fun l' h1 h2 h => by
      refine DrL1_c h h1 (by omega) hL.1.2 (Gv_L hl) ?_ (fun b q1 q2 => Or.inl (ta b q1 q2)) (fun x q1 q2 q3 => hx x (by omega) (by omega) (by omega) (by omega)) hk
      show gR (gsr (gLw g cl) v (12 + l) (some (gn g))) v (12 + l') = gR g v (12 + l')
      rw [gsr_Rk (by omega), gLw_R, up2_a (by omega), up2_a (by omega), up2_a (by omega), up1_n (by omega)]
    refine ⟨⟨hw.2.2.2, h9⟩, ?_⟩
    rcases (show l = 0 ∨ l = 1 by omega) with rfl | rfl
    · exact ⟨new, old 1 (by decide) (by decide) hL.2.2⟩
    · exact ⟨old 0 (by decide) (by decide) hL.2.1, new⟩
end XLb
