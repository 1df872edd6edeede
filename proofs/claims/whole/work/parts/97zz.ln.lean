/-! ===== a line that is no law, both readers ===== -/
def LnR (g : Sk) (t : Tb) (g0 : Sk) (s : Tb) (T : Nat → Int32) (n b v nc : Nat) (t' s' : Tb) : Prop := Kv v t t' ∧ Kn s s' ∧ ((∃ b' e' km', Lv g t' g0 s' T n b' e' km' ∧ b < b' ∧ Dra g t' v (tA s' 187) nc) ∨ (∃ f p, b ≤ p ∧ Nc t' T n f p ∧ Nm s' T n f p nc))
section XLa
variable {g g0 : Sk} {t t1 t' s s1 s' : Tb} {T : Nat → Int32} {n b e km v nc : Nat}
theorem ln_f (X : Fx g) (X0 : Fx g0) (D : DS g v) (e1 : F_X4_readLine 70 (Em g t) = F_X4_readLine_b165 70 (Em g t1)) (e2 : F_X12_readLine 183 (Em g0 s) = some ((), Em g0 s1)) (K1 : Kv v t t1) (K2 : Kn s s1) (st : (∃ b1 ee1 km1, Lv g t1 g0 s1 T n b1 ee1 km1 ∧ b < b1 ∧ Dra g t1 v (tA s1 187) nc) ∨ (∃ f p, b ≤ p ∧ Nc t1 T n f p ∧ (Nm s1 T n f p nc ∨ Nz s1 T n f p nc))) : ∃ t' s1 s', F_X4_readLine 70 (Em g t) = some ((), Em g t', 0, 0) ∧ F_X12_readLine 183 (Em g0 s) = some ((), Em g0 s1) ∧ F_X12_ends 183 (Em g0 s1) = some ((), Em g0 s') ∧ LnR g t g0 s T n b v nc t' s' := by
  rcases st with ⟨b1, ee1, km1, L1, h1, A1⟩ | ⟨f, p, h1, N1, N2⟩
  · have hnc : tA s1 187 328 = nI nc := by
      obtain ⟨_, _, _, _, _, _, _, _, _, _, _, hL⟩ := A1
      exact hL.1.1
    obtain ⟨t2, s2, e3, e4, K3, K4, r⟩ := en_l L1 D hnc
    have hb1 := l_b L1
    refine ⟨t2, s1, s2, e1.trans e3, e2, e4, Kv_t K1 K3, Kn_t K2 K4, ?_⟩
    rcases r with ⟨b2, ee2, km2, L2, r1, r2, r3, r4, r5, r6⟩ | ⟨f, p, r1, N1, N2⟩
    · refine Or.inl ⟨b2, ee2, km2, L2, by omega, ?_⟩
      rw [r6]
      exact Dra_e A1 r3 r4 r5
    · exact Or.inr ⟨f, p, by omega, N1, N2⟩
  · obtain ⟨t2, e3, K3, N3⟩ := en_nc X D N1
    obtain ⟨s2, e4, K4, N4⟩ : ∃ s2, F_X12_ends 183 (Em g0 s1) = some ((), Em g0 s2) ∧ Kn s1 s2 ∧ Dd s2 T n f p := by
      rcases N2 with N2 | N2
      · exact en_nm X0 N2
      · exact en_nz X0 N2
    exact ⟨t2, s1, s2, e1.trans e3, e2, e4, Kv_t K1 K3, Kn_t K2 K4, Or.inr ⟨f, p, h1, N3, Or.inl N4⟩⟩
theorem ln_o (L : Lv g t g0 s T n b e km) (hbe : b < e) (D : DS g v) (A : Dra g t v (tA s 187) nc) (c9 : km ≠ 9) (c10 : km ≠ 10) : ∃ t' s1 s', F_X4_readLine 70 (Em g t) = some ((), Em g t', 0, 0) ∧ F_X12_readLine 183 (Em g0 s) = some ((), Em g0 s1) ∧ F_X12_ends 183 (Em g0 s1) = some ((), Em g0 s') ∧ LnR g t g0 s T n b v nc t' s' := by
  have X := L.1.1
  have X0 := L.1.2
  have hb := l_b L
  have E1 := rl_c L
  have E2 := rl_m L
  obtain ⟨N, U, K, P, fo, A⟩ := A
  have A' : Drn g t v (tA s 187) nc N U K P fo := A
  obtain ⟨⟨n1, n2, n3, n4⟩, z, hT, hK, hW, hP, hL⟩ := A
  have hnc : tA s 187 328 = nI nc := hL.1.1
  by_cases c1 : km = 1
  · obtain ⟨t1, s1, a1, a2, K1, K2, r⟩ := tn9_line L D hT.1.2.2 ⟨n3, n4⟩ n1 n2 hT.1.1 hT.1.2.1 hnc
    rw [if_pos c1, a1, Option.bind_some] at E1
    rw [if_pos c1, a2, Option.bind_some] at E2
    refine ln_f X X0 D E1 E2 K1 K2 ?_
    rcases r with ⟨b1, ee1, km1, i, L1, r1, r2, r3, r4, r5⟩ | ⟨f, p, r1, N1, N2⟩
    · exact Or.inl ⟨b1, ee1, km1, L1, by omega, N, U + 1, K, P, fo, Drn_t A' r2 ⟨r3, r4⟩ r5⟩
    · exact Or.inr ⟨f, p, r1, N1, Or.inl N2⟩
  rw [if_neg c1] at E1 E2
  by_cases c2 : km = 2
  · obtain ⟨t1, s1, a1, a2, K1, K2, r⟩ := pc4_line L D hK.1.2.2 ⟨n3, n4⟩ n1 n2 hK.1.1 hK.1.2.1 hnc
    rw [if_pos c2, a1, Option.bind_some] at E1
    rw [if_pos c2, a2, Option.bind_some] at E2
    refine ln_f X X0 D E1 E2 K1 K2 ?_
    rcases r with ⟨b1, ee1, km1, i, L1, r1, r2, r3, r4, r5⟩ | ⟨f, p, r1, N1, N2⟩
    · exact Or.inl ⟨b1, ee1, km1, L1, by omega, N, U, K + 1, P, fo, Drn_k A' r2 ⟨r3, r4⟩ r5⟩
    · exact Or.inr ⟨f, p, r1, N1, Or.inl N2⟩
  rw [if_neg c2] at E1 E2
  by_cases c3 : km = 3
  · obtain ⟨t1, s1, a1, a2, K1, K2, r⟩ := wy_line L D hK.1.2.2 hK.1.1 hK.1.2.1 hnc
    rw [if_pos c3, a1, Option.bind_some] at E1
    rw [if_pos c3, a2, Option.bind_some] at E2
    refine ln_f X X0 D E1 E2 K1 K2 ?_
    rcases r with ⟨b1, ee1, km1, x, y, L1, r1, r2, r3, r4, r5⟩ | ⟨f, p, r1, N1, N2⟩
    · exact Or.inl ⟨b1, ee1, km1, L1, by omega, N, U, K, P, fo, Drn_w A' r2 r3 r4 r5⟩
    · exact Or.inr ⟨f, p, r1, N1, Or.inl N2⟩
  rw [if_neg c3] at E1 E2
  by_cases c4 : km = 4
  · obtain ⟨t1, s1, a1, a2, K1, K2, r⟩ := pe_line L hbe D hP.1.2.2 ⟨n3, n4⟩ hK.1.2.2 n1 n2 hP.1.1 hP.1.2.1 hnc hK.1.1 hK.1.2.1 (fun h6 => hP.2.2.2.2 P (Nat.le_refl _) h6) ⟨hP.2.1.1, hP.2.1.2.1⟩
    rw [if_pos c4, a1, Option.bind_some] at E1
    rw [if_pos c4, a2, Option.bind_some] at E2
    refine ln_f X X0 D E1 E2 K1 K2 ?_
    rcases r with ⟨b1, ee1, tz, sz, L1, r1, r2, r3, rfl, rfl⟩ | ⟨f, p, r1, N1, N2⟩
    · obtain ⟨fo', A2⟩ := Drn_p A' r2 r3
      exact Or.inl ⟨b1, ee1, 30, L1, by omega, N, U, K, P + 1, fo', A2⟩
    · exact Or.inr ⟨f, p, r1, N1, N2⟩
  rw [if_neg c4, if_neg c9, if_neg c10] at E1 E2
  obtain ⟨t1, s1, a1, a2, q1, q2, N1, N2⟩ := l_fail L (f := 2) ⟨by decide, by decide⟩
  have a1' : F_X4_fail 70 2 (Em g t) = some ((), Em g t1) := a1
  have a2' : F_X12_fails 183 2 (Em g0 s) = some ((), Em g0 s1) := a2
  rw [a1', Option.bind_some] at E1
  rw [a2', Option.bind_some] at E2
  exact ln_f X X0 D E1 E2 (Kv_c (Kc_q (by decide) q1)) (Kn_m (Km_q (by decide) q2)) (Or.inr ⟨2, b, Nat.le_refl _, N1, Or.inl (Or.inl N2)⟩)
end XLa
