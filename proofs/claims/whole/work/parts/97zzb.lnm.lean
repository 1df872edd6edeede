/-! ===== a law line, to its end ===== -/
section XLc
variable {g g' g0 : Sk} {t t1 t' s s1 s' : Tb} {T : Nat → Int32} {n b e km v nc l cl x : Nat}
theorem ln_l (L : Lv g t g0 s T n b e km) (hbe : b < e) (hb1 : 1 ≤ b) (D : DS g v) (A : Dra g t v (tA s 187) nc) (hnc : nc ≤ b) (hl : l < 2) (hkm : km = 9 + l) : ∃ cl t' s1 s', F_X4_readLine 70 (Em g t) = some ((), Em (gLv g v l cl) t', 4, cl + 32) ∧ F_X12_readLine 183 (Em g0 s) = some ((), Em g0 s1) ∧ F_X12_ends 183 (Em g0 s1) = some ((), Em g0 s') ∧ cl < 900 ∧ Kv v t t' ∧ Kn s s' ∧ ((∃ b' e' km', Lv (gLv g v l cl) t' g0 s' T n b' e' km' ∧ b + 4 ≤ b' ∧ cl + b ≤ b' ∧ Dra (gLv g v l cl) t' v (tA s' 187) (nc + cl)) ∨ (∃ f p, b ≤ p ∧ Nc t' T n f p ∧ Nm s' T n f p 900)) := by
  have X := L.1.1
  have X0 := L.1.2
  have hg := v_gn D.1
  have hv := D.2.1
  have z5 : tA s 187 328 = nI nc := by
    obtain ⟨_, _, _, _, _, _, _, _, _, _, _, hL⟩ := A
    exact hL.1.1
  obtain ⟨t1, t2, s1, cl, e1, e2, e3, K1, K2, di, da, h3, hcl, r⟩ := lw_line L hbe hb1 hl hv z5 hnc
  have G : Gv v g (gLv g v l cl) := Gv_L hl
  have X' : Fx (gLv g v l cl) := Fx_v X hv G
  have D' : DS (gLv g v l cl) v := DS_v X G D
  have w1 : Fdw v t2 (tLw g t2 cl) := Fdw_L (by omega)
  have EC : ∀ t4, F_X4_readLine_b165 70 (Em (gLv g v l cl) (tLw g t2 cl)) = some ((), Em (gLv g v l cl) t4, 0, 0) → F_X4_readLine 70 (Em g t) = some ((), Em (gLv g v l cl) t4, 4, cl + 32) := fun t4 h => by
    have E1 := rl_c L
    have mk : ∀ f, f = 12 + l → mkl v f (Em g t2) (fun h => F_X4_readLine_b165 70 h) = some ((), Em (gLv g v l cl) t4, 4, cl + 32) := fun f hf => by
      subst hf
      exact k_mkl X (by omega) (by omega) (Or.inr D.1.2.1) (by rcases (show l = 0 ∨ l = 1 by omega) with rfl | rfl <;> rfl) h3 hcl h
    rcases (show l = 0 ∨ l = 1 by omega) with rfl | rfl
    · have e1' : F_X4_beginLaw 70 1 (Em g t) = some ((), Em g t1) := e1
      rw [if_neg (by omega), if_neg (by omega), if_neg (by omega), if_neg (by omega), if_pos (by omega), e1', Option.bind_some, x_rc70 X, Option.bind_some, e2, Option.bind_some, d_70 X D, Option.bind_some, mk 12 rfl] at E1
      exact E1
    · have e1' : F_X4_beginLaw 70 0 (Em g t) = some ((), Em g t1) := e1
      rw [if_neg (by omega), if_neg (by omega), if_neg (by omega), if_neg (by omega), if_neg (by omega), if_pos (by omega), e1', Option.bind_some, x_rc70 X, Option.bind_some, e2, Option.bind_some, d_70 X D, Option.bind_some, mk 13 rfl] at E1
      exact E1
  have EM : F_X12_readLine 183 (Em g0 s) = some ((), Em g0 s1) := by
    have E2 := rl_m L
    rcases (show l = 0 ∨ l = 1 by omega) with rfl | rfl
    · rw [if_neg (by omega), if_neg (by omega), if_neg (by omega), if_neg (by omega), if_pos (by omega), e3, Option.bind_some] at E2
      exact E2
    · rw [if_neg (by omega), if_neg (by omega), if_neg (by omega), if_neg (by omega), if_neg (by omega), if_pos (by omega), e3, Option.bind_some] at E2
      exact E2
  rcases r with ⟨b1, ee1, km1, L1, r1, r2, r3, r4, r5, r6, r7, r8⟩ | ⟨f, p, r1, N1, N2⟩
  · have L1' : Lv (gLv g v l cl) (tLw g t2 cl) g0 s1 T n b1 ee1 km1 := ⟨⟨X', X0⟩, (Lv_w L1 hv w1 Fs_r).2⟩
    have A1 : Dra (gLv g v l cl) (tLw g t2 cl) v (tA s1 187) (nc + cl) := Dra_l X D hl hcl A di da r3 r4 r5 r6 r7 r8
    obtain ⟨t4, s4, e5, e6, K3, K4, r⟩ := en_l L1' D' r5.2.2.2
    have hb1' := l_b L1
    refine ⟨cl, t4, s1, s4, EC t4 e5, EM, e6, hcl, Kv_t K1 (Kv_t (Kv_w w1) K3), Kn_t K2 K4, ?_⟩
    rcases r with ⟨b2, ee2, km2, L2, u1, u2, u3, u4, u5, u6⟩ | ⟨f, p, u1, N1, N2⟩
    · refine Or.inl ⟨b2, ee2, km2, L2, by omega, by omega, ?_⟩
      rw [u6]
      exact Dra_e A1 u3 u4 u5
    · exact Or.inr ⟨f, p, by omega, N1, Nm_q N2 r3⟩
  · obtain ⟨t4, e5, K3, N3⟩ := en_nc X' D' (Nc_w N1 hv w1)
    obtain ⟨s4, e6, K4, N4⟩ := en_nm X0 N2
    exact ⟨cl, t4, s1, s4, EC t4 e5, EM, e6, hcl, Kv_t K1 (Kv_t (Kv_w w1) K3), Kn_t K2 K4, Or.inr ⟨f, p, r1, N3, Or.inl N4⟩⟩
end XLc
