/-! ===== the loop of lines ===== -/
theorem ac_0 {α : Type} (x : Option (α × xH × Nat × Nat)) : x = x.map (ac α 0 0) := by
  cases x with
  | none => rfl
  | some q => rfl
theorem ac_2 {α : Type} (x : Option (α × xH × Nat × Nat)) (a b c d : Nat) : (x.map (ac α a b)).map (ac α c d) = x.map (ac α (a + c) (b + d)) := by
  cases x with
  | none => rfl
  | some q =>
    rw [Option.map_some, Option.map_some, Option.map_some]
    unfold ac
    rw [Nat.add_assoc, Nat.add_assoc]
section XLe
variable {g0 : Sk} {T : Nat → Int32} {n v : Nat}
theorem ln_loop : ∀ (k fuel fuel' i : Nat) (g : Sk) (t s : Tb) (b e km nc : Nat), n - b ≤ k → k + 2 ≤ fuel → k + 3 ≤ fuel' → 1 ≤ b → i ≤ b → nc ≤ b → Lv g t g0 s T n b e km → DS g v → Dra g t v (tA s 187) nc → ∃ g' t' s' mc ms, F_X4_read_b53 fuel 70 (nI i) (Em g t) = (F_X4_read_b86 70 (Em g' t')).map (ac _ mc ms) ∧ F_X12_valley_b83 fuel' 183 (Em g0 s) = F_X12_valley_b110 183 (Em g0 s') ∧ Gv v g g' ∧ DS g' v ∧ Kv v t t' ∧ Kn s s' ∧ (mc + b ≤ n + 4 ∧ ms + 9 * b ≤ 9 * n + 932) ∧ ((∃ b' e' nc', Lv g' t' g0 s' T n b' e' 24 ∧ Dra g' t' v (tA s' 187) nc') ∨ (∃ f p, Nc t' T n f p ∧ Dd s' T n f p)) := by
  intro k
  induction k with
  | zero =>
    intro fuel fuel' i g t s b e km nc hk hf hf' hb1 hi hnc L D A
    obtain ⟨fu, rfl⟩ : ∃ z, fuel = z + 1 := ⟨fuel - 1, by omega⟩
    obtain ⟨fu', rfl⟩ : ∃ z, fuel' = z + 1 := ⟨fuel' - 1, by omega⟩
    have X := L.1.1
    have X0 := L.1.2
    have hb := l_b L
    have c24 : km = 24 := by omega
    subst c24
    obtain ⟨kc, k1, k2, k3, k4⟩ := l_kind L
    refine ⟨g, t, s, 0, 0, ?_, ?_, Gv_r, D, Kv_r, Kn_r, by omega, Or.inl ⟨b, e, nc, L, A⟩⟩
    · rw [← ac_0, F_X4_read_b53, x_i70_4 X, Option.bind_some, x_i70_11 X, Option.bind_some, L.2.2.2.1.2.2, if_neg (show ¬ ¬ nI 0 = (0 : Int32) from fun h => h rfl), x_i70_7 X, Option.bind_some, k1, if_pos (show nI kc = (3 : Int32) by rw [k4.mp rfl]; rfl)]
      split <;> rfl
    · rw [F_X12_valley_b83, x_i183_11 X0, Option.bind_some, L.2.2.2.2.1.2.2.2, if_neg (show ¬ ¬ nI 0 = (0 : Int32) from fun h => h rfl), x_i183_9 X0, Option.bind_some, L.2.2.2.2.1.2.2.1, if_pos (show nI 24 = (24 : Int32) from rfl)]
  | succ k ih =>
    intro fuel fuel' i g t s b e km nc hk hf hf' hb1 hi hnc L D A
    obtain ⟨fu, rfl⟩ : ∃ z, fuel = z + 1 := ⟨fuel - 1, by omega⟩
    obtain ⟨fu', rfl⟩ : ∃ z, fuel' = z + 1 := ⟨fuel' - 1, by omega⟩
    have X := L.1.1
    have X0 := L.1.2
    have hb := l_b L
    obtain ⟨kc, k1, k2, k3, k4⟩ := l_kind L
    by_cases c24 : km = 24
    · subst c24
      refine ⟨g, t, s, 0, 0, ?_, ?_, Gv_r, D, Kv_r, Kn_r, by omega, Or.inl ⟨b, e, nc, L, A⟩⟩
      · rw [← ac_0, F_X4_read_b53, x_i70_4 X, Option.bind_some, x_i70_11 X, Option.bind_some, L.2.2.2.1.2.2, if_neg (show ¬ ¬ nI 0 = (0 : Int32) from fun h => h rfl), x_i70_7 X, Option.bind_some, k1, if_pos (show nI kc = (3 : Int32) by rw [k4.mp rfl]; rfl)]
        split <;> rfl
      · rw [F_X12_valley_b83, x_i183_11 X0, Option.bind_some, L.2.2.2.2.1.2.2.2, if_neg (show ¬ ¬ nI 0 = (0 : Int32) from fun h => h rfl), x_i183_9 X0, Option.bind_some, L.2.2.2.2.1.2.2.1, if_pos (show nI 24 = (24 : Int32) from rfl)]
    obtain ⟨g1, t1, s0, s1, mc, ms, e1, e2, e3, G1, D1, K1, K2, r⟩ : ∃ g1 t1 s0 s1 mc ms, F_X4_readLine 70 (Em g t) = some ((), Em g1 t1, mc, ms) ∧ F_X12_readLine 183 (Em g0 s) = some ((), Em g0 s0) ∧ F_X12_ends 183 (Em g0 s0) = some ((), Em g0 s1) ∧ Gv v g g1 ∧ DS g1 v ∧ Kv v t t1 ∧ Kn s s1 ∧ ((∃ b' e' km' nc', Lv g1 t1 g0 s1 T n b' e' km' ∧ b < b' ∧ nc' ≤ b' ∧ mc + b ≤ b' ∧ ms + 9 * b ≤ 9 * b' ∧ Dra g1 t1 v (tA s1 187) nc') ∨ (∃ f p q, Nc t1 T n f p ∧ Nm s1 T n f p q ∧ mc ≤ 4 ∧ ms ≤ 932)) := by
      by_cases cl : km = 9 ∨ km = 10
      · obtain ⟨cc, t1, s0, s1, e1, e2, e3, h1, K1, K2, r⟩ := ln_l L (by omega) hb1 D A hnc (l := km - 9) (by omega) (by omega)
        have G : Gv v g (gLv g v (km - 9) cc) := Gv_L (by omega)
        refine ⟨_, t1, s0, s1, _, _, e1, e2, e3, G, DS_v X G D, K1, K2, ?_⟩
        rcases r with ⟨b', e', km', r1, r2, r3, r4⟩ | ⟨f, p, _, r1, r2⟩
        · exact Or.inl ⟨b', e', km', _, r1, by omega, by omega, by omega, by omega, r4⟩
        · exact Or.inr ⟨f, p, _, r1, r2, by omega, by omega⟩
      · obtain ⟨t1, s0, s1, e1, e2, e3, K1, K2, r⟩ := ln_o L (by omega) D A (by omega) (by omega)
        refine ⟨g, t1, s0, s1, 0, 0, e1, e2, e3, Gv_r, D, K1, K2, ?_⟩
        rcases r with ⟨b', e', km', r1, r2, r4⟩ | ⟨f, p, _, r1, r2⟩
        · exact Or.inl ⟨b', e', km', nc, r1, by omega, by omega, by omega, by omega, r4⟩
        · exact Or.inr ⟨f, p, _, r1, r2, by omega, by omega⟩
    have EC : F_X4_read_b53 (fu + 1) 70 (nI i) (Em g t) = (F_X4_read_b53 fu 70 (nI (i + 1)) (Em g1 t1)).map (ac _ mc ms) := by
      rw [F_X4_read_b53, x_i70_4 X, Option.bind_some, L.2.1.2.1, if_neg (show ¬ nI n ≤ nI i by rw [nI_leI (by omega) (by omega)]; omega), x_i70_11 X, Option.bind_some, L.2.2.2.1.2.2, if_neg (show ¬ ¬ nI 0 = (0 : Int32) from fun h => h rfl), x_i70_7 X, Option.bind_some, k1, if_neg (show ¬ nI kc = (3 : Int32) from show ¬ nI kc = nI 3 by rw [nI_eq (by omega) (by decide)]; exact fun h => c24 (k4.mpr h)), x_rc70 X, Option.bind_some, e1, Option.bind_some, show nI i + 1 = nI (i + 1) from nI_add i 1]
    have EM : F_X12_valley_b83 (fu' + 1) 183 (Em g0 s) = F_X12_valley_b83 fu' 183 (Em g0 s1) := by
      rw [F_X12_valley_b83, x_i183_11 X0, Option.bind_some, L.2.2.2.2.1.2.2.2, if_neg (show ¬ ¬ nI 0 = (0 : Int32) from fun h => h rfl), x_i183_9 X0, Option.bind_some, L.2.2.2.2.1.2.2.1, if_neg (show ¬ nI km = (24 : Int32) from show ¬ nI km = nI 24 by rw [nI_eq (by omega) (by decide)]; exact c24), x_rc183 X0, Option.bind_some, e2, Option.bind_some, x_rc183 X0, Option.bind_some, e3, Option.bind_some]
    rw [EC, EM]
    have X1 : Fx g1 := Fx_v X D.2.1 G1
    rcases r with ⟨b', e', km', nc', L1, r1, r2, r3, r4, A1⟩ | ⟨f, p, q, N1, N2, r1, r2⟩
    · obtain ⟨g2, t2, s2, mc2, ms2, f1, f2, G2, D2, K3, K4, r5, r6⟩ := ih fu fu' (i + 1) g1 t1 s1 b' e' km' nc' (by omega) (by omega) (by omega) (by omega) (by omega) r2 L1 D1 A1
      refine ⟨g2, t2, s2, mc2 + mc, ms2 + ms, ?_, f2, Gv_t G1 G2, D2, Kv_t K1 K3, Kn_t K2 K4, by omega, r6⟩
      rw [f1, ac_2]
    · obtain ⟨s2, f2, K4, d2⟩ := b83_n X0 N2 (show 2 ≤ fu' by omega)
      refine ⟨g1, t1, s2, mc, ms, ?_, f2, G1, D1, K1, Kn_t K2 K4, by omega, Or.inr ⟨f, p, N1, d2⟩⟩
      rw [b53_n X1 N1 (by omega)]
end XLe
