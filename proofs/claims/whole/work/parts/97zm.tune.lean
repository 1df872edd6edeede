/-! made by gen97zm.py -/
/-! ===== a line: Tune ===== -/
def Tnl (t0 s0 : Tb) (v u N i : Nat) (t s : Tb) : Prop := (∀ b k, v ≤ b → tI t b k = tI t0 b k) ∧ (∀ b, v ≤ b → b ≠ v + 1 → tA t b = tA t0 b) ∧ (∀ x, ¬ (u * 9 ≤ x ∧ x < u * 9 + 9) → tA t (v + 1) x = tA t0 (v + 1) x) ∧ (∀ x, ¬ (17 + 9 * u ≤ x ∧ x < 17 + 9 * u + 9) → tA s 187 x = tA s0 187 x) ∧ (∀ j, j < i → tA t (v + 1) (u * 9 + j) = tA s 187 (17 + 9 * u + j) ∧ ∃ m, m ≤ N - 1 ∧ tA s 187 (17 + 9 * u + j) = nI m)
def Tne (t0 s0 : Tb) (v u N i : Nat) (t s : Tb) : Prop := (tI t v 2 = nI (u + 1) ∧ ∀ b k, v ≤ b → ¬ (b = v ∧ k = 2) → tI t b k = tI t0 b k) ∧ (∀ b, v ≤ b → b ≠ v + 1 → b ≠ v + 2 → tA t b = tA t0 b) ∧ (∀ x, ¬ (u * 9 ≤ x ∧ x < u * 9 + 9) → tA t (v + 1) x = tA t0 (v + 1) x) ∧ (tA t (v + 2) u = nI i ∧ ∀ x, x ≠ u → tA t (v + 2) x = tA t0 (v + 2) x) ∧ (tA s 187 2 = nI (u + 1) ∧ tA s 187 (11 + u) = nI i ∧ ∀ x, x ≠ 2 → x ≠ 11 + u → ¬ (17 + 9 * u ≤ x ∧ x < 17 + 9 * u + 9) → tA s 187 x = tA s0 187 x) ∧ (∀ j, j < i → tA t (v + 1) (u * 9 + j) = tA s 187 (17 + 9 * u + j) ∧ ∃ m, m ≤ N - 1 ∧ tA s 187 (17 + 9 * u + j) = nI m)
section Xtn9
variable {g g0 : Sk} {t t1 t' t0 s s1 s' s0 : Tb} {T : Nat → Int32} {n b e km f p q nc v u N i : Nat} {x z : Int32}
theorem tn9_ec (X : Fx g) (D : DS g v) (hu : u < 6) (hc : tI t v 2 = nI u) : F_X4_readTune_b85 70 (nI u) x (Em g t) = some ((), Em g (wi (wa t (v + 2) u x) v 2 (nI (u + 1)))) := by
  unfold F_X4_readTune_b85
  rw [d_70 X D, Option.bind_some, v_r6 D.1, Option.bind_some, v_s2 D.1 hu, Option.bind_some, d_70 X D, Option.bind_some, v_i2 D.1, Option.bind_some, tI_wa, hc, show nI u + 1 = nI (u + 1) from nI_add u 1, v_w2 D.1, Option.bind_some]
theorem tn9_em (X0 : Fx g0) (hu : u < 6) (h11 : tI s 183 11 = nI 0) (hc : tA s 187 2 = nI u) : F_X12_readTune_b91 183 (nI u) x (Em g0 s) = some ((), Em g0 (wa (wa s 187 (11 + u) x) 187 2 (nI (u + 1)))) := by
  have hA : ∀ s : Tb, aI (Em g0 s) 187 2 = some (tA s 187 2) := fun s => x_a187 X0 (k := 2) (by decide)
  have hS : ∀ (s : Tb) (z : Int32), sI (Em g0 s) 187 2 z = some (Em g0 (wa s 187 2 z)) := fun s z => x_s187 X0 (k := 2) (by decide)
  unfold F_X12_readTune_b91
  rw [x_i183_11 X0, Option.bind_some, h11, if_pos (show nI 0 = (0 : Int32) from rfl), x_r183_4 X0, Option.bind_some, show (11 : Int32) + nI u = nI (11 + u) from nI_add 11 u, x_s187 X0 (by omega), Option.bind_some, x_r183_4 X0, Option.bind_some, hA, Option.bind_some, tA_as, upd_n (by omega), hc, show nI u + 1 = nI (u + 1) from nI_add u 1, hS, Option.bind_some]
theorem tn9_bc (X : Fx g) (D : DS g v) (hu : u < 6) (hi : i < 9) (e1 : F_X4_passNumber 70 0 (tI t v 0 - 1) (Em g t) = some (z, Em g t1)) {k26 : Nat → Int32 → Int32 → xH → Option (Unit × xH)} : F_X4_readTune_b51 k26 70 (nI u) (nI i) (Em g t) = k26 70 (nI u) (nI (i + 1)) (Em g (wa t1 (v + 1) (u * 9 + i) z)) := by
  unfold F_X4_readTune_b51
  rw [d_70 X D, Option.bind_some, v_r5 D.1, Option.bind_some, Option.bind_some, v_i0 D.1, Option.bind_some, x_rc70 X, Option.bind_some, e1, Option.bind_some, show nI u * 9 + nI i = nI (u * 9 + i) by rw [show (9 : Int32) = nI 9 from rfl, nI_mulN, nI_add], v_s1 D.1 (by omega), Option.bind_some, show nI i + 1 = nI (i + 1) from nI_add i 1]
theorem tn9_bm (X0 : Fx g0) (hu : u < 6) (hi : i < 9) (e1 : F_X12_takes 183 0 (tA s 187 1 - 1) (Em g0 s) = some (z, Em g0 s1)) {k32 : Nat → Int32 → Int32 → xH → Option (Unit × xH)} : F_X12_readTune_b58 k32 183 (nI u) (nI i) (Em g0 s) = k32 183 (nI u) (nI (i + 1)) (Em g0 (wa s1 187 (17 + 9 * u + i) z)) := by
  have hA : ∀ s : Tb, aI (Em g0 s) 187 1 = some (tA s 187 1) := fun s => x_a187 X0 (k := 1) (by decide)
  unfold F_X12_readTune_b58
  rw [x_r183_4 X0, Option.bind_some, Option.bind_some, hA, Option.bind_some, x_rc183 X0, Option.bind_some, e1, Option.bind_some, show ((17 : Int32) + (9 : Int32) * nI u) + nI i = nI (17 + 9 * u + i) by rw [show (9 : Int32) = nI 9 from rfl, show (17 : Int32) = nI 17 from rfl, nI_mulN, nI_add, nI_add], x_s187 X0 (by omega), Option.bind_some, show nI i + 1 = nI (i + 1) from nI_add i 1]
theorem tn9_nc (X : Fx g) (D : DS g v) (N0 : Nc t T n f p) (hu : u < 6) (hc : tI t v 2 = nI u) {i : Int32} {fuel : Nat} (hf : 1 ≤ fuel) : ∃ t', F_X4_readTune_b26 fuel 70 (nI u) i (Em g t) = some ((), Em g t') ∧ Kv v t t' ∧ Nc t' T n f p := by
  obtain ⟨fu, rfl⟩ : ∃ z, fuel = z + 1 := ⟨fuel - 1, by omega⟩
  have h : Fdw v t (wi (wa t (v + 2) u i) v 2 (nI (u + 1))) := Fdw_t (Fdw_a (by omega)) (Fdw_i (Nat.le_refl _))
  refine ⟨_, ?_, Kv_w h, Nc_w N0 D.2.1 h⟩
  rw [F_X4_readTune_b26, x_i70_11 X, Option.bind_some, N0.2.2.1, if_pos (show ¬ nI f = (0 : Int32) from f_nz N0.2.1), tn9_ec X D hu hc]
  split <;> rfl
theorem tn9_dm (X0 : Fx g0) (N0 : Dd s T n f p) {u i : Int32} {fuel : Nat} (hf : 1 ≤ fuel) : F_X12_readTune_b32 fuel 183 u i (Em g0 s) = some ((), Em g0 s) := by
  obtain ⟨fu, rfl⟩ : ∃ z, fuel = z + 1 := ⟨fuel - 1, by omega⟩
  rw [F_X12_readTune_b32, x_i183_11 X0, Option.bind_some, N0.2.2.1, if_pos (show ¬ nI f = (0 : Int32) from f_nz N0.2.1)]
  unfold F_X12_readTune_b91
  rw [x_i183_11 X0, Option.bind_some, N0.2.2.1, if_neg (show ¬ nI f = (0 : Int32) from f_nz N0.2.1)]
theorem tn9_nm (X0 : Fx g0) (N0 : Nm s T n f p q) (hu : u < 6) (hc : tA s 187 2 = nI u) (hi : i ≤ 9) {fuel : Nat} (hf : 2 ≤ fuel) : ∃ s', F_X12_readTune_b32 fuel 183 (nI u) (nI i) (Em g0 s) = some ((), Em g0 s') ∧ Kn s s' ∧ Nm s' T n f p q := by
  obtain ⟨fu, rfl⟩ : ∃ z, fuel = z + 2 := ⟨fuel - 2, by omega⟩
  rcases N0 with N0 | N0
  · exact ⟨s, tn9_dm X0 N0 (by omega), Kn_r, Or.inl N0⟩
  · have NN : Nm s T n f p q := Or.inr N0
    have m11 : tI s 183 11 = nI 0 := N0.2.1
    have h : Fs s (wa (wa s 187 (11 + u) (nI i)) 187 2 (nI (u + 1))) := Fs_t Fs_a Fs_a
    have h328 : tA (wa (wa s 187 (11 + u) (nI i)) 187 2 (nI (u + 1))) 187 328 = tA s 187 328 := by rw [tA_as, upd_n (by omega), tA_as, upd_n (by omega)]
    rw [F_X12_readTune_b32, x_i183_11 X0, Option.bind_some, m11, if_neg (show ¬ ¬ nI 0 = (0 : Int32) from fun h => h rfl)]
    by_cases c9 : 9 ≤ i
    · rw [if_pos (show (9 : Int32) ≤ nI i from show nI 9 ≤ nI i by rw [nI_leI (by decide) (by omega)]; exact c9)]
      exact ⟨_, tn9_em X0 hu m11 hc, Kn_w h, Nm_w NN h h328⟩
    · rw [if_neg (show ¬ (9 : Int32) ≤ nI i from show ¬ nI 9 ≤ nI i by rw [nI_leI (by decide) (by omega)]; exact c9)]
      by_cases c0 : i = 0
      · rw [if_pos (show nI i = (0 : Int32) by rw [c0]; rfl)]
        obtain ⟨s1, z, e1, q1, d1⟩ := n_takem X0 NN 0 (tA s 187 1 - 1)
        have h2 : Fs s1 (wa s1 187 (17 + 9 * u + i) z) := Fs_a
        refine ⟨wa s1 187 (17 + 9 * u + i) z, ?_, Kn_t (Kn_m (Km_q (by decide) q1)) (Kn_w h2), Or.inl (Dd_w d1 h2)⟩
        rw [tn9_bm X0 hu (by omega) e1]
        exact tn9_dm X0 (Dd_w d1 h2) (by omega)
      · rw [if_neg (show ¬ nI i = (0 : Int32) from show ¬ nI i = nI 0 by rw [nI_eq (by omega) (by decide)]; exact c0), x_rc183 X0, Option.bind_some, show (23 : Int32) = nI 23 from rfl, n_is X0 NN (by decide) (by decide), Option.bind_some, if_pos (show bI false = (0 : Int32) by decide)]
        exact ⟨_, tn9_em X0 hu m11 hc, Kn_w h, Nm_w NN h h328⟩
theorem tn9_end (hv : 205 ≤ v) (I : Tnl t0 s0 v u N i t s) (hu : u < 6) (hi : i ≤ 9) : Tne t0 s0 v u N i (wi (wa t (v + 2) u (nI i)) v 2 (nI (u + 1))) (wa (wa s 187 (11 + u) (nI i)) 187 2 (nI (u + 1))) := by
  obtain ⟨i1, i2, i3, i4, i5⟩ := I
  have so : ∀ x, x ≠ 2 → x ≠ 11 + u → tA (wa (wa s 187 (11 + u) (nI i)) 187 2 (nI (u + 1))) 187 x = tA s 187 x := fun x h1 h2 => by rw [tA_as, upd_n h1, tA_as, upd_n h2]
  have ro : tA (wi (wa t (v + 2) u (nI i)) v 2 (nI (u + 1))) (v + 1) = tA t (v + 1) := by rw [tA_wi, tA_an (by omega)]
  refine ⟨⟨tI_is, fun b k hb h => ?_⟩, fun b hb h1 h2 => by rw [tA_wi, tA_an h2]; exact i2 b hb h1, fun x hx => by rw [ro]; exact i3 x hx, ⟨by rw [tA_wi, tA_as, upd_s], fun x hx => by rw [tA_wi, tA_as, upd_n hx, i2 (v + 2) (by omega) (by omega)]⟩, ⟨by rw [tA_as, upd_s], by rw [tA_as, upd_n (by omega), tA_as, upd_s], fun x h1 h2 h3 => by rw [so x h1 h2]; exact i4 x h3⟩, fun j hj => ?_⟩
  · by_cases c : b = v
    · subst c
      rw [tI_ik (fun e => h ⟨rfl, e⟩), tI_wa]
      exact i1 b k hb
    · rw [tI_ia c, tI_wa]
      exact i1 b k hb
  · rw [ro, so _ (by omega) (by omega)]
    exact i5 j hj
/-- the loop -/
theorem tn9_loop (D : DS g v) (hu : u < 6) (hN : 2 ≤ N ∧ N ≤ 10) (z1 : tI t0 v 0 = nI N) (z2 : tA s0 187 1 = nI N) (z3 : tI t0 v 2 = nI u) (z4 : tA s0 187 2 = nI u) (z5 : tA s0 187 328 = nI nc) : ∀ (k i fuel fuel' : Nat) (t s : Tb) (b e km : Nat), i + k = 9 → k + 2 ≤ fuel → k + 2 ≤ fuel' → Lv g t g0 s T n b e km → Tnl t0 s0 v u N i t s → ∃ t' s', F_X4_readTune_b26 fuel 70 (nI u) (nI i) (Em g t) = some ((), Em g t') ∧ F_X12_readTune_b32 fuel' 183 (nI u) (nI i) (Em g0 s) = some ((), Em g0 s') ∧ Kv v t t' ∧ Kn s s' ∧ ((∃ b' e' km' i', Lv g t' g0 s' T n b' e' km' ∧ b ≤ b' ∧ 1 ≤ i' ∧ i' ≤ 9 ∧ Tne t0 s0 v u N i' t' s') ∨ (∃ f p, b ≤ p ∧ Nc t' T n f p ∧ Nm s' T n f p nc)) := by
  intro k
  induction k with
  | zero =>
    intro i fuel fuel' t s b e km hk hf hf' L I
    obtain ⟨fu, rfl⟩ : ∃ z, fuel = z + 1 := ⟨fuel - 1, by omega⟩
    obtain ⟨fu', rfl⟩ : ∃ z, fuel' = z + 1 := ⟨fuel' - 1, by omega⟩
    have X := L.1.1
    have X0 := L.1.2
    have m11 : tI s 183 11 = nI 0 := L.2.2.2.2.1.2.2.2
    have hW : (9 : Int32) ≤ nI i := show nI 9 ≤ nI i by rw [nI_leI (by decide) (by omega)]; omega
    have hc1 : tI t v 2 = nI u := (I.1 v 2 (Nat.le_refl _)).trans z3
    have hc2 : tA s 187 2 = nI u := (I.2.2.2.1 2 (by omega)).trans z4
    have w1 : Fdw v t (wi (wa t (v + 2) u (nI i)) v 2 (nI (u + 1))) := Fdw_t (Fdw_a (by omega)) (Fdw_i (Nat.le_refl _))
    have w2 : Fs s (wa (wa s 187 (11 + u) (nI i)) 187 2 (nI (u + 1))) := Fs_t Fs_a Fs_a
    rw [F_X4_readTune_b26, F_X12_readTune_b32, if_pos hW, x_i183_11 X0, Option.bind_some, m11, if_neg (show ¬ ¬ nI 0 = (0 : Int32) from fun h => h rfl), if_pos hW, tn9_ec X D hu hc1, tn9_em X0 hu m11 hc2]
    exact ⟨_, _, rfl, rfl, Kv_w w1, Kn_w w2, Or.inl ⟨b, e, km, i, Lv_w L D.2.1 w1 w2, Nat.le_refl _, by omega, by omega, tn9_end D.2.1 I hu (by omega)⟩⟩
  | succ k ih =>
    intro i fuel fuel' t s b e km hk hf hf' L I
    obtain ⟨fu, rfl⟩ : ∃ z, fuel = z + 1 := ⟨fuel - 1, by omega⟩
    obtain ⟨fu', rfl⟩ : ∃ z, fuel' = z + 1 := ⟨fuel' - 1, by omega⟩
    have X := L.1.1
    have X0 := L.1.2
    have hb := l_b L
    have hv := D.2.1
    have c11 : tI t 70 11 = nI 0 := L.2.2.2.1.2.2
    have m11 : tI s 183 11 = nI 0 := L.2.2.2.2.1.2.2.2
    have hW : ¬ (9 : Int32) ≤ nI i := show ¬ nI 9 ≤ nI i by rw [nI_leI (by decide) (by omega)]; omega
    have hc1 : tI t v 2 = nI u := (I.1 v 2 (Nat.le_refl _)).trans z3
    have hc2 : tA s 187 2 = nI u := (I.2.2.2.1 2 (by omega)).trans z4
    have y1 : tI t v 0 - 1 = nI (N - 1) := by rw [I.1 v 0 (Nat.le_refl _), z1]; exact nI_sub (b := 1) (by omega)
    have y2 : tA s 187 1 - 1 = nI (N - 1) := by rw [I.2.2.2.1 1 (by omega), z2]; exact nI_sub (b := 1) (by omega)
    have y3 : tA s 187 328 = nI nc := (I.2.2.2.1 328 (by omega)).trans z5
    obtain ⟨kc, k1, k2, k3, k4⟩ := l_kind L
    have m23 := l_is L (k := 23) (by decide)
    by_cases c : i = 0 ∨ km = 23
    · obtain ⟨t1, s1, zc, zm, e1, e2, q1, q2, r⟩ := l_take L y3 0 (nI (N - 1))
      rw [← y1] at e1
      have e2' : F_X12_takes 183 0 (tA s 187 1 - 1) (Em g0 s) = some (zm, Em g0 s1) := by rw [y2]; exact e2
      have E1 : F_X4_readTune_b26 (fu + 1) 70 (nI u) (nI i) (Em g t) = F_X4_readTune_b26 fu 70 (nI u) (nI (i + 1)) (Em g (wa t1 (v + 1) (u * 9 + i) zc)) := by
        rw [F_X4_readTune_b26, if_neg hW, x_i70_11 X, Option.bind_some, c11, if_neg (show ¬ ¬ nI 0 = (0 : Int32) from fun h => h rfl), tn9_bc X D hu (by omega) e1, x_i70_7 X, Option.bind_some, k1]
        by_cases c0 : i = 0
        · rw [if_pos (show nI i = (0 : Int32) by rw [c0]; rfl)]
        · rw [if_neg (show ¬ nI i = (0 : Int32) from show ¬ nI i = nI 0 by rw [nI_eq (by omega) (by decide)]; exact c0), if_neg (show ¬ ¬ nI kc = (1 : Int32) from fun h => h (by rw [k3.mp (c.resolve_left c0)]; rfl))]
      have E2 : F_X12_readTune_b32 (fu' + 1) 183 (nI u) (nI i) (Em g0 s) = F_X12_readTune_b32 fu' 183 (nI u) (nI (i + 1)) (Em g0 (wa s1 187 (17 + 9 * u + i) zm)) := by
        rw [F_X12_readTune_b32, x_i183_11 X0, Option.bind_some, m11, if_neg (show ¬ ¬ nI 0 = (0 : Int32) from fun h => h rfl), if_neg hW, tn9_bm X0 hu (by omega) e2', x_rc183 X0, Option.bind_some, show (23 : Int32) = nI 23 from rfl, m23, Option.bind_some]
        by_cases c0 : i = 0
        · rw [if_pos (show nI i = (0 : Int32) by rw [c0]; rfl)]
        · rw [if_neg (show ¬ nI i = (0 : Int32) from show ¬ nI i = nI 0 by rw [nI_eq (by omega) (by decide)]; exact c0), decide_eq_true (c.resolve_left c0), if_neg (show ¬ bI true = (0 : Int32) by decide), tn9_bm X0 hu (by omega) e2']
      rw [E1, E2]
      have w1 : Fdw v t1 (wa t1 (v + 1) (u * 9 + i) zc) := Fdw_a (by omega)
      have w2 : Fs s1 (wa s1 187 (17 + 9 * u + i) zm) := Fs_a
      have K1 : Kv v t (wa t1 (v + 1) (u * 9 + i) zc) := Kv_t (Kv_c (Kc_q (by decide) q1)) (Kv_w w1)
      have K2 : Kn s (wa s1 187 (17 + 9 * u + i) zm) := Kn_t (Kn_m (Km_q (by decide) q2)) (Kn_w w2)
      have ti : ∀ b k, v ≤ b → tI (wa t1 (v + 1) (u * 9 + i) zc) b k = tI t0 b k := fun b k hb => by rw [tI_wa, q1.1 b k (fun e => absurd e (by omega))]; exact I.1 b k hb
      have sa : ∀ x, x ≠ 17 + 9 * u + i → tA (wa s1 187 (17 + 9 * u + i) zm) 187 x = tA s 187 x := fun x hx => by rw [tA_as, upd_n hx, q2.2.1]
      rcases r with ⟨b1, ee1, km1, val, r1, r2, r3, r4, r5, r6, L1, r7⟩ | ⟨f, p, r1, N1, N2⟩
      · subst r2
        subst r3
        have hval : val ≤ N - 1 := by
          have := r6
          rw [nI_leI (by omega) (by omega)] at this
          exact this
        have I1 : Tnl t0 s0 v u N (i + 1) (wa t1 (v + 1) (u * 9 + i) (nI val)) (wa s1 187 (17 + 9 * u + i) (nI val)) := by
          refine ⟨ti, fun b hb h => by rw [tA_an h, q1.2.1]; exact I.2.1 b hb h, fun x hx => by rw [tA_as, upd_n (by omega), q1.2.1]; exact I.2.2.1 x hx, fun x hx => by rw [sa x (by omega)]; exact I.2.2.2.1 x hx, fun j hj => ?_⟩
          by_cases c : j = i
          · subst c
            rw [tA_as, upd_s, tA_as, upd_s]
            exact ⟨rfl, val, hval, rfl⟩
          · rw [tA_as, upd_n (by omega), q1.2.1, sa _ (by omega)]
            exact I.2.2.2.2 j (by omega)
        obtain ⟨t2, s2, e3, e4, K3, K4, r⟩ := ih (i + 1) fu fu' _ _ b1 ee1 km1 (by omega) (by omega) (by omega) (Lv_w L1 hv w1 w2) I1
        refine ⟨t2, s2, e3, e4, Kv_t K1 K3, Kn_t K2 K4, ?_⟩
        rcases r with ⟨b2, ee2, km2, i2, u1, u2, u3⟩ | ⟨f, p, u1, u2⟩
        · exact Or.inl ⟨b2, ee2, km2, i2, u1, by omega, u3⟩
        · exact Or.inr ⟨f, p, by omega, u2⟩
      · obtain ⟨t2, e3, K3, N3⟩ := tn9_nc (i := nI (i + 1)) X D (Nc_w N1 hv w1) hu ((ti v 2 (Nat.le_refl _)).trans z3) (show 1 ≤ fu by omega)
        obtain ⟨s2, e4, K4, N4⟩ := tn9_nm (i := i + 1) X0 (Nm_w N2 w2 (by rw [tA_as, upd_n (by omega)])) hu ((sa 2 (by omega)).trans hc2) (by omega) (show 2 ≤ fu' by omega)
        exact ⟨t2, s2, e3, e4, Kv_t K1 K3, Kn_t K2 K4, Or.inr ⟨f, p, r1, N3, N4⟩⟩
    · have w1 : Fdw v t (wi (wa t (v + 2) u (nI i)) v 2 (nI (u + 1))) := Fdw_t (Fdw_a (by omega)) (Fdw_i (Nat.le_refl _))
      have w2 : Fs s (wa (wa s 187 (11 + u) (nI i)) 187 2 (nI (u + 1))) := Fs_t Fs_a Fs_a
      have h0 : ¬ nI i = (0 : Int32) := show ¬ nI i = nI 0 by rw [nI_eq (by omega) (by decide)]; omega
      refine ⟨_, _, ?_, ?_, Kv_w w1, Kn_w w2, Or.inl ⟨b, e, km, i, Lv_w L hv w1 w2, Nat.le_refl _, by omega, by omega, tn9_end hv I hu (by omega)⟩⟩
      · rw [F_X4_readTune_b26, if_neg hW, x_i70_11 X, Option.bind_some, c11, if_neg (show ¬ ¬ nI 0 = (0 : Int32) from fun h => h rfl), if_neg h0, x_i70_7 X, Option.bind_some, k1, if_pos (show ¬ nI kc = (1 : Int32) from show ¬ nI kc = nI 1 by rw [nI_eq (by omega) (by decide)]; omega)]
        exact tn9_ec X D hu hc1
      · rw [F_X12_readTune_b32, x_i183_11 X0, Option.bind_some, m11, if_neg (show ¬ ¬ nI 0 = (0 : Int32) from fun h => h rfl), if_neg hW, if_neg h0, x_rc183 X0, Option.bind_some, show (23 : Int32) = nI 23 from rfl, m23, Option.bind_some, decide_eq_false (by omega), if_pos (show bI false = (0 : Int32) by decide)]
        exact tn9_em X0 hu m11 hc2
theorem tn9_line (L : Lv g t g0 s T n b e km) (D : DS g v) (hu : u ≤ 6) (hN : 2 ≤ N ∧ N ≤ 10) (z1 : tI t v 0 = nI N) (z2 : tA s 187 1 = nI N) (z3 : tI t v 2 = nI u) (z4 : tA s 187 2 = nI u) (z5 : tA s 187 328 = nI nc) : ∃ t' s', F_X4_readTune 70 (Em g t) = some ((), Em g t') ∧ F_X12_readTune 183 (Em g0 s) = some ((), Em g0 s') ∧ Kv v t t' ∧ Kn s s' ∧ ((∃ b' e' km' i, Lv g t' g0 s' T n b' e' km' ∧ e ≤ b' ∧ u < 6 ∧ 1 ≤ i ∧ i ≤ 9 ∧ Tne t s v u N i t' s') ∨ (∃ f p, b ≤ p ∧ Nc t' T n f p ∧ Nm s' T n f p nc)) := by
  have X := L.1.1
  have X0 := L.1.2
  have hb := l_b L
  have m11 : tI s 183 11 = nI 0 := L.2.2.2.2.1.2.2.2
  have hA : aI (Em g0 s) 187 2 = some (tA s 187 2) := x_a187 X0 (k := 2) (by decide)
  unfold F_X4_readTune F_X12_readTune
  rw [d_70 X D, Option.bind_some, v_i2 D.1, Option.bind_some, z3, x_r183_4 X0, Option.bind_some, hA, Option.bind_some, z4]
  by_cases c6 : u < 6
  · rw [if_pos (show nI u < (6 : Int32) from show nI u < nI 6 by rw [nI_ltI (by omega) (by decide)]; exact c6), if_pos (show ¬ nI u = (6 : Int32) from show ¬ nI u = nI 6 by rw [nI_eq (by omega) (by decide)]; omega), x_rc70 X, Option.bind_some]
    unfold F_X12_readTune_b18
    rw [x_i183_11 X0, Option.bind_some, m11, if_pos (show nI 0 = (0 : Int32) from rfl), x_rc183 X0, Option.bind_some]
    obtain ⟨t1, s1, e1, e2, q1, q2, r⟩ := l_adv L z5
    rw [e1, Option.bind_some, e2, Option.bind_some]
    have K1 : Kv v t t1 := Kv_c (Kc_q (by decide) q1)
    have K2 : Kn s s1 := Kn_m (Km_q (by decide) q2)
    have hv := D.2.1
    have ti : ∀ b k, v ≤ b → tI t1 b k = tI t b k := fun b k hb => q1.1 b k (fun e => absurd e (by omega))
    rcases r with ⟨b1, ee1, km1, L1, g1⟩ | ⟨p, g1, N1, N2⟩
    · obtain ⟨t2, s2, e3, e4, K3, K4, r⟩ := tn9_loop D c6 hN z1 z2 z3 z4 z5 9 0 FU FU t1 s1 b1 ee1 km1 (by omega) (by decide) (by decide) L1 ⟨ti, fun b _ _ => by rw [q1.2.1], fun x _ => by rw [q1.2.1], fun x _ => by rw [q2.2.1], fun j hj => absurd hj (by omega)⟩
      refine ⟨t2, s2, e3, e4, Kv_t K1 K3, Kn_t K2 K4, ?_⟩
      rcases r with ⟨b2, ee2, km2, i2, u1, u2, u3, u4, u5⟩ | ⟨f, p, u1, u2⟩
      · exact Or.inl ⟨b2, ee2, km2, i2, u1, by omega, c6, u3, u4, u5⟩
      · exact Or.inr ⟨f, p, by omega, u2⟩
    · obtain ⟨t2, e3, K3, N3⟩ := tn9_nc (i := nI 0) X D N1 c6 ((ti v 2 (Nat.le_refl _)).trans z3) (show 1 ≤ FU by decide)
      obtain ⟨s2, e4, K4, N4⟩ := tn9_nm (i := 0) X0 N2 c6 (by rw [q2.2.1]; exact z4) (by omega) (show 2 ≤ FU by decide)
      exact ⟨t2, s2, e3, e4, Kv_t K1 K3, Kn_t K2 K4, Or.inr ⟨1, p, by omega, N3, N4⟩⟩
  · have u6 : u = 6 := by omega
    obtain ⟨t1, s1, e1, e2, q1, q2, N1, N2⟩ := l_fail L (f := 4) ⟨by decide, by decide⟩
    refine ⟨t1, s1, ?_, ?_, Kv_c (Kc_q (by decide) q1), Kn_m (Km_q (by decide) q2), Or.inr ⟨4, b, Nat.le_refl _, N1, Or.inl N2⟩⟩
    · rw [if_neg (show ¬ nI u < (6 : Int32) by rw [u6]; decide), x_rc70 X, Option.bind_some, show (4 : Int32) = nI 4 from rfl, e1, Option.bind_some]
    · rw [if_neg (show ¬ ¬ nI u = (6 : Int32) from fun h => h (by rw [u6]; rfl)), x_rc183 X0, Option.bind_some, show (4 : Int32) = nI 4 from rfl, e2, Option.bind_some]
      unfold F_X12_readTune_b18
      rw [x_i183_11 X0, Option.bind_some, N2.2.2.1, if_neg (show ¬ nI 4 = (0 : Int32) by decide)]
end Xtn9

/-! ===== a line: Place ===== -/
def Pcl (t0 s0 : Tb) (v u N i : Nat) (t s : Tb) : Prop := (∀ b k, v ≤ b → tI t b k = tI t0 b k) ∧ (∀ b, v ≤ b → b ≠ v + 3 → tA t b = tA t0 b) ∧ (∀ x, ¬ (u * 4 ≤ x ∧ x < u * 4 + 4) → tA t (v + 3) x = tA t0 (v + 3) x) ∧ (∀ x, ¬ (83 + 4 * u ≤ x ∧ x < 83 + 4 * u + 4) → tA s 187 x = tA s0 187 x) ∧ (∀ j, j < i → tA t (v + 3) (u * 4 + j) = tA s 187 (83 + 4 * u + j) ∧ ∃ m, m ≤ N ∧ tA s 187 (83 + 4 * u + j) = nI m)
def Pce (t0 s0 : Tb) (v u N i : Nat) (t s : Tb) : Prop := (tI t v 3 = nI (u + 1) ∧ ∀ b k, v ≤ b → ¬ (b = v ∧ k = 3) → tI t b k = tI t0 b k) ∧ (∀ b, v ≤ b → b ≠ v + 3 → b ≠ v + 4 → tA t b = tA t0 b) ∧ (∀ x, ¬ (u * 4 ≤ x ∧ x < u * 4 + 4) → tA t (v + 3) x = tA t0 (v + 3) x) ∧ (tA t (v + 4) u = nI i ∧ ∀ x, x ≠ u → tA t (v + 4) x = tA t0 (v + 4) x) ∧ (tA s 187 3 = nI (u + 1) ∧ tA s 187 (71 + u) = nI i ∧ ∀ x, x ≠ 3 → x ≠ 71 + u → ¬ (83 + 4 * u ≤ x ∧ x < 83 + 4 * u + 4) → tA s 187 x = tA s0 187 x) ∧ (∀ j, j < i → tA t (v + 3) (u * 4 + j) = tA s 187 (83 + 4 * u + j) ∧ ∃ m, m ≤ N ∧ tA s 187 (83 + 4 * u + j) = nI m)
section Xpc4
variable {g g0 : Sk} {t t1 t' t0 s s1 s' s0 : Tb} {T : Nat → Int32} {n b e km f p q nc v u N i : Nat} {x z : Int32}
theorem pc4_ec (X : Fx g) (D : DS g v) (hu : u < 6) (hc : tI t v 3 = nI u) : F_X4_readPlace_b81 70 (nI u) x (Em g t) = some ((), Em g (wi (wa t (v + 4) u x) v 3 (nI (u + 1)))) := by
  unfold F_X4_readPlace_b81
  rw [d_70 X D, Option.bind_some, v_r8 D.1, Option.bind_some, v_s4 D.1 hu, Option.bind_some, d_70 X D, Option.bind_some, v_i3 D.1, Option.bind_some, tI_wa, hc, show nI u + 1 = nI (u + 1) from nI_add u 1, v_w3 D.1, Option.bind_some]
theorem pc4_em (X0 : Fx g0) (hu : u < 6) (h11 : tI s 183 11 = nI 0) (hc : tA s 187 3 = nI u) : F_X12_readPlace_b87 183 (nI u) x (Em g0 s) = some ((), Em g0 (wa (wa s 187 (71 + u) x) 187 3 (nI (u + 1)))) := by
  have hA : ∀ s : Tb, aI (Em g0 s) 187 3 = some (tA s 187 3) := fun s => x_a187 X0 (k := 3) (by decide)
  have hS : ∀ (s : Tb) (z : Int32), sI (Em g0 s) 187 3 z = some (Em g0 (wa s 187 3 z)) := fun s z => x_s187 X0 (k := 3) (by decide)
  unfold F_X12_readPlace_b87
  rw [x_i183_11 X0, Option.bind_some, h11, if_pos (show nI 0 = (0 : Int32) from rfl), x_r183_4 X0, Option.bind_some, show (71 : Int32) + nI u = nI (71 + u) from nI_add 71 u, x_s187 X0 (by omega), Option.bind_some, x_r183_4 X0, Option.bind_some, hA, Option.bind_some, tA_as, upd_n (by omega), hc, show nI u + 1 = nI (u + 1) from nI_add u 1, hS, Option.bind_some]
theorem pc4_bc (X : Fx g) (D : DS g v) (hu : u < 6) (hi : i < 4) (e1 : F_X4_passNumber 70 0 (tI t v 0) (Em g t) = some (z, Em g t1)) {k26 : Nat → Int32 → Int32 → xH → Option (Unit × xH)} : F_X4_readPlace_b50 k26 70 (nI u) (nI i) (Em g t) = k26 70 (nI u) (nI (i + 1)) (Em g (wa t1 (v + 3) (u * 4 + i) z)) := by
  unfold F_X4_readPlace_b50
  rw [d_70 X D, Option.bind_some, v_r7 D.1, Option.bind_some, Option.bind_some, v_i0 D.1, Option.bind_some, x_rc70 X, Option.bind_some, e1, Option.bind_some, show nI u * 4 + nI i = nI (u * 4 + i) by rw [show (4 : Int32) = nI 4 from rfl, nI_mulN, nI_add], v_s3 D.1 (by omega), Option.bind_some, show nI i + 1 = nI (i + 1) from nI_add i 1]
theorem pc4_bm (X0 : Fx g0) (hu : u < 6) (hi : i < 4) (e1 : F_X12_takes 183 0 (tA s 187 1) (Em g0 s) = some (z, Em g0 s1)) {k32 : Nat → Int32 → Int32 → xH → Option (Unit × xH)} : F_X12_readPlace_b57 k32 183 (nI u) (nI i) (Em g0 s) = k32 183 (nI u) (nI (i + 1)) (Em g0 (wa s1 187 (83 + 4 * u + i) z)) := by
  have hA : ∀ s : Tb, aI (Em g0 s) 187 1 = some (tA s 187 1) := fun s => x_a187 X0 (k := 1) (by decide)
  unfold F_X12_readPlace_b57
  rw [x_r183_4 X0, Option.bind_some, Option.bind_some, hA, Option.bind_some, x_rc183 X0, Option.bind_some, e1, Option.bind_some, show ((83 : Int32) + (4 : Int32) * nI u) + nI i = nI (83 + 4 * u + i) by rw [show (4 : Int32) = nI 4 from rfl, show (83 : Int32) = nI 83 from rfl, nI_mulN, nI_add, nI_add], x_s187 X0 (by omega), Option.bind_some, show nI i + 1 = nI (i + 1) from nI_add i 1]
theorem pc4_nc (X : Fx g) (D : DS g v) (N0 : Nc t T n f p) (hu : u < 6) (hc : tI t v 3 = nI u) {i : Int32} {fuel : Nat} (hf : 1 ≤ fuel) : ∃ t', F_X4_readPlace_b26 fuel 70 (nI u) i (Em g t) = some ((), Em g t') ∧ Kv v t t' ∧ Nc t' T n f p := by
  obtain ⟨fu, rfl⟩ : ∃ z, fuel = z + 1 := ⟨fuel - 1, by omega⟩
  have h : Fdw v t (wi (wa t (v + 4) u i) v 3 (nI (u + 1))) := Fdw_t (Fdw_a (by omega)) (Fdw_i (Nat.le_refl _))
  refine ⟨_, ?_, Kv_w h, Nc_w N0 D.2.1 h⟩
  rw [F_X4_readPlace_b26, x_i70_11 X, Option.bind_some, N0.2.2.1, if_pos (show ¬ nI f = (0 : Int32) from f_nz N0.2.1), pc4_ec X D hu hc]
  split <;> rfl
theorem pc4_dm (X0 : Fx g0) (N0 : Dd s T n f p) {u i : Int32} {fuel : Nat} (hf : 1 ≤ fuel) : F_X12_readPlace_b32 fuel 183 u i (Em g0 s) = some ((), Em g0 s) := by
  obtain ⟨fu, rfl⟩ : ∃ z, fuel = z + 1 := ⟨fuel - 1, by omega⟩
  rw [F_X12_readPlace_b32, x_i183_11 X0, Option.bind_some, N0.2.2.1, if_pos (show ¬ nI f = (0 : Int32) from f_nz N0.2.1)]
  unfold F_X12_readPlace_b87
  rw [x_i183_11 X0, Option.bind_some, N0.2.2.1, if_neg (show ¬ nI f = (0 : Int32) from f_nz N0.2.1)]
theorem pc4_nm (X0 : Fx g0) (N0 : Nm s T n f p q) (hu : u < 6) (hc : tA s 187 3 = nI u) (hi : i ≤ 4) {fuel : Nat} (hf : 2 ≤ fuel) : ∃ s', F_X12_readPlace_b32 fuel 183 (nI u) (nI i) (Em g0 s) = some ((), Em g0 s') ∧ Kn s s' ∧ Nm s' T n f p q := by
  obtain ⟨fu, rfl⟩ : ∃ z, fuel = z + 2 := ⟨fuel - 2, by omega⟩
  rcases N0 with N0 | N0
  · exact ⟨s, pc4_dm X0 N0 (by omega), Kn_r, Or.inl N0⟩
  · have NN : Nm s T n f p q := Or.inr N0
    have m11 : tI s 183 11 = nI 0 := N0.2.1
    have h : Fs s (wa (wa s 187 (71 + u) (nI i)) 187 3 (nI (u + 1))) := Fs_t Fs_a Fs_a
    have h328 : tA (wa (wa s 187 (71 + u) (nI i)) 187 3 (nI (u + 1))) 187 328 = tA s 187 328 := by rw [tA_as, upd_n (by omega), tA_as, upd_n (by omega)]
    rw [F_X12_readPlace_b32, x_i183_11 X0, Option.bind_some, m11, if_neg (show ¬ ¬ nI 0 = (0 : Int32) from fun h => h rfl)]
    by_cases c9 : 4 ≤ i
    · rw [if_pos (show (4 : Int32) ≤ nI i from show nI 4 ≤ nI i by rw [nI_leI (by decide) (by omega)]; exact c9)]
      exact ⟨_, pc4_em X0 hu m11 hc, Kn_w h, Nm_w NN h h328⟩
    · rw [if_neg (show ¬ (4 : Int32) ≤ nI i from show ¬ nI 4 ≤ nI i by rw [nI_leI (by decide) (by omega)]; exact c9)]
      by_cases c0 : i = 0
      · rw [if_pos (show nI i = (0 : Int32) by rw [c0]; rfl)]
        obtain ⟨s1, z, e1, q1, d1⟩ := n_takem X0 NN 0 (tA s 187 1)
        have h2 : Fs s1 (wa s1 187 (83 + 4 * u + i) z) := Fs_a
        refine ⟨wa s1 187 (83 + 4 * u + i) z, ?_, Kn_t (Kn_m (Km_q (by decide) q1)) (Kn_w h2), Or.inl (Dd_w d1 h2)⟩
        rw [pc4_bm X0 hu (by omega) e1]
        exact pc4_dm X0 (Dd_w d1 h2) (by omega)
      · rw [if_neg (show ¬ nI i = (0 : Int32) from show ¬ nI i = nI 0 by rw [nI_eq (by omega) (by decide)]; exact c0), x_rc183 X0, Option.bind_some, show (23 : Int32) = nI 23 from rfl, n_is X0 NN (by decide) (by decide), Option.bind_some, if_pos (show bI false = (0 : Int32) by decide)]
        exact ⟨_, pc4_em X0 hu m11 hc, Kn_w h, Nm_w NN h h328⟩
theorem pc4_end (hv : 205 ≤ v) (I : Pcl t0 s0 v u N i t s) (hu : u < 6) (hi : i ≤ 4) : Pce t0 s0 v u N i (wi (wa t (v + 4) u (nI i)) v 3 (nI (u + 1))) (wa (wa s 187 (71 + u) (nI i)) 187 3 (nI (u + 1))) := by
  obtain ⟨i1, i2, i3, i4, i5⟩ := I
  have so : ∀ x, x ≠ 3 → x ≠ 71 + u → tA (wa (wa s 187 (71 + u) (nI i)) 187 3 (nI (u + 1))) 187 x = tA s 187 x := fun x h1 h2 => by rw [tA_as, upd_n h1, tA_as, upd_n h2]
  have ro : tA (wi (wa t (v + 4) u (nI i)) v 3 (nI (u + 1))) (v + 3) = tA t (v + 3) := by rw [tA_wi, tA_an (by omega)]
  refine ⟨⟨tI_is, fun b k hb h => ?_⟩, fun b hb h1 h2 => by rw [tA_wi, tA_an h2]; exact i2 b hb h1, fun x hx => by rw [ro]; exact i3 x hx, ⟨by rw [tA_wi, tA_as, upd_s], fun x hx => by rw [tA_wi, tA_as, upd_n hx, i2 (v + 4) (by omega) (by omega)]⟩, ⟨by rw [tA_as, upd_s], by rw [tA_as, upd_n (by omega), tA_as, upd_s], fun x h1 h2 h3 => by rw [so x h1 h2]; exact i4 x h3⟩, fun j hj => ?_⟩
  · by_cases c : b = v
    · subst c
      rw [tI_ik (fun e => h ⟨rfl, e⟩), tI_wa]
      exact i1 b k hb
    · rw [tI_ia c, tI_wa]
      exact i1 b k hb
  · rw [ro, so _ (by omega) (by omega)]
    exact i5 j hj
/-- the loop -/
theorem pc4_loop (D : DS g v) (hu : u < 6) (hN : 2 ≤ N ∧ N ≤ 10) (z1 : tI t0 v 0 = nI N) (z2 : tA s0 187 1 = nI N) (z3 : tI t0 v 3 = nI u) (z4 : tA s0 187 3 = nI u) (z5 : tA s0 187 328 = nI nc) : ∀ (k i fuel fuel' : Nat) (t s : Tb) (b e km : Nat), i + k = 4 → k + 2 ≤ fuel → k + 2 ≤ fuel' → Lv g t g0 s T n b e km → Pcl t0 s0 v u N i t s → ∃ t' s', F_X4_readPlace_b26 fuel 70 (nI u) (nI i) (Em g t) = some ((), Em g t') ∧ F_X12_readPlace_b32 fuel' 183 (nI u) (nI i) (Em g0 s) = some ((), Em g0 s') ∧ Kv v t t' ∧ Kn s s' ∧ ((∃ b' e' km' i', Lv g t' g0 s' T n b' e' km' ∧ b ≤ b' ∧ 1 ≤ i' ∧ i' ≤ 4 ∧ Pce t0 s0 v u N i' t' s') ∨ (∃ f p, b ≤ p ∧ Nc t' T n f p ∧ Nm s' T n f p nc)) := by
  intro k
  induction k with
  | zero =>
    intro i fuel fuel' t s b e km hk hf hf' L I
    obtain ⟨fu, rfl⟩ : ∃ z, fuel = z + 1 := ⟨fuel - 1, by omega⟩
    obtain ⟨fu', rfl⟩ : ∃ z, fuel' = z + 1 := ⟨fuel' - 1, by omega⟩
    have X := L.1.1
    have X0 := L.1.2
    have m11 : tI s 183 11 = nI 0 := L.2.2.2.2.1.2.2.2
    have hW : (4 : Int32) ≤ nI i := show nI 4 ≤ nI i by rw [nI_leI (by decide) (by omega)]; omega
    have hc1 : tI t v 3 = nI u := (I.1 v 3 (Nat.le_refl _)).trans z3
    have hc2 : tA s 187 3 = nI u := (I.2.2.2.1 3 (by omega)).trans z4
    have w1 : Fdw v t (wi (wa t (v + 4) u (nI i)) v 3 (nI (u + 1))) := Fdw_t (Fdw_a (by omega)) (Fdw_i (Nat.le_refl _))
    have w2 : Fs s (wa (wa s 187 (71 + u) (nI i)) 187 3 (nI (u + 1))) := Fs_t Fs_a Fs_a
    rw [F_X4_readPlace_b26, F_X12_readPlace_b32, if_pos hW, x_i183_11 X0, Option.bind_some, m11, if_neg (show ¬ ¬ nI 0 = (0 : Int32) from fun h => h rfl), if_pos hW, pc4_ec X D hu hc1, pc4_em X0 hu m11 hc2]
    exact ⟨_, _, rfl, rfl, Kv_w w1, Kn_w w2, Or.inl ⟨b, e, km, i, Lv_w L D.2.1 w1 w2, Nat.le_refl _, by omega, by omega, pc4_end D.2.1 I hu (by omega)⟩⟩
  | succ k ih =>
    intro i fuel fuel' t s b e km hk hf hf' L I
    obtain ⟨fu, rfl⟩ : ∃ z, fuel = z + 1 := ⟨fuel - 1, by omega⟩
    obtain ⟨fu', rfl⟩ : ∃ z, fuel' = z + 1 := ⟨fuel' - 1, by omega⟩
    have X := L.1.1
    have X0 := L.1.2
    have hb := l_b L
    have hv := D.2.1
    have c11 : tI t 70 11 = nI 0 := L.2.2.2.1.2.2
    have m11 : tI s 183 11 = nI 0 := L.2.2.2.2.1.2.2.2
    have hW : ¬ (4 : Int32) ≤ nI i := show ¬ nI 4 ≤ nI i by rw [nI_leI (by decide) (by omega)]; omega
    have hc1 : tI t v 3 = nI u := (I.1 v 3 (Nat.le_refl _)).trans z3
    have hc2 : tA s 187 3 = nI u := (I.2.2.2.1 3 (by omega)).trans z4
    have y1 : tI t v 0 = nI (N) := by rw [I.1 v 0 (Nat.le_refl _), z1]
    have y2 : tA s 187 1 = nI (N) := by rw [I.2.2.2.1 1 (by omega), z2]
    have y3 : tA s 187 328 = nI nc := (I.2.2.2.1 328 (by omega)).trans z5
    obtain ⟨kc, k1, k2, k3, k4⟩ := l_kind L
    have m23 := l_is L (k := 23) (by decide)
    by_cases c : i = 0 ∨ km = 23
    · obtain ⟨t1, s1, zc, zm, e1, e2, q1, q2, r⟩ := l_take L y3 0 (nI (N))
      rw [← y1] at e1
      have e2' : F_X12_takes 183 0 (tA s 187 1) (Em g0 s) = some (zm, Em g0 s1) := by rw [y2]; exact e2
      have E1 : F_X4_readPlace_b26 (fu + 1) 70 (nI u) (nI i) (Em g t) = F_X4_readPlace_b26 fu 70 (nI u) (nI (i + 1)) (Em g (wa t1 (v + 3) (u * 4 + i) zc)) := by
        rw [F_X4_readPlace_b26, if_neg hW, x_i70_11 X, Option.bind_some, c11, if_neg (show ¬ ¬ nI 0 = (0 : Int32) from fun h => h rfl), pc4_bc X D hu (by omega) e1, x_i70_7 X, Option.bind_some, k1]
        by_cases c0 : i = 0
        · rw [if_pos (show nI i = (0 : Int32) by rw [c0]; rfl)]
        · rw [if_neg (show ¬ nI i = (0 : Int32) from show ¬ nI i = nI 0 by rw [nI_eq (by omega) (by decide)]; exact c0), if_neg (show ¬ ¬ nI kc = (1 : Int32) from fun h => h (by rw [k3.mp (c.resolve_left c0)]; rfl))]
      have E2 : F_X12_readPlace_b32 (fu' + 1) 183 (nI u) (nI i) (Em g0 s) = F_X12_readPlace_b32 fu' 183 (nI u) (nI (i + 1)) (Em g0 (wa s1 187 (83 + 4 * u + i) zm)) := by
        rw [F_X12_readPlace_b32, x_i183_11 X0, Option.bind_some, m11, if_neg (show ¬ ¬ nI 0 = (0 : Int32) from fun h => h rfl), if_neg hW, pc4_bm X0 hu (by omega) e2', x_rc183 X0, Option.bind_some, show (23 : Int32) = nI 23 from rfl, m23, Option.bind_some]
        by_cases c0 : i = 0
        · rw [if_pos (show nI i = (0 : Int32) by rw [c0]; rfl)]
        · rw [if_neg (show ¬ nI i = (0 : Int32) from show ¬ nI i = nI 0 by rw [nI_eq (by omega) (by decide)]; exact c0), decide_eq_true (c.resolve_left c0), if_neg (show ¬ bI true = (0 : Int32) by decide), pc4_bm X0 hu (by omega) e2']
      rw [E1, E2]
      have w1 : Fdw v t1 (wa t1 (v + 3) (u * 4 + i) zc) := Fdw_a (by omega)
      have w2 : Fs s1 (wa s1 187 (83 + 4 * u + i) zm) := Fs_a
      have K1 : Kv v t (wa t1 (v + 3) (u * 4 + i) zc) := Kv_t (Kv_c (Kc_q (by decide) q1)) (Kv_w w1)
      have K2 : Kn s (wa s1 187 (83 + 4 * u + i) zm) := Kn_t (Kn_m (Km_q (by decide) q2)) (Kn_w w2)
      have ti : ∀ b k, v ≤ b → tI (wa t1 (v + 3) (u * 4 + i) zc) b k = tI t0 b k := fun b k hb => by rw [tI_wa, q1.1 b k (fun e => absurd e (by omega))]; exact I.1 b k hb
      have sa : ∀ x, x ≠ 83 + 4 * u + i → tA (wa s1 187 (83 + 4 * u + i) zm) 187 x = tA s 187 x := fun x hx => by rw [tA_as, upd_n hx, q2.2.1]
      rcases r with ⟨b1, ee1, km1, val, r1, r2, r3, r4, r5, r6, L1, r7⟩ | ⟨f, p, r1, N1, N2⟩
      · subst r2
        subst r3
        have hval : val ≤ N := by
          have := r6
          rw [nI_leI (by omega) (by omega)] at this
          exact this
        have I1 : Pcl t0 s0 v u N (i + 1) (wa t1 (v + 3) (u * 4 + i) (nI val)) (wa s1 187 (83 + 4 * u + i) (nI val)) := by
          refine ⟨ti, fun b hb h => by rw [tA_an h, q1.2.1]; exact I.2.1 b hb h, fun x hx => by rw [tA_as, upd_n (by omega), q1.2.1]; exact I.2.2.1 x hx, fun x hx => by rw [sa x (by omega)]; exact I.2.2.2.1 x hx, fun j hj => ?_⟩
          by_cases c : j = i
          · subst c
            rw [tA_as, upd_s, tA_as, upd_s]
            exact ⟨rfl, val, hval, rfl⟩
          · rw [tA_as, upd_n (by omega), q1.2.1, sa _ (by omega)]
            exact I.2.2.2.2 j (by omega)
        obtain ⟨t2, s2, e3, e4, K3, K4, r⟩ := ih (i + 1) fu fu' _ _ b1 ee1 km1 (by omega) (by omega) (by omega) (Lv_w L1 hv w1 w2) I1
        refine ⟨t2, s2, e3, e4, Kv_t K1 K3, Kn_t K2 K4, ?_⟩
        rcases r with ⟨b2, ee2, km2, i2, u1, u2, u3⟩ | ⟨f, p, u1, u2⟩
        · exact Or.inl ⟨b2, ee2, km2, i2, u1, by omega, u3⟩
        · exact Or.inr ⟨f, p, by omega, u2⟩
      · obtain ⟨t2, e3, K3, N3⟩ := pc4_nc (i := nI (i + 1)) X D (Nc_w N1 hv w1) hu ((ti v 3 (Nat.le_refl _)).trans z3) (show 1 ≤ fu by omega)
        obtain ⟨s2, e4, K4, N4⟩ := pc4_nm (i := i + 1) X0 (Nm_w N2 w2 (by rw [tA_as, upd_n (by omega)])) hu ((sa 3 (by omega)).trans hc2) (by omega) (show 2 ≤ fu' by omega)
        exact ⟨t2, s2, e3, e4, Kv_t K1 K3, Kn_t K2 K4, Or.inr ⟨f, p, r1, N3, N4⟩⟩
    · have w1 : Fdw v t (wi (wa t (v + 4) u (nI i)) v 3 (nI (u + 1))) := Fdw_t (Fdw_a (by omega)) (Fdw_i (Nat.le_refl _))
      have w2 : Fs s (wa (wa s 187 (71 + u) (nI i)) 187 3 (nI (u + 1))) := Fs_t Fs_a Fs_a
      have h0 : ¬ nI i = (0 : Int32) := show ¬ nI i = nI 0 by rw [nI_eq (by omega) (by decide)]; omega
      refine ⟨_, _, ?_, ?_, Kv_w w1, Kn_w w2, Or.inl ⟨b, e, km, i, Lv_w L hv w1 w2, Nat.le_refl _, by omega, by omega, pc4_end hv I hu (by omega)⟩⟩
      · rw [F_X4_readPlace_b26, if_neg hW, x_i70_11 X, Option.bind_some, c11, if_neg (show ¬ ¬ nI 0 = (0 : Int32) from fun h => h rfl), if_neg h0, x_i70_7 X, Option.bind_some, k1, if_pos (show ¬ nI kc = (1 : Int32) from show ¬ nI kc = nI 1 by rw [nI_eq (by omega) (by decide)]; omega)]
        exact pc4_ec X D hu hc1
      · rw [F_X12_readPlace_b32, x_i183_11 X0, Option.bind_some, m11, if_neg (show ¬ ¬ nI 0 = (0 : Int32) from fun h => h rfl), if_neg hW, if_neg h0, x_rc183 X0, Option.bind_some, show (23 : Int32) = nI 23 from rfl, m23, Option.bind_some, decide_eq_false (by omega), if_pos (show bI false = (0 : Int32) by decide)]
        exact pc4_em X0 hu m11 hc2
theorem pc4_line (L : Lv g t g0 s T n b e km) (D : DS g v) (hu : u ≤ 6) (hN : 2 ≤ N ∧ N ≤ 10) (z1 : tI t v 0 = nI N) (z2 : tA s 187 1 = nI N) (z3 : tI t v 3 = nI u) (z4 : tA s 187 3 = nI u) (z5 : tA s 187 328 = nI nc) : ∃ t' s', F_X4_readPlace 70 (Em g t) = some ((), Em g t') ∧ F_X12_readPlace 183 (Em g0 s) = some ((), Em g0 s') ∧ Kv v t t' ∧ Kn s s' ∧ ((∃ b' e' km' i, Lv g t' g0 s' T n b' e' km' ∧ e ≤ b' ∧ u < 6 ∧ 1 ≤ i ∧ i ≤ 4 ∧ Pce t s v u N i t' s') ∨ (∃ f p, b ≤ p ∧ Nc t' T n f p ∧ Nm s' T n f p nc)) := by
  have X := L.1.1
  have X0 := L.1.2
  have hb := l_b L
  have m11 : tI s 183 11 = nI 0 := L.2.2.2.2.1.2.2.2
  have hA : aI (Em g0 s) 187 3 = some (tA s 187 3) := x_a187 X0 (k := 3) (by decide)
  unfold F_X4_readPlace F_X12_readPlace
  rw [d_70 X D, Option.bind_some, v_i3 D.1, Option.bind_some, z3, x_r183_4 X0, Option.bind_some, hA, Option.bind_some, z4]
  by_cases c6 : u < 6
  · rw [if_pos (show nI u < (6 : Int32) from show nI u < nI 6 by rw [nI_ltI (by omega) (by decide)]; exact c6), if_pos (show ¬ nI u = (6 : Int32) from show ¬ nI u = nI 6 by rw [nI_eq (by omega) (by decide)]; omega), x_rc70 X, Option.bind_some]
    unfold F_X12_readPlace_b18
    rw [x_i183_11 X0, Option.bind_some, m11, if_pos (show nI 0 = (0 : Int32) from rfl), x_rc183 X0, Option.bind_some]
    obtain ⟨t1, s1, e1, e2, q1, q2, r⟩ := l_adv L z5
    rw [e1, Option.bind_some, e2, Option.bind_some]
    have K1 : Kv v t t1 := Kv_c (Kc_q (by decide) q1)
    have K2 : Kn s s1 := Kn_m (Km_q (by decide) q2)
    have hv := D.2.1
    have ti : ∀ b k, v ≤ b → tI t1 b k = tI t b k := fun b k hb => q1.1 b k (fun e => absurd e (by omega))
    rcases r with ⟨b1, ee1, km1, L1, g1⟩ | ⟨p, g1, N1, N2⟩
    · obtain ⟨t2, s2, e3, e4, K3, K4, r⟩ := pc4_loop D c6 hN z1 z2 z3 z4 z5 4 0 FU FU t1 s1 b1 ee1 km1 (by omega) (by decide) (by decide) L1 ⟨ti, fun b _ _ => by rw [q1.2.1], fun x _ => by rw [q1.2.1], fun x _ => by rw [q2.2.1], fun j hj => absurd hj (by omega)⟩
      refine ⟨t2, s2, e3, e4, Kv_t K1 K3, Kn_t K2 K4, ?_⟩
      rcases r with ⟨b2, ee2, km2, i2, u1, u2, u3, u4, u5⟩ | ⟨f, p, u1, u2⟩
      · exact Or.inl ⟨b2, ee2, km2, i2, u1, by omega, c6, u3, u4, u5⟩
      · exact Or.inr ⟨f, p, by omega, u2⟩
    · obtain ⟨t2, e3, K3, N3⟩ := pc4_nc (i := nI 0) X D N1 c6 ((ti v 3 (Nat.le_refl _)).trans z3) (show 1 ≤ FU by decide)
      obtain ⟨s2, e4, K4, N4⟩ := pc4_nm (i := 0) X0 N2 c6 (by rw [q2.2.1]; exact z4) (by omega) (show 2 ≤ FU by decide)
      exact ⟨t2, s2, e3, e4, Kv_t K1 K3, Kn_t K2 K4, Or.inr ⟨1, p, by omega, N3, N4⟩⟩
  · have u6 : u = 6 := by omega
    obtain ⟨t1, s1, e1, e2, q1, q2, N1, N2⟩ := l_fail L (f := 4) ⟨by decide, by decide⟩
    refine ⟨t1, s1, ?_, ?_, Kv_c (Kc_q (by decide) q1), Kn_m (Km_q (by decide) q2), Or.inr ⟨4, b, Nat.le_refl _, N1, Or.inl N2⟩⟩
    · rw [if_neg (show ¬ nI u < (6 : Int32) by rw [u6]; decide), x_rc70 X, Option.bind_some, show (4 : Int32) = nI 4 from rfl, e1, Option.bind_some]
    · rw [if_neg (show ¬ ¬ nI u = (6 : Int32) from fun h => h (by rw [u6]; rfl)), x_rc183 X0, Option.bind_some, show (4 : Int32) = nI 4 from rfl, e2, Option.bind_some]
      unfold F_X12_readPlace_b18
      rw [x_i183_11 X0, Option.bind_some, N2.2.2.1, if_neg (show ¬ nI 4 = (0 : Int32) by decide)]
end Xpc4
