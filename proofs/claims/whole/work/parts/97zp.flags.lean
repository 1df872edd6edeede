/-! ===== flags, and the line of a person ===== -/
section XFl
variable {g g0 : Sk} {t t1 t' t0 s s1 s' s0 : Tb} {T : Nat → Int32} {n b e km f p q nc v u N K i m fo : Nat} {x z : Int32} {S S' : List Nat}
theorem fl_89 (X0 : Fx g0) : F_X12_readFlag_b89 183 (Em g0 s) = some (if tI s 183 11 = nI 0 then 1 else 0, Em g0 s) := by
  unfold F_X12_readFlag_b89
  rw [x_i183_11 X0, Option.bind_some]
  by_cases c : tI s 183 11 = nI 0
  · rw [if_neg (show ¬ ¬ tI s 183 11 = (0 : Int32) from fun h => h c), if_pos c]
  · rw [if_pos (show ¬ tI s 183 11 = (0 : Int32) from c), if_neg c]
theorem fl_k (L : Lv g t g0 s T n b e km) (D : DS g v) (hu : u < 6) (hN : 2 ≤ N ∧ N ≤ 10) (z1 : tI t0 v 0 = nI N) (z2 : tA s0 187 1 = nI N) (z5 : tA s0 187 328 = nI nc) (I : Psi t0 s0 v u N K fo t s) (c : km = 6 ∨ km = 7 ∨ km = 8) : ∃ t' s' r, F_X4_readFlag 70 (nI u) (Em g t) = some ((), Em g t') ∧ F_X12_readFlag 183 (nI u) (Em g0 s) = some (r, Em g0 s') ∧ Kv v t t' ∧ Kn s s' ∧ ((∃ b' e' km', r = 1 ∧ Lv g t' g0 s' T n b' e' km' ∧ b < b' ∧ Psi t0 s0 v u N K fo t' s') ∨ (∃ f p, b ≤ p ∧ Nc t' T n f p ∧ Nm s' T n f p nc)) := by
  have X := L.1.1
  have X0 := L.1.2
  have hb := l_b L
  have hv := D.2.1
  have y3 : tA s 187 328 = nI nc := (I.2.2.2.1 328 (by omega) (by omega) (by omega) (by omega)).trans z5
  have eA : F_X4_isAt 70 16 (Em g t) = some (bI (decide (km = 6)), Em g t) := l_isAt L (a := 16) (i := 8) rfl (by decide) (by decide)
  have eB : F_X4_isAt 70 18 (Em g t) = some (bI (decide (km = 7)), Em g t) := l_isAt L (a := 18) (i := 9) rfl (by decide) (by decide)
  have eC : F_X4_isAt 70 20 (Em g t) = some (bI (decide (km = 8)), Em g t) := l_isAt L (a := 20) (i := 10) rfl (by decide) (by decide)
  obtain ⟨t1, s1, e1, e2, q1, q2, r⟩ := l_adv L y3
  have K1 : Kv v t t1 := Kv_c (Kc_q (by decide) q1)
  have K2 : Kn s s1 := Kn_m (Km_q (by decide) q2)
  have I1 := Ps_q hv I q1 q2
  have y4 : tA s1 187 328 = nI nc := by rw [q2.2.1]; exact y3
  have y0 : tI t1 v 0 - 1 = nI (N - 1) := by rw [I1.1 v 0 (Nat.le_refl _) (by omega), z1]; exact nI_sub (b := 1) (by omega)
  have y1 : tA s1 187 1 - 1 = nI (N - 1) := by rw [I1.2.2.2.1 1 (by omega) (by omega) (by omega) (by omega), z2]; exact nI_sub (b := 1) (by omega)
  have hA : ∀ s : Tb, aI (Em g0 s) 187 1 = some (tA s 187 1) := fun s => x_a187 X0 (k := 1) (by decide)
  unfold F_X4_readFlag F_X12_readFlag
  rw [x_rc70 X, Option.bind_some, eA, Option.bind_some, x_rc183 X0, Option.bind_some]
  rcases c with c | c | c
  · have eM : F_X12_eats 183 6 (Em g0 s) = some (1, Em g0 s1) := l_eaty L (k := 6) (by decide) c e2
    rw [decide_eq_true c, if_neg (show ¬ bI true = (0 : Int32) by decide), x_rc70 X, Option.bind_some, e1, Option.bind_some, d_70 X D, Option.bind_some, v_r11 D.1, Option.bind_some, d_r2 D, Option.bind_some, Option.bind_some, v_i0 D.1, Option.bind_some, x_rc70 X, Option.bind_some, y0, eM, Option.bind_some, if_neg (show ¬ (1 : Int32) = 0 by decide), x_r183_4 X0, Option.bind_some, Option.bind_some, hA, Option.bind_some, y1, x_rc183 X0, Option.bind_some, show (121 : Int32) + nI u = nI (121 + u) from nI_add 121 u]
    rcases r with ⟨b1, ee1, km1, L1, g1⟩ | ⟨p, g1, N1, N2⟩
    · obtain ⟨t2, s2, zc, zm, e3, e4, q3, q4, r⟩ := l_take L1 y4 0 (nI (N - 1))
      rw [e3, Option.bind_some, d_s10 D hu, Option.bind_some, e4, Option.bind_some, x_s187 X0 (by omega), Option.bind_some, fl_89 X0]
      have w1 : Fdw v t2 (wa t2 (v + 10) u zc) := Fdw_a (by omega)
      have w2 : Fs s2 (wa s2 187 (121 + u) zm) := Fs_a
      refine ⟨_, _, _, rfl, rfl, Kv_t K1 (Kv_t (Kv_c (Kc_q (by decide) q3)) (Kv_w w1)), Kn_t K2 (Kn_t (Kn_m (Km_q (by decide) q4)) (Kn_w w2)), ?_⟩
      rcases r with ⟨b2, ee2, km2, m, r1, rfl, rfl, r4, r5, r6, L2, r7⟩ | ⟨f, p, r1, N1, N2⟩
      · rw [nI_leI (by omega) (by omega)] at r6
        exact Or.inl ⟨b2, ee2, km2, if_pos L2.2.2.2.2.1.2.2.2, Lv_w L2 hv w1 w2, by omega, Ps_10 hu (by omega) (Ps_q hv I1 q3 q4)⟩
      · exact Or.inr ⟨f, p, by omega, Nc_w N1 hv w1, Nm_w N2 w2 (by rw [tA_as, upd_n (by omega)])⟩
    · obtain ⟨s2, zm, e4, q4, d4⟩ := n_takem X0 N2 0 (nI (N - 1))
      rw [n_takec X N1, Option.bind_some, d_s10 D hu, Option.bind_some, e4, Option.bind_some, x_s187 X0 (by omega), Option.bind_some, fl_89 X0]
      have w1 : Fdw v t1 (wa t1 (v + 10) u (-1)) := Fdw_a (by omega)
      have w2 : Fs s2 (wa s2 187 (121 + u) zm) := Fs_a
      exact ⟨_, _, _, rfl, rfl, Kv_t K1 (Kv_w w1), Kn_t K2 (Kn_t (Kn_m (Km_q (by decide) q4)) (Kn_w w2)), Or.inr ⟨1, p, by omega, Nc_w N1 hv w1, Or.inl (Dd_w d4 w2)⟩⟩
  · have e6 : F_X12_eats 183 6 (Em g0 s) = some (0, Em g0 s) := l_eatn L (k := 6) (by decide) (by omega)
    have eM : F_X12_eats 183 7 (Em g0 s) = some (1, Em g0 s1) := l_eaty L (k := 7) (by decide) c e2
    rw [decide_eq_false (by omega), if_pos (show bI false = (0 : Int32) by decide), x_rc70 X, Option.bind_some, eB, Option.bind_some, decide_eq_true c, if_neg (show ¬ bI true = (0 : Int32) by decide), x_rc70 X, Option.bind_some, e1, Option.bind_some, d_70 X D, Option.bind_some, v_r11 D.1, Option.bind_some, d_r1 D, Option.bind_some, x_rc70 X, Option.bind_some, e6, Option.bind_some, if_pos rfl, x_rc183 X0, Option.bind_some, eM, Option.bind_some, if_neg (show ¬ (1 : Int32) = 0 by decide), x_r183_4 X0, Option.bind_some, x_rc183 X0, Option.bind_some, show (115 : Int32) + nI u = nI (115 + u) from nI_add 115 u]
    rcases r with ⟨b1, ee1, km1, L1, g1⟩ | ⟨p, g1, N1, N2⟩
    · obtain ⟨t2, s2, zc, zm, e3, e4, q3, q4, r⟩ := l_take L1 y4 0 9
      rw [e3, Option.bind_some, d_s9 D hu, Option.bind_some, e4, Option.bind_some, x_s187 X0 (by omega), Option.bind_some, fl_89 X0]
      have w1 : Fdw v t2 (wa t2 (v + 9) u zc) := Fdw_a (by omega)
      have w2 : Fs s2 (wa s2 187 (115 + u) zm) := Fs_a
      refine ⟨_, _, _, rfl, rfl, Kv_t K1 (Kv_t (Kv_c (Kc_q (by decide) q3)) (Kv_w w1)), Kn_t K2 (Kn_t (Kn_m (Km_q (by decide) q4)) (Kn_w w2)), ?_⟩
      rcases r with ⟨b2, ee2, km2, m, r1, rfl, rfl, r4, r5, r6, L2, r7⟩ | ⟨f, p, r1, N1, N2⟩
      · rw [show (9 : Int32) = nI 9 from rfl, nI_leI (by omega) (by omega)] at r6
        exact Or.inl ⟨b2, ee2, km2, if_pos L2.2.2.2.2.1.2.2.2, Lv_w L2 hv w1 w2, by omega, Ps_9 hu (by omega) (Ps_q hv I1 q3 q4)⟩
      · exact Or.inr ⟨f, p, by omega, Nc_w N1 hv w1, Nm_w N2 w2 (by rw [tA_as, upd_n (by omega)])⟩
    · obtain ⟨s2, zm, e4, q4, d4⟩ := n_takem X0 N2 0 9
      rw [n_takec X N1, Option.bind_some, d_s9 D hu, Option.bind_some, e4, Option.bind_some, x_s187 X0 (by omega), Option.bind_some, fl_89 X0]
      have w1 : Fdw v t1 (wa t1 (v + 9) u (-1)) := Fdw_a (by omega)
      have w2 : Fs s2 (wa s2 187 (115 + u) zm) := Fs_a
      exact ⟨_, _, _, rfl, rfl, Kv_t K1 (Kv_w w1), Kn_t K2 (Kn_t (Kn_m (Km_q (by decide) q4)) (Kn_w w2)), Or.inr ⟨1, p, by omega, Nc_w N1 hv w1, Or.inl (Dd_w d4 w2)⟩⟩
  · have e6 : F_X12_eats 183 6 (Em g0 s) = some (0, Em g0 s) := l_eatn L (k := 6) (by decide) (by omega)
    have e7 : F_X12_eats 183 7 (Em g0 s) = some (0, Em g0 s) := l_eatn L (k := 7) (by decide) (by omega)
    have eM : F_X12_eats 183 8 (Em g0 s) = some (1, Em g0 s1) := l_eaty L (k := 8) (by decide) c e2
    have h108 : aI (Em g0 s1) 187 108 = some (tA s1 187 108) := x_a187 X0 (k := 108) (by decide)
    have s108 : ∀ z : Int32, sI (Em g0 s1) 187 108 z = some (Em g0 (wa s1 187 108 z)) := fun z => x_s187 X0 (k := 108) (by decide)
    rw [decide_eq_false (by omega), if_pos (show bI false = (0 : Int32) by decide), x_rc70 X, Option.bind_some, eB, Option.bind_some, decide_eq_false (by omega), if_pos (show bI false = (0 : Int32) by decide), x_rc70 X, Option.bind_some, eC, Option.bind_some, decide_eq_true c, if_neg (show ¬ bI true = (0 : Int32) by decide), x_rc70 X, Option.bind_some, e1, Option.bind_some, d_70 X D, Option.bind_some, v_r11 D.1, Option.bind_some, z_i3 D.2.2.1, Option.bind_some, z_w3 D.2.2.1, Option.bind_some, e6, Option.bind_some, if_pos rfl, x_rc183 X0, Option.bind_some, e7, Option.bind_some, if_pos rfl, x_rc183 X0, Option.bind_some, eM, Option.bind_some, if_neg (show ¬ (1 : Int32) = 0 by decide), x_r183_4 X0, Option.bind_some, h108, Option.bind_some, s108, Option.bind_some, fl_89 X0]
    have w1 : Fdw v t1 (wi t1 (v + 7) 3 (tI t1 (v + 7) 3 ||| ((1 : Int32) <<< (nI u &&& 31)))) := Fdw_i (by omega)
    have w2 : Fs s1 (wa s1 187 108 (tA s1 187 108 ||| ((1 : Int32) <<< (nI u &&& 31)))) := Fs_a
    refine ⟨_, _, _, rfl, rfl, Kv_t K1 (Kv_w w1), Kn_t K2 (Kn_w w2), ?_⟩
    rcases r with ⟨b1, ee1, km1, L1, g1⟩ | ⟨p, g1, N1, N2⟩
    · exact Or.inl ⟨b1, ee1, km1, if_pos L1.2.2.2.2.1.2.2.2, Lv_w L1 hv w1 w2, by omega, Ps_f hu I1⟩
    · exact Or.inr ⟨1, p, by omega, Nc_w N1 hv w1, Nm_w N2 w2 (by rw [tA_as, upd_n (by omega)])⟩
/-- the reference is live where the class has failed: the line's end will fail too -/
def Nz (s : Tb) (T : Nat → Int32) (n f p nc : Nat) : Prop := MR s T n ∧ f = 2 ∧ p ≤ n ∧ tI s 183 11 = nI 0 ∧ tI s 183 6 = nI p ∧ ∃ km, km < 42 ∧ km ≠ 25 ∧ km ≠ 30 ∧ tI s 183 9 = nI km
theorem fl_no (L : Lv g t g0 s T n b e km) (c : ¬ (km = 6 ∨ km = 7 ∨ km = 8)) {x y : Int32} : ∃ t', F_X4_readFlag 70 x (Em g t) = some ((), Em g t') ∧ F_X12_readFlag 183 y (Em g0 s) = some (0, Em g0 s) ∧ Qs 70 [11, 12] t t' ∧ Nc t' T n 2 b := by
  have X := L.1.1
  have X0 := L.1.2
  have eA : F_X4_isAt 70 16 (Em g t) = some (bI (decide (km = 6)), Em g t) := l_isAt L (a := 16) (i := 8) rfl (by decide) (by decide)
  have eB : F_X4_isAt 70 18 (Em g t) = some (bI (decide (km = 7)), Em g t) := l_isAt L (a := 18) (i := 9) rfl (by decide) (by decide)
  have eC : F_X4_isAt 70 20 (Em g t) = some (bI (decide (km = 8)), Em g t) := l_isAt L (a := 20) (i := 10) rfl (by decide) (by decide)
  have e6 : F_X12_eats 183 6 (Em g0 s) = some (0, Em g0 s) := l_eatn L (k := 6) (by decide) (by omega)
  have e7 : F_X12_eats 183 7 (Em g0 s) = some (0, Em g0 s) := l_eatn L (k := 7) (by decide) (by omega)
  have e8 : F_X12_eats 183 8 (Em g0 s) = some (0, Em g0 s) := l_eatn L (k := 8) (by decide) (by omega)
  obtain ⟨t1, s1, e1, e2, q1, q2, N1, N2⟩ := l_fail L (f := 2) ⟨by decide, by decide⟩
  refine ⟨t1, ?_, ?_, q1, N1⟩
  · unfold F_X4_readFlag
    rw [x_rc70 X, Option.bind_some, eA, Option.bind_some, decide_eq_false (by omega), if_pos (show bI false = (0 : Int32) by decide), x_rc70 X, Option.bind_some, eB, Option.bind_some, decide_eq_false (by omega), if_pos (show bI false = (0 : Int32) by decide), x_rc70 X, Option.bind_some, eC, Option.bind_some, decide_eq_false (by omega), if_pos (show bI false = (0 : Int32) by decide), x_rc70 X, Option.bind_some, show (2 : Int32) = nI 2 from rfl, e1, Option.bind_some]
  · unfold F_X12_readFlag
    rw [x_rc183 X0, Option.bind_some, e6, Option.bind_some, if_pos rfl, x_rc183 X0, Option.bind_some, e7, Option.bind_some, if_pos rfl, x_rc183 X0, Option.bind_some, e8, Option.bind_some, if_pos rfl]
end XFl
