/-! ===== the line of a person, to its end ===== -/
theorem pasB {k : Int32} {h h' : xH} {R : xH → Option (Unit × xH)} (e : pasM k h = some ((), h')) : ((F_X12_eats 183 k h).bind fun z => if ¬ z.1 = 0 then R z.2 else (rc z.2 183 11).bind fun _ => (F_X12_fails 183 2 z.2).bind fun z' => R z'.2) = R h' := by
  unfold pasM at e
  cases he : F_X12_eats 183 k h with
  | none => rw [he] at e; cases e
  | some z =>
    rw [he, Option.bind_some] at e
    rw [Option.bind_some]
    by_cases c : ¬ z.1 = 0
    · rw [if_pos c] at e ⊢
      injection e with e
      injection e with _ e
      rw [e]
    · rw [if_neg c] at e ⊢
      cases hr : rc z.2 183 11 with
      | none => rw [hr] at e; cases e
      | some _ =>
        rw [hr, Option.bind_some] at e
        rw [Option.bind_some, e, Option.bind_some]
section XPq
variable {g g0 : Sk} {t t1 t' t0 s s1 s' s0 : Tb} {T : Nat → Int32} {n b e km f p q nc v u N K i m fo : Nat} {x z : Int32} {S S' : List Nat}
theorem Qs_u {a : Nat} {t2 : Tb} (h : Qs a S t t1) (h2 : Qs a S t1 t2) : Qs a S t t2 := ⟨fun b k q => (h2.1 b k q).trans (h.1 b k q), h2.2.1.trans h.2.1, h2.2.2.trans h.2.2⟩
theorem pe_loop (D : DS g v) (hu : u < 6) (hN : 2 ≤ N ∧ N ≤ 10) (z1 : tI t0 v 0 = nI N) (z2 : tA s0 187 1 = nI N) (z3 : tI t0 v 4 = nI u) (z4 : tA s0 187 4 = nI u) (z5 : tA s0 187 328 = nI nc) : ∀ (k fuel fuel' i : Nat) (t s : Tb) (b e km : Nat), n - b ≤ k → k + 2 ≤ fuel → k + 2 ≤ fuel' → i < b → Lv g t g0 s T n b e km → Psi t0 s0 v u N K fo t s → ∃ t' s', F_X4_readPerson_b75 fuel 70 (nI u) (nI i) (Em g t) = some ((), Em g t') ∧ F_X12_readPerson_b65 fuel' 183 (nI u) (Em g0 s) = some ((), Em g0 s') ∧ Kv v t t' ∧ Kn s s' ∧ ((∃ b' e' tz sz, Lv g t' g0 s' T n b' e' 30 ∧ b ≤ b' ∧ Psi t0 s0 v u N K fo tz sz ∧ t' = wi tz v 4 (nI (u + 1)) ∧ s' = wa sz 187 4 (nI (u + 1))) ∨ (∃ f p, b ≤ p ∧ Nc t' T n f p ∧ (Nm s' T n f p nc ∨ Nz s' T n f p nc))) := by
  intro k
  induction k with
  | zero =>
    intro fuel fuel' i t s b e km hk hf hf' hi L I
    obtain ⟨fu, rfl⟩ : ∃ z, fuel = z + 1 := ⟨fuel - 1, by omega⟩
    obtain ⟨fu', rfl⟩ : ∃ z, fuel' = z + 1 := ⟨fuel' - 1, by omega⟩
    have X := L.1.1
    have X0 := L.1.2
    have hb := l_b L
    have hv := D.2.1
    have c24 : km = 24 := by omega
    have e30 : F_X4_isAt 70 4 (Em g t) = some (bI (decide (km = 30)), Em g t) := l_isAt L (a := 4) (i := 2) rfl (by decide) (by decide)
    have m4 : tA s 187 4 = nI u := (I.2.2.2.1 4 (by omega) (by omega) (by omega) (by omega)).trans z4
    have m11 : tI s 183 11 = nI 0 := L.2.2.2.2.1.2.2.2
    obtain ⟨t1, e1, e2, q1, N1⟩ := fl_no L (x := nI u) (y := nI u) (by omega)
    obtain ⟨t2, e3, K3, N3⟩ := pe_nc X D N1 (x := nI u) (y := nI (i + 1)) (show 1 ≤ fu by omega)
    have w2 : Fs s (wa s 187 4 (tA s 187 4 + 1)) := Fs_a
    refine ⟨t2, _, ?_, ?_, Kv_t (Kv_c (Kc_q (by decide) q1)) K3, Kn_w w2, Or.inr ⟨2, b, Nat.le_refl _, N3, Or.inr ⟨⟨L.2.2.1.1, L.2.2.1.2.1, fun k hk => by rw [tA_an (by decide)]; exact L.2.2.1.2.2 k hk⟩, rfl, by omega, m11, L.2.2.2.2.1.1, km, hb.2.2.1, hb.2.2.2.1, by omega, L.2.2.2.2.1.2.2.1⟩⟩⟩
    · rw [F_X4_readPerson_b75, x_i70_4 X, Option.bind_some, L.2.1.2.1, if_neg (show ¬ nI n ≤ nI i by rw [nI_leI (by omega) (by omega)]; omega), x_i70_11 X, Option.bind_some, L.2.2.2.1.2.2, if_neg (show ¬ ¬ nI 0 = (0 : Int32) from fun h => h rfl), x_rc70 X, Option.bind_some, e30, Option.bind_some, decide_eq_false (by omega), if_neg (show ¬ ¬ bI false = (0 : Int32) by decide), x_rc70 X, Option.bind_some, e1, Option.bind_some, show nI i + 1 = nI (i + 1) from nI_add i 1]
      exact e3
    · rw [F_X12_readPerson_b65, x_i183_11 X0, Option.bind_some, m11, if_neg (show ¬ ¬ nI 0 = (0 : Int32) from fun h => h rfl), x_rc183 X0, Option.bind_some, e2, Option.bind_some, if_pos rfl]
      exact pe_83 X0 m11
  | succ k ih =>
    intro fuel fuel' i t s b e km hk hf hf' hi L I
    obtain ⟨fu, rfl⟩ : ∃ z, fuel = z + 1 := ⟨fuel - 1, by omega⟩
    obtain ⟨fu', rfl⟩ : ∃ z, fuel' = z + 1 := ⟨fuel' - 1, by omega⟩
    have X := L.1.1
    have X0 := L.1.2
    have hb := l_b L
    have hv := D.2.1
    have e30 : F_X4_isAt 70 4 (Em g t) = some (bI (decide (km = 30)), Em g t) := l_isAt L (a := 4) (i := 2) rfl (by decide) (by decide)
    have a4 : tI t v 4 = nI u := (I.1 v 4 (Nat.le_refl _) (by omega)).trans z3
    have m4 : tA s 187 4 = nI u := (I.2.2.2.1 4 (by omega) (by omega) (by omega) (by omega)).trans z4
    have m11 : tI s 183 11 = nI 0 := L.2.2.2.2.1.2.2.2
    rw [F_X4_readPerson_b75, x_i70_4 X, Option.bind_some, L.2.1.2.1, if_neg (show ¬ nI n ≤ nI i by rw [nI_leI (by omega) (by omega)]; omega), x_i70_11 X, Option.bind_some, L.2.2.2.1.2.2, if_neg (show ¬ ¬ nI 0 = (0 : Int32) from fun h => h rfl), x_rc70 X, Option.bind_some, e30, Option.bind_some, F_X12_readPerson_b65, x_i183_11 X0, Option.bind_some, m11, if_neg (show ¬ ¬ nI 0 = (0 : Int32) from fun h => h rfl), x_rc183 X0, Option.bind_some]
    by_cases c30 : km = 30
    · obtain ⟨t1, e1, e2, q1, N1⟩ := fl_no L (x := nI u) (y := nI u) (by omega)
      rw [decide_eq_true c30, if_pos (show ¬ bI true = (0 : Int32) by decide), pe_110 X D, e2, Option.bind_some, if_pos rfl, pe_83 X0 m11, a4, m4, show nI u + 1 = nI (u + 1) from nI_add u 1]
      have w1 : Fdw v t (wi t v 4 (nI (u + 1))) := Fdw_i (Nat.le_refl _)
      have w2 : Fs s (wa s 187 4 (nI (u + 1))) := Fs_a
      subst c30
      exact ⟨_, _, rfl, rfl, Kv_w w1, Kn_w w2, Or.inl ⟨b, e, t, s, Lv_w L hv w1 w2, Nat.le_refl _, I, rfl, rfl⟩⟩
    rw [decide_eq_false c30, if_neg (show ¬ ¬ bI false = (0 : Int32) by decide), x_rc70 X, Option.bind_some]
    by_cases c : km = 6 ∨ km = 7 ∨ km = 8
    · obtain ⟨t1, s1, r, e1, e2, K1, K2, rr⟩ := fl_k L D hu hN z1 z2 z5 I c
      rw [e1, Option.bind_some, e2, Option.bind_some, show nI i + 1 = nI (i + 1) from nI_add i 1]
      rcases rr with ⟨b1, ee1, km1, rfl, L1, g1, I1⟩ | ⟨f, p, g1, N1, N2⟩
      · obtain ⟨t2, s2, e3, e4, K3, K4, r⟩ := ih fu fu' (i + 1) t1 s1 b1 ee1 km1 (by omega) (by omega) (by omega) (by omega) L1 I1
        rw [if_neg (show ¬ (1 : Int32) = 0 by decide)]
        refine ⟨t2, s2, e3, e4, Kv_t K1 K3, Kn_t K2 K4, ?_⟩
        rcases r with ⟨b2, ee2, tz, sz, h1, h2, h3⟩ | ⟨f, p, h1, h2⟩
        · exact Or.inl ⟨b2, ee2, tz, sz, h1, by omega, h3⟩
        · exact Or.inr ⟨f, p, by omega, h2⟩
      · obtain ⟨t2, e3, K3, N3⟩ := pe_nc X D N1 (x := nI u) (y := nI (i + 1)) (show 1 ≤ fu by omega)
        by_cases cr : r = 0
        · obtain ⟨s2, e4, K4, N4⟩ := pe_83n X0 N2
          rw [if_pos cr]
          exact ⟨t2, s2, e3, e4, Kv_t K1 K3, Kn_t K2 K4, Or.inr ⟨f, p, g1, N3, Or.inl N4⟩⟩
        · obtain ⟨s2, e4, K4, N4⟩ := pe_nm X0 N2 (x := nI u) (show 1 ≤ fu' by omega)
          rw [if_neg cr]
          exact ⟨t2, s2, e3, e4, Kv_t K1 K3, Kn_t K2 K4, Or.inr ⟨f, p, g1, N3, Or.inl N4⟩⟩
    · obtain ⟨t1, e1, e2, q1, N1⟩ := fl_no L (x := nI u) (y := nI u) c
      obtain ⟨t2, e3, K3, N3⟩ := pe_nc X D N1 (x := nI u) (y := nI (i + 1)) (show 1 ≤ fu by omega)
      have w2 : Fs s (wa s 187 4 (tA s 187 4 + 1)) := Fs_a
      rw [e1, Option.bind_some, e2, Option.bind_some, if_pos rfl, show nI i + 1 = nI (i + 1) from nI_add i 1]
      exact ⟨t2, _, e3, pe_83 X0 m11, Kv_t (Kv_c (Kc_q (by decide) q1)) K3, Kn_w w2, Or.inr ⟨2, b, Nat.le_refl _, N3, Or.inr ⟨⟨L.2.2.1.1, L.2.2.1.2.1, fun k hk => by rw [tA_an (by decide)]; exact L.2.2.1.2.2 k hk⟩, rfl, by omega, m11, L.2.2.2.2.1.1, km, hb.2.2.1, hb.2.2.2.1, c30, L.2.2.2.2.1.2.2.1⟩⟩⟩
theorem pe_line (L : Lv g t g0 s T n b e km) (hbe : b < e) (D : DS g v) (hu : u ≤ 6) (hN : 2 ≤ N ∧ N ≤ 10) (hK : K ≤ 6) (z1 : tI t v 0 = nI N) (z2 : tA s 187 1 = nI N) (z3 : tI t v 4 = nI u) (z4 : tA s 187 4 = nI u) (z5 : tA s 187 328 = nI nc) (z6 : tI t v 3 = nI K) (z7 : tA s 187 3 = nI K) (z8 : u < 6 → tA t (v + 9) u = nI 0 ∧ tA s 187 (115 + u) = nI 0 ∧ tA s 187 (121 + u) = -nI 1) (z9 : tI t (v + 7) 3 = nI fo ∧ tA s 187 108 = nI fo) : ∃ t' s', F_X4_readPerson 70 (Em g t) = some ((), Em g t') ∧ F_X12_readPerson 183 (Em g0 s) = some ((), Em g0 s') ∧ Kv v t t' ∧ Kn s s' ∧ ((∃ b' e' tz sz, Lv g t' g0 s' T n b' e' 30 ∧ e ≤ b' ∧ u < 6 ∧ Psi t s v u N K fo tz sz ∧ t' = wi tz v 4 (nI (u + 1)) ∧ s' = wa sz 187 4 (nI (u + 1))) ∨ (∃ f p, b ≤ p ∧ Nc t' T n f p ∧ (Nm s' T n f p nc ∨ Nz s' T n f p nc))) := by
  have X := L.1.1
  have X0 := L.1.2
  have hb := l_b L
  have hv := D.2.1
  have m11 : tI s 183 11 = nI 0 := L.2.2.2.2.1.2.2.2
  have hA4 : aI (Em g0 s) 187 4 = some (tA s 187 4) := x_a187 X0 (k := 4) (by decide)
  have hA3 : ∀ s : Tb, aI (Em g0 s) 187 3 = some (tA s 187 3) := fun s => x_a187 X0 (k := 3) (by decide)
  unfold F_X4_readPerson F_X12_readPerson
  rw [d_70 X D, Option.bind_some, v_i4 D.1, Option.bind_some, z3, x_r183_4 X0, Option.bind_some, hA4, Option.bind_some, z4]
  by_cases c6 : u < 6
  · obtain ⟨y1, y2, y3⟩ := z8 c6
    -- as far as the number
    obtain ⟨t1, t2, s1, s2, a1, a2, b1, b2, q1, q2, r⟩ : ∃ t1 t2 s1 s2, F_X4_advance 70 (Em g t) = some ((), Em g t1) ∧ F_X4_pass 70 14 (Em g t1) = some ((), Em g t2) ∧ F_X12_next 183 (Em g0 s) = some ((), Em g0 s1) ∧ pasM 5 (Em g0 s1) = some ((), Em g0 s2) ∧ Qs 70 [5, 6, 7, 8, 11, 12] t t2 ∧ Qs 183 [6, 7, 9, 10, 11, 12] s s2 ∧ ((∃ b' e' km', Lv g t2 g0 s2 T n b' e' km' ∧ e ≤ b') ∨ (∃ f p, b ≤ p ∧ Nc t2 T n f p ∧ Nm s2 T n f p nc)) := by
      obtain ⟨t1, s1, e1, e2, q1, q2, r⟩ := l_adv L z5
      have q2' : Qs 183 [6, 7, 9, 10, 11, 12] s s1 := Qs_m (by decide) q2
      rcases r with ⟨b1, ee1, km1, L1, g1⟩ | ⟨p, g1, N1, N2⟩
      · obtain ⟨t2, s2, e3, e4, q3, q4, r⟩ := l_pass L1 (nc := nc) (by rw [q2.2.1]; exact z5) (a := 14) (i := 7) rfl (by decide) (by decide) (by decide)
        refine ⟨t1, t2, s1, s2, e1, e3, e2, e4, Qs_u q1 q3, Qs_u q2' q4, ?_⟩
        have hb1 := l_b L1
        rcases r with ⟨b2, ee2, km2, r1, L2, r2⟩ | ⟨f, p, r1, N1, N2⟩
        · exact Or.inl ⟨b2, ee2, km2, L2, by omega⟩
        · exact Or.inr ⟨f, p, by omega, N1, N2⟩
      · obtain ⟨s2, e4, q4, d4⟩ := n_passm X0 N2 (k := 5) (by decide) (by decide)
        exact ⟨t1, t1, s1, s2, e1, n_passc X N1 (a := 14) (i := 7) rfl (by decide), e2, e4, q1, Qs_u q2' (Qs_m (by decide) q4), Or.inr ⟨1, p, by omega, N1, Or.inl d4⟩⟩
    have o3 : tI t2 v 3 = nI K := by rw [q1.1 v 3 (fun e => absurd e (by omega))]; exact z6
    have p3 : tA s2 187 3 = nI K := by rw [q2.2.1]; exact z7
    have p328 : tA s2 187 328 = nI nc := by rw [q2.2.1]; exact z5
    -- the number
    obtain ⟨t3, s3, zc, zm, e3, e4, q3, q4, r⟩ : ∃ t3 s3 zc zm, F_X4_passNumber 70 0 (nI K - 1) (Em g t2) = some (zc, Em g t3) ∧ F_X12_takes 183 0 (nI K - 1) (Em g0 s2) = some (zm, Em g0 s3) ∧ Qs 70 [5, 6, 7, 8, 11, 12] t t3 ∧ Qs 183 [6, 7, 9, 10, 11, 12] s s3 ∧ ((∃ b' e' km' m, zc = nI m ∧ zm = nI m ∧ m < K ∧ Lv g t3 g0 s3 T n b' e' km' ∧ e ≤ b') ∨ (∃ f p, b ≤ p ∧ Nc t3 T n f p ∧ Nm s3 T n f p nc)) := by
      rcases r with ⟨b1, ee1, km1, L1, g1⟩ | ⟨f, p, g1, N1, N2⟩
      · obtain ⟨t3, s3, zc, zm, e3, e4, q3, q4, r⟩ := l_take L1 p328 0 (nI K - 1)
        refine ⟨t3, s3, zc, zm, e3, e4, Qs_u q1 q3, Qs_u q2 q4, ?_⟩
        rcases r with ⟨b2, ee2, km2, m, r1, r2, r3, r4, r5, r6, L2, r7⟩ | ⟨f, p, r1, N1, N2⟩
        · exact Or.inl ⟨b2, ee2, km2, m, r2, r3, lt_K (by omega) r4 r6, L2, by omega⟩
        · exact Or.inr ⟨f, p, by omega, N1, N2⟩
      · obtain ⟨s3, zm, e4, q4, d4⟩ := n_takem X0 N2 0 (nI K - 1)
        exact ⟨t2, s3, -1, zm, n_takec X N1 _ _, e4, q1, Qs_u q2 (Qs_m (by decide) q4), Or.inr ⟨f, p, g1, N1, Or.inl d4⟩⟩
    obtain ⟨w, ew, hw⟩ : ∃ w, F_J9_max_7cf53 0 zc (Em g t3) = some (w, Em g t3) ∧ ∀ m, m < K → zc = nI m → w = nI m := by
      unfold F_J9_max_7cf53
      by_cases c : (0 : Int32) < zc
      · rw [if_pos c]; exact ⟨zc, rfl, fun m _ h => h⟩
      · rw [if_neg c]
        refine ⟨0, rfl, fun m hm h => ?_⟩
        have : ¬ nI 0 < nI m := by rw [← h]; exact c
        rw [nI_ltI (by decide) (by omega)] at this
        rw [show m = 0 by omega]
        rfl
    have w1 : Fdw v t3 (wa (wa t3 (v + 8) u w) (v + 10) u (-1)) := Fdw_t (Fdw_a (by omega)) (Fdw_a (by omega))
    have w2 : Fs s3 (wa s3 187 (109 + u) zm) := Fs_a
    have K1 : Kv v t (wa (wa t3 (v + 8) u w) (v + 10) u (-1)) := Kv_t (Kv_c (Kc_q (by decide) q3)) (Kv_w w1)
    have K2 : Kn s (wa s3 187 (109 + u) zm) := Kn_t (Kn_m (Km_q (by decide) q4)) (Kn_w w2)
    have EC : ∀ t', F_X4_readPerson_b75 FU 70 (nI u) (nI 0) (Em g (wa (wa t3 (v + 8) u w) (v + 10) u (-1))) = some ((), Em g t') → ((rc (Em g t) 70 3).bind fun _ => (F_X4_advance 70 (Em g t)).bind fun z21 => (rc z21.2 70 3).bind fun _ => (F_X4_pass 70 14 z21.2).bind fun z27 => (fR z27.2 70 3 10).bind fun v31 => (fR z27.2 v31 9 11).bind fun v34 => (fR z27.2 v34 5 0).bind fun v37 => (fR z27.2 70 3 10).bind fun v45 => (fI z27.2 v45 9 3).bind fun v48 => (rc z27.2 70 3).bind fun _ => (F_X4_passNumber 70 0 (v48 - 1) z27.2).bind fun z53 => (F_J9_max_7cf53 0 z53.1 z53.2).bind fun z56 => (sI z56.2 v37 (nI u) z56.1).bind fun h59 => (fR h59 70 3 10).bind fun v61 => (fR h59 v61 9 11).bind fun v64 => (fR h59 v64 5 2).bind fun v67 => (sI h59 v67 (nI u) ((-1))).bind fun h72 => F_X4_readPerson_b75 FU 70 (nI u) 0 h72) = some ((), Em g t') := fun t' h => by
      rw [x_rc70 X, Option.bind_some, a1, Option.bind_some, x_rc70 X, Option.bind_some, a2, Option.bind_some, d_70 X D, Option.bind_some, v_r11 D.1, Option.bind_some, d_r0 D, Option.bind_some, Option.bind_some, v_i3 D.1, Option.bind_some, o3, x_rc70 X, Option.bind_some, e3, Option.bind_some, ew, Option.bind_some, d_s8 D c6, Option.bind_some, d_70 X D, Option.bind_some, v_r11 D.1, Option.bind_some, d_r2 D, Option.bind_some, d_s10 D c6, Option.bind_some]
      exact h
    have EM : ∀ s', F_X12_readPerson_b65 FU 183 (nI u) (Em g0 (wa s3 187 (109 + u) zm)) = some ((), Em g0 s') → F_X12_readPerson_b18 183 (nI u) (Em g0 s) = some ((), Em g0 s') := fun s' h => by
      unfold F_X12_readPerson_b18
      rw [x_i183_11 X0, Option.bind_some, m11, if_pos (show nI 0 = (0 : Int32) from rfl), x_rc183 X0, Option.bind_some, b1, Option.bind_some, x_rc183 X0, Option.bind_some]
      refine (pasB (R := fun h => F_X12_readPerson_b43 183 (nI u) h) b2).trans ?_
      show F_X12_readPerson_b43 183 (nI u) (Em g0 s2) = _
      unfold F_X12_readPerson_b43
      rw [x_r183_4 X0, Option.bind_some, Option.bind_some, hA3, Option.bind_some, p3, x_rc183 X0, Option.bind_some, e4, Option.bind_some, show (109 : Int32) + nI u = nI (109 + u) from nI_add 109 u, x_s187 X0 (by omega), Option.bind_some]
      exact h
    rw [if_pos (show nI u < (6 : Int32) from show nI u < nI 6 by rw [nI_ltI (by omega) (by decide)]; exact c6), if_pos (show ¬ nI u = (6 : Int32) from show ¬ nI u = nI 6 by rw [nI_eq (by omega) (by decide)]; omega)]
    rcases r with ⟨b3, ee3, km3, m, rfl, rfl, hm, L3, g3⟩ | ⟨f, p, g3, N1, N2⟩
    · have hw' := hw m hm rfl
      subst hw'
      have I0 : Psi t s v u N K fo (wa (wa t3 (v + 8) u (nI m)) (v + 10) u (-1)) (wa s3 187 (109 + u) (nI m)) := by
        unfold Psi
        rw [tA_an (show v + 8 ≠ v + 10 by omega), tA_an (show v + 9 ≠ v + 10 by omega), tA_as, tA_as, tA_an (show v + 9 ≠ v + 8 by omega), tA_an (show v + 10 ≠ v + 8 by omega), tA_as, upd_s, upd_s, upd_s, upd_n (show 115 + u ≠ 109 + u by omega), upd_n (show 121 + u ≠ 109 + u by omega), upd_n (show 108 ≠ 109 + u by omega), q3.2.1, q4.2.1, tI_wa, tI_wa, q3.1 (v + 7) 3 (fun e => absurd e (by omega))]
        refine ⟨fun b k hb h => q3.1 b k (fun e => absurd e (by omega)), fun b hb h1 h2 h3 => ?_, fun x hx => ⟨upd_n hx, rfl, upd_n hx⟩, fun x h1 h2 h3 h4 => upd_n h2, ⟨rfl, m, hm, rfl⟩, ⟨by rw [y1, y2], 0, by omega, y2⟩, ⟨by rw [y3]; rfl, Or.inl y3⟩, ⟨by rw [z9.1, z9.2], Or.inl z9.2⟩⟩
        rw [tA_an h3, tA_an h1, q3.2.1]
      obtain ⟨t4, s4, e5, e6, K3, K4, r⟩ := pe_loop D c6 hN z1 z2 z3 z4 z5 n FU FU 0 _ _ b3 ee3 km3 (by omega) (show n + 2 ≤ 1000000 by omega) (show n + 2 ≤ 1000000 by omega) (by omega) (Lv_w L3 hv w1 w2) I0
      refine ⟨t4, s4, EC t4 e5, EM s4 e6, Kv_t K1 K3, Kn_t K2 K4, ?_⟩
      rcases r with ⟨b4, ee4, tz, sz, h1, h2, h3⟩ | ⟨f, p, h1, h2⟩
      · exact Or.inl ⟨b4, ee4, tz, sz, h1, by omega, c6, h3⟩
      · exact Or.inr ⟨f, p, by omega, h2⟩
    · obtain ⟨t4, e5, K3, N3⟩ := pe_nc X D (Nc_w N1 hv w1) (x := nI u) (y := nI 0) (show 1 ≤ FU by decide)
      obtain ⟨s4, e6, K4, N4⟩ := pe_nm X0 (Nm_w N2 w2 (by rw [tA_as, upd_n (by omega)])) (x := nI u) (show 1 ≤ FU by decide)
      exact ⟨t4, s4, EC t4 e5, EM s4 e6, Kv_t K1 K3, Kn_t K2 K4, Or.inr ⟨f, p, g3, N3, Or.inl N4⟩⟩
  · have u6 : u = 6 := by omega
    obtain ⟨t1, s1, e1, e2, q1, q2, N1, N2⟩ := l_fail L (f := 4) ⟨by decide, by decide⟩
    refine ⟨t1, s1, ?_, ?_, Kv_c (Kc_q (by decide) q1), Kn_m (Km_q (by decide) q2), Or.inr ⟨4, b, Nat.le_refl _, N1, Or.inl (Or.inl N2)⟩⟩
    · rw [if_neg (show ¬ nI u < (6 : Int32) by rw [u6]; decide), x_rc70 X, Option.bind_some, show (4 : Int32) = nI 4 from rfl, e1, Option.bind_some]
    · rw [if_neg (show ¬ ¬ nI u = (6 : Int32) from fun h => h (by rw [u6]; rfl)), x_rc183 X0, Option.bind_some, show (4 : Int32) = nI 4 from rfl, e2, Option.bind_some]
      unfold F_X12_readPerson_b18
      rw [x_i183_11 X0, Option.bind_some, N2.2.2.1, if_neg (show ¬ nI 4 = (0 : Int32) by decide)]
end XPq
