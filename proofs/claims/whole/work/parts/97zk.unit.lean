/-! ===== units and truths, to the end ===== -/
section XUn
variable {g g0 : Sk} {t t' t'' s s' s'' : Tb} {T : Nat → Int32} {n b e km f p q nc cl fr l hh hd hs d N M lv k : Nat} {ty : Bool} {Fc Fm Fc' Fm' : xH → Option (Unit × xH)}
theorem Ex_m (h : hh ≤ hd) (E : Ex l fr T n g g0 Fc Fm ty hh) : Ex l fr T n g g0 Fc Fm ty hd := fun t s b e km cl nc L D hnc => by
  obtain ⟨t', s', e1, e2, K1, K2, r⟩ := E t s b e km cl nc L D hnc
  refine ⟨t', s', e1, e2, K1, K2, ?_⟩
  rcases r with ⟨b2, ee2, km2, cl2, nc2, L2, D2, h1, h2, h3, h4, h5⟩ | r
  · exact Or.inl ⟨b2, ee2, km2, cl2, nc2, L2, D2, h1, h2, h3, h4, sgt_m h h5⟩
  · exact Or.inr r
theorem l_n11 (L : Lv g t g0 s T n b e km) (D : CD l t s cl nc fr) {s1 : Tb} (e1 : F_X12_next 183 (Em g0 s) = some ((), Em g0 s1)) : tI s1 183 11 = nI 0 := by
  obtain ⟨t2, s2, _, e2, _, q2, _⟩ := l_adv L D.1.2.1
  have X0 := L.1.2
  have e3 : Em g0 s1 = Em g0 s2 := by
    have := e1.symm.trans e2
    injection this with h
    injection h
  have e4 := x_i183_11 (t := s1) X0
  rw [e3, x_i183_11 X0] at e4
  injection e4 with e4
  rw [← e4, q2.1 183 11 (fun _ => by decide)]
  exact L.2.2.2.2.1.2.2.2
theorem n_128 (X : Fx g) (N0 : Nc t T n f p) (C : Cl t q) {fU : Nat → Int32 → xH → Option (Unit × xH)} {fT : Nat → Int32 → Int32 → xH → Option (Unit × xH)} {d : Int32} (x : Int32) : ∃ t', F_X4_readUnit_b128 fU fT 70 d x (Em g t) = some ((), Em g t') ∧ Kc t t' ∧ Nc t' T n f p ∧ Cl t' (q + 1) := by
  obtain ⟨t1, e1, K1, N1, C1⟩ := n_emit X N0 C x
  have e2 : C_X4_readSum 100 70 d 0 (Em g t) = some ((), Em g t) := n_rsumc X (d := d) 0 100 (by omega) (by omega) t f p N0
  refine ⟨t1, ?_, K1, N1, C1⟩
  unfold F_X4_readUnit_b128
  rw [x_rc70 X, Option.bind_some, n_adv X N0, Option.bind_some, x_rc70 X, Option.bind_some, e2, Option.bind_some, x_rc70 X, Option.bind_some, e1, Option.bind_some]
theorem Ex_unit (hd6 : d ≤ 6) (hh1 : hs + 1 ≤ hd) (Q : Ex l fr T n g g0 (fun h => (G_X4_readSum 100).1 70 (nI d) (nI 0) h) (fun h => (G_X12_readAtom 100).2.2 183 (nI d) h) false hs) (S : d < 6 → 4 ≤ N ∧ 3 ≤ M ∧ Ex l fr T n g g0 (fun h => (G_X4_readTruth N).1 70 (nI (d + 1)) (nI 0) h) (fun h => (G_X12_readUnit M).2.2 183 (nI (d + 1)) h) true hd ∧ Ex l fr T n g g0 (fun h => (G_X4_readTruth N).2 70 (nI (d + 1)) h) (fun h => (G_X12_readUnit M).1 183 (nI (d + 1)) h) true hd) : Ex l fr T n g g0 (fun h => (G_X4_readTruth (N + 1)).2 70 (nI d) h) (fun h => (G_X12_readUnit (M + 1)).1 183 (nI d) h) true hd := fun t s b e km cl nc L D hnc => by
  have hb := l_b L
  have X := L.1.1
  have X0 := L.1.2
  have c11 : tI t 70 11 = nI 0 := L.2.2.2.1.2.2
  have m11 : tI s 183 11 = nI 0 := L.2.2.2.2.1.2.2.2
  have hsl : slk false = 1 := rfl
  have hst : slk true = 2 := rfl
  have eA : F_X4_isAt 70 26 (Em g t) = some (bI (decide (km = 18)), Em g t) := l_isAt L (a := 26) (i := 13) rfl (by decide) (by decide)
  have eB : F_X4_isAt 70 28 (Em g t) = some (bI (decide (km = 37)), Em g t) := l_isAt L (a := 28) (i := 14) rfl (by decide) (by decide)
  have mA : F_X12_is 183 18 (Em g0 s) = some (bI (decide (km = 18)), Em g0 s) := l_is L (k := 18) (by decide)
  have mB : F_X12_is 183 37 (Em g0 s) = some (bI (decide (km = 37)), Em g0 s) := l_is L (k := 37) (by decide)
  show ∃ t' s', F_X4_readUnit (G_X4_readTruth N).2 (G_X4_readTruth N).1 70 (nI d) (Em g t) = some ((), Em g t') ∧ F_X12_readUnit (G_X12_readUnit M).1 (G_X12_readUnit M).2.2 183 (nI d) (Em g0 s) = some ((), Em g0 s') ∧ _
  have d6c : d < 6 → nI d < (6 : Int32) := fun h => show nI d < nI 6 by rw [nI_ltI (by omega) (by decide)]; exact h
  -- one more, in depth
  have e23 : d < 6 → F_X4_readUnit_b23 (G_X4_readTruth N).2 (G_X4_readTruth N).1 70 (nI d) 1 (Em g t) = F_X4_readUnit_b39 (G_X4_readTruth N).2 (G_X4_readTruth N).1 70 (nI d) (Em g t) := fun h => by
    unfold F_X4_readUnit_b23
    rw [if_neg (show ¬ (1 : Int32) = 0 by decide), if_pos (d6c h)]
  have dead : ¬ d < 6 → ∃ t1 s1, F_X4_readUnit_b23 (G_X4_readTruth N).2 (G_X4_readTruth N).1 70 (nI d) 1 (Em g t) = some ((), Em g t1) ∧ F_X12_goesIn 183 (nI d) (Em g0 s) = some (0, Em g0 s1) ∧ Kc t t1 ∧ Km s s1 ∧ Nc t1 T n 4 b ∧ Cl t1 (cl + (b - b) + slk true) ∧ Nm s1 T n 4 b (nc + (b - b)) := fun h => by
    have d6 : d = 6 := by omega
    obtain ⟨t1, s1, e1, e2, q1, q2, N1, N2⟩ := l_fail L (f := 4) ⟨by decide, by decide⟩
    refine ⟨t1, s1, ?_, by rw [d6]; exact r_gin6 X0 e2 N2.2.2.1, Kc_q (by decide) q1, Km_q (by decide) q2, N1, Cl_m (Cl_q (CD_Cl D) q1 (by decide)) (by omega), Or.inl N2⟩
    unfold F_X4_readUnit_b23
    rw [if_neg (show ¬ (1 : Int32) = 0 by decide), if_neg (show ¬ nI d < (6 : Int32) by rw [d6]; decide), x_rc70 X, Option.bind_some, show (4 : Int32) = nI 4 from rfl, e1, Option.bind_some]
    exact n_39 X N1
  by_cases c1 : km = 18
  · rw [decide_eq_true c1] at eA mA
    by_cases c6 : d < 6
    · obtain ⟨hN, hM, _, Sub⟩ := S c6
      obtain ⟨N', rfl⟩ : ∃ z, N = z + 1 := ⟨N - 1, by omega⟩
      obtain ⟨M', rfl⟩ : ∃ z, M = z + 1 := ⟨M - 1, by omega⟩
      obtain ⟨t1, t2, t3, s1, s2, s3, a1, a2, a3, m1, m2, m3, K1, K2, r⟩ := l_rnd L D hnc (by omega) Sub (n_runitc X) (n_runitm X0) 6 (by decide)
      have a2' : (G_X4_readTruth (N' + 1)).2 70 (nI (d + 1)) (Em g t1) = some ((), Em g t2) := a2
      have m2' : (G_X12_readUnit (M' + 1)).1 183 (nI (d + 1)) (Em g0 s1) = some ((), Em g0 s2) := m2
      have a3' : F_X4_emit 70 2000 (Em g t2) = some ((), Em g t3) := a3
      have m3' : F_X12_codes 183 3006 (Em g0 s2) = some ((), Em g0 s3) := m3
      refine ⟨t3, s3, ?_, ?_, K1, K2, ?_⟩
      · have e39 : F_X4_readUnit_b39 (G_X4_readTruth (N' + 1)).2 (G_X4_readTruth (N' + 1)).1 70 (nI d) (Em g t) = some ((), Em g t3) := by
          unfold F_X4_readUnit_b39
          rw [x_i70_11 X, Option.bind_some, c11, if_pos (show nI 0 = (0 : Int32) from rfl), x_rc70 X, Option.bind_some, eA, Option.bind_some, if_neg (show ¬ bI true = (0 : Int32) by decide), x_rc70 X, Option.bind_some, a1, Option.bind_some, x_rc70 X, Option.bind_some, show nI d + 1 = nI (d + 1) from nI_add d 1, a2', Option.bind_some, x_rc70 X, Option.bind_some, a3', Option.bind_some]
        unfold F_X4_readUnit
        rw [x_rc70 X, Option.bind_some, eA, Option.bind_some, if_pos (show ¬ bI true = (0 : Int32) by decide)]
        exact (e23 c6).trans e39
      · unfold F_X12_readUnit
        rw [x_rc183 X0, Option.bind_some, mA, Option.bind_some, if_neg (show ¬ bI true = (0 : Int32) by decide), x_rc183 X0, Option.bind_some, r_gin X0 c6 m11 m1 (l_n11 L D m1), Option.bind_some, if_pos (show ¬ (1 : Int32) = 0 by decide), x_rc183 X0, Option.bind_some, show nI d + 1 = nI (d + 1) from nI_add d 1, m2', Option.bind_some, x_rc183 X0, Option.bind_some, m3', Option.bind_some]
      · rcases r with ⟨b2, ee2, km2, cl2, nc2, B, L2, D2, h1, h2, h3, h4, h5, h6⟩ | r
        · refine Or.inl ⟨b2, ee2, km2, cl2, nc2, L2, D2, h1, h2, h3, h4, ?_⟩
          rw [h6]
          exact sgt_not h5
        · exact Or.inr r
    · obtain ⟨t1, s1, a1, a2, K1, K2, N1, C1, N2⟩ := dead c6
      refine ⟨t1, s1, ?_, ?_, K1, K2, Or.inr ⟨4, b, Nat.le_refl _, N1, C1, N2⟩⟩
      · unfold F_X4_readUnit
        rw [x_rc70 X, Option.bind_some, eA, Option.bind_some, if_pos (show ¬ bI true = (0 : Int32) by decide)]
        exact a1
      · unfold F_X12_readUnit
        rw [x_rc183 X0, Option.bind_some, mA, Option.bind_some, if_neg (show ¬ bI true = (0 : Int32) by decide), x_rc183 X0, Option.bind_some, a2, Option.bind_some, if_neg (fun h => h rfl)]
  rw [decide_eq_false c1] at eA mA
  by_cases c2 : km = 37
  · rw [decide_eq_true c2] at eB mB
    by_cases c6 : d < 6
    · obtain ⟨hN, hM, Sub, _⟩ := S c6
      obtain ⟨t1, s1, e1, e2, q1, q2, r⟩ := l_adv L D.1.2.1
      have K1 : Kc t t1 := Kc_q (by decide) q1
      have K2 : Km s s1 := Km_q (by decide) q2
      have eg := r_gin X0 c6 m11 e2 (by rw [q2.1 183 11 (fun _ => by decide)]; exact m11)
      have fin : ∀ t2 t3 s2 s3, (G_X4_readTruth N).1 70 (nI (d + 1)) (nI 0) (Em g t1) = some ((), Em g t2) → F_X4_pass 70 30 (Em g t2) = some ((), Em g t3) → (G_X12_readUnit M).2.2 183 (nI (d + 1)) (Em g0 s1) = some ((), Em g0 s2) → pasM (nI 38) (Em g0 s2) = some ((), Em g0 s3) → F_X4_readUnit (G_X4_readTruth N).2 (G_X4_readTruth N).1 70 (nI d) (Em g t) = some ((), Em g t3) ∧ F_X12_readUnit (G_X12_readUnit M).1 (G_X12_readUnit M).2.2 183 (nI d) (Em g0 s) = some ((), Em g0 s3) := fun t2 t3 s2 s3 a1 a2 a3 a4 => by
        refine ⟨?_, ?_⟩
        · have e39 : F_X4_readUnit_b39 (G_X4_readTruth N).2 (G_X4_readTruth N).1 70 (nI d) (Em g t) = some ((), Em g t3) := by
            unfold F_X4_readUnit_b39
            rw [x_i70_11 X, Option.bind_some, c11, if_pos (show nI 0 = (0 : Int32) from rfl), x_rc70 X, Option.bind_some, eA, Option.bind_some, if_pos (show bI false = (0 : Int32) by decide), x_rc70 X, Option.bind_some, eB, Option.bind_some, if_neg (show ¬ bI true = (0 : Int32) by decide), x_rc70 X, Option.bind_some, e1, Option.bind_some, x_rc70 X, Option.bind_some, show nI d + 1 = nI (d + 1) from nI_add d 1, show (0 : Int32) = nI 0 from rfl, a1, Option.bind_some, x_rc70 X, Option.bind_some, a2, Option.bind_some]
          unfold F_X4_readUnit
          rw [x_rc70 X, Option.bind_some, eA, Option.bind_some, if_neg (show ¬ ¬ bI false = (0 : Int32) by decide), x_rc70 X, Option.bind_some, eB, Option.bind_some, if_neg (show ¬ bI true = (0 : Int32) by decide)]
          exact (e23 c6).trans e39
        · unfold F_X12_readUnit
          rw [x_rc183 X0, Option.bind_some, mA, Option.bind_some, if_pos (show bI false = (0 : Int32) by decide), x_rc183 X0, Option.bind_some, mB, Option.bind_some, if_neg (show ¬ bI true = (0 : Int32) by decide), x_rc183 X0, Option.bind_some, eg, Option.bind_some, if_pos (show ¬ (1 : Int32) = 0 by decide), x_rc183 X0, Option.bind_some, show nI d + 1 = nI (d + 1) from nI_add d 1, a3, Option.bind_some, x_rc183 X0, Option.bind_some]
          exact pasA a4
      rcases r with ⟨b1, ee1, km1, L1, g1⟩ | ⟨p, g1, N1, N2⟩
      · have D1 := CD_q D q1 q2 (by decide) (by decide) (by decide)
        obtain ⟨t2, s2, e3, e4, K3, K4, r⟩ := Sub t1 s1 b1 ee1 km1 cl nc L1 D1 (by omega)
        rcases r with ⟨b2, ee2, km2, cl2, nc2, L2, D2, h1, h2, h3, h4, h5⟩ | ⟨f, p, h1, N1, C1, N2⟩
        · obtain ⟨t3, s3, e5, e6, q3, q4, r⟩ := l_pass L2 D2.1.2.1 (a := 30) (i := 15) rfl (by decide) (by decide) (by decide)
          obtain ⟨f1, f2⟩ := fin t2 t3 s2 s3 e3 e5 e4 e6
          refine ⟨t3, s3, f1, f2, Kc_t K1 (Kc_t K3 (Kc_q (by decide) q3)), Km_t K2 (Km_t K4 (Km_q (by decide) q4)), ?_⟩
          have hb2 := l_b L2
          rcases r with ⟨b3, ee3, km3, u1, L3, u2⟩ | ⟨f, p, u1, N1, N2⟩
          · refine Or.inl ⟨b3, ee3, km3, cl2, nc2, L3, CD_q D2 q3 q4 (by decide) (by decide) (by decide), by omega, by omega, by omega, fun k hk => by rw [q4.2.1, h4 k hk, q2.2.1], ?_⟩
            rw [q4.2.1]
            exact h5
          · exact Or.inr ⟨f, p, by omega, N1, Cl_m (Cl_q (CD_Cl D2) q3 (by decide)) (by have := D.1.2.2.1; have := D2.1.2.2.1; omega), Nm_q N2 (by omega)⟩
        · obtain ⟨s3, e6, q4, N3⟩ := n_passm X0 N2 (k := 38) (by decide) (by decide)
          obtain ⟨f1, f2⟩ := fin t2 t2 s2 s3 e3 (n_passc X N1 (a := 30) (i := 15) rfl (by decide)) e4 e6
          exact ⟨t2, s3, f1, f2, Kc_t K1 K3, Km_t K2 (Km_t K4 (Km_q (by decide) q4)), Or.inr ⟨f, p, by omega, N1, Cl_m C1 (by omega), Or.inl N3⟩⟩
      · obtain ⟨Mm, rfl⟩ : ∃ z, M = z + 3 := ⟨M - 3, by omega⟩
        obtain ⟨s2, e4, K4, N3⟩ := n_rtruthm X0 (M := Mm) (d := nI (d + 1)) s1 1 p nc N2
        obtain ⟨s3, e6, q4, N4⟩ := n_passm (q := 0) X0 (Or.inl N3) (k := 38) (by decide) (by decide)
        obtain ⟨f1, f2⟩ := fin t1 t1 s2 s3 (n_rtruthc X 0 N (by omega) (by omega) t1 1 p N1) (n_passc X N1 (a := 30) (i := 15) rfl (by decide)) e4 e6
        exact ⟨t1, s3, f1, f2, K1, Km_t K2 (Km_t K4 (Km_q (by decide) q4)), Or.inr ⟨1, p, by omega, N1, Cl_m (Cl_q (CD_Cl D) q1 (by decide)) (by omega), Or.inl N4⟩⟩
    · obtain ⟨t1, s1, a1, a2, K1, K2, N1, C1, N2⟩ := dead c6
      refine ⟨t1, s1, ?_, ?_, K1, K2, Or.inr ⟨4, b, Nat.le_refl _, N1, C1, N2⟩⟩
      · unfold F_X4_readUnit
        rw [x_rc70 X, Option.bind_some, eA, Option.bind_some, if_neg (show ¬ ¬ bI false = (0 : Int32) by decide), x_rc70 X, Option.bind_some, eB, Option.bind_some, if_neg (show ¬ bI true = (0 : Int32) by decide)]
        exact a1
      · unfold F_X12_readUnit
        rw [x_rc183 X0, Option.bind_some, mA, Option.bind_some, if_pos (show bI false = (0 : Int32) by decide), x_rc183 X0, Option.bind_some, mB, Option.bind_some, if_neg (show ¬ bI true = (0 : Int32) by decide), x_rc183 X0, Option.bind_some, a2, Option.bind_some, if_neg (fun h => h rfl)]
  rw [decide_eq_false c2] at eB mB
  -- two sums
  have cls : ∀ t1 t2 v, C_X4_readSum 100 70 (nI d) 0 (Em g t) = some ((), Em g t1) → F_X4_comparison 70 (Em g t1) = some (v, Em g t1) → ((¬ v = -1 ∧ F_X4_readUnit_b128 (G_X4_readTruth N).2 (G_X4_readTruth N).1 70 (nI d) v (Em g t1) = some ((), Em g t2)) ∨ (v = -1 ∧ ∃ t3, F_X4_fail 70 2 (Em g t1) = some ((), Em g t3) ∧ F_X4_readUnit_b128 (G_X4_readTruth N).2 (G_X4_readTruth N).1 70 (nI d) v (Em g t3) = some ((), Em g t2))) → F_X4_readUnit (G_X4_readTruth N).2 (G_X4_readTruth N).1 70 (nI d) (Em g t) = some ((), Em g t2) := fun t1 t2 v a1 a2 a3 => by
    have e39 : F_X4_readUnit_b39 (G_X4_readTruth N).2 (G_X4_readTruth N).1 70 (nI d) (Em g t) = some ((), Em g t2) := by
      unfold F_X4_readUnit_b39
      rw [x_i70_11 X, Option.bind_some, c11, if_pos (show nI 0 = (0 : Int32) from rfl), x_rc70 X, Option.bind_some, eA, Option.bind_some, if_pos (show bI false = (0 : Int32) by decide), x_rc70 X, Option.bind_some, eB, Option.bind_some, if_pos (show bI false = (0 : Int32) by decide), x_rc70 X, Option.bind_some, a1, Option.bind_some, x_rc70 X, Option.bind_some, a2, Option.bind_some]
      rcases a3 with ⟨v1, a3⟩ | ⟨v1, t3, a3, a4⟩
      · rw [if_pos v1]; exact a3
      · rw [if_neg (fun h => h v1), x_rc70 X, Option.bind_some, a3, Option.bind_some]; exact a4
    unfold F_X4_readUnit
    rw [x_rc70 X, Option.bind_some, eA, Option.bind_some, if_neg (show ¬ ¬ bI false = (0 : Int32) by decide), x_rc70 X, Option.bind_some, eB, Option.bind_some, if_pos (show bI false = (0 : Int32) by decide)]
    unfold F_X4_readUnit_b23
    rw [if_pos rfl]
    exact e39
  have mls : ∀ s1 s2 x y, C_X12_readSum 100 183 (nI d) (Em g0 s) = some ((), Em g0 s1) → F_X12_is 183 39 (Em g0 s1) = some (bI x, Em g0 s1) → F_X12_is 183 40 (Em g0 s1) = some (bI y, Em g0 s1) → F_X12_readUnit_b111 (G_X12_readUnit M).1 (G_X12_readUnit M).2.2 183 (nI d) (if x then 3003 else if y then 3004 else 3005) (Em g0 s1) = some ((), Em g0 s2) → F_X12_readUnit (G_X12_readUnit M).1 (G_X12_readUnit M).2.2 183 (nI d) (Em g0 s) = some ((), Em g0 s2) := fun s1 s2 x y a1 a2 a3 a4 => by
    unfold F_X12_readUnit
    rw [x_rc183 X0, Option.bind_some, mA, Option.bind_some, if_pos (show bI false = (0 : Int32) by decide), x_rc183 X0, Option.bind_some, mB, Option.bind_some, if_pos (show bI false = (0 : Int32) by decide), x_rc183 X0, Option.bind_some, a1, Option.bind_some, x_rc183 X0, Option.bind_some, a2, Option.bind_some]
    cases x
    · rw [if_pos (show bI false = (0 : Int32) by decide), x_rc183 X0, Option.bind_some, a3, Option.bind_some]
      cases y
      · rw [if_pos (show bI false = (0 : Int32) by decide)]; exact a4
      · rw [if_neg (show ¬ bI true = (0 : Int32) by decide)]; exact a4
    · rw [if_neg (show ¬ bI true = (0 : Int32) by decide)]; exact a4
  have SN : ENc T n g (fun h => (G_X4_readSum 100).1 70 (nI d) (nI 0) h) := n_rsumc X 0 100 (by omega) (by omega)
  have SM : ENm T n g0 (fun h => (G_X12_readAtom 100).2.2 183 (nI d) h) := n_rsumm X0 (M := 97)
  obtain ⟨t1, s1, a1, m1, K1, K2, r⟩ := Q t s b e km cl nc L D hnc
  rcases r with ⟨b1, ee1, km1, cl1, nc1, L1, D1, h1, h2, h3, h4, h5⟩ | ⟨f, p, h1, N1, C1, N2⟩
  · have hb1 := l_b L1
    have m39 : F_X12_is 183 39 (Em g0 s1) = some (bI (decide (km1 = 39)), Em g0 s1) := l_is L1 (k := 39) (by decide)
    have m40 : F_X12_is 183 40 (Em g0 s1) = some (bI (decide (km1 = 40)), Em g0 s1) := l_is L1 (k := 40) (by decide)
    have m41 : F_X12_is 183 41 (Em g0 s1) = some (bI (decide (km1 = 41)), Em g0 s1) := l_is L1 (k := 41) (by decide)
    have ec := l_comp L1
    cases hc : cmv km1 with
    | some o =>
      obtain ⟨o1, o2, o3, o4, o5, o6⟩ := cmv_o (l := l) hc
      rw [hc] at ec
      obtain ⟨t2, t3, t4, s2, s3, s4, u1, u2, u3, w1, w2, w3, K3, K4, r⟩ := l_rnd L1 D1 (by omega) (by omega) Q SN SM o o2
      rw [o6] at u3
      have u2' : C_X4_readSum 100 70 (nI d) 0 (Em g t2) = some ((), Em g t3) := u2
      have w2' : C_X12_readSum 100 183 (nI d) (Em g0 s2) = some ((), Em g0 s3) := w2
      have e139 : F_X12_readUnit_b139 (G_X12_readUnit M).1 (G_X12_readUnit M).2.2 183 (nI d) (nI (3000 + o)) (Em g0 s1) = some ((), Em g0 s4) := by
        unfold F_X12_readUnit_b139 F_X12_readUnit_b151
        rw [x_rc183 X0, Option.bind_some, w1, Option.bind_some, x_rc183 X0, Option.bind_some, w2', Option.bind_some, x_rc183 X0, Option.bind_some, w3, Option.bind_some]
      refine ⟨t4, s4, cls t1 t4 _ a1 ec (Or.inl ⟨nI_n1 (by omega), ?_⟩), mls s1 s4 _ _ m1 m39 m40 ?_, Kc_t K1 K3, Km_t K2 K4, ?_⟩
      · unfold F_X4_readUnit_b128
        rw [x_rc70 X, Option.bind_some, u1, Option.bind_some, x_rc70 X, Option.bind_some, u2', Option.bind_some, x_rc70 X, Option.bind_some]
        show ((F_X4_emit 70 (nI (2000 + o)) (Em g t3)).bind fun z140 => some ((), z140.2)) = _
        rw [u3, Option.bind_some]
      · unfold F_X12_readUnit_b111
        rw [x_rc183 X0, Option.bind_some, m39, Option.bind_some, x_rc183 X0, Option.bind_some, m40, Option.bind_some, x_rc183 X0, Option.bind_some, m41, Option.bind_some]
        have c : (km1 = 39 ∧ o = 3) ∨ (km1 = 40 ∧ o = 4) ∨ (km1 = 41 ∧ o = 5) := by
          unfold cmv at hc
          repeat' split at hc
          · cases hc; exact Or.inl ⟨by assumption, rfl⟩
          · cases hc; exact Or.inr (Or.inl ⟨by assumption, rfl⟩)
          · cases hc; exact Or.inr (Or.inr ⟨by assumption, rfl⟩)
          · cases hc
        rcases c with ⟨rfl, rfl⟩ | ⟨rfl, rfl⟩ | ⟨rfl, rfl⟩
        · rw [if_pos (show ¬ bI (decide (39 = 39)) = (0 : Int32) by decide)]; exact e139
        · rw [if_neg (show ¬ ¬ bI (decide (40 = 39)) = (0 : Int32) by decide), if_pos (show ¬ bI (decide (40 = 40)) = (0 : Int32) by decide)]; exact e139
        · rw [if_neg (show ¬ ¬ bI (decide (41 = 39)) = (0 : Int32) by decide), if_neg (show ¬ ¬ bI (decide (41 = 40)) = (0 : Int32) by decide), if_neg (show ¬ bI (decide (41 = 41)) = (0 : Int32) by decide)]; exact e139
      · rcases r with ⟨b2, ee2, km2, cl2, nc2, B, L2, D2, g1, g2, g3, g4, g5, g6⟩ | ⟨f, p, g1, N1, C1, N2⟩
        · refine Or.inl ⟨b2, ee2, km2, cl2, nc2, L2, D2, by omega, by omega, by omega, fun k hk => by rw [g4 k (by omega), h4 k hk], ?_⟩
          rw [show nc2 - nc = (nc1 - nc) + (nc2 - nc1) by omega, cdf_app, show 329 + nc + (nc1 - nc) = 329 + nc1 by omega, g6, cdf_cg (f := tA s4 187) (f' := tA s1 187) (nc1 - nc) (329 + nc) (fun j hj => by
            have := g4 (nc + j) (by omega)
            rw [show 329 + nc + j = 329 + (nc + j) by omega]
            exact this), ← o5]
          exact sgt_b (h := hd) o2 o3 (by rw [o4]; exact sgt_m (by omega) h5) (by rw [o4]; exact g5) hh1
        · exact Or.inr ⟨f, p, by omega, N1, Cl_m C1 (by have := D.1.2.2.1; have := D1.1.2.2.1; omega), Nm_q N2 (by omega)⟩
    | none =>
      rw [hc] at ec
      have c39 : ¬ km1 = 39 := fun c => by subst c; cases hc
      have c40 : ¬ km1 = 40 := fun c => by subst c; cases hc
      have c41 : ¬ km1 = 41 := fun c => by subst c; cases hc
      rw [decide_eq_false c39] at m39
      rw [decide_eq_false c40] at m40
      rw [decide_eq_false c41] at m41
      obtain ⟨t2, s2, u1, w1, q1, q2, N1, N2⟩ := l_fail L1 (f := 2) ⟨by decide, by decide⟩
      obtain ⟨t3, u2, K3, N3, C3⟩ := n_128 X N1 (Cl_q (CD_Cl D1) q1 (by decide)) (fU := (G_X4_readTruth N).2) (fT := (G_X4_readTruth N).1) (d := nI d) (-1)
      obtain ⟨s3, w2, K4, d2⟩ := SM s2 2 b1 0 (Or.inl N2)
      have w2' : C_X12_readSum 100 183 (nI d) (Em g0 s2) = some ((), Em g0 s3) := w2
      have w3 : F_X12_codes 183 3005 (Em g0 s3) = some ((), Em g0 s3) := by
        unfold F_X12_codes
        rw [x_i183_11 X0, Option.bind_some, d2.2.2.1, if_neg (show ¬ nI 2 = (0 : Int32) by decide)]
      refine ⟨t3, s3, cls t1 t3 _ a1 ec (Or.inr ⟨rfl, t2, u1, u2⟩), mls s1 s3 _ _ m1 m39 m40 ?_, Kc_t K1 (Kc_t (Kc_q (by decide) q1) K3), Km_t K2 (Km_t (Km_q (by decide) q2) K4), Or.inr ⟨2, b1, by omega, N3, Cl_m C3 (by have := D.1.2.2.1; have := D1.1.2.2.1; omega), Or.inl d2⟩⟩
      show F_X12_readUnit_b111 (G_X12_readUnit M).1 (G_X12_readUnit M).2.2 183 (nI d) 3005 (Em g0 s1) = _
      unfold F_X12_readUnit_b111 F_X12_readUnit_b151
      rw [x_rc183 X0, Option.bind_some, m39, Option.bind_some, if_neg (show ¬ ¬ bI false = (0 : Int32) by decide), x_rc183 X0, Option.bind_some, m40, Option.bind_some, if_neg (show ¬ ¬ bI false = (0 : Int32) by decide), x_rc183 X0, Option.bind_some, m41, Option.bind_some, if_pos (show bI false = (0 : Int32) by decide), x_rc183 X0, Option.bind_some, show (2 : Int32) = nI 2 from rfl, w1, Option.bind_some, x_rc183 X0, Option.bind_some, w2', Option.bind_some, x_rc183 X0, Option.bind_some, w3, Option.bind_some]
  · obtain ⟨v, ec⟩ := n_comp X N1
    obtain ⟨t2, u2, K3, N3, C3⟩ := n_128 X N1 C1 (fU := (G_X4_readTruth N).2) (fT := (G_X4_readTruth N).1) (d := nI d) v
    obtain ⟨s2, w2, K4, d2⟩ := n_111 X0 N2 (fU := (G_X12_readUnit M).1) (fT := (G_X12_readUnit M).2.2) (d := nI d) 3005
    refine ⟨t2, s2, cls t1 t2 v a1 ec ?_, mls s1 s2 false false m1 (n_is X0 N2 (k := 39) (by decide) (by decide)) (n_is X0 N2 (k := 40) (by decide) (by decide)) w2, Kc_t K1 K3, Km_t K2 K4, Or.inr ⟨f, p, h1, N3, Cl_m C3 (by omega), Or.inl d2⟩⟩
    by_cases cv : v = -1
    · exact Or.inr ⟨cv, t1, n_failc X N1 2, u2⟩
    · exact Or.inl ⟨cv, u2⟩
theorem Ex_tt (X : Fx g) (X0 : Fx g0) {k : Nat} (A : ∀ N M, 4 * k ≤ N → 3 * k ≤ M → Ex l fr T n g g0 (fun h => (G_X4_readTruth (N + 1)).2 70 (nI d) h) (fun h => (G_X12_readUnit (M + 1)).1 183 (nI d) h) true (4 + 2 * k)) : ∀ N M, 4 * k + 4 ≤ N → 3 * k + 3 ≤ M → Ex l fr T n g g0 (fun h => (G_X4_readTruth N).1 70 (nI d) (nI 0) h) (fun h => (G_X12_readUnit M).2.2 183 (nI d) h) true (6 + 2 * k) := by
  intro N M hN hM
  obtain ⟨N, rfl⟩ : ∃ z, N = z + 4 := ⟨N - 4, by omega⟩
  obtain ⟨M, rfl⟩ : ∃ z, M = z + 3 := ⟨M - 3, by omega⟩
  have E2 : Ex l fr T n g g0 (fun h => (G_X4_readTruth (N + 2)).1 70 (nI d) (nI (1 + 1)) h) (fun h => (G_X12_readUnit (M + 1)).1 183 (nI d) h) true (4 + 2 * k) := Ex_c (fun t t' e1 => by
    have e1' : (G_X4_readTruth (N + 1)).2 70 (nI d) (Em g t) = some ((), Em g t') := e1
    show F_X4_readTruth (G_X4_readTruth (N + 1)).2 (G_X4_readTruth (N + 1)).1 70 (nI d) (nI 2) (Em g t) = _
    unfold F_X4_readTruth
    rw [if_neg (show ¬ nI 2 ≤ (1 : Int32) by decide), x_rc70 X, Option.bind_some, e1', Option.bind_some]) (fun s s' e => e) (A N M (by omega) (by omega))
  have E1 : Ex l fr T n g g0 (fun h => (G_X4_readTruth (N + 3)).1 70 (nI d) (nI (0 + 1)) h) (fun h => (G_X12_readUnit (M + 2)).2.1 183 (nI d) h) true (5 + 2 * k) := by
    refine Ex_lp (LpC_t X (by decide)) (LpM_b X0) E2 (n_rtruthc X 2 (N + 2) (by omega) (by omega)) (n_runitm X0) (fun k o h => jnt_o h) (by omega) (fun t t1 e => ?_) (fun s s1 e => ?_)
    · have e' : (G_X4_readTruth (N + 2)).1 70 (nI d) (nI 2) (Em g t) = some ((), Em g t1) := e
      show F_X4_readTruth (G_X4_readTruth (N + 2)).2 (G_X4_readTruth (N + 2)).1 70 (nI d) (nI 1) (Em g t) = _
      unfold F_X4_readTruth F_X4_readTruth_b22
      rw [if_pos (show nI 1 ≤ (1 : Int32) by decide), if_pos (show ¬ nI 1 = (0 : Int32) by decide), x_rc70 X, Option.bind_some, show nI 1 + 1 = nI 2 from rfl, e', Option.bind_some]
      rfl
    · have e' : (G_X12_readUnit (M + 1)).1 183 (nI d) (Em g0 s) = some ((), Em g0 s1) := e
      show F_X12_readBoth (G_X12_readUnit (M + 1)).1 183 (nI d) (Em g0 s) = _
      unfold F_X12_readBoth
      rw [x_rc183 X0, Option.bind_some, e', Option.bind_some]
  refine Ex_lp (LpC_t X (by decide)) (LpM_u X0) E1 (n_rtruthc X 1 (N + 3) (by omega) (by omega)) (n_rbothm X0) (fun k o h => jnt_o h) (by omega) (fun t t1 e => ?_) (fun s s1 e => ?_)
  · have e' : (G_X4_readTruth (N + 3)).1 70 (nI d) (nI 1) (Em g t) = some ((), Em g t1) := e
    show F_X4_readTruth (G_X4_readTruth (N + 3)).2 (G_X4_readTruth (N + 3)).1 70 (nI d) (nI 0) (Em g t) = _
    unfold F_X4_readTruth F_X4_readTruth_b22
    rw [if_pos (show nI 0 ≤ (1 : Int32) by decide), if_neg (show ¬ ¬ nI 0 = (0 : Int32) from fun h => h rfl), x_rc70 X, Option.bind_some, show nI 0 + 1 = nI 1 from rfl, e', Option.bind_some]
    rfl
  · have e' : (G_X12_readUnit (M + 2)).2.1 183 (nI d) (Em g0 s) = some ((), Em g0 s1) := e
    show F_X12_readTruth (G_X12_readUnit (M + 2)).2.1 183 (nI d) (Em g0 s) = _
    unfold F_X12_readTruth
    rw [x_rc183 X0, Option.bind_some, e', Option.bind_some]
theorem Ex_truth (X : Fx g) (X0 : Fx g0) (hl : l < 2) : ∀ (k d : Nat), d + k = 6 → ∀ (N M : Nat), 4 * k + 4 ≤ N → 3 * k + 3 ≤ M → Ex l fr T n g g0 (fun h => (G_X4_readTruth N).1 70 (nI d) (nI 0) h) (fun h => (G_X12_readUnit M).2.2 183 (nI d) h) true (6 + 2 * k) := by
  have un : ∀ (k d : Nat), d + k = 6 → ∀ (N M : Nat), 4 * k ≤ N → 3 * k ≤ M → Ex l fr T n g g0 (fun h => (G_X4_readTruth (N + 1)).2 70 (nI d) h) (fun h => (G_X12_readUnit (M + 1)).1 183 (nI d) h) true (4 + 2 * k) := by
    intro k
    induction k with
    | zero =>
      intro d hk N M hN hM
      exact Ex_unit (hs := 3 + 2 * 0) (by omega) (by omega) (Ex_sum X X0 hl 0 d hk 100 100 (by omega) (by omega)) (fun h => absurd h (by omega))
    | succ k ih =>
      intro d hk N M hN hM
      refine Ex_unit (hs := 3 + 2 * (k + 1)) (by omega) (by omega) (Ex_sum X X0 hl (k + 1) d hk 100 100 (by omega) (by omega)) (fun h => ⟨by omega, by omega, ?_, ?_⟩)
      · have := Ex_tt X X0 (fun N M hN hM => ih (d + 1) (by omega) N M hN hM) N M (by omega) (by omega)
        rw [show 4 + 2 * (k + 1) = 6 + 2 * k by omega]
        exact this
      · obtain ⟨N', rfl⟩ : ∃ z, N = z + 1 := ⟨N - 1, by omega⟩
        obtain ⟨M', rfl⟩ : ∃ z, M = z + 1 := ⟨M - 1, by omega⟩
        exact Ex_m (by omega) (ih (d + 1) (by omega) N' M' (by omega) (by omega))
  intro k d hk N M hN hM
  exact Ex_tt X X0 (fun N M hN hM => un k d hk N M hN hM) N M hN hM
end XUn
