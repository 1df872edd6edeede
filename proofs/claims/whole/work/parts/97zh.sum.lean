/-! ===== atoms, terms and sums, side by side ===== -/
theorem nI_n1 {z : Nat} (h : z < 2 ^ 31) : ¬ nI z = (-1 : Int32) := fun e => by
  have e2 := congrArg Int32.toInt e
  rw [nI_toInt h, show (-1 : Int32).toInt = -1 from rfl] at e2
  omega
theorem pasA {k : Int32} {h h' : xH} (e : pasM k h = some ((), h')) : ((F_X12_eats 183 k h).bind fun z => if ¬ z.1 = 0 then some ((), z.2) else (rc z.2 183 11).bind fun _ => (F_X12_fails 183 2 z.2).bind fun z' => some ((), z'.2)) = some ((), h') := by
  rw [← e]
  unfold pasM
  congr 1
  funext z
  split
  · rfl
  · congr 1
    funext _
    cases F_X12_fails 183 2 z.2 with
    | none => rfl
    | some v => rfl
section XSu
variable {g g0 : Sk} {t t' t'' s s' s'' : Tb} {T : Nat → Int32} {n b e km f p q nc cl fr l hh hd d N M : Nat} {ty : Bool}
theorem l_ca (L : Lv g t g0 s T n b e km) (D : CD l t s cl nc fr) (hnc : nc ≤ b) (hbe : b < e) (c : Nat) (hc : c < 2 ^ 31) (x : Int32) (hx : x = nI (ccn l c)) (hs : sgt l [nI c] ty hh) : ∃ t1 t' s1 s', F_X4_emit 70 x (Em g t) = some ((), Em g t1) ∧ F_X4_advance 70 (Em g t1) = some ((), Em g t') ∧ F_X12_codes 183 (nI c) (Em g0 s) = some ((), Em g0 s1) ∧ F_X12_next 183 (Em g0 s1) = some ((), Em g0 s') ∧ Kc t t' ∧ Km s s' ∧ ((∃ b' e' km' cl' nc', Lv g t' g0 s' T n b' e' km' ∧ CD l t' s' cl' nc' fr ∧ b < b' ∧ nc ≤ nc' ∧ nc' + b ≤ nc + b' ∧ (∀ k, k < nc → tA s' 187 (329 + k) = tA s 187 (329 + k)) ∧ sgt l (cdf (tA s' 187) (329 + nc) (nc' - nc)) ty hh) ∨ (∃ f p, b ≤ p ∧ Nc t' T n f p ∧ Cl t' (cl + (p - b) + slk ty) ∧ Nm s' T n f p (nc + (p - b)))) := by
  have hb := l_b L
  obtain ⟨t1, s1, e1, e2, K1, K2, L1, D1, h1, h2⟩ := l_code L D (by omega) c hc x hx
  obtain ⟨t2, s2, e3, e4, q1, q2, r⟩ := l_adv L1 D1.1.2.1
  refine ⟨t1, t2, s1, s2, e1, e3, e2, e4, Kc_t K1 (Kc_q (by decide) q1), Km_t K2 (Km_q (by decide) q2), ?_⟩
  rcases r with ⟨b1, ee1, km1, L2, g1⟩ | ⟨p, g1, N1, N2⟩
  · refine Or.inl ⟨b1, ee1, km1, cl + 1, nc + 1, L2, CD_q D1 q1 q2 (by decide) (by decide) (by decide), by omega, by omega, by omega, fun k hk => by rw [q2.2.1, h1 k hk], ?_⟩
    rw [show nc + 1 - nc = 1 by omega, cdf_1, q2.2.1, h2]
    exact hs
  · exact Or.inr ⟨1, p, by omega, N1, Cl_m (Cl_q (CD_Cl D1) q1 (by decide)) (by omega), Nm_q N2 (by omega)⟩
theorem r_gin (X : Fx g0) (hd : d < 6) (h11 : tI s 183 11 = nI 0) (e : F_X12_next 183 (Em g0 s) = some ((), Em g0 s')) (h11' : tI s' 183 11 = nI 0) : F_X12_goesIn 183 (nI d) (Em g0 s) = some (1, Em g0 s') := by
  have e22 : F_X12_goesIn_b22 183 (Em g0 s') = some (1, Em g0 s') := by
    unfold F_X12_goesIn_b22
    rw [x_i183_11 X, Option.bind_some, h11', if_neg (show ¬ ¬ nI 0 = (0 : Int32) from fun h => h rfl)]
  unfold F_X12_goesIn F_X12_goesIn_b11
  rw [if_pos (show ¬ nI d = (6 : Int32) from show ¬ nI d = nI 6 by rw [nI_eq (by omega) (by decide)]; omega), x_i183_11 X, Option.bind_some, h11, if_neg (show ¬ ¬ nI 0 = (0 : Int32) from fun h => h rfl), x_rc183 X, Option.bind_some, e, Option.bind_some]
  exact e22
theorem r_gin6 (X : Fx g0) (e : F_X12_fails 183 (nI 4) (Em g0 s) = some ((), Em g0 s')) (h11' : tI s' 183 11 = nI 4) : F_X12_goesIn 183 (nI 6) (Em g0 s) = some (0, Em g0 s') := by
  have e22 : F_X12_goesIn_b22 183 (Em g0 s') = some (0, Em g0 s') := by
    unfold F_X12_goesIn_b22
    rw [x_i183_11 X, Option.bind_some, h11', if_pos (show ¬ nI 4 = (0 : Int32) by decide)]
  unfold F_X12_goesIn F_X12_goesIn_b11
  rw [if_neg (show ¬ ¬ nI 6 = (6 : Int32) from fun h => h rfl), x_rc183 X, Option.bind_some, show (4 : Int32) = nI 4 from rfl, e, Option.bind_some, x_i183_11 X, Option.bind_some, h11', if_pos (show ¬ nI 4 = (0 : Int32) by decide)]
  exact e22
theorem k_21w (L : Lv g t g0 s T n b e km) (D : CD l t s cl nc fr) (hl : l < 2) (c1 : km ≠ 23) (c2 : km ≠ 35) {fS : Nat → Int32 → Int32 → xH → Option (Unit × xH)} {x1 : Int32} : F_X4_readAtom fS 70 x1 (Em g t) = F_X4_readAtom_b102 fS 70 (wdc l km) (Em g t) := by
  have X := L.1.1
  obtain ⟨kc, k1, k2, k3, k4⟩ := l_kind L
  have c11 : tI t 70 11 = nI 0 := L.2.2.2.1.2.2
  have e21 : F_X4_readAtom_b21 fS 70 x1 (Em g t) = F_X4_readAtom_b102 fS 70 (wdc l km) (Em g t) := by
    unfold F_X4_readAtom_b21
    rw [x_i70_11 X, Option.bind_some, c11, if_pos (show nI 0 = (0 : Int32) from rfl), x_i70_7 X, Option.bind_some, k1, if_pos (show ¬ nI kc = (1 : Int32) from show ¬ nI kc = nI 1 by rw [nI_eq (by omega) (by decide)]; omega), x_rc70 X, Option.bind_some, l_isAt L (a := 32) (i := 16) rfl (by decide) (by decide), Option.bind_some, show kcd 16 = 35 from rfl, decide_eq_false c2, if_pos (show bI false = (0 : Int32) by decide), x_i70_9 X, Option.bind_some, D.2.2.2]
    rcases (show l = 0 ∨ l = 1 by omega) with rfl | rfl
    · rw [if_neg (show ¬ bI (decide (0 = 0)) = (0 : Int32) by decide), x_rc70 X, Option.bind_some, k_wH L, Option.bind_some]
    · rw [if_pos (show bI (decide (1 = 0)) = (0 : Int32) by decide), x_rc70 X, Option.bind_some, k_wG L, Option.bind_some]
  unfold F_X4_readAtom
  rw [x_rc70 X, Option.bind_some, l_isAt L (a := 32) (i := 16) rfl (by decide) (by decide), Option.bind_some, show kcd 16 = 35 from rfl, decide_eq_false c2, if_pos (show bI false = (0 : Int32) by decide)]
  exact e21
theorem Ex_atom (hl : l < 2) (hd6 : d ≤ 6) (hh1 : 1 ≤ hd) (S : d < 6 → 4 ≤ N ∧ 3 ≤ M ∧ Ex l fr T n g g0 (fun h => (G_X4_readSum N).1 70 (nI (d + 1)) (nI 0) h) (fun h => (G_X12_readAtom M).2.2 183 (nI (d + 1)) h) false hd) : Ex l fr T n g g0 (fun h => (G_X4_readSum (N + 1)).2 70 (nI d) h) (fun h => (G_X12_readAtom (M + 1)).1 183 (nI d) h) false hd := fun t s b e km cl nc L D hnc => by
  have hb := l_b L
  have X := L.1.1
  have X0 := L.1.2
  obtain ⟨kc, k1, k2, k3, k4⟩ := l_kind L
  have c11 : tI t 70 11 = nI 0 := L.2.2.2.1.2.2
  have m9 : tI s 183 9 = nI km := L.2.2.2.2.1.2.2.1
  have m11 : tI s 183 11 = nI 0 := L.2.2.2.2.1.2.2.2
  have h15 : tI s 183 15 = nI l := D.2.2.1
  have hsl : slk false = 1 := rfl
  show ∃ t' s', F_X4_readAtom (G_X4_readSum N).1 70 (nI d) (Em g t) = some ((), Em g t') ∧ F_X12_readAtom (G_X12_readAtom M).2.2 183 (nI d) (Em g0 s) = some ((), Em g0 s') ∧ _
  by_cases c1 : km = 23
  · obtain ⟨vl, v1, v2, v3⟩ := l_num L c1
    obtain ⟨t1, t', s1, s', a1, a2, a3, a4, r⟩ := l_ca L D hnc (by omega) vl (by omega) (nI vl) (by rw [ccn, if_pos v1]) (sgt_m hh1 (sgt_n v1))
    refine ⟨t', s', ?_, ?_, r⟩
    · have e21 : F_X4_readAtom_b21 (G_X4_readSum N).1 70 (nI d) (Em g t) = some ((), Em g t') := by
        unfold F_X4_readAtom_b21
        rw [x_i70_11 X, Option.bind_some, c11, if_pos (show nI 0 = (0 : Int32) from rfl), x_i70_7 X, Option.bind_some, k1, if_neg (show ¬ ¬ nI kc = (1 : Int32) from fun h => h (by rw [k3.mp c1]; rfl)), x_i70_8 X, Option.bind_some, v2, x_rc70 X, Option.bind_some, a1, Option.bind_some, x_rc70 X, Option.bind_some, a2, Option.bind_some]
      unfold F_X4_readAtom
      rw [x_rc70 X, Option.bind_some, l_isAt L (a := 32) (i := 16) rfl (by decide) (by decide), Option.bind_some, show kcd 16 = 35 from rfl, decide_eq_false (by omega), if_pos (show bI false = (0 : Int32) by decide)]
      exact e21
    · unfold F_X12_readAtom
      rw [x_rc183 X0, Option.bind_some, show (23 : Int32) = nI 23 from rfl, l_is L (by decide), Option.bind_some, decide_eq_true c1, if_neg (show ¬ bI true = (0 : Int32) by decide), x_i183_10 X0, Option.bind_some, v3, x_rc183 X0, Option.bind_some, a3, Option.bind_some, x_rc183 X0, Option.bind_some, a4, Option.bind_some]
  have mw : F_X12_readAtom (G_X12_readAtom M).2.2 183 (nI d) (Em g0 s) = if wdm l km = (-1 : Int32) then F_X12_readAtom_b66 (G_X12_readAtom M).2.2 183 (nI d) (Em g0 s) else (F_X12_codes 183 ((1000 : Int32) + wdm l km) (Em g0 s)).bind fun z56 => (rc z56.2 183 11).bind fun _ => (F_X12_next 183 z56.2).bind fun z60 => some ((), z60.2) := by
    unfold F_X12_readAtom
    rw [x_rc183 X0, Option.bind_some, show (23 : Int32) = nI 23 from rfl, l_is L (by decide), Option.bind_some, decide_eq_false c1, if_pos (show bI false = (0 : Int32) by decide), x_i183_11 X0, Option.bind_some, m11, if_neg (show ¬ ¬ nI 0 = (0 : Int32) from fun h => h rfl), x_i183_9 X0, Option.bind_some, m9, x_rc183 X0, Option.bind_some, r_wo X0 hl h15 hb.2.2.1, Option.bind_some]
    by_cases cw : wdm l km = (-1 : Int32)
    · rw [if_pos cw, if_pos cw]
    · rw [if_neg cw, if_neg cw, x_i183_9 X0, Option.bind_some, m9, x_rc183 X0, Option.bind_some, r_wo X0 hl h15 hb.2.2.1, Option.bind_some, x_rc183 X0, Option.bind_some]
  rw [mw]
  by_cases c2 : km = 35
  · have w0 : wdx l km = none := by
      subst c2
      rcases (show l = 0 ∨ l = 1 by omega) with rfl | rfl <;> rfl
    have w1 : wdm l km = -1 := by unfold wdm; rw [w0]
    rw [if_pos w1]
    have ek : ¬ nI kc = (1 : Int32) := show ¬ nI kc = nI 1 by rw [nI_eq (by omega) (by decide)]; omega
    have eA := l_isAt L (a := 32) (i := 16) rfl (by decide) (by decide)
    rw [show kcd 16 = 35 from rfl, decide_eq_true c2] at eA
    have eM := l_is L (k := 35) (by decide)
    rw [decide_eq_true c2] at eM
    by_cases c6 : d < 6
    · obtain ⟨hN, hM, Sub⟩ := S c6
      obtain ⟨t1, s1, e1, e2, q1, q2, r⟩ := l_adv L D.1.2.1
      have K1 : Kc t t1 := Kc_q (by decide) q1
      have K2 : Km s s1 := Km_q (by decide) q2
      have eg := r_gin X0 c6 m11 e2 (by rw [q2.1 183 11 (fun _ => by decide)]; exact m11)
      have fin : ∀ t2 t3 s2 s3, (G_X4_readSum N).1 70 (nI (d + 1)) (nI 0) (Em g t1) = some ((), Em g t2) → F_X4_pass 70 34 (Em g t2) = some ((), Em g t3) → (G_X12_readAtom M).2.2 183 (nI (d + 1)) (Em g0 s1) = some ((), Em g0 s2) → pasM (nI 36) (Em g0 s2) = some ((), Em g0 s3) → F_X4_readAtom (G_X4_readSum N).1 70 (nI d) (Em g t) = some ((), Em g t3) ∧ F_X12_readAtom_b66 (G_X12_readAtom M).2.2 183 (nI d) (Em g0 s) = some ((), Em g0 s3) := fun t2 t3 s2 s3 a1 a2 a3 a4 => by
        refine ⟨?_, ?_⟩
        · have e21 : F_X4_readAtom_b21 (G_X4_readSum N).1 70 (nI d) (Em g t) = some ((), Em g t3) := by
            unfold F_X4_readAtom_b21
            rw [x_i70_11 X, Option.bind_some, c11, if_pos (show nI 0 = (0 : Int32) from rfl), x_i70_7 X, Option.bind_some, k1, if_pos ek, x_rc70 X, Option.bind_some, eA, Option.bind_some, if_neg (show ¬ bI true = (0 : Int32) by decide), x_rc70 X, Option.bind_some, e1, Option.bind_some, x_rc70 X, Option.bind_some, show nI d + 1 = nI (d + 1) from nI_add d 1, show (0 : Int32) = nI 0 from rfl, a1, Option.bind_some, x_rc70 X, Option.bind_some, a2, Option.bind_some]
          unfold F_X4_readAtom
          rw [x_rc70 X, Option.bind_some, eA, Option.bind_some, if_neg (show ¬ bI true = (0 : Int32) by decide), if_pos (show nI d < (6 : Int32) from show nI d < nI 6 by rw [nI_ltI (by omega) (by decide)]; exact c6)]
          exact e21
        · unfold F_X12_readAtom_b66
          rw [x_rc183 X0, Option.bind_some, show (35 : Int32) = nI 35 from rfl, eM, Option.bind_some, if_neg (show ¬ bI true = (0 : Int32) by decide), x_rc183 X0, Option.bind_some, eg, Option.bind_some, if_pos (show ¬ (1 : Int32) = 0 by decide), x_rc183 X0, Option.bind_some, show nI d + 1 = nI (d + 1) from nI_add d 1, a3, Option.bind_some, x_rc183 X0, Option.bind_some]
          exact pasA a4
      rcases r with ⟨b1, ee1, km1, L1, g1⟩ | ⟨p, g1, N1, N2⟩
      · have D1 := CD_q D q1 q2 (by decide) (by decide) (by decide)
        obtain ⟨t2, s2, e3, e4, K3, K4, r⟩ := Sub t1 s1 b1 ee1 km1 cl nc L1 D1 (by omega)
        rcases r with ⟨b2, ee2, km2, cl2, nc2, L2, D2, h1, h2, h3, h4, h5⟩ | ⟨f, p, h1, N1, C1, N2⟩
        · obtain ⟨t3, s3, e5, e6, q3, q4, r⟩ := l_pass L2 D2.1.2.1 (a := 34) (i := 17) rfl (by decide) (by decide) (by decide)
          obtain ⟨f1, f2⟩ := fin t2 t3 s2 s3 e3 e5 e4 e6
          refine ⟨t3, s3, f1, f2, Kc_t K1 (Kc_t K3 (Kc_q (by decide) q3)), Km_t K2 (Km_t K4 (Km_q (by decide) q4)), ?_⟩
          have hb2 := l_b L2
          rcases r with ⟨b3, ee3, km3, u1, L3, u2⟩ | ⟨f, p, u1, N1, N2⟩
          · refine Or.inl ⟨b3, ee3, km3, cl2, nc2, L3, CD_q D2 q3 q4 (by decide) (by decide) (by decide), by omega, by omega, by omega, fun k hk => by rw [q4.2.1, h4 k hk, q2.2.1], ?_⟩
            rw [q4.2.1]
            exact h5
          · exact Or.inr ⟨f, p, by omega, N1, Cl_m (Cl_q (CD_Cl D2) q3 (by decide)) (by have := D.1.2.2.1; have := D2.1.2.2.1; omega), Nm_q N2 (by omega)⟩
        · obtain ⟨s3, e6, q4, N3⟩ := n_passm X0 N2 (k := 36) (by decide) (by decide)
          obtain ⟨f1, f2⟩ := fin t2 t2 s2 s3 e3 (n_passc X N1 (a := 34) (i := 17) rfl (by decide)) e4 e6
          exact ⟨t2, s3, f1, f2, Kc_t K1 K3, Km_t K2 (Km_t K4 (Km_q (by decide) q4)), Or.inr ⟨f, p, by omega, N1, Cl_m C1 (by omega), Or.inl N3⟩⟩
      · obtain ⟨Mm, rfl⟩ : ∃ z, M = z + 3 := ⟨M - 3, by omega⟩
        obtain ⟨s2, e4, K4, N3⟩ := n_rsumm X0 (M := Mm) (d := nI (d + 1)) s1 1 p nc N2
        obtain ⟨s3, e6, q4, N4⟩ := n_passm (q := 0) X0 (Or.inl N3) (k := 36) (by decide) (by decide)
        obtain ⟨f1, f2⟩ := fin t1 t1 s2 s3 (n_rsumc X 0 N (by omega) (by omega) t1 1 p N1) (n_passc X N1 (a := 34) (i := 17) rfl (by decide)) e4 e6
        exact ⟨t1, s3, f1, f2, K1, Km_t K2 (Km_t K4 (Km_q (by decide) q4)), Or.inr ⟨1, p, by omega, N1, Cl_m (Cl_q (CD_Cl D) q1 (by decide)) (by omega), Or.inl N4⟩⟩
    · have d6 : d = 6 := by omega
      obtain ⟨t1, s1, e1, e2, q1, q2, N1, N2⟩ := l_fail L (f := 4) ⟨by decide, by decide⟩
      refine ⟨t1, s1, ?_, ?_, Kc_q (by decide) q1, Km_q (by decide) q2, Or.inr ⟨4, b, Nat.le_refl _, N1, Cl_m (Cl_q (CD_Cl D) q1 (by decide)) (by omega), Or.inl N2⟩⟩
      · have e21 : F_X4_readAtom_b21 (G_X4_readSum N).1 70 (nI d) (Em g t1) = some ((), Em g t1) := by
          unfold F_X4_readAtom_b21
          rw [x_i70_11 X, Option.bind_some, N1.2.2.1, if_neg (show ¬ nI 4 = (0 : Int32) by decide)]
        unfold F_X4_readAtom
        rw [x_rc70 X, Option.bind_some, eA, Option.bind_some, if_neg (show ¬ bI true = (0 : Int32) by decide), if_neg (show ¬ nI d < (6 : Int32) by rw [d6]; decide), x_rc70 X, Option.bind_some, show (4 : Int32) = nI 4 from rfl, e1, Option.bind_some]
        exact e21
      · unfold F_X12_readAtom_b66
        rw [x_rc183 X0, Option.bind_some, show (35 : Int32) = nI 35 from rfl, eM, Option.bind_some, if_neg (show ¬ bI true = (0 : Int32) by decide), x_rc183 X0, Option.bind_some, d6, r_gin6 X0 e2 N2.2.2.1, Option.bind_some, if_neg (fun h => h rfl)]
  rw [k_21w L D hl c1 c2]
  cases hw : wdx l km with
  | some w =>
    obtain ⟨w1, w2, w3, w4⟩ := wdx_ok hl hw
    have e1 : wdc l km = nI (if l = 0 then w else w - 5) := by unfold wdc; rw [hw]
    have e2 : wdm l km = nI w := by unfold wdm; rw [hw]
    have hz : (if l = 0 then w else w - 5) < 8 := by split <;> omega
    generalize (if l = 0 then w else w - 5) = z at *
    obtain ⟨t1, t', s1, s', a1, a2, a3, a4, r⟩ := l_ca L D hnc (by omega) (1000 + w) (by omega) (nI (1000 + z)) (by rw [w3]) (sgt_m hh1 (sgt_w w1))
    refine ⟨t', s', ?_, ?_, r⟩
    · unfold F_X4_readAtom_b102 F_X4_readAtom_b113
      rw [e1, if_pos (show ¬ nI z = (-1 : Int32) from nI_n1 (by omega)), x_rc70 X, Option.bind_some, show (1000 : Int32) + nI z = nI (1000 + z) from nI_add 1000 z, a1, Option.bind_some, x_rc70 X, Option.bind_some, a2, Option.bind_some]
    · rw [e2, if_neg (show ¬ nI w = (-1 : Int32) from nI_n1 (by omega)), show (1000 : Int32) + nI w = nI (1000 + w) from nI_add 1000 w, a3, Option.bind_some, x_rc183 X0, Option.bind_some, a4, Option.bind_some]
  | none =>
    have e1 : wdc l km = -1 := by unfold wdc; rw [hw]
    have e2 : wdm l km = -1 := by unfold wdm; rw [hw]
    obtain ⟨t1, s1, a1, a2, q1, q2, N1, N2⟩ := l_fail L (f := 2) ⟨by decide, by decide⟩
    obtain ⟨t2, a3, K3, N3, C3⟩ := n_emit X N1 (Cl_q (CD_Cl D) q1 (by decide)) ((1000 : Int32) + -1)
    refine ⟨t2, s1, ?_, ?_, Kc_t (Kc_q (by decide) q1) K3, Km_q (by decide) q2, Or.inr ⟨2, b, Nat.le_refl _, N3, Cl_m C3 (by omega), Or.inl N2⟩⟩
    · unfold F_X4_readAtom_b102 F_X4_readAtom_b113
      rw [e1, if_neg (show ¬ ¬ (-1 : Int32) = -1 from fun h => h rfl), x_rc70 X, Option.bind_some, show (2 : Int32) = nI 2 from rfl, a1, Option.bind_some, x_rc70 X, Option.bind_some, a3, Option.bind_some, x_rc70 X, Option.bind_some, n_adv X N3, Option.bind_some]
    · have eM := l_is L (k := 35) (by decide)
      rw [decide_eq_false c2] at eM
      rw [if_pos e2]
      unfold F_X12_readAtom_b66
      rw [x_rc183 X0, Option.bind_some, show (35 : Int32) = nI 35 from rfl, eM, Option.bind_some, if_pos (show bI false = (0 : Int32) by decide), x_rc183 X0, Option.bind_some, show (2 : Int32) = nI 2 from rfl, a2, Option.bind_some]
end XSu
