/-! ===== a line: way ===== -/
def or2 (f : Nat → Int32) (i j x y : Nat) : Nat → Int32 := upd (upd f i (f i ||| ((1 : Int32) <<< (nI y &&& 31)))) j ((upd f i (f i ||| ((1 : Int32) <<< (nI y &&& 31)))) j ||| ((1 : Int32) <<< (nI x &&& 31)))
def Wye (t0 s0 : Tb) (v x y : Nat) (t s : Tb) : Prop := (∀ b k, v ≤ b → tI t b k = tI t0 b k) ∧ (∀ b, v ≤ b → b ≠ v + 5 → tA t b = tA t0 b) ∧ tA t (v + 5) = or2 (tA t0 (v + 5)) x y x y ∧ tA s 187 = or2 (tA s0 187) (77 + x) (77 + y) x y
section XWy
variable {g g0 : Sk} {t t1 t' t0 s s1 s' s0 : Tb} {T : Nat → Int32} {n b e km f p q nc v u x y K i : Nat} {z : Int32}
theorem lt_K (hK : K ≤ 900) (hx : x < 1000) (h : nI x ≤ nI K - 1) : x < K := by
  rcases (show K = 0 ∨ 1 ≤ K by omega) with rfl | h1
  · rw [fa_le, nI_toInt (by omega), show (nI 0 - 1 : Int32).toInt = -1 from rfl] at h
    omega
  · rw [show nI K - 1 = nI (K - 1) from nI_sub (b := 1) h1, nI_leI (by omega) (by omega)] at h
    omega
theorem or2_o {f : Nat → Int32} {i j k : Nat} (h1 : k ≠ i) (h2 : k ≠ j) : or2 f i j x y k = f k := by
  unfold or2
  rw [upd_n h2, upd_n h1]
/-- the class's writes -/
theorem wy_wc (X : Fx g) (D : DS g v) (hx : x < 6) (hy : y < 6) {h : xH} (eh : h = Em g t) : ((fR h 70 3 10).bind fun v71 => (fR h v71 9 9).bind fun v74 => (aI h v74 (nI x)).bind fun v79 => (sI h v74 (nI x) (v79 ||| (((1 : Int32)) <<< (nI y &&& 31)))).bind fun h84 => (fR h84 70 3 10).bind fun v86 => (fR h84 v86 9 9).bind fun v89 => (aI h84 v89 (nI y)).bind fun v94 => (sI h84 v89 (nI y) (v94 ||| (((1 : Int32)) <<< (nI x &&& 31)))).bind fun h99 => some ((), h99)) = some ((), Em g (wa (wa t (v + 5) x (tA t (v + 5) x ||| ((1 : Int32) <<< (nI y &&& 31)))) (v + 5) y (tA (wa t (v + 5) x (tA t (v + 5) x ||| ((1 : Int32) <<< (nI y &&& 31)))) (v + 5) y ||| ((1 : Int32) <<< (nI x &&& 31))))) := by
  subst eh
  rw [d_70 X D, Option.bind_some, v_r9 D.1, Option.bind_some, v_a5 D.1 hx, Option.bind_some, v_s5 D.1 hx, Option.bind_some, d_70 X D, Option.bind_some, v_r9 D.1, Option.bind_some, v_a5 D.1 hy, Option.bind_some, v_s5 D.1 hy, Option.bind_some]
theorem wy_wm (X0 : Fx g0) (hx : x < 6) (hy : y < 6) {h : xH} (eh : h = Em g0 s) : ((fR h 183 11 4).bind fun v63 => (aI h v63 (((77 : Int32)) + nI x)).bind fun v71 => (sI h v63 (((77 : Int32)) + nI x) (v71 ||| (((1 : Int32)) <<< (nI y &&& 31)))).bind fun h76 => (fR h76 183 11 4).bind fun v78 => (aI h76 v78 (((77 : Int32)) + nI y)).bind fun v86 => (sI h76 v78 (((77 : Int32)) + nI y) (v86 ||| (((1 : Int32)) <<< (nI x &&& 31)))).bind fun h91 => some ((), h91)) = some ((), Em g0 (wa (wa s 187 (77 + x) (tA s 187 (77 + x) ||| ((1 : Int32) <<< (nI y &&& 31)))) 187 (77 + y) (tA (wa s 187 (77 + x) (tA s 187 (77 + x) ||| ((1 : Int32) <<< (nI y &&& 31)))) 187 (77 + y) ||| ((1 : Int32) <<< (nI x &&& 31))))) := by
  subst eh
  rw [show (77 : Int32) + nI x = nI (77 + x) from nI_add 77 x, show (77 : Int32) + nI y = nI (77 + y) from nI_add 77 y, x_r183_4 X0, Option.bind_some, x_a187 X0 (by omega), Option.bind_some, x_s187 X0 (by omega), Option.bind_some, x_r183_4 X0, Option.bind_some, x_a187 X0 (by omega), Option.bind_some, x_s187 X0 (by omega), Option.bind_some]
/-- after a fault -/
theorem wy_nc (X : Fx g) (D : DS g v) (N0 : Nc t T n f p) (x : Int32) : F_X4_readWay_b40 70 x (Em g t) = some ((), Em g t) := by
  unfold F_X4_readWay_b40
  rw [d_70 X D, Option.bind_some, v_i3 D.1, Option.bind_some, x_rc70 X, Option.bind_some, n_takec X N0, Option.bind_some, x_i70_11 X, Option.bind_some, N0.2.2.1, if_pos (show ¬ nI f = (0 : Int32) from f_nz N0.2.1)]
theorem wy_nm (X0 : Fx g0) (N0 : Nm s T n f p q) (x : Int32) : ∃ s', F_X12_readWay_b40 183 x (Em g0 s) = some ((), Em g0 s') ∧ Kn s s' ∧ Dd s' T n f p := by
  have hA : aI (Em g0 s) 187 3 = some (tA s 187 3) := x_a187 X0 (k := 3) (by decide)
  obtain ⟨s1, w, e1, q1, d1⟩ := n_takem X0 N0 0 (tA s 187 3 - 1)
  refine ⟨s1, ?_, Kn_m (Km_q (by decide) q1), d1⟩
  unfold F_X12_readWay_b40
  rw [x_r183_4 X0, Option.bind_some, hA, Option.bind_some, x_rc183 X0, Option.bind_some, e1, Option.bind_some, x_i183_11 X0, Option.bind_some, d1.2.2.1, if_neg (show ¬ nI f = (0 : Int32) from f_nz d1.2.1)]
theorem wy_line (L : Lv g t g0 s T n b e km) (D : DS g v) (hK : K ≤ 6) (z1 : tI t v 3 = nI K) (z2 : tA s 187 3 = nI K) (z5 : tA s 187 328 = nI nc) : ∃ t' s', F_X4_readWay 70 (Em g t) = some ((), Em g t') ∧ F_X12_readWay 183 (Em g0 s) = some ((), Em g0 s') ∧ Kv v t t' ∧ Kn s s' ∧ ((∃ b' e' km' x y, Lv g t' g0 s' T n b' e' km' ∧ e ≤ b' ∧ x < K ∧ y < K ∧ x ≠ y ∧ Wye t s v x y t' s') ∨ (∃ f p, b ≤ p ∧ Nc t' T n f p ∧ Nm s' T n f p nc)) := by
  have X := L.1.1
  have X0 := L.1.2
  have hb := l_b L
  have hv := D.2.1
  have hA : ∀ s : Tb, aI (Em g0 s) 187 3 = some (tA s 187 3) := fun s => x_a187 X0 (k := 3) (by decide)
  obtain ⟨t1, s1, e1, e2, q1, q2, r⟩ := l_adv L z5
  have K1 : Kv v t t1 := Kv_c (Kc_q (by decide) q1)
  have K2 : Kn s s1 := Kn_m (Km_q (by decide) q2)
  have a3 : tI t1 v 3 = nI K := by rw [q1.1 v 3 (fun e => absurd e (by omega))]; exact z1
  have m3 : tA s1 187 3 = nI K := by rw [q2.2.1]; exact z2
  have m328 : tA s1 187 328 = nI nc := by rw [q2.2.1]; exact z5
  unfold F_X4_readWay F_X12_readWay
  rw [x_rc70 X, Option.bind_some, e1, Option.bind_some, d_70 X D, Option.bind_some, v_i3 D.1, Option.bind_some, a3, x_rc70 X, Option.bind_some, x_rc183 X0, Option.bind_some, e2, Option.bind_some, x_r183_4 X0, Option.bind_some, hA, Option.bind_some, m3, x_rc183 X0, Option.bind_some]
  rcases r with ⟨b1, ee1, km1, L1, g1⟩ | ⟨p, g1, N1, N2⟩
  · obtain ⟨t2, s2, zc, zm, e3, e4, q3, q4, r⟩ := l_take2 L1 m328 0 (nI K - 1)
    rw [e3, Option.bind_some, e4, Option.bind_some, x_i70_7 X, Option.bind_some, x_i70_8 X, Option.bind_some, x_rc70 X, Option.bind_some, x_rc183 X0, Option.bind_some]
    have K3 : Kv v t t2 := Kv_t K1 (Kv_c (Kc_q (by decide) q3))
    have K4 : Kn s s2 := Kn_t K2 (Kn_m (Km_q (by decide) q4))
    have a3' : tI t2 v 3 = nI K := by rw [q3.1 v 3 (fun e => absurd e (by omega))]; exact a3
    have m3' : tA s2 187 3 = nI K := by rw [q4.2.1]; exact m3
    have m328' : tA s2 187 328 = nI nc := by rw [q4.2.1]; exact m328
    rcases r with ⟨b2, ee2, km2, x, ⟨r1, r1a, r1b⟩, rfl, rfl, r4, r5, r6, L2, r7⟩ | ⟨f, p, r1, N1, N2, _⟩
    · have hx := lt_K (by omega) r4 r6
      obtain ⟨kc, k1, k2, k3, k4⟩ := l_kind L2
      have m23 := l_is L2 (k := 23) (by decide)
      have m23' : F_X12_is 183 23 (Em g0 s2) = some (bI (decide (km2 = 23)), Em g0 s2) := m23
      rw [k1, m23', Option.bind_some, x_i183_10 X0, Option.bind_some, x_rc183 X0, Option.bind_some]
      by_cases cs : km2 = 23 ∧ tI t2 70 8 = nI x
      · obtain ⟨t3, s3, e5, e6, q5, q6, N3, N4⟩ := l_fail L2 (f := 3) ⟨by decide, by decide⟩
        obtain ⟨vl, v1, v2, v3⟩ := l_num L2 cs.1
        obtain ⟨s4, e7, K7, N5⟩ := wy_nm (q := 0) X0 (Or.inl N4) (nI x)
        refine ⟨t3, s4, ?_, ?_, Kv_t K3 (Kv_c (Kc_q (by decide) q5)), Kn_t K4 (Kn_t (Kn_m (Km_q (by decide) q6)) K7), Or.inr ⟨3, b2, by omega, N3, Or.inl N5⟩⟩
        · rw [if_neg (show ¬ ¬ nI kc = (1 : Int32) from fun h => h (by rw [k3.mp cs.1]; rfl)), if_neg (fun h => h cs.2), show (3 : Int32) = nI 3 from rfl, e5, Option.bind_some]
          exact wy_nc X D N3 _
        · rw [decide_eq_true cs.1, if_neg (show ¬ bI true = (0 : Int32) by decide), if_neg (fun h => h (by rw [v3, ← v2]; exact cs.2)), show (3 : Int32) = nI 3 from rfl, e6, Option.bind_some]
          exact e7
      · obtain ⟨t3, s3, yc, ym, e5, e6, q5, q6, r⟩ := l_take2 L2 m328' 0 (nI K - 1)
        have K5 : Kv v t t3 := Kv_t K3 (Kv_c (Kc_q (by decide) q5))
        have K6 : Kn s s3 := Kn_t K4 (Kn_m (Km_q (by decide) q6))
        have go : ∀ t4 s4, F_X4_readWay_b40 70 (nI x) (Em g t2) = some ((), Em g t4) → F_X12_readWay_b40 183 (nI x) (Em g0 s2) = some ((), Em g0 s4) → (if ¬ nI kc = (1 : Int32) then F_X4_readWay_b40 70 (nI x) (Em g t2) else if ¬ tI t2 70 8 = nI x then F_X4_readWay_b40 70 (nI x) (Em g t2) else (F_X4_fail 70 3 (Em g t2)).bind fun z37 => F_X4_readWay_b40 70 (nI x) z37.2) = some ((), Em g t4) ∧ (if bI (decide (km2 = 23)) = 0 then F_X12_readWay_b40 183 (nI x) (Em g0 s2) else if ¬ tI s2 183 10 = nI x then F_X12_readWay_b40 183 (nI x) (Em g0 s2) else (F_X12_fails 183 3 (Em g0 s2)).bind fun z37 => F_X12_readWay_b40 183 (nI x) z37.2) = some ((), Em g0 s4) := fun t4 s4 h1 h2 => by
          by_cases c23 : km2 = 23
          · obtain ⟨vl, v1, v2, v3⟩ := l_num L2 c23
            have c8 : ¬ tI t2 70 8 = nI x := fun h => cs ⟨c23, h⟩
            rw [if_neg (show ¬ ¬ nI kc = (1 : Int32) from fun h => h (by rw [k3.mp c23]; rfl)), if_pos c8, decide_eq_true c23, if_neg (show ¬ bI true = (0 : Int32) by decide), if_pos (show ¬ tI s2 183 10 = nI x by rw [v3, ← v2]; exact c8)]
            exact ⟨h1, h2⟩
          · rw [if_pos (show ¬ nI kc = (1 : Int32) from show ¬ nI kc = nI 1 by rw [nI_eq (by omega) (by decide)]; exact fun h => c23 (k3.mpr h)), decide_eq_false c23, if_pos (show bI false = (0 : Int32) by decide)]
            exact ⟨h1, h2⟩
        have xnn : ¬ nI x < (0 : Int32) := Int32.not_lt.mpr r5
        rcases r with ⟨b3, ee3, km3, y, ⟨u1, u1a, u1b⟩, rfl, rfl, u4, u5, u6, L3, u7⟩ | ⟨f, p, u1, N1, N2, N3⟩
        · have hy := lt_K (by omega) u4 u6
          have hb2 := l_b L2
          have hxy : x ≠ y := fun h => cs ⟨u1, by rw [h]; exact u1a⟩
          have ynn : ¬ nI y < (0 : Int32) := Int32.not_lt.mpr u5
          have w1 := wy_wc (t := t3) X D (x := x) (y := y) (by omega) (by omega) rfl
          have w2 := wy_wm (s := s3) X0 (x := x) (y := y) (by omega) (by omega) rfl
          obtain ⟨f1, f2⟩ := go _ _ (by
            unfold F_X4_readWay_b40
            rw [d_70 X D, Option.bind_some, v_i3 D.1, Option.bind_some, a3', x_rc70 X, Option.bind_some, e5, Option.bind_some, x_i70_11 X, Option.bind_some, L3.2.2.2.1.2.2, if_neg (show ¬ ¬ nI 0 = (0 : Int32) from fun h => h rfl), if_neg xnn, if_neg ynn]
            exact w1) (by
            unfold F_X12_readWay_b40
            rw [x_r183_4 X0, Option.bind_some, hA, Option.bind_some, m3', x_rc183 X0, Option.bind_some, e6, Option.bind_some, x_i183_11 X0, Option.bind_some, L3.2.2.2.2.1.2.2.2, if_pos (show nI 0 = (0 : Int32) from rfl)]
            exact w2)
          have W1' : Fdw v t3 (wa (wa t3 (v + 5) x (tA t3 (v + 5) x ||| ((1 : Int32) <<< (nI y &&& 31)))) (v + 5) y (tA (wa t3 (v + 5) x (tA t3 (v + 5) x ||| ((1 : Int32) <<< (nI y &&& 31)))) (v + 5) y ||| ((1 : Int32) <<< (nI x &&& 31)))) := Fdw_t (Fdw_a (by omega)) (Fdw_a (by omega))
          have W2' : Fs s3 (wa (wa s3 187 (77 + x) (tA s3 187 (77 + x) ||| ((1 : Int32) <<< (nI y &&& 31)))) 187 (77 + y) (tA (wa s3 187 (77 + x) (tA s3 187 (77 + x) ||| ((1 : Int32) <<< (nI y &&& 31)))) 187 (77 + y) ||| ((1 : Int32) <<< (nI x &&& 31)))) := Fs_t Fs_a Fs_a
          have at3 : tA t3 = tA t := by rw [q5.2.1, q3.2.1, q1.2.1]
          have as3 : tA s3 = tA s := by rw [q6.2.1, q4.2.1, q2.2.1]
          refine ⟨_, _, f1, f2, Kv_t K5 (Kv_w W1'), Kn_t K6 (Kn_w W2'), Or.inl ⟨b3, ee3, km3, x, y, Lv_w L3 hv W1' W2', by omega, hx, hy, hxy, fun b k hb => ?_, fun b hb h => ?_, ?_, ?_⟩⟩
          · rw [tI_wa, tI_wa, q5.1 b k (fun e => absurd e (by omega)), q3.1 b k (fun e => absurd e (by omega)), q1.1 b k (fun e => absurd e (by omega))]
          · rw [tA_an h, tA_an h, at3]
          · rw [tA_as, tA_as, at3]
            rfl
          · rw [tA_as, tA_as, as3]
            rfl
        · obtain ⟨s4, h4, K8, N4⟩ : ∃ s4, F_X12_readWay_b40 183 (nI x) (Em g0 s2) = some ((), Em g0 s4) ∧ Kn s3 s4 ∧ Nm s4 T n f p nc := by
            unfold F_X12_readWay_b40
            rw [x_r183_4 X0, Option.bind_some, hA, Option.bind_some, m3', x_rc183 X0, Option.bind_some, e6, Option.bind_some, x_i183_11 X0, Option.bind_some]
            by_cases cz : tI s3 183 11 = nI 0
            · rcases N3 with N3 | ⟨y, rfl, y1, y2, y3⟩
              · exact absurd (N3.2.2.1.symm.trans cz) (f_nz N3.2.1)
              · have hy := lt_K (by omega) y1 y3
                rw [if_pos (show tI s3 183 11 = (0 : Int32) from cz)]
                have W2' : Fs s3 (wa (wa s3 187 (77 + x) (tA s3 187 (77 + x) ||| ((1 : Int32) <<< (nI y &&& 31)))) 187 (77 + y) (tA (wa s3 187 (77 + x) (tA s3 187 (77 + x) ||| ((1 : Int32) <<< (nI y &&& 31)))) 187 (77 + y) ||| ((1 : Int32) <<< (nI x &&& 31)))) := Fs_t Fs_a Fs_a
                exact ⟨_, wy_wm X0 (x := x) (y := y) (by omega) (by omega) rfl, Kn_w W2', Nm_w N2 W2' (by rw [tA_as, upd_n (by omega), tA_as, upd_n (by omega)])⟩
            · rw [if_neg (show ¬ tI s3 183 11 = (0 : Int32) from cz)]
              exact ⟨s3, rfl, Kn_r, N2⟩
          have h3 : F_X4_readWay_b40 70 (nI x) (Em g t2) = some ((), Em g t3) := by
            unfold F_X4_readWay_b40
            rw [d_70 X D, Option.bind_some, v_i3 D.1, Option.bind_some, a3', x_rc70 X, Option.bind_some, e5, Option.bind_some, x_i70_11 X, Option.bind_some, N1.2.2.1, if_pos (show ¬ nI f = (0 : Int32) from f_nz N1.2.1)]
          obtain ⟨f1, f2⟩ := go _ _ h3 h4
          exact ⟨t3, s4, f1, f2, K5, Kn_t K6 K8, Or.inr ⟨f, p, by omega, N1, N4⟩⟩
    · obtain ⟨s3, h3, K5, N4⟩ := wy_nm X0 N2 zm
      refine ⟨t2, s3, ?_, ?_, K3, Kn_t K4 K5, Or.inr ⟨f, p, by omega, N1, Or.inl N4⟩⟩
      · rw [wy_nc X D N1, n_failc X N1, Option.bind_some, wy_nc X D N1]
        split
        · rfl
        · split <;> rfl
      · rw [show (23 : Int32) = nI 23 from rfl, n_is X0 N2 (by decide) (by decide), Option.bind_some, if_pos (show bI false = (0 : Int32) by decide)]
        exact h3
  · obtain ⟨s2, zm, e4, q4, d4⟩ := n_takem X0 N2 0 (nI K - 1)
    obtain ⟨s3, h3, K5, N4⟩ := wy_nm (q := 0) X0 (Or.inl d4) zm
    refine ⟨t1, s3, ?_, ?_, K1, Kn_t K2 (Kn_t (Kn_m (Km_q (by decide) q4)) K5), Or.inr ⟨1, p, by omega, N1, Or.inl N4⟩⟩
    · rw [n_takec X N1, Option.bind_some, wy_nc X D N1, x_i70_7 X, Option.bind_some, x_i70_8 X, Option.bind_some, x_rc70 X, Option.bind_some, n_failc X N1, Option.bind_some, wy_nc X D N1]
      split
      · rfl
      · split <;> rfl
    · rw [e4, Option.bind_some, x_rc183 X0, Option.bind_some, show (23 : Int32) = nI 23 from rfl, n_is (q := 0) X0 (Or.inl d4) (by decide) (by decide), Option.bind_some, if_pos (show bI false = (0 : Int32) by decide)]
      exact h3
end XWy
