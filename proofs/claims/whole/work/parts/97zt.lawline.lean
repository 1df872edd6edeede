/-! ===== a line: law ===== -/
def lww (s : Tb) (l : Nat) (x y : Int32) : Tb := wa (wa (wa s 187 (5 + l) 1) 187 (7 + l) x) 187 (9 + l) y
section XLl
variable {g g0 : Sk} {t t1 t' t0 s s1 s' s0 : Tb} {T : Nat → Int32} {n b e km f p q nc v l cl : Nat} {x y z : Int32} {S S' : List Nat}
theorem lww_o {k : Nat} (h1 : k ≠ 5 + l) (h2 : k ≠ 7 + l) (h3 : k ≠ 9 + l) : tA (lww s l x y) 187 k = tA s 187 k := by
  unfold lww
  rw [tA_as, upd_n h3, tA_as, upd_n h2, tA_as, upd_n h1]
theorem lww_f : Fs s (lww s l x y) := Fs_t Fs_a (Fs_t Fs_a Fs_a)
theorem Lv_b (L : Lv g t g0 s T n b e km) : Lv g (wi (wi t 70 9 x) 70 3 y) g0 s T n b e km := by
  obtain ⟨X, R, M, ⟨c5, c6, c11⟩, ⟨m6, m7, m9, m11⟩, e0, kc, vl, k1, k2, k3, k4, k5⟩ := L
  have h : ∀ j, j ≠ 3 → j ≠ 9 → tI (wi (wi t 70 9 x) 70 3 y) 70 j = tI t 70 j := fun j h1 h2 => by rw [tI_ik h1, tI_ik h2]
  exact ⟨X, ⟨R.1, by rw [h 4 (by decide) (by decide)]; exact R.2.1, R.2.2⟩, M, ⟨by rw [h 5 (by decide) (by decide)]; exact c5, by rw [h 6 (by decide) (by decide)]; exact c6, by rw [h 11 (by decide) (by decide)]; exact c11⟩, ⟨m6, m7, m9, m11⟩, e0, kc, vl, k1, k2, by rw [h 7 (by decide) (by decide)]; exact k3, by rw [h 8 (by decide) (by decide)]; exact k4, k5.1, by rw [h 12 (by decide) (by decide)]; exact k5.2⟩
theorem Lv_15 (L : Lv g t g0 s T n b e km) : Lv g t g0 (wi s 183 15 x) T n b e km := by
  obtain ⟨X, R, M, C, ⟨m6, m7, m9, m11⟩, e0, kc, vl, k1, k2, k3, k4, k5⟩ := L
  exact ⟨X, R, ⟨M.1, by rw [tI_ik (by decide)]; exact M.2.1, M.2.2⟩, C, ⟨by rw [tI_ik (by decide)]; exact m6, by rw [tI_ik (by decide)]; exact m7, by rw [tI_ik (by decide)]; exact m9, by rw [tI_ik (by decide)]; exact m11⟩, e0, kc, vl, k1, k2, k3, k4, by rw [tI_ik (by decide)]; exact k5.1, k5.2⟩
theorem Nm_15 (N : Nm s T n f p q) : Nm (wi s 183 15 x) T n f p q := by
  rcases N with N | ⟨M, m11, m1, m9, m6, hp, nc, m2, m3⟩
  · exact Or.inl ⟨⟨N.1.1, by rw [tI_ik (by decide)]; exact N.1.2.1, N.1.2.2⟩, N.2.1, by rw [tI_ik (by decide)]; exact N.2.2.1, by rw [tI_ik (by decide)]; exact N.2.2.2⟩
  · exact Or.inr ⟨⟨M.1, by rw [tI_ik (by decide)]; exact M.2.1, M.2.2⟩, by rw [tI_ik (by decide)]; exact m11, m1, by rw [tI_ik (by decide)]; exact m9, by rw [tI_ik (by decide)]; exact m6, hp, nc, m2, m3⟩
theorem Kn_15 : Kn s (wi s 183 15 x) := ⟨fun b k h => by
  by_cases e : b = 183
  · exact tI_ik (fun e2 => h e (by rw [e2]; decide))
  · exact tI_ia e, fun _ _ => rfl, rfl⟩
theorem lw_b18 (X0 : Fx g0) (hl : l < 2) (h328 : tA s 187 328 = nI nc) (e1 : C_X12_readTruth 100 183 0 (Em g0 (wi s 183 15 (nI l))) = some ((), Em g0 s1)) : F_X12_readLaw_b18 183 (nI l) (Em g0 s) = some ((), Em g0 (if tI s1 183 11 = nI 0 then lww s1 l (nI nc) (tA s1 187 328 - nI nc) else s1)) := by
  have hA : ∀ s : Tb, aI (Em g0 s) 187 328 = some (tA s 187 328) := fun s => x_a187 X0 (k := 328) (by decide)
  unfold F_X12_readLaw_b18
  rw [x_r183_4 X0, Option.bind_some, hA, Option.bind_some, h328, x_w183_15 X0, Option.bind_some, x_rc183 X0, Option.bind_some, e1, Option.bind_some, x_i183_11 X0, Option.bind_some]
  by_cases c : tI s1 183 11 = nI 0
  · rw [if_pos (show tI s1 183 11 = (0 : Int32) from c), if_pos c, x_r183_4 X0, Option.bind_some, show (5 : Int32) + nI l = nI (5 + l) from nI_add 5 l, x_s187 X0 (by omega), Option.bind_some, x_r183_4 X0, Option.bind_some, show (7 : Int32) + nI l = nI (7 + l) from nI_add 7 l, x_s187 X0 (by omega), Option.bind_some, x_r183_4 X0, Option.bind_some, Option.bind_some, hA, Option.bind_some, tA_as, upd_n (by omega), tA_as, upd_n (by omega), show (9 : Int32) + nI l = nI (9 + l) from nI_add 9 l, x_s187 X0 (by omega), Option.bind_some]
    rfl
  · rw [if_neg (show ¬ tI s1 183 11 = (0 : Int32) from c), if_neg c]
theorem lw_bad (X0 : Fx g0) (hl : l < 2) (h328 : tA s 187 328 = nI nc) (N : Nm s T n f p q) : ∃ s', F_X12_readLaw_b18 183 (nI l) (Em g0 s) = some ((), Em g0 s') ∧ Kn s s' ∧ Dd s' T n f p := by
  obtain ⟨s1, e1, K1, d1⟩ := n_rtruthm X0 (M := 97) (d := 0) (wi s 183 15 (nI l)) f p q (Nm_15 N)
  refine ⟨s1, ?_, Kn_t Kn_15 (Kn_m K1), d1⟩
  rw [lw_b18 X0 hl h328 e1, if_neg (by rw [d1.2.2.1]; exact f_nz d1.2.1)]
theorem lw_line (L : Lv g t g0 s T n b e km) (hbe : b < e) (hb1 : 1 ≤ b) (hl : l < 2) (hv : 205 ≤ v) (z5 : tA s 187 328 = nI nc) (hnc : nc ≤ b) : ∃ t1 t2 s' cl, F_X4_beginLaw 70 (bI (decide (l = 0))) (Em g t) = some ((), Em g t1) ∧ C_X4_readTruth 100 70 0 0 (Em g t1) = some ((), Em g t2) ∧ F_X12_readLaw 183 (nI l) (Em g0 s) = some ((), Em g0 s') ∧ Kv v t t2 ∧ Kn s s' ∧ (∀ b k, v ≤ b → tI t2 b k = tI t b k) ∧ (∀ b, v ≤ b → tA t2 b = tA t b) ∧ tI t2 70 3 = nI cl ∧ cl < 900 ∧ ((∃ b' e' km', Lv g t2 g0 s' T n b' e' km' ∧ b + 3 ≤ b' ∧ cl + b ≤ b' ∧ nc + cl ≤ 900 ∧ (∀ k, k < cl → tA t2 72 k = nI (ccn l (tn (tA s' 187 (329 + nc + k))))) ∧ (tA s' 187 (5 + l) = nI 1 ∧ tA s' 187 (7 + l) = nI nc ∧ tA s' 187 (9 + l) = nI cl ∧ tA s' 187 328 = nI (nc + cl)) ∧ okc l (cdf (tA s' 187) (329 + nc) cl) [] ∧ (∀ x, x < 328 → x ≠ 5 + l → x ≠ 7 + l → x ≠ 9 + l → tA s' 187 x = tA s 187 x) ∧ (∀ k, k < nc → tA s' 187 (329 + k) = tA s 187 (329 + k))) ∨ (∃ f p, b ≤ p ∧ Nc t2 T n f p ∧ Nm s' T n f p 900)) := by
  have X := L.1.1
  have X0 := L.1.2
  have hb := l_b L
  have wz : wZ (Em g t) 70 3 9 (bI (decide (l = 0))) = some (Em g (wi t 70 9 (bI (decide (l = 0))))) := by
    rcases (show l = 0 ∨ l = 1 by omega) with rfl | rfl
    · exact E_wZ1 (by decide) (by decide) rfl (Or.inl (x_S X 4 rfl))
    · exact E_wZ0 (by decide) (by decide) rfl (Or.inl (x_S X 4 rfl))
  generalize hT : wi (wi t 70 9 (bI (decide (l = 0)))) 70 3 (nI 0) = tb
  have L0 : Lv g tb g0 s T n b e km := by rw [← hT]; exact Lv_b L
  have k3 : tI tb 70 3 = nI 0 := by rw [← hT]; exact tI_is
  have k9 : tI tb 70 9 = bI (decide (l = 0)) := by rw [← hT, tI_ik (by decide)]; exact tI_is
  have K0 : Kv v t tb := by
    rw [← hT]
    refine ⟨fun b k hb h => ?_, fun _ _ _ => rfl, fun _ _ => rfl⟩
    by_cases e : b = 70
    · rw [tI_ik (fun e2 => h e (by rw [e2]; decide)), tI_ik (fun e2 => h e (by rw [e2]; decide))]
    · rw [tI_ia e, tI_ia e]
  have d0i : ∀ b k, v ≤ b → tI tb b k = tI t b k := fun b k hb => by rw [← hT, tI_ia (by omega), tI_ia (by omega)]
  have d0a : tA tb = tA t := by rw [← hT]; rfl
  have EB : ∀ ta tc, F_X4_advance 70 (Em g tb) = some ((), Em g ta) → F_X4_pass 70 24 (Em g ta) = some ((), Em g tc) → F_X4_beginLaw 70 (bI (decide (l = 0))) (Em g t) = some ((), Em g tc) := fun ta tc h1 h2 => by
    unfold F_X4_beginLaw
    rw [wz, Option.bind_some, show (0 : Int32) = nI 0 from rfl, x_w70_3 X, Option.bind_some, hT, x_rc70 X, Option.bind_some, h1, Option.bind_some, x_rc70 X, Option.bind_some, h2, Option.bind_some]
  have EM : ∀ sa sb s', F_X12_next 183 (Em g0 s) = some ((), Em g0 sa) → pasM (nI 31) (Em g0 sa) = some ((), Em g0 sb) → F_X12_readLaw_b18 183 (nI l) (Em g0 sb) = some ((), Em g0 s') → F_X12_readLaw 183 (nI l) (Em g0 s) = some ((), Em g0 s') := fun sa sb s' h1 h2 h3 => by
    unfold F_X12_readLaw
    rw [x_rc183 X0, Option.bind_some, h1, Option.bind_some, x_rc183 X0, Option.bind_some]
    exact (pasB (R := fun h => F_X12_readLaw_b18 183 (nI l) h) h2).trans h3
  obtain ⟨ta, sa, e1, e2, q1, q2, r⟩ := l_adv L0 z5
  have q2' : Qs 183 [6, 7, 9, 10, 11, 12] s sa := Qs_m (by decide) q2
  have bad : ∀ tc sc f p, F_X4_advance 70 (Em g tb) = some ((), Em g ta) → F_X4_pass 70 24 (Em g ta) = some ((), Em g tc) → pasM (nI 31) (Em g0 sa) = some ((), Em g0 sc) → Qs 70 [5, 6, 7, 8, 11, 12] tb tc → Qs 183 [6, 7, 9, 10, 11, 12] s sc → b ≤ p → Nc tc T n f p → Nm sc T n f p nc → ∃ t1 t2 s' cl, F_X4_beginLaw 70 (bI (decide (l = 0))) (Em g t) = some ((), Em g t1) ∧ C_X4_readTruth 100 70 0 0 (Em g t1) = some ((), Em g t2) ∧ F_X12_readLaw 183 (nI l) (Em g0 s) = some ((), Em g0 s') ∧ Kv v t t2 ∧ Kn s s' ∧ (∀ b k, v ≤ b → tI t2 b k = tI t b k) ∧ (∀ b, v ≤ b → tA t2 b = tA t b) ∧ tI t2 70 3 = nI cl ∧ cl < 900 ∧ (∃ f p, b ≤ p ∧ Nc t2 T n f p ∧ Nm s' T n f p 900) := fun tc sc f p h1 h2 h3 h4 h5 h6 N1 N2 => by
    obtain ⟨s', e3, K3, d3⟩ := lw_bad X0 hl (nc := nc) (by rw [h5.2.1]; exact z5) N2
    refine ⟨tc, tc, s', 0, EB ta tc h1 h2, n_rtruthc X (d := 0) 0 100 (by omega) (by omega) tc f p N1, EM sa sc s' e2 h3 e3, Kv_t K0 (Kv_c (Kc_q (by decide) h4)), Kn_t (Kn_m (Km_q (by decide) h5)) K3, fun b k hb => (h4.1 b k (fun e => absurd e (by omega))).trans (d0i b k hb), fun b _ => by rw [h4.2.1, d0a], by rw [h4.1 70 3 (fun _ => by decide)]; exact k3, by decide, f, p, h6, N1, Or.inl d3⟩
  rcases r with ⟨b1, ee1, km1, L1, g1⟩ | ⟨p, g1, N1, N2⟩
  · obtain ⟨tc, sc, e3, e4, q3, q4, r⟩ := l_pass L1 (nc := nc) (by rw [q2.2.1]; exact z5) (a := 24) (i := 12) rfl (by decide) (by decide) (by decide)
    have e4' : pasM (nI 31) (Em g0 sa) = some ((), Em g0 sc) := e4
    have q13 := Qs_u q1 q3
    have q24 := Qs_u q2' q4
    have hbb1 := l_b L1
    rcases r with ⟨b2, ee2, km2, r1, L2, r2⟩ | ⟨f, p, r1, N1, N2⟩
    · have h31 : kcd 12 = 31 := rfl
      have hbb2 := l_b L2
      have D2 : CD l tc (wi sc 183 15 (nI l)) 0 nc nc := ⟨⟨by rw [q13.1 70 3 (fun _ => by decide)]; exact k3, by rw [tA_wi, q24.2.1]; exact z5, by omega, by omega⟩, fun k hk => absurd hk (by omega), tI_is, by rw [q13.1 70 9 (fun _ => by decide)]; exact k9⟩
      obtain ⟨t3, s3, e5, e6, K3, K4, r⟩ := Ex_truth X X0 hl (fr := nc) (T := T) (n := n) 6 0 rfl 100 100 (by decide) (by decide) tc (wi sc 183 15 (nI l)) b2 ee2 km2 0 nc (Lv_15 L2) D2 (by omega)
      have e5' : C_X4_readTruth 100 70 0 0 (Em g tc) = some ((), Em g t3) := e5
      have e6' : C_X12_readTruth 100 183 0 (Em g0 (wi sc 183 15 (nI l))) = some ((), Em g0 s3) := e6
      have e7 := lw_b18 X0 hl (nc := nc) (by rw [q24.2.1]; exact z5) e6'
      have KV : Kv v t t3 := Kv_t K0 (Kv_t (Kv_c (Kc_q (by decide) q13)) (Kv_c K3))
      have KN : Kn s s3 := Kn_t (Kn_m (Km_q (by decide) q24)) (Kn_t Kn_15 (Kn_m K4))
      have di : ∀ b k, v ≤ b → tI t3 b k = tI t b k := fun b k hb => by rw [K3.1 b k (fun e => absurd e (by omega)), q13.1 b k (fun e => absurd e (by omega)), d0i b k hb]
      have da : ∀ b, v ≤ b → tA t3 b = tA t b := fun b hb => by rw [K3.2.1 b (by omega), q13.2.1, d0a]
      rcases r with ⟨b3, ee3, km3, cl3, nc3, L3, D3, h1, h2, h3, h4, h5⟩ | ⟨f, p, h1, N1, C1, N2⟩
      · have hbb3 := l_b L3
        have hd := D3.1
        have hn3 : nc3 = nc + cl3 := hd.2.2.1
        rw [if_pos L3.2.2.2.2.1.2.2.2] at e7
        refine ⟨tc, t3, _, cl3, EB ta tc e1 e3, e5', EM sa sc _ e2 e4' e7, KV, Kn_t KN (Kn_w lww_f), di, da, hd.1, by omega, Or.inl ⟨b3, ee3, km3, Lv_w L3 hv Fdw_r lww_f, by omega, by omega, by omega, fun k hk => ?_, ⟨?_, ?_, ?_, ?_⟩, ?_, fun x h1 h2 h3 h4' => ?_, fun k hk => ?_⟩⟩
        · rw [lww_o (by omega) (by omega) (by omega)]
          exact D3.2.1 k hk
        · unfold lww
          rw [tA_as, upd_n (by omega), tA_as, upd_n (by omega), tA_as, upd_s]
          rfl
        · unfold lww
          rw [tA_as, upd_n (by omega), tA_as, upd_s]
        · unfold lww
          rw [tA_as, upd_s, hd.2.1, nI_sub (by omega), hn3, Nat.add_sub_cancel_left]
        · rw [lww_o (by omega) (by omega) (by omega), hd.2.1, hn3]
        · rw [cdf_cg (f := tA (lww s3 l (nI nc) (tA s3 187 328 - nI nc)) 187) (f' := tA s3 187) cl3 (329 + nc) (fun j hj => lww_o (by omega) (by omega) (by omega))]
          have := h5 [] [] (by decide) rfl
          rw [List.append_nil, hn3, Nat.add_sub_cancel_left] at this
          exact this
        · rw [lww_o h2 h3 h4', K4.2.2.2 x h1, tA_wi, q24.2.1]
        · rw [lww_o (by omega) (by omega) (by omega), h4 k hk, tA_wi, q24.2.1]
      · have hp : p ≤ n := by
          obtain ⟨_, _, _, _, b', e', h, _⟩ := N1
          exact h.2
        obtain ⟨c, c1, c2⟩ := C1
        have hst : slk true = 2 := rfl
        by_cases cz : tI s3 183 11 = nI 0
        · rw [if_pos cz] at e7
          exact ⟨tc, t3, _, c, EB ta tc e1 e3, e5', EM sa sc _ e2 e4' e7, KV, Kn_t KN (Kn_w lww_f), di, da, c2, by omega, Or.inr ⟨f, p, by omega, N1, Nm_w (Nm_q N2 (by omega)) lww_f (lww_o (by omega) (by omega) (by omega))⟩⟩
        · rw [if_neg cz] at e7
          exact ⟨tc, t3, _, c, EB ta tc e1 e3, e5', EM sa sc _ e2 e4' e7, KV, KN, di, da, c2, by omega, Or.inr ⟨f, p, by omega, N1, Nm_q N2 (by omega)⟩⟩
    · obtain ⟨t1, t2, s', cl, h1, h2, h3, h4, h5, h6, h7, h8, h9, h10⟩ := bad tc sc f p e1 e3 e4' q13 q24 (by omega) N1 N2
      exact ⟨t1, t2, s', cl, h1, h2, h3, h4, h5, h6, h7, h8, h9, Or.inr h10⟩
  · obtain ⟨sc, e4, q4, d4⟩ := n_passm X0 N2 (k := 31) (by decide) (by decide)
    obtain ⟨t1, t2, s', cl, h1, h2, h3, h4, h5, h6, h7, h8, h9, h10⟩ := bad ta sc 1 p e1 (n_passc X N1 (a := 24) (i := 12) rfl (by decide)) e4 q1 (Qs_u q2' (Qs_m (by decide) q4)) (by omega) N1 (Or.inl d4)
    exact ⟨t1, t2, s', cl, h1, h2, h3, h4, h5, h6, h7, h8, h9, Or.inr h10⟩
end XLl
