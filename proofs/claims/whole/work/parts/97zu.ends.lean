/-! ===== a line's end ===== -/
section XEn
variable {g g0 : Sk} {t t1 t' t0 s s1 s' s0 : Tb} {T : Nat → Int32} {n b e km f p q nc v : Nat} {x y z : Int32}
theorem en_c (X : Fx g) (D : DS g v) (e1 : F_X4_pass 70 4 (Em g t) = some ((), Em g t1)) : F_X4_readLine_b165 70 (Em g t) = some ((), Em g (wi t1 v 1 (tI t1 v 1 + 1)), 0, 0) := by
  unfold F_X4_readLine_b165
  rw [x_rc70 X, Option.bind_some, e1, Option.bind_some, d_70 X D, Option.bind_some, v_i1 D.1, Option.bind_some, v_w1 D.1, Option.bind_some]
theorem en_m (X0 : Fx g0) (e1 : pasM (nI 30) (Em g0 s) = some ((), Em g0 s1)) : F_X12_ends 183 (Em g0 s) = some ((), Em g0 (wa s1 187 0 (tA s1 187 0 + 1))) := by
  have hA : ∀ s : Tb, aI (Em g0 s) 187 0 = some (tA s 187 0) := fun s => x_a187 X0 (k := 0) (by decide)
  have hS : ∀ (s : Tb) (z : Int32), sI (Em g0 s) 187 0 z = some (Em g0 (wa s 187 0 z)) := fun s z => x_s187 X0 (k := 0) (by decide)
  unfold F_X12_ends
  rw [x_rc183 X0, Option.bind_some]
  refine (pasB (R := fun h => F_X12_ends_b14 183 h) e1).trans ?_
  show F_X12_ends_b14 183 (Em g0 s1) = _
  unfold F_X12_ends_b14
  rw [x_r183_4 X0, Option.bind_some, hA, Option.bind_some, hS, Option.bind_some]
theorem en_nc (X : Fx g) (D : DS g v) (N : Nc t T n f p) : ∃ t', F_X4_readLine_b165 70 (Em g t) = some ((), Em g t', 0, 0) ∧ Kv v t t' ∧ Nc t' T n f p := by
  have h : Fdw v t (wi t v 1 (tI t v 1 + 1)) := Fdw_i (Nat.le_refl _)
  exact ⟨_, en_c X D (n_passc X N (a := 4) (i := 2) rfl (by decide)), Kv_w h, Nc_w N D.2.1 h⟩
theorem en_nm (X0 : Fx g0) (N : Nm s T n f p q) : ∃ s', F_X12_ends 183 (Em g0 s) = some ((), Em g0 s') ∧ Kn s s' ∧ Dd s' T n f p := by
  obtain ⟨s1, e1, q1, d1⟩ := n_passm X0 N (k := 30) (by decide) (by decide)
  have h : Fs s1 (wa s1 187 0 (tA s1 187 0 + 1)) := Fs_a
  exact ⟨_, en_m X0 e1, Kn_t (Kn_m (Km_q (by decide) q1)) (Kn_w h), Dd_w d1 h⟩
theorem en_nz (X0 : Fx g0) (N : Nz s T n f p nc) : ∃ s', F_X12_ends 183 (Em g0 s) = some ((), Em g0 s') ∧ Kn s s' ∧ Dd s' T n f p := by
  obtain ⟨M, rfl, hp, m11, m6, km, k1, k2, k3, m9⟩ := N
  have e0 : F_X12_eats 183 (nI 30) (Em g0 s) = some (0, Em g0 s) := by
    unfold F_X12_eats
    rw [x_rc183 X0, Option.bind_some, r_is X0, Option.bind_some, decide_eq_false (fun h => k3 ((nI_eq (by omega) (by decide)).mp (m9.symm.trans h.2))), if_neg (show ¬ ¬ bI false = (0 : Int32) by decide)]
  have e1 : F_X12_fails 183 2 (Em g0 s) = some ((), Em g0 (wi (wi s 183 11 (nI 2)) 183 12 (nI p))) := by
    unfold F_X12_fails
    rw [x_i183_11 X0, Option.bind_some, m11, if_pos (show nI 0 = (0 : Int32) from rfl), x_i183_9 X0, Option.bind_some, m9, if_pos (show ¬ nI km = (25 : Int32) from show ¬ nI km = nI 25 by rw [nI_eq (by omega) (by decide)]; exact k2), show (2 : Int32) = nI 2 from rfl, x_w183_11 X0, Option.bind_some, x_i183_6 X0, Option.bind_some, tI_ik (by decide), m6, x_w183_12 X0, Option.bind_some]
  have q2 : Qs 183 [11, 12] s (wi (wi s 183 11 (nI 2)) 183 12 (nI p)) := Qs_w (by decide) (Qs_w (by decide) Qs_r)
  have e2 : pasM (nI 30) (Em g0 s) = some ((), Em g0 (wi (wi s 183 11 (nI 2)) 183 12 (nI p))) := by
    unfold pasM
    rw [e0, Option.bind_some, if_neg (fun h => h rfl), x_rc183 X0, Option.bind_some]
    exact e1
  have d1 : Dd (wi (wi s 183 11 (nI 2)) 183 12 (nI p)) T n 2 p := ⟨MR_q M q2 (by decide), ⟨by decide, by decide⟩, by rw [tI_ik (by decide)]; exact tI_is, tI_is⟩
  have h : Fs (wi (wi s 183 11 (nI 2)) 183 12 (nI p)) (wa (wi (wi s 183 11 (nI 2)) 183 12 (nI p)) 187 0 (tA (wi (wi s 183 11 (nI 2)) 183 12 (nI p)) 187 0 + 1)) := Fs_a
  exact ⟨_, en_m X0 e2, Kn_t (Kn_m (Km_q (by decide) q2)) (Kn_w h), Dd_w d1 h⟩
theorem en_l (L : Lv g t g0 s T n b e km) (D : DS g v) (z5 : tA s 187 328 = nI nc) : ∃ t' s', F_X4_readLine_b165 70 (Em g t) = some ((), Em g t', 0, 0) ∧ F_X12_ends 183 (Em g0 s) = some ((), Em g0 s') ∧ Kv v t t' ∧ Kn s s' ∧ ((∃ b' e' km', Lv g t' g0 s' T n b' e' km' ∧ e ≤ b' ∧ km = 30 ∧ tI t' v 1 = tI t v 1 + 1 ∧ (∀ b k, v ≤ b → ¬ (b = v ∧ k = 1) → tI t' b k = tI t b k) ∧ (∀ b, v ≤ b → tA t' b = tA t b) ∧ tA s' 187 = upd (tA s 187) 0 (tA s 187 0 + 1)) ∨ (∃ f p, b ≤ p ∧ Nc t' T n f p ∧ Nm s' T n f p nc)) := by
  have X := L.1.1
  have X0 := L.1.2
  have hv := D.2.1
  have hb := l_b L
  obtain ⟨t1, s1, e1, e2, q1, q2, r⟩ := l_pass L z5 (a := 4) (i := 2) rfl (by decide) (by decide) (by decide)
  have e2' : pasM (nI 30) (Em g0 s) = some ((), Em g0 s1) := e2
  have w1 : Fdw v t1 (wi t1 v 1 (tI t1 v 1 + 1)) := Fdw_i (Nat.le_refl _)
  have w2 : Fs s1 (wa s1 187 0 (tA s1 187 0 + 1)) := Fs_a
  refine ⟨_, _, en_c X D e1, en_m X0 e2', Kv_t (Kv_c (Kc_q (by decide) q1)) (Kv_w w1), Kn_t (Kn_m (Km_q (by decide) q2)) (Kn_w w2), ?_⟩
  rcases r with ⟨b', e', km', r1, L1, r2⟩ | ⟨f, p, r1, N1, N2⟩
  · refine Or.inl ⟨b', e', km', Lv_w L1 hv w1 w2, r2, r1, ?_, fun b k hb h => ?_, fun b _ => by rw [tA_wi, q1.2.1], ?_⟩
    · rw [tI_is, q1.1 v 1 (fun e => absurd e (by omega))]
    · by_cases c : b = v
      · subst c
        rw [tI_ik (fun e => h ⟨rfl, e⟩), q1.1 b k (fun e => absurd e (by omega))]
      · rw [tI_ia c, q1.1 b k (fun e => absurd e (by omega))]
    · rw [tA_as, q2.2.1]
  · exact Or.inr ⟨f, p, r1, Nc_w N1 hv w1, Nm_w N2 w2 (by rw [tA_as, upd_n (by omega)])⟩
end XEn
