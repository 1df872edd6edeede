/-! ===== the scale line, both readers ===== -/
theorem pasQ {α : Type} {k : Int32} {h h' : xH} {R : xH → Option α} (e : pasM k h = some ((), h')) : ((F_X12_eats 183 k h).bind fun z => if ¬ z.1 = 0 then R z.2 else (rc z.2 183 11).bind fun _ => (F_X12_fails 183 2 z.2).bind fun z' => R z'.2) = R h' := by
  unfold pasM at e
  cases he : F_X12_eats 183 k h with
  | none => rw [he] at e; cases e
  | some z =>
    rw [he, Option.bind_some] at e
    rw [Option.bind_some]
    by_cases c : ¬ z.1 = 0
    · rw [if_pos c] at e ⊢
      injection e with e
      injection e with _ e
      rw [e]
    · rw [if_neg c] at e ⊢
      cases hr : rc z.2 183 11 with
      | none => rw [hr] at e; cases e
      | some q =>
        rw [hr, Option.bind_some] at e
        rw [Option.bind_some, e, Option.bind_some]
def scM (h : xH) : Option (Int32 × xH) := (F_X12_eats 183 0 h).bind fun z55 => if ¬ z55.1 = 0 then F_X12_valley_b66 183 z55.2 else (rc z55.2 183 11).bind fun _ => (F_X12_fails 183 2 z55.2).bind fun z63 => F_X12_valley_b66 183 z63.2
/-- the draft as made, against the plain one -/
def Dr0 (g : Sk) (t : Tb) (v : Nat) (a : Nat → Int32) : Prop := a 0 = nI 0 ∧ DrT t v a 2 0 ∧ DrK t v a 2 0 ∧ DrW t v a 0 ∧ DrP t v a 2 0 0 0 ∧ DrL g t v a 0
section XSc
variable {g g0 : Sk} {t t1 t' t0 s s1 s' s0 : Tb} {T : Nat → Int32} {n b e km f p q nc v e0 : Nat}
/-- the first token -/
theorem l_adv0 (X : Fx g) (X0 : Fx g0) (R : CR t T n) (M : MR s T n) (he0 : e0 ≤ n) (c6 : tI t 70 6 = nI e0) (c11 : tI t 70 11 = nI 0) (c12 : tI t 70 12 = -nI 1) (m7 : tI s 183 7 = nI e0) (m11 : tI s 183 11 = nI 0) (hnc : tA s 187 328 = nI nc) : ∃ t' s', F_X4_advance 70 (Em g t) = some ((), Em g t') ∧ F_X12_next 183 (Em g0 s) = some ((), Em g0 s') ∧ Qs 70 [5, 6, 7, 8, 11, 12] t t' ∧ Qs 183 [6, 7, 9, 10] s s' ∧ ((∃ b' e' km', Lv g t' g0 s' T n b' e' km' ∧ e0 ≤ b') ∨ (∃ p, e0 ≤ p ∧ Nc t' T n 1 p ∧ Nm s' T n 1 p nc)) := by
  rcases tok_c T (n := n) (e0 := e0) he0 with ⟨b', e', km', kc', vl', h⟩ | ⟨p, h⟩
  · obtain ⟨t', e1, q1, k5, k6, k7, k8⟩ := k_adv X R he0 c6 c11 h
    obtain ⟨s', e2, q2, r6, r7, r9, r10⟩ := r_next X0 M he0 m7 h
    have hb' := tk_b he0 h
    refine ⟨t', s', e1, e2, Qs_m (by decide) q1, q2, Or.inl ⟨b', e', km', ⟨⟨X, X0⟩, CR_q R q1 (by decide), MR_q M q2 (by decide), ⟨k5, k6, by rw [q1.1 70 11 (fun _ => by decide)]; exact c11⟩, ⟨r6, r7, r9, by rw [q2.1 183 11 (fun _ => by decide)]; exact m11⟩, e0, kc', vl', he0, h, k7, k8, r10, by rw [q1.1 70 12 (fun _ => by decide)]; exact c12⟩, hb'.1⟩⟩
  · obtain ⟨t', e', e1, q1, k5, k6, k7, k8, k9, k10⟩ := k_advb X R he0 c6 c11 h
    obtain ⟨s', e'', e2, q2, r6, r7, r8, r9⟩ := r_nextb X0 M he0 m7 h
    have hs := skp_le (T := T) he0
    have hp : p = skp T n e0 := h.1
    refine ⟨t', s', e1, e2, q1, q2, Or.inr ⟨p, by omega, ⟨CR_q R q1 (by decide), ⟨by decide, by decide⟩, k9, k10, p, e', ⟨k7, by omega⟩, k8, k5, k6⟩, Or.inr ⟨MR_q M q2 (by decide), by rw [q2.1 183 11 (fun _ => by decide)]; exact m11, rfl, r9, r6, by omega, nc, by rw [q2.2.1]; exact hnc, Nat.le_refl _⟩⟩⟩
theorem sc_c (X : Fx g) (D : DS g v) {t2 t3 : Tb} {zc : Int32} (e1 : F_X4_pass 70 2 (Em g t) = some ((), Em g t1)) (e2 : F_X4_passNumber 70 2 10 (Em g t1) = some (zc, Em g t2)) (e3 : F_X4_pass 70 4 (Em g (wi t2 v 0 (if zc = -1 then 2 else zc))) = some ((), Em g t3)) : F_X4_readScale 70 (Em g t) = some ((), Em g (wi t3 v 1 1)) := by
  unfold F_X4_readScale
  rw [x_rc70 X, Option.bind_some, e1, Option.bind_some, x_rc70 X, Option.bind_some, e2, Option.bind_some, d_70 X D, Option.bind_some]
  by_cases c : zc = -1
  · rw [if_neg (fun h => h c)]
    rw [if_pos c] at e3
    unfold F_X4_readScale_b28
    rw [v_w0 D.1, Option.bind_some, x_rc70 X, Option.bind_some, e3, Option.bind_some, d_70 X D, Option.bind_some, v_w1 D.1, Option.bind_some]
  · rw [if_pos c]
    rw [if_neg c] at e3
    unfold F_X4_readScale_b28
    rw [v_w0 D.1, Option.bind_some, x_rc70 X, Option.bind_some, e3, Option.bind_some, d_70 X D, Option.bind_some, v_w1 D.1, Option.bind_some]
theorem sc_m (X0 : Fx g0) {s2 s3 : Tb} {zm : Int32} (e1 : pasM (nI 0) (Em g0 s) = some ((), Em g0 s1)) (e2 : F_X12_takes 183 2 10 (Em g0 s1) = some (zm, Em g0 s2)) (e3 : F_X12_ends 183 (Em g0 (wa s2 187 1 zm)) = some ((), Em g0 s3)) : scM (Em g0 s) = F_X12_valley_b83 FU 183 (Em g0 s3) := by
  have hS : ∀ (s : Tb) (z : Int32), sI (Em g0 s) 187 1 z = some (Em g0 (wa s 187 1 z)) := fun s z => x_s187 X0 (k := 1) (by decide)
  unfold scM
  refine (pasQ (R := fun h => F_X12_valley_b66 183 h) e1).trans ?_
  show F_X12_valley_b66 183 (Em g0 s1) = _
  unfold F_X12_valley_b66
  rw [x_r183_4 X0, Option.bind_some, x_rc183 X0, Option.bind_some, e2, Option.bind_some, hS, Option.bind_some, x_rc183 X0, Option.bind_some, e3, Option.bind_some]
/-- the scale line -/
theorem sc_line (X : Fx g) (X0 : Fx g0) (D : DS g v) (A : Dr0 g t v (tA s 187)) (st : (∃ b e km, Lv g t g0 s T n b e km) ∨ (∃ p, Nc t T n 1 p ∧ Nm s T n 1 p 0)) : ∃ t' s', F_X4_readScale 70 (Em g t) = some ((), Em g t') ∧ scM (Em g0 s) = F_X12_valley_b83 FU 183 (Em g0 s') ∧ Kv v t t' ∧ Kn s s' ∧ ((∃ b' e' km', Lv g t' g0 s' T n b' e' km' ∧ 1 ≤ b' ∧ Dra g t' v (tA s' 187) 0) ∨ (∃ f p q, Nc t' T n f p ∧ Nm s' T n f p q)) := by
  have hv := D.2.1
  obtain ⟨a0, hT, hK, hW, hP, hL⟩ := A
  have z5 : tA s 187 328 = nI 0 := hL.1.1
  -- the word
  obtain ⟨t1, s1, e1, e2, q1, q2, r⟩ : ∃ t1 s1, F_X4_pass 70 2 (Em g t) = some ((), Em g t1) ∧ pasM (nI 0) (Em g0 s) = some ((), Em g0 s1) ∧ Qs 70 [5, 6, 7, 8, 11, 12] t t1 ∧ Qs 183 [6, 7, 9, 10, 11, 12] s s1 ∧ ((∃ b e km, Lv g t1 g0 s1 T n b e km) ∨ (∃ f p, Nc t1 T n f p ∧ Nm s1 T n f p 0)) := by
    rcases st with ⟨b, e, km, L⟩ | ⟨p, N1, N2⟩
    · obtain ⟨t1, s1, e1, e2, q1, q2, r⟩ := l_pass L z5 (a := 2) (i := 1) rfl (by decide) (by decide) (by decide)
      refine ⟨t1, s1, e1, e2, q1, q2, ?_⟩
      rcases r with ⟨b', e', km', _, L1, _⟩ | ⟨f, p, _, N1, N2⟩
      · exact Or.inl ⟨b', e', km', L1⟩
      · exact Or.inr ⟨f, p, N1, N2⟩
    · obtain ⟨s1, e2, q2, d2⟩ := n_passm X0 N2 (k := 0) (by decide) (by decide)
      exact ⟨t, s1, n_passc X N1 (a := 2) (i := 1) rfl (by decide), e2, Qs_r, Qs_m (by decide) q2, Or.inr ⟨1, p, N1, Or.inl d2⟩⟩
  have z5' : tA s1 187 328 = nI 0 := by rw [q2.2.1]; exact z5
  -- the number
  obtain ⟨t2, s2, zc, zm, e3, e4, q3, q4, r⟩ : ∃ t2 s2 zc zm, F_X4_passNumber 70 2 10 (Em g t1) = some (zc, Em g t2) ∧ F_X12_takes 183 2 10 (Em g0 s1) = some (zm, Em g0 s2) ∧ Qs 70 [5, 6, 7, 8, 11, 12] t t2 ∧ Qs 183 [6, 7, 9, 10, 11, 12] s s2 ∧ ((∃ b e km m, Lv g t2 g0 s2 T n b e km ∧ zc = nI m ∧ zm = nI m ∧ 2 ≤ m ∧ m ≤ 10 ∧ 1 ≤ b) ∨ (∃ f p, Nc t2 T n f p ∧ Nm s2 T n f p 0)) := by
    rcases r with ⟨b, e, km, L⟩ | ⟨f, p, N1, N2⟩
    · obtain ⟨t2, s2, zc, zm, e3, e4, q3, q4, r⟩ := l_take L z5' 2 10
      refine ⟨t2, s2, zc, zm, e3, e4, Qs_u q1 q3, Qs_u q2 q4, ?_⟩
      rcases r with ⟨b', e', km', m, _, r2, r3, r4, r5, r6, L1, r7⟩ | ⟨f, p, _, N1, N2⟩
      · have r5' : nI 2 ≤ nI m := r5
        have r6' : nI m ≤ nI 10 := r6
        rw [nI_leI (by decide) (by omega)] at r5'
        rw [nI_leI (by omega) (by decide)] at r6'
        exact Or.inl ⟨b', e', km', m, L1, r2, r3, r5', r6', by omega⟩
      · exact Or.inr ⟨f, p, N1, N2⟩
    · obtain ⟨s2, zm, e4, q4, d4⟩ := n_takem X0 N2 2 10
      exact ⟨t1, s2, -1, zm, n_takec X N1 _ _, e4, q1, Qs_u q2 (Qs_m (by decide) q4), Or.inr ⟨f, p, N1, Or.inl d4⟩⟩
  have w1 : Fdw v t2 (wi t2 v 0 (if zc = -1 then 2 else zc)) := Fdw_i (Nat.le_refl _)
  have w2 : Fs s2 (wa s2 187 1 zm) := Fs_a
  have K1 : Kv v t (wi t2 v 0 (if zc = -1 then 2 else zc)) := Kv_t (Kv_c (Kc_q (by decide) q3)) (Kv_w w1)
  have K2 : Kn s (wa s2 187 1 zm) := Kn_t (Kn_m (Km_q (by decide) q4)) (Kn_w w2)
  have m328 : tA (wa s2 187 1 zm) 187 328 = nI 0 := by rw [tA_as, upd_n (by decide), q4.2.1]; exact z5
  rcases r with ⟨b, e, km, m, L, rfl, rfl, m2, m10, hb⟩ | ⟨f, p, N1, N2⟩
  · have hne : ¬ nI m = (-1 : Int32) := show ¬ nI m = -nI 1 by
      intro h
      have h2 : nI 0 ≤ nI m := (nI_leI (by decide) (by omega)).mpr (by omega)
      rw [h] at h2
      exact absurd h2 (by decide)
    rw [if_neg hne] at w1 K1
    have L3 := Lv_w L hv w1 w2
    obtain ⟨t4, s4, e5, e6, q5, q6, r⟩ := l_pass L3 m328 (a := 4) (i := 2) rfl (by decide) (by decide) (by decide)
    have e6' : pasM (nI 30) (Em g0 (wa s2 187 1 (nI m))) = some ((), Em g0 s4) := e6
    have w3 : Fdw v t4 (wi t4 v 1 1) := Fdw_i (Nat.le_refl _)
    have w4 : Fs s4 (wa s4 187 0 (tA s4 187 0 + 1)) := Fs_a
    refine ⟨wi t4 v 1 1, wa s4 187 0 (tA s4 187 0 + 1), sc_c X D e1 e3 (by rw [if_neg hne]; exact e5), sc_m X0 e2 e4 (en_m X0 e6'), Kv_t K1 (Kv_t (Kv_c (Kc_q (by decide) q5)) (Kv_w w3)), Kn_t K2 (Kn_t (Kn_m (Km_q (by decide) q6)) (Kn_w w4)), ?_⟩
    rcases r with ⟨b', e', km', _, L4, hb4⟩ | ⟨f, p, _, N1, N2⟩
    · have hbe := l_b L3
      refine Or.inl ⟨b', e', km', Lv_w L4 hv w3 w4, by omega, ?_⟩
      have ti : ∀ b k, v ≤ b → ¬ (b = v ∧ k < 2) → tI (wi t4 v 1 1) b k = tI t b k := fun b k h1 h2 => by
        have s1 : tI (wi t4 v 1 1) b k = tI t4 b k := by
          by_cases c : b = v
          · subst c; exact tI_ik (by omega)
          · exact tI_ia c
        have s2 : tI (wi t2 v 0 (nI m)) b k = tI t2 b k := by
          by_cases c : b = v
          · subst c; exact tI_ik (by omega)
          · exact tI_ia c
        rw [s1, q5.1 b k (fun e => absurd e (by omega)), s2, q3.1 b k (fun e => absurd e (by omega))]
      have ta : ∀ b, tA (wi t4 v 1 1) b = tA t b := fun b => by
        rw [tA_wi, q5.2.1, tA_wi, q3.2.1]
      have aa : tA (wa s4 187 0 (tA s4 187 0 + 1)) 187 = upd (upd (tA s 187) 1 (nI m)) 0 (nI 1) := by
        rw [tA_as, q6.2.1, tA_as, q4.2.1, upd_n (show (0 : Nat) ≠ 1 by decide), a0]
        rfl
      rw [aa]
      have u : ∀ x, 2 ≤ x → upd (upd (tA s 187) 1 (nI m)) 0 (nI 1) x = tA s 187 x := fun x hx => by rw [upd_n (by omega), upd_n (by omega)]
      have i0 : tI (wi t4 v 1 1) v 0 = nI m := by rw [tI_ik (by decide), q5.1 v 0 (fun e => absurd e (by omega)), tI_is]
      have hT' := DrT_c hT (ti _ 2 (Nat.le_refl _) (by omega)) (ta _) (ta _) (u 2 (by omega)) (fun x _ _ => u x (by omega))
      have hK' := DrK_c hK (ti _ 3 (Nat.le_refl _) (by omega)) (ta _) (ta _) (u 3 (by omega)) (fun x _ _ => u x (by omega)) (fun x _ _ => u x (by omega))
      have hP' := DrP_c hP (ti _ 4 (Nat.le_refl _) (by omega)) (fun k => ti _ _ (by omega) (by omega)) (ta _) (ta _) (ta _) (u 4 (by omega)) (fun x _ _ => u x (by omega))
      refine ⟨m, 0, 0, 0, 0, ⟨i0, by rw [upd_n (by decide), upd_s], m2, m10⟩, by rw [tI_is, upd_s]; rfl, ⟨hT'.1, fun u hu => absurd hu (by omega)⟩, ⟨hK'.1, fun u hu => absurd hu (by omega)⟩, DrW_c hW (ta _) (fun x _ _ => u x (by omega)), ⟨hP'.1, hP'.2.1, hP'.2.2.1, fun p hp => absurd hp (by omega), hP'.2.2.2.2⟩, DrL_c hL (fun b _ => ta b) (fun x _ _ => u x (by omega)) (fun x _ => u x (by omega))⟩
    · exact Or.inr ⟨f, p, _, Nc_w N1 hv w3, Nm_w N2 w4 (by rw [tA_as, upd_n (by omega)])⟩
  · have N1' := Nc_w N1 hv w1
    have N2' : Nm (wa s2 187 1 zm) T n f p 0 := Nm_w N2 w2 (by rw [tA_as, upd_n (by decide)])
    obtain ⟨s4, e6, K4, d4⟩ := en_nm X0 N2'
    have w3 : Fdw v (wi t2 v 0 (if zc = -1 then 2 else zc)) (wi (wi t2 v 0 (if zc = -1 then 2 else zc)) v 1 1) := Fdw_i (Nat.le_refl _)
    exact ⟨_, s4, sc_c X D e1 e3 (n_passc X N1' (a := 4) (i := 2) rfl (by decide)), sc_m X0 e2 e4 e6, Kv_t K1 (Kv_w w3), Kn_t K2 K4, Or.inr ⟨f, p, 0, Nc_w N1' hv w3, Or.inl d4⟩⟩
end XSc
