/-! ===== one more operand, and loops of operands ===== -/
/-- loops of the class, loops of the reference -/
def LpC (l : Nat) (T : Nat → Int32) (n : Nat) (g g0 : Sk) (jn : Nat → Option Nat) (Fc : xH → Option (Unit × xH)) (C : Nat → Nat → xH → Option (Unit × xH)) : Prop :=
  (∀ (fuel i : Nat) (t s : Tb) (b e km : Nat), Lv g t g0 s T n b e km → jn km = none → C (fuel + 1) i (Em g t) = some ((), Em g t)) ∧ (∀ (fuel i : Nat) (t s : Tb) (b e km o : Nat) (t1 t2 t' : Tb), Lv g t g0 s T n b e km → i < n → jn km = some o → F_X4_advance 70 (Em g t) = some ((), Em g t1) → Fc (Em g t1) = some ((), Em g t2) → F_X4_emit 70 (nI (ccn l (3000 + o))) (Em g t2) = some ((), Em g t') → C (fuel + 1) i (Em g t) = C fuel (i + 1) (Em g t')) ∧ (∀ (fuel i : Nat) (t : Tb) (f p : Nat), Nc t T n f p → C (fuel + 1) i (Em g t) = some ((), Em g t))
def LpM (T : Nat → Int32) (n : Nat) (g g0 : Sk) (jn : Nat → Option Nat) (Fm : xH → Option (Unit × xH)) (M : Nat → xH → Option (Unit × xH)) : Prop :=
  (∀ (fuel : Nat) (t s : Tb) (b e km : Nat), Lv g t g0 s T n b e km → jn km = none → M (fuel + 1) (Em g0 s) = some ((), Em g0 s)) ∧ (∀ (fuel : Nat) (t s : Tb) (b e km o : Nat) (s1 s2 s' : Tb), Lv g t g0 s T n b e km → jn km = some o → F_X12_next 183 (Em g0 s) = some ((), Em g0 s1) → Fm (Em g0 s1) = some ((), Em g0 s2) → F_X12_codes 183 (nI (3000 + o)) (Em g0 s2) = some ((), Em g0 s') → M (fuel + 1) (Em g0 s) = M fuel (Em g0 s')) ∧ (∀ (fuel : Nat) (s : Tb) (f p q : Nat), Nm s T n f p q → M (fuel + 1) (Em g0 s) = some ((), Em g0 s))
section XLp
variable {g g0 : Sk} {t t' t'' s s' s'' : Tb} {T : Nat → Int32} {n b e km f p q nc cl fr l hh hd : Nat} {ty : Bool} {Fc Fm : xH → Option (Unit × xH)} {C : Nat → Nat → xH → Option (Unit × xH)} {M : Nat → xH → Option (Unit × xH)} {jn : Nat → Option Nat}
theorem cdf_cg {f f' : Nat → Int32} (c k : Nat) (h : ∀ j, j < c → f (k + j) = f' (k + j)) : cdf f k c = cdf f' k c := cdf_c c k h
theorem n_codes2 (X : Fx g0) (N : Nm s T n f p q) (hq : p ≤ n → q < 900) (x : Int32) : ∃ s', F_X12_codes 183 x (Em g0 s) = some ((), Em g0 s') ∧ Km s s' ∧ Nm s' T n f p (q + 1) := by
  rcases N with N | N
  · obtain ⟨s', e1, k1, n1⟩ := n_codes X (q := 0) (Or.inl N : Nm s T n f p 0) (by decide) x
    refine ⟨s, ?_, Km_r, Or.inl N⟩
    unfold F_X12_codes
    rw [x_i183_11 X, Option.bind_some, N.2.2.1, if_neg (show ¬ nI f = (0 : Int32) from f_nz N.2.1)]
  · exact n_codes X (Or.inr N) (hq N.2.2.2.2.2.1) x
theorem l_rnd (L : Lv g t g0 s T n b e km) (D : CD l t s cl nc fr) (hnc : nc ≤ b) (hbe : b < e) (Sub : Ex l fr T n g g0 Fc Fm ty hh) (SN : ENc T n g Fc) (SM : ENm T n g0 Fm) (o : Nat) (ho : o < 9) : ∃ t1 t2 t' s1 s2 s', F_X4_advance 70 (Em g t) = some ((), Em g t1) ∧ Fc (Em g t1) = some ((), Em g t2) ∧ F_X4_emit 70 (nI (ccn l (3000 + o))) (Em g t2) = some ((), Em g t') ∧ F_X12_next 183 (Em g0 s) = some ((), Em g0 s1) ∧ Fm (Em g0 s1) = some ((), Em g0 s2) ∧ F_X12_codes 183 (nI (3000 + o)) (Em g0 s2) = some ((), Em g0 s') ∧ Kc t t' ∧ Km s s' ∧ ((∃ b' e' km' cl' nc' B, Lv g t' g0 s' T n b' e' km' ∧ CD l t' s' cl' nc' fr ∧ b < b' ∧ nc ≤ nc' ∧ nc' + b ≤ nc + b' ∧ (∀ k, k < nc → tA s' 187 (329 + k) = tA s 187 (329 + k)) ∧ sgt l B ty hh ∧ cdf (tA s' 187) (329 + nc) (nc' - nc) = B ++ [nI (3000 + o)]) ∨ (∃ f p, b ≤ p ∧ Nc t' T n f p ∧ Cl t' (cl + (p - b) + slk ty) ∧ Nm s' T n f p (nc + (p - b)))) := by
  have hb := l_b L
  have X := L.1.1
  have X0 := L.1.2
  obtain ⟨t1, s1, e1, e2, q1, q2, r⟩ := l_adv L D.1.2.1
  have K1 : Kc t t1 := Kc_q (by decide) q1
  have K2 : Km s s1 := Km_q (by decide) q2
  rcases r with ⟨b1, ee1, km1, L1, g1⟩ | ⟨p, g1, N1, N2⟩
  · have D1 := CD_q D q1 q2 (by decide) (by decide) (by decide)
    obtain ⟨t2, s2, e3, e4, K3, K4, r⟩ := Sub t1 s1 b1 ee1 km1 cl nc L1 D1 (by omega)
    rcases r with ⟨b2, ee2, km2, cl2, nc2, L2, D2, h1, h2, h3, h4, h5⟩ | ⟨f, p, h1, N1, C1, N2⟩
    · have hb2 := l_b L2
      obtain ⟨t3, s3, e5, e6, K5, K6, L3, D3, h6, h7⟩ := l_code L2 D2 (by omega) (3000 + o) (by omega) _ rfl
      refine ⟨t1, t2, t3, s1, s2, s3, e1, e3, e5, e2, e4, e6, Kc_t K1 (Kc_t K3 K5), Km_t K2 (Km_t K4 K6), Or.inl ⟨b2, ee2, km2, cl2 + 1, nc2 + 1, _, L3, D3, by omega, by omega, by omega, fun k hk => by rw [h6 k (by omega), h4 k hk, q2.2.1], h5, ?_⟩⟩
      rw [show nc2 + 1 - nc = (nc2 - nc) + 1 by omega, cdf_app, cdf_1, show 329 + nc + (nc2 - nc) = 329 + nc2 by omega, h7]
      rw [cdf_cg (f := tA s3 187) (f' := tA s2 187) (nc2 - nc) (329 + nc) (fun j hj => by
        have := h6 (nc + j) (by omega)
        rw [show 329 + nc + j = 329 + (nc + j) by omega]
        exact this)]
    · obtain ⟨t3, e5, K5, N3, C3⟩ := n_emit X N1 C1 (nI (ccn l (3000 + o)))
      obtain ⟨s3, e6, K6, N4⟩ := n_codes2 X0 N2 (fun _ => by omega) (nI (3000 + o))
      exact ⟨t1, t2, t3, s1, s2, s3, e1, e3, e5, e2, e4, e6, Kc_t K1 (Kc_t K3 K5), Km_t K2 (Km_t K4 K6), Or.inr ⟨f, p, by omega, N3, Cl_m C3 (by omega), Nm_q N4 (by omega)⟩⟩
  · obtain ⟨s2, e4, K4, N3⟩ := SM s1 1 p nc N2
    have e3 := SN t1 1 p N1
    obtain ⟨t3, e5, K5, N5, C3⟩ := n_emit X N1 (Cl_q (CD_Cl D) q1 (by decide)) (nI (ccn l (3000 + o)))
    obtain ⟨s3, e6, K6, N6⟩ := n_codes2 (q := 0) X0 (Or.inl N3) (fun _ => by decide) (nI (3000 + o))
    refine ⟨t1, t1, t3, s1, s2, s3, e1, e3, e5, e2, e4, e6, Kc_t K1 K5, Km_t K2 (Km_t K4 K6), Or.inr ⟨1, p, by omega, N5, Cl_m C3 (by omega), Nm_q N6 (by omega)⟩⟩
/-- the loop -/
theorem l_loop (LC : LpC l T n g g0 jn Fc C) (LM : LpM T n g g0 jn Fm M) (Sub : Ex l fr T n g g0 Fc Fm ty hh) (SN : ENc T n g Fc) (SM : ENm T n g0 Fm) (J : ∀ k o, jn k = some o → k ≠ 24 ∧ o < 9 ∧ o ≠ 6 ∧ tin o = ty ∧ tou o = ty) (hhd : hh + 1 ≤ hd) (n0 : Nat) : ∀ (k fuel fuel' i : Nat) (t s : Tb) (b e km cl nc : Nat), n - b ≤ k → k < fuel → k < fuel' → i ≤ b → Lv g t g0 s T n b e km → CD l t s cl nc fr → nc ≤ b → n0 ≤ nc → sgt l (cdf (tA s 187) (329 + n0) (nc - n0)) ty hd → ∃ t' s', C fuel i (Em g t) = some ((), Em g t') ∧ M fuel' (Em g0 s) = some ((), Em g0 s') ∧ Kc t t' ∧ Km s s' ∧ ((∃ b' e' km' cl' nc', Lv g t' g0 s' T n b' e' km' ∧ CD l t' s' cl' nc' fr ∧ b ≤ b' ∧ nc ≤ nc' ∧ nc' + b ≤ nc + b' ∧ (∀ k, k < n0 → tA s' 187 (329 + k) = tA s 187 (329 + k)) ∧ sgt l (cdf (tA s' 187) (329 + n0) (nc' - n0)) ty hd) ∨ (∃ f p, b ≤ p ∧ Nc t' T n f p ∧ Cl t' (cl + (p - b) + slk ty) ∧ Nm s' T n f p (nc + (p - b)))) := by
  intro k
  induction k with
  | zero =>
    intro fuel fuel' i t s b e km cl nc hk hf hf' hi L D hnc h0 hs
    obtain ⟨fu, rfl⟩ : ∃ z, fuel = z + 1 := ⟨fuel - 1, by omega⟩
    obtain ⟨fu', rfl⟩ : ∃ z, fuel' = z + 1 := ⟨fuel' - 1, by omega⟩
    have hb := l_b L
    have hj : jn km = none := by
      cases hj : jn km with
      | none => rfl
      | some o => have := (J km o hj).1; omega
    exact ⟨t, s, LC.1 fu i t s b e km L hj, LM.1 fu' t s b e km L hj, Kc_r, Km_r, Or.inl ⟨b, e, km, cl, nc, L, D, Nat.le_refl _, Nat.le_refl _, Nat.le_refl _, fun _ _ => rfl, hs⟩⟩
  | succ k ih =>
    intro fuel fuel' i t s b e km cl nc hk hf hf' hi L D hnc h0 hs
    obtain ⟨fu, rfl⟩ : ∃ z, fuel = z + 1 := ⟨fuel - 1, by omega⟩
    obtain ⟨fu', rfl⟩ : ∃ z, fuel' = z + 1 := ⟨fuel' - 1, by omega⟩
    have hb := l_b L
    cases hj : jn km with
    | none => exact ⟨t, s, LC.1 fu i t s b e km L hj, LM.1 fu' t s b e km L hj, Kc_r, Km_r, Or.inl ⟨b, e, km, cl, nc, L, D, Nat.le_refl _, Nat.le_refl _, Nat.le_refl _, fun _ _ => rfl, hs⟩⟩
    | some o =>
      obtain ⟨j1, j2, j3, j4, j5⟩ := J km o hj
      obtain ⟨t1, t2, t3, s1, s2, s3, a1, a2, a3, c1, c2, c3, K1, K2, r⟩ := l_rnd L D hnc (by omega) Sub SN SM o j2
      rw [LC.2.1 fu i t s b e km o t1 t2 t3 L (by omega) hj a1 a2 a3, LM.2.1 fu' t s b e km o s1 s2 s3 L hj c1 c2 c3]
      rcases r with ⟨b2, ee2, km2, cl2, nc2, B, L2, D2, h1, h2, h3, h4, h5, h6⟩ | ⟨f, p, h1, N1, C1, N2⟩
      · have hs2 : sgt l (cdf (tA s3 187) (329 + n0) (nc2 - n0)) ty hd := by
          rw [show nc2 - n0 = (nc - n0) + (nc2 - nc) by omega, cdf_app, show 329 + n0 + (nc - n0) = 329 + nc by omega, h6, cdf_cg (f := tA s3 187) (f' := tA s 187) (nc - n0) (329 + n0) (fun j hj => by
            have := h4 (n0 + j) (by omega)
            rw [show 329 + n0 + j = 329 + (n0 + j) by omega]
            exact this), ← j5]
          exact sgt_b j2 j3 (by rw [j4]; exact hs) (by rw [j4]; exact h5) hhd
        have hd1 := D.1.2.2.1
        have hd2 := D2.1.2.2.1
        obtain ⟨t4, s4, d1, d2, K3, K4, r⟩ := ih fu fu' (i + 1) t3 s3 b2 ee2 km2 cl2 nc2 (by omega) (by omega) (by omega) (by omega) L2 D2 (by omega) (by omega) hs2
        refine ⟨t4, s4, d1, d2, Kc_t K1 K3, Km_t K2 K4, ?_⟩
        rcases r with ⟨b3, ee3, km3, cl3, nc3, L3, D3, g1, g2, g3, g4, g5⟩ | ⟨f, p, g1, N1, C1, N2⟩
        · exact Or.inl ⟨b3, ee3, km3, cl3, nc3, L3, D3, by omega, by omega, by omega, fun k hk => by rw [g4 k hk, h4 k (by omega)], g5⟩
        · exact Or.inr ⟨f, p, by omega, N1, Cl_m C1 (by omega), Nm_q N2 (by omega)⟩
      · obtain ⟨fv, rfl⟩ : ∃ z, fu = z + 1 := ⟨fu - 1, by omega⟩
        obtain ⟨fv', rfl⟩ : ∃ z, fu' = z + 1 := ⟨fu' - 1, by omega⟩
        exact ⟨t3, s3, LC.2.2 fv (i + 1) t3 f p N1, LM.2.2 fv' s3 f p _ N2, K1, K2, Or.inr ⟨f, p, h1, N1, C1, N2⟩⟩
theorem Ex_lp (LC : LpC l T n g g0 jn Fc C) (LM : LpM T n g g0 jn Fm M) (Sub : Ex l fr T n g g0 Fc Fm ty hh) (SN : ENc T n g Fc) (SM : ENm T n g0 Fm) (J : ∀ k o, jn k = some o → k ≠ 24 ∧ o < 9 ∧ o ≠ 6 ∧ tin o = ty ∧ tou o = ty) (hhd : hh + 1 ≤ hd) {Fc' Fm' : xH → Option (Unit × xH)} (H1 : ∀ t t1, Fc (Em g t) = some ((), Em g t1) → Fc' (Em g t) = C FU 0 (Em g t1)) (H2 : ∀ s s1, Fm (Em g0 s) = some ((), Em g0 s1) → Fm' (Em g0 s) = M FU (Em g0 s1)) : Ex l fr T n g g0 Fc' Fm' ty hd := fun t s b e km cl nc L D hnc => by
  have hb := l_b L
  obtain ⟨t1, s1, e1, e2, K1, K2, r⟩ := Sub t s b e km cl nc L D hnc
  rw [H1 t t1 e1, H2 s s1 e2]
  rcases r with ⟨b2, ee2, km2, cl2, nc2, L2, D2, h1, h2, h3, h4, h5⟩ | ⟨f, p, h1, N1, C1, N2⟩
  · have hd1 := D.1.2.2.1
    have hd2 := D2.1.2.2.1
    obtain ⟨t2, s2, d1, d2, K3, K4, r⟩ := l_loop LC LM Sub SN SM J hhd nc n FU FU 0 t1 s1 b2 ee2 km2 cl2 nc2 (by omega) (show n < 1000000 by omega) (show n < 1000000 by omega) (by omega) L2 D2 (by omega) h2 (sgt_m (by omega) h5)
    refine ⟨t2, s2, d1, d2, Kc_t K1 K3, Km_t K2 K4, ?_⟩
    rcases r with ⟨b3, ee3, km3, cl3, nc3, L3, D3, g1, g2, g3, g4, g5⟩ | ⟨f, p, g1, N1, C1, N2⟩
    · exact Or.inl ⟨b3, ee3, km3, cl3, nc3, L3, D3, by omega, by omega, by omega, fun k hk => by rw [g4 k hk, h4 k hk], g5⟩
    · exact Or.inr ⟨f, p, by omega, N1, Cl_m C1 (by omega), Nm_q N2 (by omega)⟩
  · exact ⟨t1, s1, LC.2.2 999999 0 t1 f p N1, LM.2.2 999999 s1 f p _ N2, K1, K2, Or.inr ⟨f, p, h1, N1, C1, N2⟩⟩
end XLp
