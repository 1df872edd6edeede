/-! ===== valley: both answer alike ===== -/
theorem so_r {α : Type} {H H' : xH} (f : xH → Option α) (hE : H = H') {x y : α} (h1 : f H = some x) (h2 : f H' = some y) : x = y := by
  rw [hE, h2] at h1
  injection h1 with h
  exact h.symm
def cut (g : Sk) (t t' : Tb) : Tb := (fun b k => if b < gn g then tI t' b k else tI t b k, fun b => if b < gn g then tA t' b else tA t b, fun b => if b < gn g then tJ t' b else tJ t b)
section XVa
variable {g g' g'' : Sk} {t t' t'' : Tb} {a b : Nat → Int32} {v D n nx : Nat} {P : Nat → Bool}
theorem cut_s (h : Swb P g t t') : Sw P g t (cut g t t') := by
  refine ⟨fun b k hp hs => ?_, fun b hp hs => ?_, fun b hp hs => ?_⟩
  · show (if b < gn g then tI t' b k else tI t b k) = _
    by_cases c : b < gn g
    · rw [if_pos c]; exact h.1 b k c hp hs
    · rw [if_neg c]
  · show (if b < gn g then tA t' b else tA t b) = _
    by_cases c : b < gn g
    · rw [if_pos c]; exact h.2.1 b c hp hs
    · rw [if_neg c]
  · show (if b < gn g then tJ t' b else tJ t b) = _
    by_cases c : b < gn g
    · rw [if_pos c]; exact h.2.2 b c hp hs
    · rw [if_neg c]
theorem cut_l : Lo g (cut g t t') t' := fun b hb => ⟨fun k => by
    show _ = (if b < gn g then tI t' b k else tI t b k)
    rw [if_pos hb], by
    show _ = (if b < gn g then tA t' b else tA t b)
    rw [if_pos hb], by
    show _ = (if b < gn g then tJ t' b else tJ t b)
    rw [if_pos hb]⟩
theorem tr_V (hE : Em g t = Em g' t') (V : VaS g v) (V' : VaS g' v) (p : VaP g t v a) (p' : VaP g' t' v b) (W : WA b D) : VaP g t v b := by
  have e0 := so_r (fun h => fI h v 9 0) hE (v_i0 V) (v_i0 V')
  have e1 := so_r (fun h => fI h v 9 1) hE (v_i1 V) (v_i1 V')
  have e2 := so_r (fun h => fI h v 9 2) hE (v_i2 V) (v_i2 V')
  have e3 := so_r (fun h => fI h v 9 3) hE (v_i3 V) (v_i3 V')
  have e4 := so_r (fun h => fI h v 9 4) hE (v_i4 V) (v_i4 V')
  have a1 : ∀ k, k < 54 → tA t (v + 1) k = tA t' (v + 1) k := fun k hk => so_r (fun h => aI h (v + 1) (nI k)) hE (v_a1 V hk) (v_a1 V' hk)
  have a2 : ∀ k, k < 6 → tA t (v + 2) k = tA t' (v + 2) k := fun k hk => so_r (fun h => aI h (v + 2) (nI k)) hE (v_a2 V hk) (v_a2 V' hk)
  have a3 : ∀ k, k < 24 → tA t (v + 3) k = tA t' (v + 3) k := fun k hk => so_r (fun h => aI h (v + 3) (nI k)) hE (v_a3 V hk) (v_a3 V' hk)
  have a4 : ∀ k, k < 6 → tA t (v + 4) k = tA t' (v + 4) k := fun k hk => so_r (fun h => aI h (v + 4) (nI k)) hE (v_a4 V hk) (v_a4 V' hk)
  have a5 : ∀ k, k < 6 → tA t (v + 5) k = tA t' (v + 5) k := fun k hk => so_r (fun h => aI h (v + 5) (nI k)) hE (v_a5 V hk) (v_a5 V' hk)
  have a6 : ∀ k, k < 10 → tA t (v + 6) k = tA t' (v + 6) k := fun k hk => so_r (fun h => aI h (v + 6) (nI k)) hE (v_a6 V hk) (v_a6 V' hk)
  have eR : gR g v 12 = gR g' v 12 := so_r (fun h => fQ h v 9 12) hE (y_fQ (Or.inr V.2.1) rfl (v_69 V) (by decide) rfl) (y_fQ (Or.inr V'.2.1) rfl (v_69 V') (by decide) rfl)
  have hT := W.1.1.2.1.2
  have hK := W.1.1.2.2.1.2
  have hN := W.1.1.1.2.2
  obtain ⟨⟨q0, q1, q2, q3, q4⟩, r1, r2, r3, r4⟩ := p'
  refine ⟨⟨e0.trans q0, e1.trans q1, e2.trans q2, e3.trans q3, e4.trans q4⟩, fun u hu => ⟨(a2 u (by omega)).trans (r1 u hu).1, fun i hi => ?_⟩, fun k hk => ⟨(a4 k (by omega)).trans (r2 k hk).1, (a5 k (by omega)).trans (r2 k hk).2.1, fun i hi => ?_⟩, fun i hi => (a6 i (by omega)).trans (r3 i hi), ?_⟩
  · have h9 := (W.1.2.1 u hu).1.2.2
    exact (a1 _ (by omega)).trans ((r1 u hu).2 i hi)
  · have h4 := (W.1.2.2.1 k hk).1.2.2
    exact (a3 _ (by omega)).trans ((r2 k hk).2.2 i hi)
  · rw [eR]
    rcases r4 with r4 | ⟨r4, w, hw, hL⟩
    · exact Or.inl r4
    · refine Or.inr ⟨r4, w, hw, ?_⟩
      rcases p.2.2.2.2 with ⟨_, z⟩ | ⟨_, w2, hw2, hL2⟩
      · rw [eR, hw] at z
        exact absurd z (by simp)
      · rw [eR, hw] at hw2
        injection hw2 with hw2
        subst hw2
        have el : nI (vMa a 0) = nI (vMa b 0) := so_r (fun h => al h (w + 1)) hE (l_al hL2.1) (l_al hL.1)
        have l1 := hL2.1.1.2.1
        have l2 := hL.1.1.2.1
        rw [nI_eq (by omega) (by omega)] at el
        have L3 := hL2.1
        rw [el] at L3
        exact ⟨L3, fun k hk => (so_r (fun h => aI h (w + 1) (nI k)) hE (l_a1 L3 hk) (l_a1 hL.1 hk)).trans (hL.2 k hk)⟩
theorem tr_S {x P o : Nat} {f : Nat → Int32} (hE : Em g t = Em g' t') (Z : StS g x) (Z' : StS g' x) (hP : P ≤ 6) (S : StP t' x P f o) : StP t x P f o := by
  refine ⟨⟨(so_r (fun h => fI h x 5 3) hE (z_i3 Z) (z_i3 Z')).trans S.1.1, (so_r (fun h => fI h x 5 4) hE (z_i4 Z) (z_i4 Z')).trans S.1.2⟩, fun p hp => ⟨?_, ?_, ?_⟩⟩
  · exact (so_r (fun h => aI h (x + 1) (nI p)) hE (z_a1 Z (by omega)) (z_a1 Z' (by omega))).trans (S.2 p hp).1
  · exact (so_r (fun h => aI h (x + 2) (nI p)) hE (z_a2 Z (by omega)) (z_a2 Z' (by omega))).trans (S.2 p hp).2.1
  · exact (so_r (fun h => aI h (x + 3) (nI p)) hE (z_a3 Z (by omega)) (z_a3 Z' (by omega))).trans (S.2 p hp).2.2
theorem Im_69 {q : Nat} (I : Im g t a D) : Im (g69 g q) t a D := by
  have G : Gq g (g69 g q) := Gq_69
  intro i hi
  rcases I i hi with h | ⟨h, v, h1, h2, h3, h4, h5⟩
  · exact Or.inl h
  · exact Or.inr ⟨h, v, h1, VaS_q G h2, h3, VaP_G G h2 h4, h5⟩
def PqD (b : Nat) : Bool := decide (b = 70 ∨ b = 183)
def PqL (b : Nat) : Bool := decide (b = 70 ∨ b = 183 ∨ b = 184 ∨ (95 ≤ b ∧ b ≤ 98) ∨ b = 103)
theorem sc_187 : scA g 187 = true := by
  unfold scA
  rw [show scF 187 = true from rfl, Bool.or_true]
theorem IV_dead {s' : Tb} (I : IV g t v a D n nx) (hD : D + 100 < 2 ^ 30) (X' : Fx g') (G : Gx g g') (F : Swb (fun b => decide (b = 70)) g t t') (hi : ∀ b k, b ≠ 183 → tI s' b k = tI t' b k) (ha : ∀ b, b ≠ 187 → tA s' b = tA t' b) (hj : tJ s' = tJ t') (z1 : tI t' 70 1 = nI 0) (z2 : tI s' 183 5 = nI 0) (z3 : tI t' 70 11 = tI s' 183 13) (z4 : tI t' 70 12 = tI s' 183 14) : IV g' s' v a (D + 100) n nx := by
  obtain ⟨X, h184, C, H, T, M, R⟩ := I
  have h205 := x_205 X
  have F2 : Swb PqD g t s' := by
    refine ⟨fun b k hb hp hs => ?_, fun b hb hp hs => ?_, fun b hb hp hs => ?_⟩
    · unfold PqD at hp
      rw [decide_eq_false_iff_not] at hp
      rw [hi b k (by omega)]
      exact F.1 b k hb (by rw [decide_eq_false_iff_not]; omega) hs
    · unfold PqD at hp
      rw [decide_eq_false_iff_not] at hp
      rw [ha b (fun e => by rw [e, sc_187] at hs; exact absurd hs (by decide))]
      exact F.2.1 b hb (by rw [decide_eq_false_iff_not]; omega) hs
    · unfold PqD at hp
      rw [decide_eq_false_iff_not] at hp
      rw [hj]
      exact F.2.2 b hb (by rw [decide_eq_false_iff_not]; omega) hs
  have s2 := cut_s F2
  have pf : ∀ b, b ≠ 70 → b ≠ 183 → PqD b = false := fun b h1 h2 => by unfold PqD; rw [decide_eq_false_iff_not]; omega
  have row : ∀ b, b < gn g → b ≠ 70 → b ≠ 183 → scA g b = false → tA s' b = tA t b := fun b hb h1 h2 hs => F2.2.1 b hb (pf b h1 h2) hs
  refine ⟨X', ?_, CP_m (by omega) hD (CP_x X G cut_l (CP_w X (fun b hb => pf b (by omega) (by omega)) C s2)), HP_m (by omega) (HP_x X cut_l (HP_w X (fun b h1 h2 => pf b (by omega) (by omega)) H s2)), Tr_x X cut_l (Tr_w X (fun b hb => pf b (by omega) (by omega)) T s2), Im_m (by omega) hD (Im_x X G cut_l (Im_w X (fun b hb => pf b (by omega) (by omega)) (Nat.le_refl D) C.1.2.2 (fun _ _ => rfl) M s2)), ⟨⟨0, by omega, ?_, z2, fun k hk => absurd hk (by omega)⟩, ?_⟩, ?_, ?_⟩
  · rw [row 184 (by omega) (by decide) (by decide) (sc_x X rfl)]
    exact h184
  · rw [hi 70 1 (by decide)]; exact z1
  · rw [row 196 (by omega) (by decide) (by decide) (sc_x X rfl)]
    exact R.1.2
  · rw [hi 70 11 (by decide)]; exact z3
  · rw [hi 70 12 (by decide)]; exact z4
theorem IV_live {s' : Tb} {gm : Sk} (I : IV g t v a D n nx) (hD : D + 100 < 2 ^ 30) (G : Gx g gm) (Xm : Fx gm) (F : Swb P70 g t t') (hi : ∀ b k, b ≠ 183 → tI s' b k = tI t' b k) (ha : ∀ b, b ≠ 187 → b ≠ 184 → tA s' b = tA t' b) (hj : tJ s' = tJ t') (z1 : tI t' 70 1 = nI 0) (z2 : tI s' 183 5 = nI 0) (z3 : tI t' 70 11 = tI s' 183 13) (z4 : tI t' 70 12 = tI s' 183 14) (h1 : tI t' 103 1 = tI t 103 1) (h2 : tI t' 103 2 = nI 0) (V : VaS (g69 gm (gn g)) (gn g)) (W : WA b (D + 100)) (Pv : VaP (g69 gm (gn g)) t' (gn g) b) (S : StP t' 95 (vP b) b 107) (b127 : b 127 = nI 0) (h184 : tA s' 184 = fa_fill b (tA t' 184) 1229) : IV (g69 gm (gn g)) s' (gn g) (fa_fill b a 1229) (D + 100) 0 nx := by
  obtain ⟨X, ha184, C, H, T, M, R⟩ := I
  have h205 := x_205 X
  have X' : Fx (g69 gm (gn g)) := Fx_q Xm Gq_69
  have F2 : Swb PqL g t s' := by
    refine ⟨fun b k hb hp hs => ?_, fun b hb hp hs => ?_, fun b hb hp hs => ?_⟩
    · unfold PqL at hp
      rw [decide_eq_false_iff_not] at hp
      rw [hi b k (by omega)]
      exact F.1 b k hb (by unfold P70; rw [decide_eq_false_iff_not]; omega) hs
    · unfold PqL at hp
      rw [decide_eq_false_iff_not] at hp
      rw [ha b (fun e => by rw [e, sc_187] at hs; exact absurd hs (by decide)) (by omega)]
      exact F.2.1 b hb (by unfold P70; rw [decide_eq_false_iff_not]; omega) hs
    · unfold PqL at hp
      rw [decide_eq_false_iff_not] at hp
      rw [hj]
      exact F.2.2 b hb (by unfold P70; rw [decide_eq_false_iff_not]; omega) hs
  have s2 := cut_s F2
  have pf : ∀ b, b ≠ 70 → b ≠ 183 → b ≠ 184 → b < 95 ∨ 98 < b → b ≠ 103 → PqL b = false := fun b h1 h2 h3 h4 h5 => by unfold PqL; rw [decide_eq_false_iff_not]; omega
  have t184 : tA t' 184 = a := by
    rw [F.2.1 184 (by omega) (by decide) (sc_x X rfl)]
    exact ha184
  rw [t184] at h184
  have s3 : Sw (fun b => decide (b = 183 ∨ b = 184)) (g69 gm (gn g)) t' s' := by
    refine ⟨fun b k hp _ => ?_, fun b hp hs => ?_, fun b _ _ => by rw [hj]⟩
    · rw [decide_eq_false_iff_not] at hp
      exact hi b k (by omega)
    · rw [decide_eq_false_iff_not] at hp
      exact ha b (fun e => by rw [e, sc_187] at hs; exact absurd hs (by decide)) (by omega)
  have P2 : VaP (g69 gm (gn g)) s' (gn g) b := VaP_w V (fun b hb => by rw [decide_eq_false_iff_not]; omega) Pv s3
  have S2 : StP s' 95 (vP b) b 107 := StP_w rfl rfl (sc_x X' rfl) (sc_x X' rfl) (sc_x X' rfl) (fun b h1 h2 => by rw [decide_eq_false_iff_not]; omega) S s3
  have m := im_c (b := fa_fill b a 1229) (fun k hk => fa_fill_in hk) W P2 S2
  refine ⟨X', h184, ⟨m.1, V, m.2.1, ?_, m.2.2⟩, ⟨⟨by rw [fa_fill_in (by decide)]; exact b127, by omega, H.1.2.2⟩, ⟨?_, ?_⟩, fun j hj => absurd hj (by omega)⟩, Tr_x X cut_l (Tr_w X (fun b hb => pf b (by omega) (by omega) (by omega) (by omega) (by omega)) T s2), Im_69 (Im_x X G cut_l (Im_w X (fun b hb => pf b (by omega) (by omega) (by omega) (by omega) (by omega)) (show D ≤ D + 100 by omega) hD (fun i hi => fa_fill_out hi) M s2)), ⟨⟨0, by omega, ?_, z2, fun k hk => absurd hk (by omega)⟩, ?_⟩, ?_, ?_⟩
  · show up2 (gR gm) 69 1 (some (gn g)) 69 1 = some (gn g)
    exact up2_s
  · rw [hi 103 1 (by decide), h1]; exact H.2.1.1
  · rw [hi 103 2 (by decide)]; exact h2
  · rw [hi 70 1 (by decide)]; exact z1
  · rw [F2.2.1 196 (by omega) (pf _ (by decide) (by decide) (by decide) (by decide) (by decide)) (sc_x X rfl)]
    exact R.1.2
  · rw [hi 70 11 (by decide)]; exact z3
  · rw [hi 70 12 (by decide)]; exact z4
theorem ok_valley (I : IV g t v a D n nx) (hD : D + 100 < 2 ^ 30) (x : Int32) : Okv (F_X11_valley 69 x) (F_X12_valley 183 x) g t D := by
  have X := I.1
  have h205 := x_205 X
  obtain ⟨⟨⟨m, hm, c1, m5, hT⟩, _⟩, _, _⟩ := I.2.2.2.2.2.2
  rcases okx_c x (m + 1) (by omega) with hx | ⟨hx, k, hk, rfl⟩
  · have hx' : ¬ (0 ≤ x.toInt ∧ x.toInt < ((m + 1 : Nat) : Int)) := by
      unfold okx at hx
      exact of_decide_eq_false hx
    have hmi : (nI m).toInt = (m : Int) := by
      have h2 := nI_clamp (n := m) (by omega)
      have h3 : nI 0 ≤ nI m := (nI_leI (by decide) (by omega)).mpr (Nat.zero_le _)
      have h4 : (0 : Int) ≤ (nI m).toInt := (fa_le _ _).mp h3
      have h5 : (nI m).toNatClampNeg = (nI m).toInt.toNat := rfl
      omega
    refine okv_0 (r := -3) (t1 := t) (t2 := wi t 183 0 0) I hD ?_ ?_ Sm_r (Sm_wi (a := 183) (k := 0) rfl Sm_r)
    · unfold F_X11_valley
      by_cases c : x < 0
      · rw [if_pos c]
      · rw [if_neg c, x_r69_0 X, Option.bind_some, x_i70_1 X, Option.bind_some, c1, if_neg]
        intro h
        have h1 := (fa_le _ _).mp h
        have h2 : ¬ x.toInt < (0 : Int32).toInt := fun h => c ((fa_lt _ _).mpr h)
        have e0 : (0 : Int32).toInt = 0 := rfl
        omega
    · unfold F_X12_valley
      rw [x_w183_0 X, Option.bind_some, x_i183_5 X, Option.bind_some, tI_ik (by decide), m5, p_within, Option.bind_some, i64, i64]
      have e0 : (0 : Int64).toInt = 0 := rfl
      rw [e0, decide_eq_false (by omega), if_neg (show ¬ ¬ bI false = (0 : Int32) by decide)]
  · obtain ⟨rA, gA, tA', cA, slA, sA, eA1, _, hcA, XA, gA1, resA⟩ := vl_one (g := g) (g0 := g) (t := t) (s := t) (T := tA t 71) (D := D + 100) X X hm (show k ≤ m by omega) c1 (fun _ _ => rfl) m5 (fun j hj => (hT j (by omega)).symm) hD
    have fA : tI tA' 183 5 = nI m ∧ tA tA' 186 = tA t 186 := by
      rcases resA with ⟨f, p, G, F, _⟩ | ⟨a', _, F, _⟩
      · exact ⟨by rw [F.1 183 5 (by omega) rfl rfl]; exact m5, F.2.1 186 (by omega) rfl (sc_x X rfl)⟩
      · exact ⟨by rw [F.1 183 5 (by omega) rfl rfl]; exact m5, F.2.1 186 (by omega) rfl (sc_x X rfl)⟩
    obtain ⟨rB, gB, tB, cB, slB, sB, eB1, eB2, hcB, XB, gB1, resB⟩ := vl_one (g := g) (g0 := gA) (t := t) (s := tA') (T := tA t 71) (D := D + 100) X XA hm (show k ≤ m by omega) c1 (fun _ _ => rfl) fA.1 (fun j hj => by rw [fA.2]; exact (hT j (by omega)).symm) hD
    have eq : (rA, Em gA tA', cA, slA) = (rB, Em gB tB, cB, slB) := by
      rw [eA1] at eB1
      injection eB1
    injection eq with er eq
    injection eq with hE eq
    have t11 : tI tA' 70 11 = tI tB 70 11 := so_r (fun h => fI h 70 3 11) hE (x_i70_11 XA) (x_i70_11 XB)
    have t12 : tI tA' 70 12 = tI tB 70 12 := so_r (fun h => fI h 70 3 12) hE (x_i70_12 XA) (x_i70_12 XB)
    have fin : ∀ v' a' n' nx', IV gA sB v' a' (D + 100) n' nx' → Okv (F_X11_valley 69 (nI k)) (F_X12_valley 183 (nI k)) g t D := fun v' a' n' nx' J => ⟨rB, gA, tA', cA, slA, gA, sB, v', a', n', nx', by rw [eA1, er], eB2, gA1, gA1, hcA.1, hcA.2, J⟩
    rcases resA with ⟨f, p, GA, FA, ⟨i1, i2, i3⟩, hf, _⟩ | ⟨aA, ⟨gm, GA, Xm, hgA⟩, FA, ⟨i1, i2, i3⟩, ⟨j1, j2⟩, ⟨VA, _, PA, _, _⟩, _⟩
    · rcases resB with ⟨f', p', _, _, ⟨_, k2, k3⟩, _, q1, ⟨q2, q3, q4⟩, q5, q6⟩ | ⟨aB, _, _, ⟨_, k2, _⟩, _⟩
      · exact fin v a n nx (IV_dead I hD XA GA FA q1 q5 q6 i1 q2 (by rw [t11, k2, q3]) (by rw [t12, k3, q4]))
      · exact absurd (i2.symm.trans (t11.trans k2)) hf
    · rcases resB with ⟨f', p', _, _, ⟨_, k2, _⟩, hf, _⟩ | ⟨aB, _, _, ⟨_, k2, k3⟩, _, ⟨VB, WB', PB, SB, b127⟩, q1, ⟨q2, q3, q4⟩, q5, q6, q7⟩
      · exact absurd (k2.symm.trans (t11.symm.trans i2)) hf
      · have P1 := tr_V hE VA VB PA PB WB'
        have S1 := tr_S hE (StS_95 XA) (StS_95 XB) (wP2 WB') SB
        subst hgA
        exact fin _ _ 0 nx (IV_live I hD GA Xm FA q1 q5 q7 i1 q2 (by rw [i2, q3]) (by rw [i3, q4]) j1 j2 VA WB' P1 S1 b127 q6)
end XVa
