/-! ===== calls: numbers, write ===== -/
def OkL (fc fr : xH → Option (Int64 × xH)) (g : Sk) (t : Tb) (D : Nat) : Prop := ∃ r g1 t1 g2 t2 v a n nx, fc (Em g t) = some (r, Em g1 t1) ∧ fr (Em g1 t1) = some (r, Em g2 t2) ∧ g1.1 = g.1 ∧ g2.1 = g.1 ∧ gn g1 = gn g ∧ gn g2 = gn g ∧ IV g2 t2 v a (D + 100) n nx
def Pt (b : Nat) : Bool := decide ((167 ≤ b ∧ b ≤ 174) ∨ (202 ≤ b ∧ b ≤ 204))
/-- one long row alone may have changed -/
def Jx (c : Nat) (t t' : Tb) : Prop := (∀ a k, tI t' a k = tI t a k) ∧ (∀ b, tA t' b = tA t b) ∧ (∀ b, b ≠ c → tJ t' b = tJ t b)
/-- a number as a tray of that sort keeps it -/
def cutf (s : Nat) (x : Int64) : Int64 := if s = 0 then x.toInt32.toInt8.toInt32.toInt64 else if s = 1 then x.toInt32.toInt16.toInt32.toInt64 else if s = 2 then x.toInt32.toInt64 else x
section XN
variable {g : Sk} {t : Tb} {a : Nat → Int32}
variable {D v x n nx : Nat} {b c : Nat → Int32} {t' t'' t1 t2 : Tb}
theorem Jx_r {c : Nat} : Jx c t t := ⟨fun _ _ => rfl, fun _ => rfl, fun _ _ => rfl⟩
theorem Jx_t {c : Nat} (h : Jx c t t') (h2 : Jx c t' t'') : Jx c t t'' := ⟨fun a k => (h2.1 a k).trans (h.1 a k), fun b => (h2.2.1 b).trans (h.2.1 b), fun b q => (h2.2.2 b q).trans (h.2.2 b q)⟩
theorem Jx_wj {c k : Nat} {z : Int64} (h : Jx c t t') : Jx c t (wj t' c k z) := ⟨h.1, h.2.1, fun b q => (tJ_jn q).trans (h.2.2 b q)⟩
theorem Sw_j {c : Nat} {P : Nat → Bool} (h : Jx c t t') (hc : P c = true) : Sw P g t t' := ⟨fun a k _ _ => h.1 a k, fun b _ _ => h.2.1 b, fun b p _ => h.2.2 b (by
  rintro rfl
  rw [hc] at p
  exact absurd p (by decide))⟩
theorem Pt_f {b : Nat} (h : ¬ ((167 ≤ b ∧ b ≤ 174) ∨ (202 ≤ b ∧ b ≤ 204))) : Pt b = false := by
  unfold Pt
  rw [decide_eq_false_iff_not]
  exact h
theorem IV_tr (I : IV g t v a D n nx) (s : Sw Pt g t t') (T : Tr t') : IV g t' v a D n nx := by
  obtain ⟨X, ha, C, H, _, M, R⟩ := I
  exact ⟨X, by rw [s.2.1 184 (Pt_f (by omega)) (sc_x X rfl)]; exact ha, CP_w X (fun b hb => Pt_f (by omega)) C s, HP_w X (fun b _ _ => Pt_f (by omega)) H s, T, Im_w X (fun b hb => Pt_f (by omega)) (Nat.le_refl D) C.1.2.2 (fun _ _ => rfl) M s, Rd_w X (fun b hb => Pt_f (by omega)) R s⟩
theorem k_fill_l {c : Nat} (h21 : gS g c = 21) (h40 : gN g c = 40) (h69 : 69 ≤ c) : ∀ (d k fuel : Nat) (t : Tb), k + d = 40 → d < fuel → ∃ t', F_J7_fill_d0a16_b6 fuel c 0 (nI k) (nI 40) (Em g t) = some ((), Em g t') ∧ Jx c t t' ∧ (∀ j, k ≤ j → j < 40 → tJ t' c j = 0) ∧ (∀ j, j < k → tJ t' c j = tJ t c j) := by
  intro d
  induction d with
  | zero =>
    intro k fuel t hk hf
    obtain ⟨f, rfl⟩ : ∃ f, fuel = f + 1 := ⟨fuel - 1, by omega⟩
    have hk : k = 40 := by omega
    subst hk
    refine ⟨t, ?_, Jx_r, fun j h1 h2 => absurd h1 (by omega), fun _ _ => rfl⟩
    rw [F_J7_fill_d0a16_b6]
    simp (disch := omega) only [Option.bind_some, ↓reduceIte, ite_not, fa_lit, nI_add, nI_mulN, nI_an, nI_sub, irm_n, nI_eq, nI_leI, nI_ltI, v_pow, v_shr, v_bit, nI_cl, nI_m1e, Nat.le_refl]
  | succ d ih =>
    intro k fuel t hk hf
    obtain ⟨f, rfl⟩ : ∃ f, fuel = f + 1 := ⟨fuel - 1, by omega⟩
    have hk2 : ¬ 40 ≤ k := by omega
    have hs : sJ (Em g t) c (nI k) 0 = some (Em g (wj t c k 0)) := y_sJ h21 h40 h69 (by decide) (by omega)
    obtain ⟨t2, e2, j2, z2, z3⟩ := ih (k + 1) f (wj t c k 0) (by omega) (by omega)
    have hkeep : tJ t2 c k = 0 := by rw [z3 k (by omega), tJ_js, pk_uLs]
    refine ⟨t2, ?_, Jx_t (Jx_wj Jx_r) j2, fun j h1 h2 => ?_, fun j hj => by rw [z3 j (by omega), tJ_js, pk_uLn (by omega)]⟩
    · rw [F_J7_fill_d0a16_b6]
      simp (disch := omega) only [Option.bind_some, ↓reduceIte, ite_not, fa_lit, nI_leI, hk2]
      rw [hs, Option.bind_some, nI_add]
      exact e2
    · by_cases e : j = k
      · rw [e]; exact hkeep
      · exact z2 j (by omega) h2
theorem r_nums_l (X : Fx g) {i m : Nat} (hi : i < 4) (hm : m ≤ 40) : ∀ (d k fuel : Nat) (t : Tb), k + d = m → d < fuel → ∃ t', F_X12_numbers_b64 fuel 183 (nI i) (nI m) (nI k) (Em g t) = some (nI 0, Em g t') ∧ Jx 204 t t' ∧ (∀ j, k ≤ j → j < m → tJ t' 204 (40 * i + j) = 0) ∧ (∀ q, q < 40 * i + k ∨ 40 * i + m ≤ q → tJ t' 204 q = tJ t 204 q) := by
  intro d
  induction d with
  | zero =>
    intro k fuel t hk hf
    obtain ⟨f, rfl⟩ : ∃ f, fuel = f + 1 := ⟨fuel - 1, by omega⟩
    have hk : k = m := by omega
    subst hk
    refine ⟨t, ?_, Jx_r, fun j h1 h2 => absurd h1 (by omega), fun _ _ => rfl⟩
    rw [F_X12_numbers_b64]
    simp (disch := omega) only [Option.bind_some, ↓reduceIte, ite_not, fa_lit, nI_add, nI_mulN, nI_an, nI_sub, irm_n, nI_eq, nI_leI, nI_ltI, v_pow, v_shr, v_bit, nI_cl, nI_m1e, Nat.le_refl]
  | succ d ih =>
    intro k fuel t hk hf
    obtain ⟨f, rfl⟩ : ∃ f, fuel = f + 1 := ⟨fuel - 1, by omega⟩
    have hk2 : ¬ m ≤ k := by omega
    obtain ⟨t2, e2, j2, z2, z3⟩ := ih (k + 1) f (wj t 204 (40 * i + k) 0) (by omega) (by omega)
    refine ⟨t2, ?_, Jx_t (Jx_wj Jx_r) j2, fun j h1 h2 => ?_, fun q hq => by rw [z3 q (by omega), tJ_js, pk_uLn (by omega)]⟩
    · rw [F_X12_numbers_b64]
      simp (disch := omega) only [x_rc183 X, x_i183_0 X, x_w183_0 X, x_r183_1 X, x_r183_2 X, x_r183_3 X, x_r183_4 X, x_i183_5 X, x_w183_5 X, x_i183_6 X, x_w183_6 X, x_i183_7 X, x_w183_7 X, x_i183_8 X, x_w183_8 X, x_i183_9 X, x_w183_9 X, x_i183_10 X, x_w183_10 X, x_i183_11 X, x_w183_11 X, x_i183_12 X, x_w183_12 X, x_i183_13 X, x_w183_13 X, x_i183_14 X, x_w183_14 X, x_i183_15 X, x_w183_15 X, x_r183_16 X, x_r183_17 X, x_r183_18 X, x_i183_19 X, x_w183_19 X, x_i183_20 X, x_w183_20 X, x_r183_21 X, x_r183_22 X, x_r183_23 X, x_r183_24 X, x_r183_25 X, x_i183_26 X, x_w183_26 X, x_r183_27 X, x_r183_28 X, x_r183_29 X, x_i183_30 X, x_w183_30 X, x_r183_31 X, x_r183_32 X, x_r183_33 X, x_r183_34 X, x_r183_35 X, x_r183_36 X, x_a184 X, x_s184 X, x_a185 X, x_s185 X, x_a186 X, x_s186 X, x_a187 X, x_s187 X, x_a188 X, x_s188 X, x_a189 X, x_s189 X, x_a190 X, x_s190 X, x_a191 X, x_s191 X, x_a192 X, x_s192 X, x_a193 X, x_s193 X, x_a194 X, x_s194 X, x_a195 X, x_s195 X, x_a196 X, x_s196 X, x_a197 X, x_s197 X, x_a198 X, x_s198 X, x_a199 X, x_s199 X, x_a200 X, x_s200 X, x_a201 X, x_s201 X, x_a202 X, x_s202 X, x_a203 X, x_s203 X, x_a204 X, x_s204 X, Option.bind_some, ↓reduceIte, ite_not, fa_lit, nI_add, nI_mulN, nI_an, nI_sub, irm_n, nI_eq, nI_leI, nI_ltI, v_pow, v_shr, v_bit, nI_cl, nI_m1e, hk2]
      exact e2
    · by_cases e : j = k
      · rw [e, z3 _ (by omega), tJ_js, pk_uLs]
      · exact z2 j (by omega) h2
theorem within_40 (x : Int32) (h : xH) : F_X12_within x.toInt64 0 40 h = some (bI (okx x 41), h) := by
  rw [p_within, i64]
  unfold okx
  have e0 : (0 : Int64).toInt = 0 := rfl
  have e9 : (40 : Int64).toInt = 40 := rfl
  rw [e0, e9, show decide (0 ≤ x.toInt ∧ x.toInt ≤ 40) = decide (0 ≤ x.toInt ∧ x.toInt < (41 : Nat)) by
    rw [decide_eq_decide]
    omega]
theorem lt_n {m : Nat} (x : Int32) (hm : m ≤ 1000) : okx x m = false → x < nI 0 ∨ (¬ x < nI 0 ∧ ¬ x < nI m) := by
  intro h
  unfold okx at h
  rw [decide_eq_false_iff_not] at h
  have e0 : (nI 0).toInt = 0 := rfl
  have e2 : (nI m).toInt = m := nI_toInt (by omega)
  rw [fa_lt, fa_lt]
  omega
theorem ok_numbers (I : IV g t v a D n nx) (hD : D + 100 < 2 ^ 30) (x y z : Int32) : Okc (F_X11_numbers 69 x y z) (F_X12_numbers 183 x y z) g t D := by
  have X := I.1
  have hw0 : ∀ t, wI (Em g t) 183 11 0 0 = some (Em g (wi t 183 0 (nI 0))) := fun t => x_w183_0 X
  have bf : ¬ ¬ bI false = (0 : Int32) := by decide
  have bt : ¬ bI true = (0 : Int32) := by decide
  have bf2 : bI false = (0 : Int32) := by decide
  rcases okx_c x 4 (by decide) with hx | ⟨hx, i, hi, rfl⟩
  · refine ok_0 (r := -nI 2) (t1 := t) (t2 := wi t 183 0 (nI 0)) I hD ?_ ?_ Sm_r (Sm_wi (a := 183) (k := 0) rfl Sm_r)
    · unfold F_X11_numbers
      rw [x_rc69 X, Option.bind_some, k_trayAt X, Option.bind_some, hx]
      rfl
    · unfold F_X12_numbers
      rw [hw0, Option.bind_some, within_3, Option.bind_some, hx, if_pos bf2]
      rfl
  rcases okx_c y 4 (by decide) with hy | ⟨hy, s, hs, rfl⟩
  · refine ok_0 (r := -nI 2) (t1 := t) (t2 := wi t 183 0 (nI 0)) I hD ?_ ?_ Sm_r (Sm_wi (a := 183) (k := 0) rfl Sm_r)
    · unfold F_X11_numbers
      rw [x_rc69 X, Option.bind_some, k_trayAt X, Option.bind_some, hx]
      rcases lt_n y (by decide) hy with c | ⟨c1, c2⟩
      · simp only [if_true, fa_lit, c]
      · simp only [if_true, fa_lit, c1, c2, if_false]
    · unfold F_X12_numbers
      rw [hw0, Option.bind_some, within_3, Option.bind_some, hx, if_neg bt, within_3, Option.bind_some, hy, if_neg bf]
      rfl
  have s0 : ¬ s < 0 := by omega
  rcases okx_c z 41 (by decide) with hz | ⟨hz, m, hm, rfl⟩
  · refine ok_0 (r := -nI 3) (t1 := t) (t2 := wi t 183 0 (nI 0)) I hD ?_ ?_ Sm_r (Sm_wi (a := 183) (k := 0) rfl Sm_r)
    · unfold F_X11_numbers
      rw [x_rc69 X, Option.bind_some, k_trayAt X, Option.bind_some, hx]
      have c2' : ¬ z < nI 0 → ¬ z ≤ nI 40 := by
        intro c
        unfold okx at hz
        rw [decide_eq_false_iff_not] at hz
        have e0 : (nI 0).toInt = 0 := rfl
        have e2 : (nI 40).toInt = 40 := rfl
        rw [fa_lt] at c
        rw [fa_le]
        omega
      by_cases c : z < nI 0
      · simp (disch := omega) only [if_true, fa_lit, nI_ltI, s0, hs, c, if_false]
      · simp (disch := omega) only [if_true, fa_lit, nI_ltI, s0, hs, c, c2' c, if_false]
    · unfold F_X12_numbers
      rw [hw0, Option.bind_some, within_3, Option.bind_some, hx, if_neg bt, within_3, Option.bind_some, hy, if_pos bt, within_40, Option.bind_some, hz, if_neg bf]
      rfl
  have m0 : ¬ m < 0 := by omega
  have m40 : m ≤ 40 := by omega
  have Y := TyS_x X hi
  obtain ⟨t1, e1, j1, z1, _⟩ := k_fill_l Y.2.2.2.1 Y.2.2.2.2 (by omega) 40 0 FU t rfl (by decide)
  have hal : al (Em g t) (167 + 2 * i + 1) = some (nI 40) := by
    have h := E_al (sc := g.1) (n := gn g) (S := gS g) (N := gN g) (I := tI t) (A := tA t) (J := tJ t) (R := gR g) (Q := gQ g) (a := 167 + 2 * i + 1) (by omega) (by rw [Y.2.2.2.1]; decide)
    rw [Y.2.2.2.2] at h
    exact h
  have e1' : F_J7_fill_d0a16 (167 + 2 * i + 1) 0 (Em g t) = some ((), Em g t1) := by
    unfold F_J7_fill_d0a16
    rw [hal, Option.bind_some]
    exact e1
  have y1 : ∀ t z, wI (Em g t) (167 + 2 * i) 7 1 z = some (Em g (wi t (167 + 2 * i) 1 z)) := fun t z => y_wI Y.2.1 (by omega) (by decide) rfl
  have y2 : ∀ t z, wI (Em g t) (167 + 2 * i) 7 2 z = some (Em g (wi t (167 + 2 * i) 2 z)) := fun t z => y_wI Y.2.1 (by omega) (by decide) rfl
  have y3 : ∀ t, fR (Em g t) (167 + 2 * i) 7 0 = some (167 + 2 * i + 1) := fun t => y_fR Y.2.1 Y.2.2.1 (by omega) (by decide) rfl
  have y4 : ∀ t, rc (Em g t) (167 + 2 * i) 7 = some () := fun t => y_rc Y.2.1 (by omega) (by decide)
  obtain ⟨t3, e3, j3, z3, z4⟩ := r_nums_l X hi m40 m 0 FU (wa (wa (wi (wi (wi t1 (167 + 2 * i) 2 (nI s)) (167 + 2 * i) 1 (nI m)) 183 0 (nI 0)) 202 i (nI s)) 203 i (nI m)) (by omega) (by show m < 1000000; omega)
  have s2 : Sw Pt g t t3 := by
    have hpt : ∀ b, (167 ≤ b ∧ b ≤ 174) ∨ (202 ≤ b ∧ b ≤ 204) → Pt b = true := fun b h => by unfold Pt; rw [decide_eq_true_eq]; exact h
    refine Sw_t ?_ (Sw_j j3 rfl)
    rw [wa_wr, wa_wr]
    exact Sw_wr (Sw_wr (Sw_wi (Sw_wi (Sw_wi (Sw_j j1 (hpt _ (by omega))) (Or.inl (hpt _ (by omega)))) (Or.inl (hpt _ (by omega)))) (Or.inr rfl)) (Or.inl rfl)) (Or.inl rfl)
  have T3 : Tr t3 := by
    intro j hj
    have i1 : ∀ k, tI t3 (167 + 2 * j) k = tI (wi (wi t1 (167 + 2 * i) 2 (nI s)) (167 + 2 * i) 1 (nI m)) (167 + 2 * j) k := fun k => by
      rw [j3.1, tI_wa, tI_wa, tI_ia (by omega)]
    have a2 : tA t3 202 j = if j = i then nI s else tA t 202 j := by
      rw [j3.2.1, tA_an (by decide), tA_as, tA_wi, tA_wi, tA_wi, j1.2.1]
      by_cases e : j = i
      · rw [if_pos e, e, upd_s]
      · rw [if_neg e, upd_n e]
    have a3 : tA t3 203 j = if j = i then nI m else tA t 203 j := by
      rw [j3.2.1, tA_as, tA_an (by decide), tA_wi, tA_wi, tA_wi, j1.2.1]
      by_cases e : j = i
      · rw [if_pos e, e, upd_s]
      · rw [if_neg e, upd_n e]
    have a4 : tJ t3 (168 + 2 * j) = tJ t1 (168 + 2 * j) := j3.2.2 _ (by omega)
    rw [a2, a3, i1, i1, a4]
    by_cases e : j = i
    · subst e
      rw [if_pos rfl, if_pos rfl, tI_is, tI_ik (by decide), tI_is]
      refine Or.inr ⟨s, m, hs, m40, ⟨rfl, rfl⟩, ⟨rfl, rfl⟩, fun k hk => ?_⟩
      rw [z3 k (by omega) hk, show 168 + 2 * j = 167 + 2 * j + 1 by omega, z1 k (by omega) (by omega)]
    · rw [if_neg e, if_neg e, tI_ia (by omega), tI_ia (by omega), tI_ia (by omega), tI_ia (by omega), j1.1, j1.1, j1.2.2 _ (by omega)]
      rcases I.2.2.2.2.1 j hj with q | ⟨s', m', q1, q2, q3, q4, q5⟩
      · exact Or.inl q
      · refine Or.inr ⟨s', m', q1, q2, q3, q4, fun k hk => ?_⟩
        rw [z4 _ (by omega)]
        show tJ t1 204 (40 * j + k) = _
        rw [j1.2.2 204 (by omega)]
        exact q5 k hk
  refine ⟨nI 0, g, wi (wi t1 (167 + 2 * i) 2 (nI s)) (167 + 2 * i) 1 (nI m), g, t3, v, a, n, nx, ?_, ?_, rfl, rfl, rfl, rfl, IV_m (by omega) hD (IV_tr I s2 T3)⟩
  · unfold F_X11_numbers F_X8_layOut
    rw [x_rc69 X, Option.bind_some, k_trayAt X, Option.bind_some, hx, tn_n (by omega)]
    simp (disch := omega) only [if_true, if_false, fa_lit, nI_ltI, nI_leI, s0, hs, m0, m40, y4, y3, Option.bind_some, e1', y1, y2]
  · unfold F_X12_numbers
    rw [hw0, Option.bind_some, within_3, Option.bind_some, hx, if_neg bt, within_3, Option.bind_some, hy, if_pos bt, within_40, Option.bind_some, hz, if_pos bt, x_r183_34 X, Option.bind_some, x_s202 X hi, Option.bind_some, x_r183_35 X, Option.bind_some, x_s203 X hi, Option.bind_some]
    exact e3
end XN
