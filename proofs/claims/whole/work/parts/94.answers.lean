/-! ===== answers told in a tray; blanks, attempt ===== -/
def aok (f : Nat → Int64) (N : Nat) : Nat → Nat → Bool
  | 0, _ => true
  | d + 1, k => decide (0 ≤ (f k).toInt ∧ (f k).toInt < ((2 * N : Nat) : Int)) && aok f N d (k + 1)
theorem aok_i {f : Nat → Int64} {N : Nat} : ∀ (d k : Nat), aok f N d k = true ↔ ∀ j, k ≤ j → j < k + d → 0 ≤ (f j).toInt ∧ (f j).toInt < ((2 * N : Nat) : Int)
  | 0, k => ⟨fun _ j h1 h2 => absurd h1 (by omega), fun _ => rfl⟩
  | d + 1, k => by
    rw [aok, Bool.and_eq_true, decide_eq_true_eq, aok_i d (k + 1)]
    constructor
    · rintro ⟨h1, h2⟩ j h3 h4
      by_cases e : j = k
      · rw [e]; exact h1
      · exact h2 j (by omega) (by omega)
    · intro h
      exact ⟨h k (by omega) (by omega), fun j h1 h2 => h j (by omega) (by omega)⟩
def noA (okt okp : Bool) (em : Bool) (m : Nat) (al : Bool) : Int32 := if okt then (if okp then (if em then -nI 6 else if 1 ≤ m ∧ m ≤ 20 then (if al then nI 0 else -nI 3) else -nI 4) else -nI 2) else -nI 2
section XAn
variable {g : Sk} {t : Tb} {a : Nat → Int32}
variable {D v x nx p : Nat} {t' t'' t1 t2 : Tb}
theorem k_below_l {T m N : Nat} (Y : TyS g T) (hm : m ≤ 40) (hN : N ≤ 10) (f : Nat → Int64) (h1 : tI t T 1 = nI m) (hf0 : ∀ j, j < m → tJ t (T + 1) j = f j) : ∀ (d k fuel : Nat), k + d = m → d < fuel → F_X8_allFrom0Below_b2 fuel T (nI (2 * N)) (nI k) (Em g t) = some (bI (aok f N d k), Em g t) := by
  have y1 : fI (Em g t) T 7 1 = some (tI t T 1) := y_fI Y.2.1 Y.1 (by decide) rfl
  have y2 : fR (Em g t) T 7 0 = some (T + 1) := y_fR Y.2.1 Y.2.2.1 Y.1 (by decide) rfl
  intro d
  induction d with
  | zero =>
    intro k fuel hk hf
    obtain ⟨f2, rfl⟩ : ∃ f, fuel = f + 1 := ⟨fuel - 1, by omega⟩
    have hk : k = m := by omega
    subst hk
    rw [F_X8_allFrom0Below_b2, y1, Option.bind_some, h1, if_pos (by rw [nI_leI (by omega) (by omega)]; exact Nat.le_refl k)]
    rfl
  | succ d ih =>
    intro k fuel hk hf
    obtain ⟨f2, rfl⟩ : ∃ f, fuel = f + 1 := ⟨fuel - 1, by omega⟩
    have y3 : aJ (Em g t) (T + 1) (nI k) = some (f k) := by
      rw [← hf0 k (by omega)]
      exact y_aJ Y.2.2.2.1 Y.2.2.2.2 (by have := Y.1; omega) (by decide) (by omega)
    have e0 : (0 : Int64).toInt = 0 := rfl
    have e2 : ((nI (2 * N)).toInt64).toInt = ((2 * N : Nat) : Int) := by rw [i64, nI_toInt (by omega)]
    rw [F_X8_allFrom0Below_b2, y1, Option.bind_some, h1, if_neg (by rw [nI_leI (by omega) (by omega)]; omega), y2, Option.bind_some, y3, Option.bind_some, aok]
    by_cases c1 : (f k).toInt < 0
    · have c1' : lg_cmp (f k) 0 < 0 := by rw [lg_cmp_lt, Int64.lt_iff_toInt_lt, e0]; exact c1
      rw [if_pos c1', decide_eq_false (by omega), Bool.false_and]
      rfl
    · have c1' : ¬ lg_cmp (f k) 0 < 0 := by rw [lg_cmp_lt, Int64.lt_iff_toInt_lt, e0]; exact c1
      rw [if_neg c1', Option.bind_some, y3, Option.bind_some]
      by_cases c2 : (f k).toInt < ((2 * N : Nat) : Int)
      · have c2' : lg_cmp (f k) (nI (2 * N)).toInt64 < 0 := by rw [lg_cmp_lt, Int64.lt_iff_toInt_lt, e2]; exact c2
        rw [if_pos c2', decide_eq_true (by omega), Bool.true_and, show nI k + 1 = nI (k + 1) from nI_add k 1, ih (k + 1) f2 (by omega) (by omega)]
      · have c2' : ¬ lg_cmp (f k) (nI (2 * N)).toInt64 < 0 := by rw [lg_cmp_lt, Int64.lt_iff_toInt_lt, e2]; exact c2
        rw [if_neg c2', decide_eq_false (by omega), Bool.false_and]
        rfl
theorem r_noAn_l (X : Fx g) (W : WA a D) (ha : tA t 184 = a) {i m : Nat} (hi : i < 4) (hm : m ≤ 40) (f : Nat → Int64) (h1 : tA t 203 i = nI m) (hf0 : ∀ j, j < m → tJ t 204 (40 * i + j) = f j) : ∀ (d k fuel : Nat), k + d = m → d < fuel → F_X12_noAnswers_b59 fuel 183 (nI i) (nI k) (Em g t) = some (if aok f (vN a) d k then nI 0 else -nI 3, Em g t) := by
  have hN := wN3 W
  have hN2 := wN2 W
  intro d
  induction d with
  | zero =>
    intro k fuel hk hf
    obtain ⟨f2, rfl⟩ : ∃ f, fuel = f + 1 := ⟨fuel - 1, by omega⟩
    have hk : k = m := by omega
    subst hk
    rw [F_X12_noAnswers_b59]
    simp (disch := omega) only [x_rc183 X, x_i183_0 X, x_w183_0 X, x_r183_1 X, x_r183_2 X, x_r183_3 X, x_r183_4 X, x_i183_5 X, x_w183_5 X, x_i183_6 X, x_w183_6 X, x_i183_7 X, x_w183_7 X, x_i183_8 X, x_w183_8 X, x_i183_9 X, x_w183_9 X, x_i183_10 X, x_w183_10 X, x_i183_11 X, x_w183_11 X, x_i183_12 X, x_w183_12 X, x_i183_13 X, x_w183_13 X, x_i183_14 X, x_w183_14 X, x_i183_15 X, x_w183_15 X, x_r183_16 X, x_r183_17 X, x_r183_18 X, x_i183_19 X, x_w183_19 X, x_i183_20 X, x_w183_20 X, x_r183_21 X, x_r183_22 X, x_r183_23 X, x_r183_24 X, x_r183_25 X, x_i183_26 X, x_w183_26 X, x_r183_27 X, x_r183_28 X, x_r183_29 X, x_i183_30 X, x_w183_30 X, x_r183_31 X, x_r183_32 X, x_r183_33 X, x_r183_34 X, x_r183_35 X, x_r183_36 X, x_a184 X, x_s184 X, x_a185 X, x_s185 X, x_a186 X, x_s186 X, x_a187 X, x_s187 X, x_a188 X, x_s188 X, x_a189 X, x_s189 X, x_a190 X, x_s190 X, x_a191 X, x_s191 X, x_a192 X, x_s192 X, x_a193 X, x_s193 X, x_a194 X, x_s194 X, x_a195 X, x_s195 X, x_a196 X, x_s196 X, x_a197 X, x_s197 X, x_a198 X, x_s198 X, x_a199 X, x_s199 X, x_a200 X, x_s200 X, x_a201 X, x_s201 X, x_a202 X, x_s202 X, x_a203 X, x_s203 X, x_a204 X, x_s204 X, Option.bind_some, ↓reduceIte, ite_not, fa_lit, nI_add, nI_mulN, nI_an, nI_sub, irm_n, nI_eq, nI_leI, nI_ltI, v_pow, v_shr, v_bit, nI_cl, nI_m1e, h1, Nat.le_refl]
    rfl
  | succ d ih =>
    intro k fuel hk hf
    obtain ⟨f2, rfl⟩ : ∃ f, fuel = f + 1 := ⟨fuel - 1, by omega⟩
    have hk2 : ¬ m ≤ k := by omega
    have hw : ∀ h : xH, F_X12_within (f k) 0 ((nI (2 * vN a - 1)).toInt64) h = some (bI (decide (0 ≤ (f k).toInt ∧ (f k).toInt < ((2 * vN a : Nat) : Int))), h) := by
      intro h
      have e0 : (0 : Int64).toInt = 0 := rfl
      rw [p_within, i64, nI_toInt (by omega), e0, show decide (0 ≤ (f k).toInt ∧ (f k).toInt ≤ ((2 * vN a - 1 : Nat) : Int)) = decide (0 ≤ (f k).toInt ∧ (f k).toInt < ((2 * vN a : Nat) : Int)) by
        rw [decide_eq_decide]
        omega]
    have hw0 := hw (Em g t)
    simp only [fa_litL] at hw0
    rw [F_X12_noAnswers_b59, aok]
    cases hc : decide (0 ≤ (f k).toInt ∧ (f k).toInt < ((2 * vN a : Nat) : Int))
    · rw [hc] at hw0
      simp (disch := omega) only [x_rc183 X, x_i183_0 X, x_w183_0 X, x_r183_1 X, x_r183_2 X, x_r183_3 X, x_r183_4 X, x_i183_5 X, x_w183_5 X, x_i183_6 X, x_w183_6 X, x_i183_7 X, x_w183_7 X, x_i183_8 X, x_w183_8 X, x_i183_9 X, x_w183_9 X, x_i183_10 X, x_w183_10 X, x_i183_11 X, x_w183_11 X, x_i183_12 X, x_w183_12 X, x_i183_13 X, x_w183_13 X, x_i183_14 X, x_w183_14 X, x_i183_15 X, x_w183_15 X, x_r183_16 X, x_r183_17 X, x_r183_18 X, x_i183_19 X, x_w183_19 X, x_i183_20 X, x_w183_20 X, x_r183_21 X, x_r183_22 X, x_r183_23 X, x_r183_24 X, x_r183_25 X, x_i183_26 X, x_w183_26 X, x_r183_27 X, x_r183_28 X, x_r183_29 X, x_i183_30 X, x_w183_30 X, x_r183_31 X, x_r183_32 X, x_r183_33 X, x_r183_34 X, x_r183_35 X, x_r183_36 X, x_a184 X, x_s184 X, x_a185 X, x_s185 X, x_a186 X, x_s186 X, x_a187 X, x_s187 X, x_a188 X, x_s188 X, x_a189 X, x_s189 X, x_a190 X, x_s190 X, x_a191 X, x_s191 X, x_a192 X, x_s192 X, x_a193 X, x_s193 X, x_a194 X, x_s194 X, x_a195 X, x_s195 X, x_a196 X, x_s196 X, x_a197 X, x_s197 X, x_a198 X, x_s198 X, x_a199 X, x_s199 X, x_a200 X, x_s200 X, x_a201 X, x_s201 X, x_a202 X, x_s202 X, x_a203 X, x_s203 X, x_a204 X, x_s204 X, Option.bind_some, ↓reduceIte, ite_not, fa_lit, nI_add, nI_mulN, nI_an, nI_sub, irm_n, nI_eq, nI_leI, nI_ltI, v_pow, v_shr, v_bit, nI_cl, nI_m1e, fa_litL, h1, hk2, hf0 k (by omega), ha, wN W, hw0, bI_z, Bool.false_and, Bool.false_eq_true]
    · rw [hc] at hw0
      simp (disch := omega) only [x_rc183 X, x_i183_0 X, x_w183_0 X, x_r183_1 X, x_r183_2 X, x_r183_3 X, x_r183_4 X, x_i183_5 X, x_w183_5 X, x_i183_6 X, x_w183_6 X, x_i183_7 X, x_w183_7 X, x_i183_8 X, x_w183_8 X, x_i183_9 X, x_w183_9 X, x_i183_10 X, x_w183_10 X, x_i183_11 X, x_w183_11 X, x_i183_12 X, x_w183_12 X, x_i183_13 X, x_w183_13 X, x_i183_14 X, x_w183_14 X, x_i183_15 X, x_w183_15 X, x_r183_16 X, x_r183_17 X, x_r183_18 X, x_i183_19 X, x_w183_19 X, x_i183_20 X, x_w183_20 X, x_r183_21 X, x_r183_22 X, x_r183_23 X, x_r183_24 X, x_r183_25 X, x_i183_26 X, x_w183_26 X, x_r183_27 X, x_r183_28 X, x_r183_29 X, x_i183_30 X, x_w183_30 X, x_r183_31 X, x_r183_32 X, x_r183_33 X, x_r183_34 X, x_r183_35 X, x_r183_36 X, x_a184 X, x_s184 X, x_a185 X, x_s185 X, x_a186 X, x_s186 X, x_a187 X, x_s187 X, x_a188 X, x_s188 X, x_a189 X, x_s189 X, x_a190 X, x_s190 X, x_a191 X, x_s191 X, x_a192 X, x_s192 X, x_a193 X, x_s193 X, x_a194 X, x_s194 X, x_a195 X, x_s195 X, x_a196 X, x_s196 X, x_a197 X, x_s197 X, x_a198 X, x_s198 X, x_a199 X, x_s199 X, x_a200 X, x_s200 X, x_a201 X, x_s201 X, x_a202 X, x_s202 X, x_a203 X, x_s203 X, x_a204 X, x_s204 X, Option.bind_some, ↓reduceIte, ite_not, fa_lit, nI_add, nI_mulN, nI_an, nI_sub, irm_n, nI_eq, nI_leI, nI_ltI, v_pow, v_shr, v_bit, nI_cl, nI_m1e, fa_litL, h1, hk2, hf0 k (by omega), ha, wN W, hw0, bI_z, Bool.true_and, Bool.true_eq_false]
      exact ih (k + 1) f2 (by omega) (by omega)
/-- both say alike why there are no answers; and, where there are, what they are -/
theorem no_ans {n : Nat} (I : IV g t v a D n nx) (x y : Int32) : ∃ r, F_X11_whyNoAnswers 69 x y (Em g t) = some (r, Em g t) ∧ (∀ t1, Sm g t t1 → F_X12_noAnswers 183 x y (Em g t1) = some (r, Em g t1)) ∧ (r = nI 0 → ∃ i p m, i < 4 ∧ p < vP a ∧ x = nI i ∧ y = nI p ∧ 1 ≤ m ∧ m ≤ 20 ∧ tA t 203 i = nI m ∧ tI t (167 + 2 * i) 1 = nI m ∧ (∀ j, j < m → tJ t 204 (40 * i + j) = tJ t (168 + 2 * i) j) ∧ ∀ j, j < m → 0 ≤ (tJ t (168 + 2 * i) j).toInt ∧ (tJ t (168 + 2 * i) j).toInt < ((2 * vN a : Nat) : Int)) := by
  have X := I.1
  have C := I.2.2.1
  have W := C.1
  have V := C.2.1
  have hP := wP2 W
  have hN := wN3 W
  have bf : ¬ ¬ bI false = (0 : Int32) := by decide
  have bf2 : bI false = (0 : Int32) := by decide
  have bt : ¬ bI true = (0 : Int32) := by decide
  rcases okx_c x 4 (by decide) with hx | ⟨hx, i, hi, rfl⟩
  · refine ⟨-nI 2, ?_, fun t1 s => ?_, fun h => absurd h (by decide)⟩
    · unfold F_X11_whyNoAnswers
      rw [x_rc69 X, Option.bind_some, k_trayAt X, Option.bind_some, hx]
      rfl
    · unfold F_X12_noAnswers
      rw [within_3, Option.bind_some, hx, if_pos bf2]
      rfl
  rcases okx_c y (vP a) (by omega) with hy | ⟨hy, p, hp, rfl⟩
  · refine ⟨-nI 2, ?_, fun t1 s => ?_, fun h => absurd h (by decide)⟩
    · unfold F_X11_whyNoAnswers
      rw [x_rc69 X, Option.bind_some, k_trayAt X, Option.bind_some, hx]
      simp only [if_true]
      rw [c_r69 X C.2.2.2.1, Option.bind_some, v_rc V, Option.bind_some, k_person V C, Option.bind_some, hy, if_neg bf]
      rfl
    · unfold F_X12_noAnswers
      rw [within_3, Option.bind_some, hx, if_neg bt, x_rc183 X, Option.bind_some, q_personX X W (by rw [Sm_a X s]; exact I.2.1), Option.bind_some, hy, if_neg bf]
      rfl
  have Y := TyS_x X hi
  have y1 : ∀ t, fI (Em g t) (167 + 2 * i) 7 1 = some (tI t (167 + 2 * i) 1) := fun t => y_fI Y.2.1 (by omega) (by decide) rfl
  have y4 : ∀ t, rc (Em g t) (167 + 2 * i) 7 = some () := fun t => y_rc Y.2.1 (by omega) (by decide)
  have s202 : ∀ t1, Sm g t t1 → tA t1 202 = tA t 202 := fun t1 s => s.2.1 202 (sc_x X rfl)
  have s203 : ∀ t1, Sm g t t1 → tA t1 203 = tA t 203 := fun t1 s => s.2.1 203 (sc_x X rfl)
  have s204 : ∀ t1, Sm g t t1 → tJ t1 204 = tJ t 204 := fun t1 s => s.2.2 204 rfl
  have cl0 : F_X11_whyNoAnswers 69 (nI i) (nI p) (Em g t) = if (0 : Int32) ≤ tI t (167 + 2 * i) 1 then (if tI t (167 + 2 * i) 1 < (1 : Int32) then some (-4, Em g t) else if tI t (167 + 2 * i) 1 ≤ (20 : Int32) then ((F_X8_allFrom0Below (167 + 2 * i) (nI (2 * vN a)) (Em g t)).bind fun z => if z.1 = 0 then some (-3, z.2) else some (0, z.2)) else some (-4, Em g t)) else some (-6, Em g t) := by
    unfold F_X11_whyNoAnswers
    rw [x_rc69 X, Option.bind_some, k_trayAt X, Option.bind_some, hx, tn_n (by omega)]
    simp only [if_true]
    rw [c_r69 X C.2.2.2.1, Option.bind_some, v_rc V, Option.bind_some, k_person V C, Option.bind_some, hy, if_pos bt, y1, Option.bind_some]
    split
    · rw [Option.bind_some]
      split
      · rfl
      · rw [Option.bind_some]
        split
        · rw [c_r69 X C.2.2.2.1, Option.bind_some, v_i0 V, Option.bind_some, vN_ C, y4, Option.bind_some, show (2 : Int32) * nI (vN a) = nI (2 * vN a) from nI_mulN 2 (vN a)]
        · rfl
    · rfl
  have rf0 : ∀ t1, Sm g t t1 → F_X12_noAnswers 183 (nI i) (nI p) (Em g t1) = if tA t 202 i = -nI 1 then some (-nI 6, Em g t1) else (F_X12_within (tA t 203 i).toInt64 1 20 (Em g t1)).bind fun z47 => if ¬ z47.1 = 0 then F_X12_noAnswers_b59 FU 183 (nI i) 0 z47.2 else some ((-4), z47.2) := by
    intro t1 s
    unfold F_X12_noAnswers
    rw [within_3, Option.bind_some, hx, if_neg bt, x_rc183 X, Option.bind_some, q_personX X W (by rw [Sm_a X s]; exact I.2.1), Option.bind_some, hy, if_pos bt, x_rc183 X, Option.bind_some, r_noTray X, Option.bind_some, hx, tn_n (by omega), if_pos rfl, s202 t1 s]
    by_cases c : tA t 202 i = -nI 1
    · rw [if_pos c, if_pos c, if_neg (show ¬ -nI 6 = (0 : Int32) by decide)]
    · rw [if_neg c, if_neg c, if_pos (show nI 0 = (0 : Int32) from rfl), x_r183_35 X, Option.bind_some, x_a203 X hi, Option.bind_some, s203 t1 s]
  rcases Tr_s I.2.2.2.2.1 hi with q | ⟨sr, m, hne, hs, hm, q1, q2, q3⟩
  · refine ⟨-nI 6, ?_, fun t1 s => ?_, fun h => absurd h (by decide)⟩
    · rw [cl0, q.2, if_neg (show ¬ (0 : Int32) ≤ -nI 1 by decide)]
      rfl
    · rw [rf0 t1 s, if_pos q.1]
  have hw20 : ∀ h : xH, F_X12_within (nI m).toInt64 1 20 h = some (bI (decide (1 ≤ m ∧ m ≤ 20)), h) := by
    intro h
    have e1 : (1 : Int64).toInt = 1 := rfl
    have e2 : (20 : Int64).toInt = 20 := rfl
    rw [p_within, i64, nI_toInt (by omega), e1, e2, show decide ((1 : Int) ≤ ((m : Nat) : Int) ∧ ((m : Nat) : Int) ≤ 20) = decide (1 ≤ m ∧ m ≤ 20) by
      rw [decide_eq_decide]
      omega]
  have hle0 : (0 : Int32) ≤ nI m := show nI 0 ≤ nI m by rw [nI_leI (by decide) (by omega)]; omega
  by_cases hm20 : 1 ≤ m ∧ m ≤ 20
  · have c1 : ¬ nI m < (1 : Int32) := show ¬ nI m < nI 1 by rw [nI_ltI (by omega) (by decide)]; omega
    have c2 : nI m ≤ (20 : Int32) := show nI m ≤ nI 20 by rw [nI_leI (by omega) (by decide)]; omega
    have hfu : m < FU := by show m < 1000000; omega
    have hb := k_below_l (t := t) (N := vN a) Y hm hN (fun j => tJ t (168 + 2 * i) j) q2.2 (fun j hj => by rw [show 167 + 2 * i + 1 = 168 + 2 * i by omega]) m 0 FU (by omega) hfu
    have hb' : F_X8_allFrom0Below (167 + 2 * i) (nI (2 * vN a)) (Em g t) = some (bI (aok (fun j => tJ t (168 + 2 * i) j) (vN a) m 0), Em g t) := hb
    refine ⟨if aok (fun j => tJ t (168 + 2 * i) j) (vN a) m 0 then nI 0 else -nI 3, ?_, fun t1 s => ?_, fun h => ?_⟩
    · rw [cl0, q2.2, if_pos hle0, if_neg c1, if_pos c2, hb', Option.bind_some]
      cases aok (fun j => tJ t (168 + 2 * i) j) (vN a) m 0
      · rw [if_pos bf2]; rfl
      · rw [if_neg bt]; rfl
    · have hr := r_noAn_l (t := t1) X W (by rw [Sm_a X s]; exact I.2.1) hi hm (fun j => tJ t (168 + 2 * i) j) (by rw [s203 t1 s]; exact q2.1) (fun j hj => by rw [s204 t1 s]; exact q3 j hj) m 0 FU (by omega) hfu
      rw [rf0 t1 s, if_neg hne, q2.1, hw20, Option.bind_some, decide_eq_true hm20, if_pos bt]
      exact hr
    · have ht : aok (fun j => tJ t (168 + 2 * i) j) (vN a) m 0 = true := by
        cases e : aok (fun j => tJ t (168 + 2 * i) j) (vN a) m 0
        · rw [e] at h; exact absurd h (by decide)
        · rfl
      exact ⟨i, p, m, hi, hp, rfl, rfl, hm20.1, hm20.2, q2.1, q2.2, q3, fun j hj => (aok_i m 0).mp ht j (by omega) (by omega)⟩
  · refine ⟨-nI 4, ?_, fun t1 s => ?_, fun h => absurd h (by decide)⟩
    · rw [cl0, q2.2, if_pos hle0]
      by_cases c1 : nI m < (1 : Int32)
      · rw [if_pos c1]; rfl
      · have c2 : ¬ nI m ≤ (20 : Int32) := by
          have c1' : ¬ nI m < nI 1 := c1
          rw [nI_ltI (by omega) (by decide)] at c1'
          show ¬ nI m ≤ nI 20
          rw [nI_leI (by omega) (by decide)]
          omega
        rw [if_neg c1, if_neg c2]; rfl
    · rw [rf0 t1 s, if_neg hne, q2.1, hw20, Option.bind_some, decide_eq_false hm20, if_neg bf]
      rfl
end XAn
