/-! ===== calls: blanks, attempt ===== -/
def qan (f : Nat → Int64) (j : Nat) : Nat := (f j).toInt.toNat
def bok (a : Nat → Int32) (p b : Nat) (f : Nat → Int64) : Nat → Bool
  | 0 => true
  | j + 1 => bok a p b f j && (hears a p (qan f j / 2) b == decide (qan f j % 2 = 1))
theorem mk_an (f h : Nat → Bool) (n : Nat) : an_ (mk f n) (mk h n) = mk (fun k => f k && !h k) n := by
  apply mk_ext (n := n) (an_le _ _ _ (mk_lt f n)) (mk_lt _ n)
  intro k hk
  rw [an_bit, mk_bit, mk_bit, mk_bit]
  simp [hk]
def attl (mi : Nat → Nat) : Nat → Nat → Int32 → Int32 → Int32
  | 0, _, b, _ => b
  | d + 1, k, b, v => if v < nI (mi k) then attl mi d (k + 1) (nI k) (nI (mi k)) else attl mi d (k + 1) b v
theorem pc_and (B H : Nat) : ∀ k, pc B k = pc (B &&& H) k + pc (an_ B H) k
  | 0 => rfl
  | k + 1 => by
    rw [pc, pc, pc, pc_and B H k, Nat.testBit_and, an_bit]
    cases B.testBit k <;> cases H.testBit k <;> simp <;> omega
theorem pc_hi {m n : Nat} (h : m < 2 ^ n) : ∀ k, n ≤ k → pc m k = pc m n := by
  intro k hk
  induction k with
  | zero => rw [show n = 0 by omega]
  | succ k ih =>
    by_cases e : n = k + 1
    · rw [e]
    · rw [pc, ih (by omega), testBit_ge h (by omega)]
      rfl
section XBl
variable {g : Sk} {t : Tb} {a : Nat → Int32}
variable {D v x nx p : Nat} {t' t'' t1 t2 : Tb} {f : Nat → Int64}
theorem qan_l {N j : Nat} (h : 0 ≤ (f j).toInt ∧ (f j).toInt < ((2 * N : Nat) : Int)) (hN : N ≤ 10) : (f j).toInt32 = nI (qan f j) ∧ qan f j < 2 * N := by
  unfold qan
  exact ⟨i_32 h.1 (by omega), by omega⟩
theorem r_blof_l (X : Fx g) (W : WA a D) {i m : Nat} (hi : i < 4) (hm : m ≤ 20) (ha : tA t 184 = a) (h3 : tA t 203 i = nI m) (h4 : ∀ j, j < m → tJ t 204 (40 * i + j) = f j) (hf0 : ∀ j, j < m → 0 ≤ (f j).toInt ∧ (f j).toInt < ((2 * vN a : Nat) : Int)) (h9 : ∀ n, n < vN a → tA t 191 n = nI (hbl a p n)) : ∀ (d k fuel : Nat), k + d = m → d < fuel → F_X12_blanksOf_b13 fuel 183 (nI i) (nI (mk (fun b => bok a p b f k) (vN a + 1))) (nI k) (Em g t) = some (nI (mk (fun b => bok a p b f m) (vN a + 1)), Em g t) := by
  have hN := wN3 W
  intro d
  induction d with
  | zero =>
    intro k fuel hk hf
    obtain ⟨f2, rfl⟩ : ∃ f, fuel = f + 1 := ⟨fuel - 1, by omega⟩
    have hk : k = m := by omega
    subst hk
    rw [F_X12_blanksOf_b13]
    simp (disch := omega) only [x_rc183 X, x_i183_0 X, x_w183_0 X, x_r183_1 X, x_r183_2 X, x_r183_3 X, x_r183_4 X, x_i183_5 X, x_w183_5 X, x_i183_6 X, x_w183_6 X, x_i183_7 X, x_w183_7 X, x_i183_8 X, x_w183_8 X, x_i183_9 X, x_w183_9 X, x_i183_10 X, x_w183_10 X, x_i183_11 X, x_w183_11 X, x_i183_12 X, x_w183_12 X, x_i183_13 X, x_w183_13 X, x_i183_14 X, x_w183_14 X, x_i183_15 X, x_w183_15 X, x_r183_16 X, x_r183_17 X, x_r183_18 X, x_i183_19 X, x_w183_19 X, x_i183_20 X, x_w183_20 X, x_r183_21 X, x_r183_22 X, x_r183_23 X, x_r183_24 X, x_r183_25 X, x_i183_26 X, x_w183_26 X, x_r183_27 X, x_r183_28 X, x_r183_29 X, x_i183_30 X, x_w183_30 X, x_r183_31 X, x_r183_32 X, x_r183_33 X, x_r183_34 X, x_r183_35 X, x_r183_36 X, x_a184 X, x_s184 X, x_a185 X, x_s185 X, x_a186 X, x_s186 X, x_a187 X, x_s187 X, x_a188 X, x_s188 X, x_a189 X, x_s189 X, x_a190 X, x_s190 X, x_a191 X, x_s191 X, x_a192 X, x_s192 X, x_a193 X, x_s193 X, x_a194 X, x_s194 X, x_a195 X, x_s195 X, x_a196 X, x_s196 X, x_a197 X, x_s197 X, x_a198 X, x_s198 X, x_a199 X, x_s199 X, x_a200 X, x_s200 X, x_a201 X, x_s201 X, x_a202 X, x_s202 X, x_a203 X, x_s203 X, x_a204 X, x_s204 X, Option.bind_some, ↓reduceIte, ite_not, fa_lit, nI_add, nI_mulN, nI_an, nI_sub, irm_n, nI_eq, nI_leI, nI_ltI, v_pow, v_shr, v_bit, nI_cl, nI_m1e, h3, Nat.le_refl]
  | succ d ih =>
    intro k fuel hk hf
    obtain ⟨f2, rfl⟩ : ∃ f, fuel = f + 1 := ⟨fuel - 1, by omega⟩
    have hk2 : ¬ m ≤ k := by omega
    have hq := qan_l (hf0 k (by omega)) hN
    have hq2 := hq.2
    have hqn : qan f k / 2 < vN a := by omega
    have e1 : irm (nI (qan f k)) (nI 2) = nI (qan f k % 2) := irm_n (by omega) (by decide) (by decide)
    have e2 : idv (nI (qan f k)) (nI 2) = nI (qan f k / 2) := r_idv (by omega) (by decide) (by decide)
    rw [F_X12_blanksOf_b13, ← ih (k + 1) f2 (by omega) (by omega)]
    by_cases ho : qan f k % 2 = 1
    · have em : nI (mk (fun b => bok a p b f k) (vN a + 1)) &&& nI (hbl a p (qan f k / 2)) = nI (mk (fun b => bok a p b f (k + 1)) (vN a + 1)) := by
        unfold hbl
        rw [fa_and, mk_and]
        exact congrArg nI (mk_cong (fun b _ => by
          show (bok a p b f k && hears a p (qan f k / 2) b) = bok a p b f (k + 1)
          rw [bok, ho]
          cases hears a p (qan f k / 2) b <;> simp))
      simp (disch := omega) only [x_rc183 X, x_i183_0 X, x_w183_0 X, x_r183_1 X, x_r183_2 X, x_r183_3 X, x_r183_4 X, x_i183_5 X, x_w183_5 X, x_i183_6 X, x_w183_6 X, x_i183_7 X, x_w183_7 X, x_i183_8 X, x_w183_8 X, x_i183_9 X, x_w183_9 X, x_i183_10 X, x_w183_10 X, x_i183_11 X, x_w183_11 X, x_i183_12 X, x_w183_12 X, x_i183_13 X, x_w183_13 X, x_i183_14 X, x_w183_14 X, x_i183_15 X, x_w183_15 X, x_r183_16 X, x_r183_17 X, x_r183_18 X, x_i183_19 X, x_w183_19 X, x_i183_20 X, x_w183_20 X, x_r183_21 X, x_r183_22 X, x_r183_23 X, x_r183_24 X, x_r183_25 X, x_i183_26 X, x_w183_26 X, x_r183_27 X, x_r183_28 X, x_r183_29 X, x_i183_30 X, x_w183_30 X, x_r183_31 X, x_r183_32 X, x_r183_33 X, x_r183_34 X, x_r183_35 X, x_r183_36 X, x_a184 X, x_s184 X, x_a185 X, x_s185 X, x_a186 X, x_s186 X, x_a187 X, x_s187 X, x_a188 X, x_s188 X, x_a189 X, x_s189 X, x_a190 X, x_s190 X, x_a191 X, x_s191 X, x_a192 X, x_s192 X, x_a193 X, x_s193 X, x_a194 X, x_s194 X, x_a195 X, x_s195 X, x_a196 X, x_s196 X, x_a197 X, x_s197 X, x_a198 X, x_s198 X, x_a199 X, x_s199 X, x_a200 X, x_s200 X, x_a201 X, x_s201 X, x_a202 X, x_s202 X, x_a203 X, x_s203 X, x_a204 X, x_s204 X, Option.bind_some, ↓reduceIte, ite_not, fa_lit, nI_add, nI_mulN, nI_an, nI_sub, irm_n, nI_eq, nI_leI, nI_ltI, v_pow, v_shr, v_bit, nI_cl, nI_m1e, h3, hk2, h4 k (by omega), hq.1, e1, ho, e2, h9 _ hqn, F_X12_blanksOf_b71, em]
    · have ho2 : qan f k % 2 = 0 := by omega
      have ho3 : ¬ (0 = 1) := by decide
      have em : nI (mk (fun b => bok a p b f k) (vN a + 1)) &&& (nI (hbl a p (qan f k / 2)) ^^^ -nI 1) = nI (mk (fun b => bok a p b f (k + 1)) (vN a + 1)) := by
        unfold hbl
        rw [an_g, mk_an]
        exact congrArg nI (mk_cong (fun b _ => by
          show (bok a p b f k && !hears a p (qan f k / 2) b) = bok a p b f (k + 1)
          rw [bok, ho2]
          cases hears a p (qan f k / 2) b <;> simp))
      simp (disch := omega) only [x_rc183 X, x_i183_0 X, x_w183_0 X, x_r183_1 X, x_r183_2 X, x_r183_3 X, x_r183_4 X, x_i183_5 X, x_w183_5 X, x_i183_6 X, x_w183_6 X, x_i183_7 X, x_w183_7 X, x_i183_8 X, x_w183_8 X, x_i183_9 X, x_w183_9 X, x_i183_10 X, x_w183_10 X, x_i183_11 X, x_w183_11 X, x_i183_12 X, x_w183_12 X, x_i183_13 X, x_w183_13 X, x_i183_14 X, x_w183_14 X, x_i183_15 X, x_w183_15 X, x_r183_16 X, x_r183_17 X, x_r183_18 X, x_i183_19 X, x_w183_19 X, x_i183_20 X, x_w183_20 X, x_r183_21 X, x_r183_22 X, x_r183_23 X, x_r183_24 X, x_r183_25 X, x_i183_26 X, x_w183_26 X, x_r183_27 X, x_r183_28 X, x_r183_29 X, x_i183_30 X, x_w183_30 X, x_r183_31 X, x_r183_32 X, x_r183_33 X, x_r183_34 X, x_r183_35 X, x_r183_36 X, x_a184 X, x_s184 X, x_a185 X, x_s185 X, x_a186 X, x_s186 X, x_a187 X, x_s187 X, x_a188 X, x_s188 X, x_a189 X, x_s189 X, x_a190 X, x_s190 X, x_a191 X, x_s191 X, x_a192 X, x_s192 X, x_a193 X, x_s193 X, x_a194 X, x_s194 X, x_a195 X, x_s195 X, x_a196 X, x_s196 X, x_a197 X, x_s197 X, x_a198 X, x_s198 X, x_a199 X, x_s199 X, x_a200 X, x_s200 X, x_a201 X, x_s201 X, x_a202 X, x_s202 X, x_a203 X, x_s203 X, x_a204 X, x_s204 X, Option.bind_some, ↓reduceIte, ite_not, fa_lit, nI_add, nI_mulN, nI_an, nI_sub, irm_n, nI_eq, nI_leI, nI_ltI, v_pow, v_shr, v_bit, nI_cl, nI_m1e, h3, hk2, h4 k (by omega), hq.1, e1, ho2, ho3, e2, h9 _ hqn, F_X12_blanksOf_b71, em]
theorem r_blof (X : Fx g) (W : WA a D) (hp : p < vP a) {i m : Nat} (hi : i < 4) (hm : m ≤ 20) (ha : tA t 184 = a) (h3 : tA t 203 i = nI m) (h4 : ∀ j, j < m → tJ t 204 (40 * i + j) = f j) (hf0 : ∀ j, j < m → 0 ≤ (f j).toInt ∧ (f j).toInt < ((2 * vN a : Nat) : Int)) : ∃ t', F_X12_blanksOf 183 (nI i) (nI p) (Em g t) = some (nI (mk (fun b => bok a p b f m) (vN a + 1)), Em g t') ∧ Sm g t t' ∧ ∀ n, n < vN a → tA t' 191 n = nI (hbl a p n) := by
  obtain ⟨t1, e1, s1, k1⟩ := r_lays X W hp ha
  have ha1 : tA t1 184 = a := by rw [Sm_a X s1]; exact ha
  have hfu : m < FU := by show m < 1000000; omega
  have hl := r_blof_l (t := t1) (f := f) X W hi hm ha1 (by rw [s1.2.1 203 (sc_x X rfl)]; exact h3) (fun j hj => by rw [s1.2.2 204 rfl]; exact h4 j hj) hf0 k1 m 0 FU (by omega) hfu
  have e0 : mk (fun b => bok a p b f 0) (vN a + 1) = 2 ^ (vN a + 1) - 1 := mk_all _
  rw [e0] at hl
  refine ⟨t1, ?_, s1, k1⟩
  unfold F_X12_blanksOf
  rw [x_rc183 X, Option.bind_some, e1, Option.bind_some, x_rc183 X, Option.bind_some, r_every X W ha1, Option.bind_some]
  exact hl
theorem bok_f {a : Nat → Int32} {p b : Nat} : ∀ {k m : Nat}, k ≤ m → bok a p b f k = false → bok a p b f m = false := by
  intro k m hkm h
  induction m with
  | zero => rw [show k = 0 by omega] at h; exact h
  | succ m ih =>
    by_cases e : k = m + 1
    · rw [← e]; exact h
    · rw [bok, ih (by omega)]
      rfl
theorem k_blby_i (X : Fx g) {T N m b : Nat} (Y : TyS g T) (hN : N ≤ 10) (hvN : vN a = N) (hm : m ≤ 20) (hb : b ≤ N) (h1 : tI t T 1 = nI m) (h4 : ∀ j, j < m → tJ t (T + 1) j = f j) (hf0 : ∀ j, j < m → 0 ≤ (f j).toInt ∧ (f j).toInt < ((2 * N : Nat) : Int)) (h9 : tA t 149 b = nI (hnt a p b)) (kk : Nat → Nat → Int32 → Int32 → xH → Option (Int32 × xH)) (z : Int32) : ∀ (d k fuel : Nat), k + d = m → d < fuel → F_X9_blanksBy_b18 kk fuel 148 T z (nI b) (bI (bok a p b f k)) (nI k) (Em g t) = F_X9_blanksBy_b75 kk 148 T z (nI b) (bI (bok a p b f m)) (Em g t) := by
  have y1 : fI (Em g t) T 7 1 = some (tI t T 1) := y_fI Y.2.1 Y.1 (by decide) rfl
  have y2 : fR (Em g t) T 7 0 = some (T + 1) := y_fR Y.2.1 Y.2.2.1 Y.1 (by decide) rfl
  intro d
  induction d with
  | zero =>
    intro k fuel hk hf
    obtain ⟨f2, rfl⟩ : ∃ f, fuel = f + 1 := ⟨fuel - 1, by omega⟩
    have hk : k = m := by omega
    subst hk
    rw [F_X9_blanksBy_b18, y1, Option.bind_some, h1, if_pos (by rw [nI_leI (by omega) (by omega)]; exact Nat.le_refl k)]
  | succ d ih =>
    intro k fuel hk hf
    obtain ⟨f2, rfl⟩ : ∃ f, fuel = f + 1 := ⟨fuel - 1, by omega⟩
    have y3 : aJ (Em g t) (T + 1) (nI k) = some (f k) := by
      rw [← h4 k (by omega)]
      exact y_aJ Y.2.2.2.1 Y.2.2.2.2 (by have := Y.1; omega) (by decide) (by omega)
    rw [F_X9_blanksBy_b18, y1, Option.bind_some, h1, if_neg (by rw [nI_leI (by omega) (by omega)]; omega)]
    cases hbk : bok a p b f k
    · rw [if_pos (show bI false = (0 : Int32) by decide), bok_f (show k ≤ m by omega) hbk]
    · have hq := qan_l (hf0 k (by omega)) hN
      have hq2 := hq.2
      have hh : hnt a p b < 2 ^ 31 := mk_31 (by omega)
      have e1 : nI (qan f k) >>> ((1 : Int32) &&& 31) = nI (qan f k / 2) := by
        have := v_shr (a := qan f k) (k := 1) (by omega) (by decide)
        rw [Nat.pow_one] at this
        exact this
      have e2 : nI (qan f k) &&& (1 : Int32) = bI ((qan f k).testBit 0) := by
        have := v_bit (a := qan f k) (k := 0)
        rw [Nat.pow_zero, Nat.div_one] at this
        exact this
      have e3 : (nI (hnt a p b) >>> (nI (qan f k / 2) &&& 31)) &&& 1 = bI ((hnt a p b).testBit (qan f k / 2)) := by
        have h5 := v_shr (a := hnt a p b) (k := qan f k / 2) hh (by omega)
        show (nI (hnt a p b) >>> (nI (qan f k / 2) &&& nI 31)) &&& nI 1 = _
        rw [h5, v_bit]
      have e4 : (hnt a p b).testBit (qan f k / 2) = hears a p (qan f k / 2) b := by
        unfold hnt
        rw [mk_bit, decide_eq_true (by omega), Bool.true_and]
      have e5 : (qan f k).testBit 0 = decide (qan f k % 2 = 1) := Nat.testBit_zero _
      have hn1 : nI k + 1 = nI (k + 1) := nI_add k 1
      have hi := ih (k + 1) f2 (by omega) (by omega)
      rw [if_neg (show ¬ bI true = (0 : Int32) by decide), y2, Option.bind_some, y3, Option.bind_some, x_r148_1 X, Option.bind_some, x_a149 X (by omega), Option.bind_some, h9, hq.1, e1, e3, e2, e4, e5, hn1, ← hi, bok, hbk, Bool.true_and]
      have bie : ∀ x y : Bool, (bI x = bI y) ↔ (x = y) := by decide
      by_cases c : hears a p (qan f k / 2) b = decide (qan f k % 2 = 1)
      · rw [if_neg (fun z => z (by rw [c])), c, beq_self_eq_true]
        rfl
      · have c2 : (hears a p (qan f k / 2) b == decide (qan f k % 2 = 1)) = false := by
          rw [beq_eq_false_iff_ne]
          exact c
        rw [if_pos (fun z => c ((bie _ _).mp z)), c2]
        rfl
theorem k_blby_l (X : Fx g) {T N m : Nat} (Y : TyS g T) (hN : N ≤ 10) (hvN : vN a = N) (hm : m ≤ 20) (h0 : tI t 148 0 = nI N) (h1 : tI t T 1 = nI m) (h4 : ∀ j, j < m → tJ t (T + 1) j = f j) (hf0 : ∀ j, j < m → 0 ≤ (f j).toInt ∧ (f j).toInt < ((2 * N : Nat) : Int)) (h9 : ∀ b, b < N + 1 → tA t 149 b = nI (hnt a p b)) : ∀ (d b fuel : Nat), b + d = N + 1 → d < fuel → F_X9_blanksBy_b4 fuel 148 T (nI (mk (fun b => bok a p b f m) b)) (nI b) (Em g t) = some (nI (mk (fun b => bok a p b f m) (N + 1)), Em g t) := by
  intro d
  induction d with
  | zero =>
    intro b fuel hb hf
    obtain ⟨f2, rfl⟩ : ∃ f, fuel = f + 1 := ⟨fuel - 1, by omega⟩
    have hb : b = N + 1 := by omega
    subst hb
    rw [F_X9_blanksBy_b4, x_i148_0 X, Option.bind_some, h0, if_pos (by rw [nI_ltI (by omega) (by omega)]; omega)]
  | succ d ih =>
    intro b fuel hb hf
    obtain ⟨f2, rfl⟩ : ∃ f, fuel = f + 1 := ⟨fuel - 1, by omega⟩
    have hfu : m < FU := by show m < 1000000; omega
    have hi := k_blby_i (t := t) (a := a) (p := p) (b := b) X Y hN hvN hm (by omega) h1 h4 hf0 (h9 b (by omega)) (F_X9_blanksBy_b4 f2) (nI (mk (fun b => bok a p b f m) b)) m 0 FU (by omega) hfu
    rw [F_X9_blanksBy_b4, x_i148_0 X, Option.bind_some, h0, if_neg (by rw [nI_ltI (by omega) (by omega)]; omega), ← ih (b + 1) f2 (by omega) (by omega)]
    refine hi.trans ?_
    unfold F_X9_blanksBy_b75
    rw [show nI b + 1 = nI (b + 1) from nI_add b 1]
    cases e : bok a p b f m
    · rw [if_pos (show bI false = (0 : Int32) by decide), mk_no (fun b => bok a p b f m) b e]
    · rw [if_neg (show ¬ bI true = (0 : Int32) by decide), show (1 : Int32) <<< (nI b &&& 31) = nI (2 ^ b) from v_pow (by omega), s_or1 (f := fun b => bok a p b f m) e]
theorem ok_blanks {n : Nat} (I : IV g t v a D n nx) (hD : D + 100 < 2 ^ 30) (x y : Int32) : Okc (F_X11_blanks 69 x y) (F_X12_blanks 183 x y) g t D := by
  have X := I.1
  have C := I.2.2.1
  have W := C.1
  have hN := wN3 W
  have hw0 : ∀ t, wI (Em g t) 183 11 0 0 = some (Em g (wi t 183 0 (nI 0))) := fun t => x_w183_0 X
  obtain ⟨r, er, rr, rz⟩ := no_ans I x y
  by_cases h0 : r = nI 0
  · obtain ⟨i, p, m, hi, hp, rfl, rfl, hm1, hm, q1, q2, q3, q4⟩ := rz h0
    subst h0
    obtain ⟨t1, KD, kc, e1, s1, hK, g0, g3, g49, _, _⟩ := k_gather (p := p) X C hp
    have hfu : vN a + 1 < FU := by show vN a + 1 < 1000000; omega
    have hb := k_blby_l (t := t1) (a := a) (p := p) (f := fun j => tJ t (168 + 2 * i) j) X (TyS_x X hi) hN rfl hm g0 (by rw [s1.1 _ 1 (sI_f (by omega))]; exact q2) (fun j hj => by
      rw [show 167 + 2 * i + 1 = 168 + 2 * i by omega, s1.2.2 (168 + 2 * i) (by
        unfold scJ
        simp only [List.contains_eq_mem, decide_eq_false_iff_not, List.mem_cons, List.not_mem_nil, or_false]
        omega)]) q4 g49 (vN a + 1) 0 FU (by omega) hfu
    have hb' : F_X9_blanksBy 148 (167 + 2 * i) (Em g t1) = some (nI (mk (fun b => bok a p b (fun j => tJ t (168 + 2 * i) j) m) (vN a + 1)), Em g t1) := hb
    have s2 : Sm g t (wi t1 183 0 (nI 0)) := Sm_wi rfl s1
    obtain ⟨t3, e3, s3, _⟩ := r_blof (t := wi t1 183 0 (nI 0)) (f := fun j => tJ t (168 + 2 * i) j) X W hp hi hm (by rw [Sm_a X s2]; exact I.2.1) (by rw [s2.2.1 203 (sc_x X rfl)]; exact q1) (fun j hj => by rw [s2.2.2 204 rfl]; exact q3 j hj) q4
    refine ok_0 (r := nI (mk (fun b => bok a p b (fun j => tJ t (168 + 2 * i) j) m) (vN a + 1))) (t1 := t1) (t2 := t3) I hD ?_ ?_ s1 (Sm_t (Sm_wi (a := 183) (k := 0) rfl Sm_r) s3)
    · unfold F_X11_blanks
      rw [x_rc69 X, Option.bind_some, er, Option.bind_some, if_pos (show nI 0 = (0 : Int32) from rfl), x_r69_8 X, Option.bind_some, c_r69 X C.2.2.2.1, Option.bind_some, x_r69_2 X, Option.bind_some, x_rc148 X, Option.bind_some, e1, Option.bind_some, x_r69_8 X, Option.bind_some, x_r69_5 X, Option.bind_some, x_tray X hi, Option.bind_some, x_rc148 X, Option.bind_some, hb', Option.bind_some]
    · unfold F_X12_blanks
      rw [hw0, Option.bind_some, x_rc183 X, Option.bind_some, rr _ s2, Option.bind_some, if_pos (show nI 0 = (0 : Int32) from rfl), x_rc183 X, Option.bind_some, e3, Option.bind_some]
  · have h0' : ¬ r = (0 : Int32) := h0
    refine ok_0 (r := r) (t1 := t) (t2 := wi t 183 0 (nI 0)) I hD ?_ ?_ Sm_r (Sm_wi (a := 183) (k := 0) rfl Sm_r)
    · unfold F_X11_blanks
      rw [x_rc69 X, Option.bind_some, er, Option.bind_some, if_neg h0']
    · unfold F_X12_blanks
      rw [hw0, Option.bind_some, x_rc183 X, Option.bind_some, rr _ (Sm_wi (a := 183) (k := 0) rfl Sm_r), Option.bind_some, if_neg h0']
end XBl
