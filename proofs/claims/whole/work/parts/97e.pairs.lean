/-! ===== pairs: pure, the tables ===== -/
def low (S : Nat) : Nat := fa_first (fun i => S.testBit i) 6
def mpl (F : Nat → Nat → Bool) (V : Nat → Nat) (R l : Nat) : Nat → Nat → Nat → Nat
  | 0, _, c => c
  | d + 1, q, c => mpl F V R l d (q + 1) (if R.testBit q && F l q then mxn c (1 + V (an_ R (2 ^ q))) else c)
def mpf (F : Nat → Nat → Bool) (P : Nat) : Nat → Nat → Nat
  | 0, _ => 0
  | f + 1, S => if S = 0 then 0 else mpl F (mpf F P f) (S &&& (S - 1)) (low S) (P - (low S + 1)) (low S + 1) (mpf F P f (S &&& (S - 1)))
def mp (F : Nat → Nat → Bool) (P S : Nat) : Nat := mpf F P (S + 1) S
theorem low_c : ∀ S, S < 64 → S ≠ 0 → (low S < 6 ∧ S.testBit (low S) = true ∧ an_ S (2 ^ low S) = S &&& (S - 1)) ∧ ∀ k, k < low S → S.testBit k = false := by
  intro S hS h0
  have key : ∀ S, S < 64 → S ≠ 0 → low S < 6 ∧ S.testBit (low S) = true ∧ an_ S (2 ^ low S) = S &&& (S - 1) := by decide +kernel
  exact ⟨key S hS h0, fun k hk => fa_first_no (fun i => S.testBit i) 6 k hk⟩
theorem and_lt1 {S : Nat} (h : S ≠ 0) : S &&& (S - 1) < S := by
  have h1 : S &&& (S - 1) ≤ S - 1 := Nat.and_le_right
  omega
theorem mpl_c {F : Nat → Nat → Bool} {V V' : Nat → Nat} {R l : Nat} (h : ∀ T, T ≤ R → V T = V' T) : ∀ (d q c : Nat), mpl F V R l d q c = mpl F V' R l d q c
  | 0, _, _ => rfl
  | d + 1, q, c => by
    rw [mpl, mpl, h _ (an_leS R (2 ^ q)), mpl_c h d]
theorem mpf_st {F : Nat → Nat → Bool} {P : Nat} : ∀ S f f', S < f → S < f' → mpf F P f S = mpf F P f' S := by
  intro S
  induction S using Nat.strongRecOn with
  | ind S ih =>
    intro f f' h h'
    obtain ⟨f, rfl⟩ : ∃ k, f = k + 1 := ⟨f - 1, by omega⟩
    obtain ⟨f', rfl⟩ : ∃ k, f' = k + 1 := ⟨f' - 1, by omega⟩
    rw [mpf, mpf]
    by_cases h0 : S = 0
    · rw [if_pos h0, if_pos h0]
    · have hl := and_lt1 h0
      rw [if_neg h0, if_neg h0, mpl_c (V' := mpf F P f') (fun T hT => ih T (by omega) f f' (by omega) (by omega)), ih _ hl f f' (by omega) (by omega)]
theorem mp_0 {F : Nat → Nat → Bool} {P : Nat} : mp F P 0 = 0 := rfl
theorem mp_eq {F : Nat → Nat → Bool} {P S : Nat} (h0 : S ≠ 0) : mp F P S = mpl F (mp F P) (S &&& (S - 1)) (low S) (P - (low S + 1)) (low S + 1) (mp F P (S &&& (S - 1))) := by
  have hl := and_lt1 h0
  show mpf F P (S + 1) S = _
  rw [mpf, if_neg h0, mpl_c (V' := mp F P) (fun T hT => mpf_st T S (T + 1) (by omega) (by omega)), mpf_st _ S ((S &&& (S - 1)) + 1) hl (by omega)]
  rfl
theorem mpl_b {F : Nat → Nat → Bool} {V : Nat → Nat} {R l B : Nat} (hV : ∀ T, T ≤ R → 1 + V T ≤ B) : ∀ (d q c : Nat), c ≤ B → mpl F V R l d q c ≤ B
  | 0, _, _, h => h
  | d + 1, q, c, h => by
    rw [mpl]
    apply mpl_b hV d
    have := hV (an_ R (2 ^ q)) (an_leS R (2 ^ q))
    unfold mxn
    split
    · split <;> omega
    · exact h
theorem mp_le {F : Nat → Nat → Bool} {P : Nat} : ∀ S, mp F P S ≤ S := by
  intro S
  induction S using Nat.strongRecOn with
  | ind S ih =>
    by_cases h0 : S = 0
    · rw [h0]; exact Nat.le_refl 0
    · have hl := and_lt1 h0
      rw [mp_eq h0]
      apply mpl_b
      · intro T hT
        have := ih T (by omega)
        omega
      · have := ih _ hl
        omega
section XPa
variable {g : Sk} {t : Tb} {a : Nat → Int32}
variable {D v x nx p : Nat} {t' t'' t1 t2 : Tb}
theorem r_low_l {S : Nat} (hS : S < 64) (h0 : S ≠ 0) (h : xH) : ∀ (d k fuel : Nat), k + d = low S → d < fuel → F_X12_lowest_b2 fuel (nI S) (nI k) h = some (nI (low S), h) := by
  obtain ⟨⟨l6, lb, _⟩, ln⟩ := low_c S hS h0
  intro d
  induction d with
  | zero =>
    intro k fuel hk hf
    obtain ⟨f, rfl⟩ : ∃ f, fuel = f + 1 := ⟨fuel - 1, by omega⟩
    have hk : k = low S := by omega
    subst hk
    rw [F_X12_lowest_b2, q_isIn (by omega) (by omega), Option.bind_some, lb, if_pos (show ¬ bI true = (0 : Int32) by decide)]
  | succ d ih =>
    intro k fuel hk hf
    obtain ⟨f, rfl⟩ : ∃ f, fuel = f + 1 := ⟨fuel - 1, by omega⟩
    rw [F_X12_lowest_b2, q_isIn (by omega) (by omega), Option.bind_some, ln k (by omega), if_neg (show ¬ ¬ bI false = (0 : Int32) by decide), show nI k + 1 = nI (k + 1) from nI_add k 1]
    exact ih (k + 1) f (by omega) (by omega)
theorem r_low {S : Nat} (hS : S < 64) (h0 : S ≠ 0) (h : xH) : F_X12_lowest (nI S) h = some (nI (low S), h) := by
  have := (low_c S hS h0).1.1
  have hf : low S < FU := by show low S < 1000000; omega
  exact r_low_l hS h0 h (low S) 0 FU (by omega) hf
theorem k_tz : ∀ m, m < 64 → m ≠ 0 → ∀ h : xH, F_J6_numberOfTrailingZeros_0f7a4 (nI m) h = some (nI (low m), h) := by
  intro m hm h0 h
  rcases (show m = 1 ∨ m = 2 ∨ m = 3 ∨ m = 4 ∨ m = 5 ∨ m = 6 ∨ m = 7 ∨ m = 8 ∨ m = 9 ∨ m = 10 ∨ m = 11 ∨ m = 12 ∨ m = 13 ∨ m = 14 ∨ m = 15 ∨ m = 16 ∨ m = 17 ∨ m = 18 ∨ m = 19 ∨ m = 20 ∨ m = 21 ∨ m = 22 ∨ m = 23 ∨ m = 24 ∨ m = 25 ∨ m = 26 ∨ m = 27 ∨ m = 28 ∨ m = 29 ∨ m = 30 ∨ m = 31 ∨ m = 32 ∨ m = 33 ∨ m = 34 ∨ m = 35 ∨ m = 36 ∨ m = 37 ∨ m = 38 ∨ m = 39 ∨ m = 40 ∨ m = 41 ∨ m = 42 ∨ m = 43 ∨ m = 44 ∨ m = 45 ∨ m = 46 ∨ m = 47 ∨ m = 48 ∨ m = 49 ∨ m = 50 ∨ m = 51 ∨ m = 52 ∨ m = 53 ∨ m = 54 ∨ m = 55 ∨ m = 56 ∨ m = 57 ∨ m = 58 ∨ m = 59 ∨ m = 60 ∨ m = 61 ∨ m = 62 ∨ m = 63 by omega) with e | e | e | e | e | e | e | e | e | e | e | e | e | e | e | e | e | e | e | e | e | e | e | e | e | e | e | e | e | e | e | e | e | e | e | e | e | e | e | e | e | e | e | e | e | e | e | e | e | e | e | e | e | e | e | e | e | e | e | e | e | e | e <;> subst e <;> rfl
theorem r_pby (X : Fx g) (W : WA a D) (h9 : ∀ p, p < vP a → tA t 193 p = nI (heard a p)) {z S q : Nat} (hz : z < 2 ^ 31) (hS : S < 2 ^ vP a) (h0 : S ≠ 0) (hq : q < vP a) (hM : ∀ T, T < S → tA t 196 T = nI (mp (fitp a z) (vP a) T)) : F_X12_pairsBy 183 (nI S) (nI q) (nI z) (Em g t) = some (if fitp a z (low S) q then nI (1 + mp (fitp a z) (vP a) (an_ (S &&& (S - 1)) (2 ^ q))) else -nI 1, Em g t) := by
  have hP := wP2 W
  have h64 : 2 ^ vP a ≤ 64 := Nat.pow_le_pow_right (n := 2) (by decide) hP
  obtain ⟨⟨l6, lb, la⟩, ln⟩ := low_c S (by omega) h0
  have hlP : low S < vP a := by
    rcases Nat.lt_or_ge (low S) (vP a) with h | h
    · exact h
    · rw [testBit_ge hS h] at lb; cases lb
  have hl := and_lt1 h0
  have hl2 := an_leS (S &&& (S - 1)) (2 ^ q)
  have hle := mp_le (F := fitp a z) (P := vP a) (an_ (S &&& (S - 1)) (2 ^ q))
  have e1 : nI S &&& (((1 : Int32) <<< (nI (low S) &&& 31)) ^^^ (-1)) = nI (S &&& (S - 1)) := by
    rw [show (1 : Int32) <<< (nI (low S) &&& 31) = nI (2 ^ low S) from v_pow (by omega), show (-1 : Int32) = -nI 1 from rfl, an_g, la]
  have e2 : nI (S &&& (S - 1)) &&& (((1 : Int32) <<< (nI q &&& 31)) ^^^ (-1)) = nI (an_ (S &&& (S - 1)) (2 ^ q)) := by
    rw [show (1 : Int32) <<< (nI q &&& 31) = nI (2 ^ q) from v_pow (by omega), show (-1 : Int32) = -nI 1 from rfl, an_g]
  unfold F_X12_pairsBy
  rw [r_low (by omega) h0, Option.bind_some, x_rc183 X, Option.bind_some, r_two X W h9 hz hlP hq, Option.bind_some]
  cases c : fitp a z (low S) q
  · rw [if_neg (show ¬ ¬ bI false = (0 : Int32) by decide)]
    rfl
  · rw [if_pos (show ¬ bI true = (0 : Int32) by decide), x_r183_27 X, Option.bind_some, e1, e2, x_a196 X (by omega), Option.bind_some, hM _ (by omega), show (1 : Int32) + nI (mp (fitp a z) (vP a) (an_ (S &&& (S - 1)) (2 ^ q))) = nI (1 + mp (fitp a z) (vP a) (an_ (S &&& (S - 1)) (2 ^ q))) from nI_add 1 _]
    rfl
theorem r_lp_i (X : Fx g) (W : WA a D) (ha : tA t 184 = a) (h9 : ∀ p, p < vP a → tA t 193 p = nI (heard a p)) {z S : Nat} (hz : z < 2 ^ 31) (hS : S < 2 ^ vP a) (h0 : S ≠ 0) (hM : ∀ T, T < S → tA t 196 T = nI (mp (fitp a z) (vP a) T)) (kk : Nat → Int32 → Int32 → xH → Option (Unit × xH)) : ∀ (d q fuel c : Nat), q + d = vP a → d < fuel → low S < q → c ≤ 64 → F_X12_laysPairs_b37 kk fuel 183 (nI z) (nI S) (nI c) (nI q) (Em g t) = kk 183 (nI z) (nI (S + 1)) (Em g (wa t 196 S (nI (mpl (fitp a z) (mp (fitp a z) (vP a)) (S &&& (S - 1)) (low S) d q c)))) := by
  have hP := wP2 W
  have h64 : 2 ^ vP a ≤ 64 := Nat.pow_le_pow_right (n := 2) (by decide) hP
  obtain ⟨⟨l6, lb, la⟩, ln⟩ := low_c S (by omega) h0
  have hl := and_lt1 h0
  have ha4 : aI (Em g t) 184 4 = some (nI (vP a)) := by
    have : aI (Em g t) 184 4 = some (tA t 184 4) := x_a184 X (k := 4) (by decide)
    rw [this, ha, wP W]
  intro d
  induction d with
  | zero =>
    intro q fuel c hq hf hlq hc
    obtain ⟨f, rfl⟩ : ∃ f, fuel = f + 1 := ⟨fuel - 1, by omega⟩
    have hq : q = vP a := by omega
    subst hq
    rw [F_X12_laysPairs_b37, x_r183_1 X, Option.bind_some, ha4, Option.bind_some, if_pos (by rw [nI_leI (by omega) (by omega)]; exact Nat.le_refl _), x_r183_27 X, Option.bind_some, x_s196 X (by omega), Option.bind_some, show nI S + 1 = nI (S + 1) from nI_add S 1]
    rfl
  | succ d ih =>
    intro q fuel c hq hf hlq hc
    obtain ⟨f, rfl⟩ : ∃ f, fuel = f + 1 := ⟨fuel - 1, by omega⟩
    have hqP : q < vP a := by omega
    have hn1 : nI q + 1 = nI (q + 1) := nI_add q 1
    have hbit : (S &&& (S - 1)).testBit q = S.testBit q := by
      rw [← la, an_bit, Nat.testBit_two_pow, decide_eq_false (by omega)]
      simp
    have hle := mp_le (F := fitp a z) (P := vP a) (an_ (S &&& (S - 1)) (2 ^ q))
    have hl2 := an_leS (S &&& (S - 1)) (2 ^ q)
    have hp := r_pby X W h9 hz hS h0 hqP hM
    rw [F_X12_laysPairs_b37, x_r183_1 X, Option.bind_some, ha4, Option.bind_some, if_neg (by rw [nI_leI (by omega) (by omega)]; omega), q_isIn (by omega) (by omega), Option.bind_some, hn1, mpl, hbit]
    cases c1 : S.testBit q
    · rw [if_pos (show bI false = (0 : Int32) by decide), Bool.false_and, if_neg (by decide)]
      exact ih (q + 1) f c (by omega) (by omega) (by omega) hc
    · rw [if_neg (show ¬ bI true = (0 : Int32) by decide), x_rc183 X, Option.bind_some, hp, Option.bind_some, Bool.true_and]
      cases c2 : fitp a z (low S) q
      · have hneg : -nI 1 ≤ nI c := by
          rw [fa_le, nI_toInt (by omega)]
          have : (-nI 1).toInt = -1 := rfl
          omega
        rw [ifb_f, if_pos hneg, ifb_f]
        exact ih (q + 1) f c (by omega) (by omega) (by omega) hc
      · rw [ifb_t, ifb_t]
        unfold mxn
        by_cases c3 : 1 + mp (fitp a z) (vP a) (an_ (S &&& (S - 1)) (2 ^ q)) ≤ c
        · rw [if_pos (show nI (1 + mp (fitp a z) (vP a) (an_ (S &&& (S - 1)) (2 ^ q))) ≤ nI c by rw [nI_leI (by omega) (by omega)]; exact c3)]
          have e : (if c ≤ 1 + mp (fitp a z) (vP a) (an_ (S &&& (S - 1)) (2 ^ q)) then 1 + mp (fitp a z) (vP a) (an_ (S &&& (S - 1)) (2 ^ q)) else c) = c := by split <;> omega
          rw [e]
          exact ih (q + 1) f c (by omega) (by omega) (by omega) hc
        · rw [c2, if_pos rfl] at hp
          rw [if_neg (show ¬ nI (1 + mp (fitp a z) (vP a) (an_ (S &&& (S - 1)) (2 ^ q))) ≤ nI c by rw [nI_leI (by omega) (by omega)]; exact c3), x_rc183 X, Option.bind_some, hp, Option.bind_some, if_pos (by omega)]
          exact ih (q + 1) f _ (by omega) (by omega) (by omega) (by omega)
theorem r_lp_l (X : Fx g) (W : WA a D) {z : Nat} (hz : z < 2 ^ 31) : ∀ (d S fuel : Nat) (t : Tb), S + d = 2 ^ vP a → 1 ≤ S → d < fuel → tA t 184 = a → (∀ p, p < vP a → tA t 193 p = nI (heard a p)) → (∀ T, T < S → tA t 196 T = nI (mp (fitp a z) (vP a) T)) → ∃ t', F_X12_laysPairs_b6 fuel 183 (nI z) (nI S) (Em g t) = some ((), Em g t') ∧ Ax 196 t t' ∧ (∀ T, T < 2 ^ vP a → tA t' 196 T = nI (mp (fitp a z) (vP a) T)) := by
  have hP := wP2 W
  have h64 : 2 ^ vP a ≤ 64 := Nat.pow_le_pow_right (n := 2) (by decide) hP
  intro d
  induction d with
  | zero =>
    intro S fuel t hS hS1 hf ha h9 hM
    obtain ⟨f, rfl⟩ : ∃ f, fuel = f + 1 := ⟨fuel - 1, by omega⟩
    have hS : S = 2 ^ vP a := by omega
    subst hS
    have ha4 : aI (Em g t) 184 4 = some (nI (vP a)) := by
      have : aI (Em g t) 184 4 = some (tA t 184 4) := x_a184 X (k := 4) (by decide)
      rw [this, ha, wP W]
    refine ⟨t, ?_, Ax_r, hM⟩
    rw [F_X12_laysPairs_b6, x_r183_1 X, Option.bind_some, ha4, Option.bind_some, show (1 : Int32) <<< (nI (vP a) &&& 31) = nI (2 ^ vP a) from v_pow (by omega), if_pos (by rw [nI_leI (by omega) (by omega)]; exact Nat.le_refl _)]
  | succ d ih =>
    intro S fuel t hS hS1 hf ha h9 hM
    obtain ⟨f, rfl⟩ : ∃ f, fuel = f + 1 := ⟨fuel - 1, by omega⟩
    have ha4 : aI (Em g t) 184 4 = some (nI (vP a)) := by
      have : aI (Em g t) 184 4 = some (tA t 184 4) := x_a184 X (k := 4) (by decide)
      rw [this, ha, wP W]
    have h0 : S ≠ 0 := by omega
    have hl := and_lt1 h0
    obtain ⟨⟨l6, lb, la⟩, ln⟩ := low_c S (by omega) h0
    have hlP : low S < vP a := by
      rcases Nat.lt_or_ge (low S) (vP a) with h | h
      · exact h
      · rw [testBit_ge (show S < 2 ^ vP a by omega) h] at lb; cases lb
    have hle := mp_le (F := fitp a z) (P := vP a) (S &&& (S - 1))
    have hfu : vP a - (low S + 1) < FU := by show vP a - (low S + 1) < 1000000; omega
    have hi := r_lp_i (t := t) X W ha h9 hz (show S < 2 ^ vP a by omega) h0 hM (F_X12_laysPairs_b6 f) (vP a - (low S + 1)) (low S + 1) FU (mp (fitp a z) (vP a) (S &&& (S - 1))) (by omega) hfu (by omega) (by omega)
    rw [← mp_eq h0] at hi
    obtain ⟨t2, e2, j2, k2⟩ := ih (S + 1) f (wa t 196 S (nI (mp (fitp a z) (vP a) S))) (by omega) (by omega) (by omega) (by rw [tA_an (by decide)]; exact ha) (fun p hp => by rw [tA_an (by decide)]; exact h9 p hp) (fun T hT => by
      rw [tA_as]
      by_cases e : T = S
      · rw [e, upd_s]
      · rw [upd_n e]; exact hM T (by omega))
    refine ⟨t2, ?_, Ax_t (Ax_wa Ax_r) j2, k2⟩
    have hsub : nI S &&& (nI S - 1) = nI (S &&& (S - 1)) := by
      rw [show nI S - 1 = nI (S - 1) from nI_sub hS1, fa_and]
    rw [F_X12_laysPairs_b6, x_r183_1 X, Option.bind_some, ha4, Option.bind_some, show (1 : Int32) <<< (nI (vP a) &&& 31) = nI (2 ^ vP a) from v_pow (by omega), if_neg (by rw [nI_leI (by omega) (by omega)]; omega), x_r183_27 X, Option.bind_some, hsub, x_a196 X (by omega), Option.bind_some, hM _ hl, r_low (by omega) h0, Option.bind_some, show nI (low S) + 1 = nI (low S + 1) from nI_add (low S) 1]
    exact hi.trans e2
theorem k_cp_i (X : Fx g) (W : WA a D) (h0' : tI t 153 0 = nI (vP a)) (h9 : ∀ p, p < vP a → tA t 154 p = nI (heard a p)) {z S : Nat} {y : Int32} (h1 : tI t 153 1 = nI z) (hz : z < 2 ^ 31) (hS : S < 2 ^ vP a) (h0 : S ≠ 0) (hM : ∀ T, T < S → tA t 156 T = nI (mp (fitp a z) (vP a) T)) (kk : Nat → Int32 → Int32 → xH → Option (Int32 × xH)) : ∀ (d q fuel c : Nat), q + d = vP a → d < fuel → c ≤ 64 → F_X7_countPairs_b49 kk fuel 153 y (nI S) (nI (low S)) (nI (S &&& (S - 1))) (nI c) (nI q) (Em g t) = kk 153 y (nI (S + 1)) (Em g (wa t 156 S (nI (mpl (fitp a z) (mp (fitp a z) (vP a)) (S &&& (S - 1)) (low S) d q c)))) := by
  have hP := wP2 W
  have h64 : 2 ^ vP a ≤ 64 := Nat.pow_le_pow_right (n := 2) (by decide) hP
  obtain ⟨⟨l6, lb, la⟩, ln⟩ := low_c S (by omega) h0
  have hl := and_lt1 h0
  have hlP : low S < vP a := by
    rcases Nat.lt_or_ge (low S) (vP a) with h | h
    · exact h
    · rw [testBit_ge hS h] at lb; cases lb
  have b1 : ∀ b : Bool, (bI b = (1 : Int32)) ↔ (b = true) := by decide
  intro d
  induction d with
  | zero =>
    intro q fuel c hq hf hc
    obtain ⟨f, rfl⟩ : ∃ f, fuel = f + 1 := ⟨fuel - 1, by omega⟩
    have hq : q = vP a := by omega
    subst hq
    rw [F_X7_countPairs_b49, x_i153_0 X, Option.bind_some, h0', if_pos (by rw [nI_leI (by omega) (by omega)]; exact Nat.le_refl _), x_r153_4 X, Option.bind_some, x_s156 X (by omega), Option.bind_some, show nI S + 1 = nI (S + 1) from nI_add S 1]
    rfl
  | succ d ih =>
    intro q fuel c hq hf hc
    obtain ⟨f, rfl⟩ : ∃ f, fuel = f + 1 := ⟨fuel - 1, by omega⟩
    have hqP : q < vP a := by omega
    have hn1 : nI q + 1 = nI (q + 1) := nI_add q 1
    have hle := mp_le (F := fitp a z) (P := vP a) (an_ (S &&& (S - 1)) (2 ^ q))
    have hl2 := an_leS (S &&& (S - 1)) (2 ^ q)
    have hsh : (nI (S &&& (S - 1)) >>> (nI q &&& 31)) &&& 1 = bI ((S &&& (S - 1)).testBit q) := by
      show (nI (S &&& (S - 1)) >>> (nI q &&& nI 31)) &&& nI 1 = _
      rw [v_shr (by omega) (by omega), v_bit]
    have e2 : nI (S &&& (S - 1)) &&& (((1 : Int32) <<< (nI q &&& 31)) ^^^ (-1)) = nI (an_ (S &&& (S - 1)) (2 ^ q)) := by
      rw [show (1 : Int32) <<< (nI q &&& 31) = nI (2 ^ q) from v_pow (by omega), show (-1 : Int32) = -nI 1 from rfl, an_g]
    have hmx : ∀ h : xH, F_J9_max_7cf53 (nI c) (nI (1 + mp (fitp a z) (vP a) (an_ (S &&& (S - 1)) (2 ^ q)))) h = some (nI (mxn c (1 + mp (fitp a z) (vP a) (an_ (S &&& (S - 1)) (2 ^ q)))), h) := by
      intro h
      unfold F_J9_max_7cf53 mxn
      simp (disch := omega) only [nI_ltI]
      by_cases c3 : c < 1 + mp (fitp a z) (vP a) (an_ (S &&& (S - 1)) (2 ^ q))
      · rw [if_pos c3, if_pos (by omega)]
      · rw [if_neg c3]
        by_cases c4 : c ≤ 1 + mp (fitp a z) (vP a) (an_ (S &&& (S - 1)) (2 ^ q))
        · rw [if_pos c4, show c = 1 + mp (fitp a z) (vP a) (an_ (S &&& (S - 1)) (2 ^ q)) by omega]
        · rw [if_neg c4]
    rw [F_X7_countPairs_b49, x_i153_0 X, Option.bind_some, h0', if_neg (by rw [nI_leI (by omega) (by omega)]; omega), hsh, hn1, mpl]
    cases c1 : (S &&& (S - 1)).testBit q
    · rw [if_pos (show ¬ bI false = (1 : Int32) by decide), Bool.false_and, if_neg (by decide)]
      exact ih (q + 1) f c (by omega) (by omega) hc
    · rw [if_neg (show ¬ ¬ bI true = (1 : Int32) by decide), x_rc153 X, Option.bind_some, k_fit X W h9 h1 hz hlP hqP, Option.bind_some, Bool.true_and]
      cases c2 : fitp a z (low S) q
      · rw [if_pos (show bI false = (0 : Int32) by decide), if_neg (by decide)]
        exact ih (q + 1) f c (by omega) (by omega) hc
      · rw [if_neg (show ¬ bI true = (0 : Int32) by decide), x_r153_4 X, Option.bind_some, e2, x_a156 X (by omega), Option.bind_some, hM _ (by omega), show (1 : Int32) + nI (mp (fitp a z) (vP a) (an_ (S &&& (S - 1)) (2 ^ q))) = nI (1 + mp (fitp a z) (vP a) (an_ (S &&& (S - 1)) (2 ^ q))) from nI_add 1 _, hmx, Option.bind_some, if_pos rfl]
        refine ih (q + 1) f _ (by omega) (by omega) ?_
        unfold mxn
        split <;> omega
end XPa
