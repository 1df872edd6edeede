/-! ===== calls: pairs ===== -/
def fpl (f : Nat → Bool) (P : Nat) : Nat → Nat → Nat
  | 0, _ => P
  | d + 1, q => if f q then q else fpl f P d (q + 1)
def pqt (F : Nat → Nat → Bool) (P S l q : Nat) : Bool := (an_ S (2 ^ l)).testBit q && F l q && decide (1 + mp F P (an_ (an_ S (2 ^ l)) (2 ^ q)) = mp F P S)
def fpq (F : Nat → Nat → Bool) (P S l : Nat) : Nat := fpl (pqt F P S l) P (P - (l + 1)) (l + 1)
def qIp (P q : Nat) : Int32 := if q = P then -nI 1 else nI q
def rmv (P S k q : Nat) : Nat := if q = P then an_ S (2 ^ k) else an_ (an_ S (2 ^ k)) (2 ^ q)
def prt (F : Nat → Nat → Bool) (P i : Nat) : Nat → Nat → Nat → Int32
  | 0, _, _ => -nI 1
  | d + 1, k, S => if S.testBit k then (if k = i then qIp P (fpq F P S k) else if fpq F P S k = i then nI k else prt F P i d (k + 1) (rmv P S k (fpq F P S k))) else prt F P i d (k + 1) S
theorem fpl_r {f : Nat → Bool} {P : Nat} : ∀ (d q : Nat), q + d = P → fpl f P d q = P ∨ (q ≤ fpl f P d q ∧ fpl f P d q < P ∧ f (fpl f P d q) = true)
  | 0, _, _ => Or.inl rfl
  | d + 1, q, h => by
    rw [fpl]
    by_cases c : f q = true
    · rw [if_pos c]; exact Or.inr ⟨Nat.le_refl q, by omega, c⟩
    · rw [if_neg c]
      rcases fpl_r (f := f) (P := P) d (q + 1) (by omega) with h2 | ⟨h2, h3, h4⟩
      · exact Or.inl h2
      · exact Or.inr ⟨by omega, h3, h4⟩
section XPb
variable {g : Sk} {t : Tb} {a : Nat → Int32}
variable {D v x nx p : Nat} {t' t'' t1 t2 : Tb}
theorem k_cp_l (X : Fx g) (W : WA a D) {z : Nat} (hz : z < 2 ^ 31) : ∀ (d S fuel : Nat) (t : Tb), S + d = 2 ^ vP a → 1 ≤ S → d < fuel → tI t 153 0 = nI (vP a) → tI t 153 1 = nI z → (∀ p, p < vP a → tA t 154 p = nI (heard a p)) → (∀ T, T < S → tA t 156 T = nI (mp (fitp a z) (vP a) T)) → ∃ t', F_X7_countPairs_b18 fuel 153 (nI (2 ^ vP a - 1)) (nI S) (Em g t) = some (nI (mp (fitp a z) (vP a) (2 ^ vP a - 1)), Em g t') ∧ Ax 156 t t' ∧ (∀ T, T < 2 ^ vP a → tA t' 156 T = nI (mp (fitp a z) (vP a) T)) := by
  have hP := wP2 W
  have h64 : 2 ^ vP a ≤ 64 := Nat.pow_le_pow_right (n := 2) (by decide) hP
  intro d
  induction d with
  | zero =>
    intro S fuel t hS hS1 hf h0 h1 h9 hM
    obtain ⟨f, rfl⟩ : ∃ f, fuel = f + 1 := ⟨fuel - 1, by omega⟩
    have hS : S = 2 ^ vP a := by omega
    subst hS
    refine ⟨t, ?_, Ax_r, hM⟩
    rw [F_X7_countPairs_b18, if_pos (by rw [nI_ltI (by omega) (by omega)]; omega), x_r153_4 X, Option.bind_some, x_a156 X (by omega), Option.bind_some, hM _ (by omega)]
  | succ d ih =>
    intro S fuel t hS hS1 hf h0 h1 h9 hM
    obtain ⟨f, rfl⟩ : ∃ f, fuel = f + 1 := ⟨fuel - 1, by omega⟩
    have h0' : S ≠ 0 := by omega
    have hl := and_lt1 h0'
    obtain ⟨⟨l6, lb, la⟩, ln⟩ := low_c S (by omega) h0'
    have hlP : low S < vP a := by
      rcases Nat.lt_or_ge (low S) (vP a) with h | h
      · exact h
      · rw [testBit_ge (show S < 2 ^ vP a by omega) h] at lb; cases lb
    have hle := mp_le (F := fitp a z) (P := vP a) (S &&& (S - 1))
    have hfu : vP a - (low S + 1) < FU := by show vP a - (low S + 1) < 1000000; omega
    have hi := k_cp_i (t := t) (y := nI (2 ^ vP a - 1)) X W h0 h9 h1 hz (show S < 2 ^ vP a by omega) h0' hM (F_X7_countPairs_b18 f) (vP a - (low S + 1)) (low S + 1) FU (mp (fitp a z) (vP a) (S &&& (S - 1))) (by omega) hfu (by omega)
    rw [← mp_eq h0'] at hi
    obtain ⟨t2, e2, j2, k2⟩ := ih (S + 1) f (wa t 156 S (nI (mp (fitp a z) (vP a) S))) (by omega) (by omega) (by omega) h0 h1 (fun p hp => by rw [tA_an (by decide)]; exact h9 p hp) (fun T hT => by
      rw [tA_as]
      by_cases e : T = S
      · rw [e, upd_s]
      · rw [upd_n e]; exact hM T (by omega))
    refine ⟨t2, ?_, Ax_t (Ax_wa Ax_r) j2, k2⟩
    have hsub : nI S &&& (nI S - 1) = nI (S &&& (S - 1)) := by
      rw [show nI S - 1 = nI (S - 1) from nI_sub hS1, fa_and]
    rw [F_X7_countPairs_b18, if_neg (by rw [nI_ltI (by omega) (by omega)]; omega), k_tz S (by omega) h0', Option.bind_some, x_r153_4 X, Option.bind_some, hsub, x_a156 X (by omega), Option.bind_some, hM _ hl, show nI (low S) + 1 = nI (low S + 1) from nI_add (low S) 1]
    exact hi.trans e2
theorem k_fp_l (X : Fx g) (W : WA a D) (h0 : tI t 153 0 = nI (vP a)) (h9 : ∀ p, p < vP a → tA t 154 p = nI (heard a p)) {z S l : Nat} (h1 : tI t 153 1 = nI z) (hz : z < 2 ^ 31) (hS : S < 2 ^ vP a) (hl : l < vP a) (hM : ∀ T, T < 2 ^ vP a → tA t 156 T = nI (mp (fitp a z) (vP a) T)) : ∀ (d q fuel : Nat), q + d = vP a → d < fuel → F_X7_firstPartner_b13 fuel 153 (nI l) (nI S) (nI (an_ S (2 ^ l))) (nI q) (Em g t) = some (qIp (vP a) (fpl (pqt (fitp a z) (vP a) S l) (vP a) d q), Em g t) := by
  have hP := wP2 W
  have h64 : 2 ^ vP a ≤ 64 := Nat.pow_le_pow_right (n := 2) (by decide) hP
  have hal := an_leS S (2 ^ l)
  intro d
  induction d with
  | zero =>
    intro q fuel hq hf
    obtain ⟨f, rfl⟩ : ∃ f, fuel = f + 1 := ⟨fuel - 1, by omega⟩
    have hq : q = vP a := by omega
    subst hq
    rw [F_X7_firstPartner_b13, x_i153_0 X, Option.bind_some, h0, if_pos (by rw [nI_leI (by omega) (by omega)]; exact Nat.le_refl _), fpl]
    unfold qIp
    rw [if_pos rfl]
    rfl
  | succ d ih =>
    intro q fuel hq hf
    obtain ⟨f, rfl⟩ : ∃ f, fuel = f + 1 := ⟨fuel - 1, by omega⟩
    have hqP : q < vP a := by omega
    have hn1 : nI q + 1 = nI (q + 1) := nI_add q 1
    have hal2 := an_leS (an_ S (2 ^ l)) (2 ^ q)
    have hle := mp_le (F := fitp a z) (P := vP a) (an_ (an_ S (2 ^ l)) (2 ^ q))
    have hle2 := mp_le (F := fitp a z) (P := vP a) S
    have hsh : (nI (an_ S (2 ^ l)) >>> (nI q &&& 31)) &&& 1 = bI ((an_ S (2 ^ l)).testBit q) := by
      show (nI (an_ S (2 ^ l)) >>> (nI q &&& nI 31)) &&& nI 1 = _
      rw [v_shr (by omega) (by omega), v_bit]
    have e2 : nI (an_ S (2 ^ l)) &&& (((1 : Int32) <<< (nI q &&& 31)) ^^^ (-1)) = nI (an_ (an_ S (2 ^ l)) (2 ^ q)) := by
      rw [show (1 : Int32) <<< (nI q &&& 31) = nI (2 ^ q) from v_pow (by omega), show (-1 : Int32) = -nI 1 from rfl, an_g]
    have hi := ih (q + 1) f (by omega) (by omega)
    rw [F_X7_firstPartner_b13, x_i153_0 X, Option.bind_some, h0, if_neg (by rw [nI_leI (by omega) (by omega)]; omega), hsh, fpl]
    unfold F_X7_firstPartner_b37
    rw [hn1]
    cases c1 : (an_ S (2 ^ l)).testBit q
    · have hp : pqt (fitp a z) (vP a) S l q = false := by unfold pqt; rw [c1]; rfl
      rw [if_pos (show ¬ bI false = (1 : Int32) by decide), if_pos (show (0 : Int32) = 0 from rfl), hp, ifb_f]
      exact hi
    · rw [if_neg (show ¬ ¬ bI true = (1 : Int32) by decide), if_neg (show ¬ (1 : Int32) = 0 by decide), x_rc153 X, Option.bind_some, k_fit X W h9 h1 hz hl hqP, Option.bind_some]
      cases c2 : fitp a z l q
      · have hp : pqt (fitp a z) (vP a) S l q = false := by unfold pqt; rw [c1, c2]; rfl
        rw [if_pos (show bI false = (0 : Int32) by decide), hp, ifb_f]
        exact hi
      · rw [if_neg (show ¬ bI true = (0 : Int32) by decide), x_r153_4 X, Option.bind_some, e2, x_a156 X (by omega), Option.bind_some, hM _ (by omega), Option.bind_some, x_a156 X (by omega), Option.bind_some, hM S hS, show (1 : Int32) + nI (mp (fitp a z) (vP a) (an_ (an_ S (2 ^ l)) (2 ^ q))) = nI (1 + mp (fitp a z) (vP a) (an_ (an_ S (2 ^ l)) (2 ^ q))) from nI_add 1 _]
        by_cases c3 : 1 + mp (fitp a z) (vP a) (an_ (an_ S (2 ^ l)) (2 ^ q)) = mp (fitp a z) (vP a) S
        · have hp : pqt (fitp a z) (vP a) S l q = true := by unfold pqt; rw [c1, c2, decide_eq_true c3]; rfl
          rw [if_neg (fun h => h (by rw [c3])), hp, ifb_t]
          unfold qIp
          rw [if_neg (by omega)]
        · have hp : pqt (fitp a z) (vP a) S l q = false := by unfold pqt; rw [c1, c2, decide_eq_false c3]; rfl
          rw [if_pos (show ¬ nI (1 + mp (fitp a z) (vP a) (an_ (an_ S (2 ^ l)) (2 ^ q))) = nI (mp (fitp a z) (vP a) S) by rw [nI_eq (by omega) (by omega)]; exact c3), hp, ifb_f]
          exact hi
theorem fpq_r {F : Nat → Nat → Bool} {P S l : Nat} (hl : l < P) : fpq F P S l = P ∨ (l < fpq F P S l ∧ fpq F P S l < P) := by
  unfold fpq
  rcases fpl_r (f := pqt F P S l) (P := P) (P - (l + 1)) (l + 1) (by omega) with h | ⟨h1, h2, _⟩
  · exact Or.inl h
  · exact Or.inr ⟨by omega, h2⟩
theorem k_po_l (X : Fx g) (W : WA a D) (h0 : tI t 153 0 = nI (vP a)) (h9 : ∀ p, p < vP a → tA t 154 p = nI (heard a p)) {z i : Nat} (h1 : tI t 153 1 = nI z) (hz : z < 2 ^ 31) (hi : i < vP a) (hM : ∀ T, T < 2 ^ vP a → tA t 156 T = nI (mp (fitp a z) (vP a) T)) : ∀ (d k fuel S : Nat), k + d = vP a → d < fuel → S < 2 ^ vP a → F_X7_partnerOf_b11 fuel 153 (nI i) (nI S) (nI k) (Em g t) = some (prt (fitp a z) (vP a) i d k S, Em g t) := by
  have hP := wP2 W
  have h64 : 2 ^ vP a ≤ 64 := Nat.pow_le_pow_right (n := 2) (by decide) hP
  intro d
  induction d with
  | zero =>
    intro k fuel S hk hf hS
    obtain ⟨f, rfl⟩ : ∃ f, fuel = f + 1 := ⟨fuel - 1, by omega⟩
    have hk : k = vP a := by omega
    subst hk
    rw [F_X7_partnerOf_b11, x_i153_0 X, Option.bind_some, h0, if_pos (by rw [nI_leI (by omega) (by omega)]; exact Nat.le_refl _)]
    rfl
  | succ d ih =>
    intro k fuel S hk hf hS
    obtain ⟨f, rfl⟩ : ∃ f, fuel = f + 1 := ⟨fuel - 1, by omega⟩
    have hkP : k < vP a := by omega
    have hn1 : nI k + 1 = nI (k + 1) := nI_add k 1
    have hal := an_leS S (2 ^ k)
    have hsh : (nI S >>> (nI k &&& 31)) &&& 1 = bI (S.testBit k) := by
      show (nI S >>> (nI k &&& nI 31)) &&& nI 1 = _
      rw [v_shr (by omega) (by omega), v_bit]
    have e2 : nI S &&& (((1 : Int32) <<< (nI k &&& 31)) ^^^ (-1)) = nI (an_ S (2 ^ k)) := by
      rw [show (1 : Int32) <<< (nI k &&& 31) = nI (2 ^ k) from v_pow (by omega), show (-1 : Int32) = -nI 1 from rfl, an_g]
    rw [F_X7_partnerOf_b11, x_i153_0 X, Option.bind_some, h0, if_neg (by rw [nI_leI (by omega) (by omega)]; omega), hsh, prt]
    cases c1 : S.testBit k
    · rw [if_pos (show ¬ bI false = (1 : Int32) by decide), ifb_f, hn1]
      exact ih (k + 1) f S (by omega) (by omega) hS
    · have hfu : vP a - (k + 1) < FU := by show vP a - (k + 1) < 1000000; omega
      have hfp := k_fp_l (t := t) (l := k) X W h0 h9 h1 hz hS hkP hM (vP a - (k + 1)) (k + 1) FU (by omega) hfu
      have hfp' : F_X7_firstPartner 153 (nI k) (nI S) (Em g t) = some (qIp (vP a) (fpq (fitp a z) (vP a) S k), Em g t) := by
        unfold F_X7_firstPartner
        rw [e2, hn1]
        exact hfp
      rw [if_neg (show ¬ ¬ bI true = (1 : Int32) by decide), ifb_t, x_rc153 X, Option.bind_some, hfp', Option.bind_some, e2]
      by_cases ck : k = i
      · rw [if_pos (by rw [ck]), if_pos ck]
        unfold F_X7_partnerOf_b47
        rw [if_neg (fun h => h (by rw [ck]))]
      · have ck' : ¬ nI k = nI i := by rw [nI_eq (by omega) (by omega)]; exact ck
        rw [if_neg ck', if_neg ck]
        rcases fpq_r (F := fitp a z) (S := S) hkP with hq | ⟨hq1, hq2⟩
        · have hqI : qIp (vP a) (fpq (fitp a z) (vP a) S k) = -nI 1 := if_pos hq
          have hne : ¬ -nI 1 = nI i := fun h => by
            have := nI_m1e (a := i) (by omega)
            rw [h.symm] at this
            simp at this
          rw [hqI, if_pos hne, if_neg (show ¬ ¬ -nI 1 = (-1 : Int32) from fun h => h rfl), if_neg (by omega)]
          unfold F_X7_partnerOf_b84 rmv
          rw [fa_and, Nat.and_self, hn1, if_pos hq]
          exact ih (k + 1) f _ (by omega) (by omega) (by omega)
        · have hqI : qIp (vP a) (fpq (fitp a z) (vP a) S k) = nI (fpq (fitp a z) (vP a) S k) := if_neg (by omega)
          rw [hqI]
          by_cases cq : fpq (fitp a z) (vP a) S k = i
          · rw [if_neg (fun h => h (by rw [cq])), if_pos cq]
            unfold F_X7_partnerOf_b47
            rw [if_pos ck']
          · have hne : ¬ nI (fpq (fitp a z) (vP a) S k) = (-1 : Int32) := by
              show ¬ nI (fpq (fitp a z) (vP a) S k) = -nI 1
              rw [nI_m1e (by omega)]
              exact id
            have hal2 := an_leS (an_ S (2 ^ k)) (2 ^ fpq (fitp a z) (vP a) S k)
            rw [if_pos (show ¬ nI (fpq (fitp a z) (vP a) S k) = nI i by rw [nI_eq (by omega) (by omega)]; exact cq), if_pos hne, if_neg cq]
            unfold F_X7_partnerOf_b84 rmv
            rw [show (1 : Int32) <<< (nI (fpq (fitp a z) (vP a) S k) &&& 31) = nI (2 ^ fpq (fitp a z) (vP a) S k) from v_pow (by omega), show (-1 : Int32) = -nI 1 from rfl, an_g, hn1, if_neg (by omega)]
            exact ih (k + 1) f _ (by omega) (by omega) (by omega)
/-! the reference's partner -/
theorem r_fp_l (X : Fx g) (W : WA a D) (ha : tA t 184 = a) (h9 : ∀ p, p < vP a → tA t 193 p = nI (heard a p)) {z S : Nat} {y : Int32} (hz : z < 2 ^ 31) (hS : S < 2 ^ vP a) (h0 : S ≠ 0) (hM : ∀ T, T < 2 ^ vP a → tA t 196 T = nI (mp (fitp a z) (vP a) T)) (kk : Nat → Int32 → Int32 → Int32 → xH → Option (Int32 × xH)) : ∀ (d q fuel : Nat), q + d = vP a → d < fuel → low S < q → F_X12_pairs_b86 kk fuel 183 (nI z) (nI S) y (nI (low S)) (nI q) (Em g t) = F_X12_pairs_b130 kk 183 (nI z) (nI S) y (nI (low S)) (nI (fpl (pqt (fitp a z) (vP a) S (low S)) (vP a) d q)) (Em g t) := by
  have hP := wP2 W
  have h64 : 2 ^ vP a ≤ 64 := Nat.pow_le_pow_right (n := 2) (by decide) hP
  obtain ⟨⟨l6, lb, la⟩, ln⟩ := low_c S (by omega) h0
  have ha4 : aI (Em g t) 184 4 = some (nI (vP a)) := by
    have : aI (Em g t) 184 4 = some (tA t 184 4) := x_a184 X (k := 4) (by decide)
    rw [this, ha, wP W]
  intro d
  induction d with
  | zero =>
    intro q fuel hq hf hlq
    obtain ⟨f, rfl⟩ : ∃ f, fuel = f + 1 := ⟨fuel - 1, by omega⟩
    have hq : q = vP a := by omega
    subst hq
    rw [F_X12_pairs_b86, x_r183_1 X, Option.bind_some, ha4, Option.bind_some, if_pos (by rw [nI_leI (by omega) (by omega)]; exact Nat.le_refl _)]
    rfl
  | succ d ih =>
    intro q fuel hq hf hlq
    obtain ⟨f, rfl⟩ : ∃ f, fuel = f + 1 := ⟨fuel - 1, by omega⟩
    have hqP : q < vP a := by omega
    have hn1 : nI q + 1 = nI (q + 1) := nI_add q 1
    have hbit : (an_ S (2 ^ low S)).testBit q = S.testBit q := by
      rw [an_bit, Nat.testBit_two_pow, decide_eq_false (by omega)]
      simp
    have hal := an_leS (S &&& (S - 1)) (2 ^ q)
    have hl := and_lt1 h0
    have hle := mp_le (F := fitp a z) (P := vP a) (an_ (S &&& (S - 1)) (2 ^ q))
    have hle2 := mp_le (F := fitp a z) (P := vP a) S
    have hp := r_pby X W h9 hz hS h0 hqP (fun T hT => hM T (by omega))
    have hi := ih (q + 1) f (by omega) (by omega) (by omega)
    rw [F_X12_pairs_b86, x_r183_1 X, Option.bind_some, ha4, Option.bind_some, if_neg (by rw [nI_leI (by omega) (by omega)]; omega), q_isIn (by omega) (by omega), Option.bind_some, hn1, fpl]
    cases c1 : S.testBit q
    · have hpq : pqt (fitp a z) (vP a) S (low S) q = false := by unfold pqt; rw [hbit, c1]; rfl
      rw [if_pos (show bI false = (0 : Int32) by decide), hpq, ifb_f]
      exact hi
    · rw [if_neg (show ¬ bI true = (0 : Int32) by decide), x_rc183 X, Option.bind_some, hp, Option.bind_some, x_r183_27 X, Option.bind_some, x_a196 X (by omega), Option.bind_some, hM S hS]
      cases c2 : fitp a z (low S) q
      · have hpq : pqt (fitp a z) (vP a) S (low S) q = false := by unfold pqt; rw [c2, Bool.and_false]; rfl
        have hne : ¬ -nI 1 = nI (mp (fitp a z) (vP a) S) := fun h => by
          have := nI_m1e (a := mp (fitp a z) (vP a) S) (by omega)
          rw [h.symm] at this
          simp at this
        rw [ifb_f, if_neg hne, hpq, ifb_f]
        exact hi
      · rw [ifb_t]
        by_cases c3 : 1 + mp (fitp a z) (vP a) (an_ (S &&& (S - 1)) (2 ^ q)) = mp (fitp a z) (vP a) S
        · have hpq : pqt (fitp a z) (vP a) S (low S) q = true := by unfold pqt; rw [hbit, c1, c2, la, decide_eq_true c3]; rfl
          rw [if_pos (by rw [c3]), hpq, ifb_t]
        · have hpq : pqt (fitp a z) (vP a) S (low S) q = false := by unfold pqt; rw [hbit, c1, c2, la, decide_eq_false c3]; rfl
          rw [if_neg (by rw [nI_eq (by omega) (by omega)]; exact c3), hpq, ifb_f]
          exact hi
theorem r_po_l (X : Fx g) (W : WA a D) (ha : tA t 184 = a) (h9 : ∀ p, p < vP a → tA t 193 p = nI (heard a p)) {z i : Nat} (hz : z < 2 ^ 31) (hi : i < vP a) (hM : ∀ T, T < 2 ^ vP a → tA t 196 T = nI (mp (fitp a z) (vP a) T)) : ∀ (d k fuel S : Nat), k + d = vP a → d < fuel → S < 2 ^ vP a → S.testBit i = true → (∀ j, j < k → S.testBit j = false) → F_X12_pairs_b74 fuel 183 (nI z) (nI S) (nI i) (Em g t) = some (prt (fitp a z) (vP a) i d k S, Em g t) := by
  have hP := wP2 W
  have h64 : 2 ^ vP a ≤ 64 := Nat.pow_le_pow_right (n := 2) (by decide) hP
  have ha4 : aI (Em g t) 184 4 = some (nI (vP a)) := by
    have : aI (Em g t) 184 4 = some (tA t 184 4) := x_a184 X (k := 4) (by decide)
    rw [this, ha, wP W]
  intro d
  induction d with
  | zero =>
    intro k fuel S hk hf hS hiS hno
    rw [hno i (by omega)] at hiS
    cases hiS
  | succ d ih =>
    intro k fuel S hk hf hS hiS hno
    have hkP : k < vP a := by omega
    rw [prt]
    cases c1 : S.testBit k
    · rw [ifb_f]
      exact ih (k + 1) fuel S (by omega) (by omega) hS hiS (fun j hj => by
        by_cases e : j = k
        · rw [e]; exact c1
        · exact hno j (by omega))
    · obtain ⟨f, rfl⟩ : ∃ f, fuel = f + 1 := ⟨fuel - 1, by omega⟩
      have h0 : S ≠ 0 := by
        rintro rfl
        simp at hiS
      have hlow : low S = k := first_eq (n := 6) (by omega) c1 hno
      have hfu : vP a - (k + 1) < FU := by show vP a - (k + 1) < 1000000; omega
      have hfl := r_fp_l (t := t) (y := nI i) X W ha h9 hz hS h0 hM (F_X12_pairs_b74 f) (vP a - (k + 1)) (k + 1) FU (by omega) hfu (by omega)
      rw [hlow] at hfl
      have hfl' : F_X12_pairs_b86 (F_X12_pairs_b74 f) FU 183 (nI z) (nI S) (nI i) (nI k) (nI (k + 1)) (Em g t) = F_X12_pairs_b130 (F_X12_pairs_b74 f) 183 (nI z) (nI S) (nI i) (nI k) (nI (fpq (fitp a z) (vP a) S k)) (Em g t) := hfl
      have hhead : F_X12_pairs_b74 (f + 1) 183 (nI z) (nI S) (nI i) (Em g t) = F_X12_pairs_b130 (F_X12_pairs_b74 f) 183 (nI z) (nI S) (nI i) (nI k) (nI (fpq (fitp a z) (vP a) S k)) (Em g t) := by
        rw [F_X12_pairs_b74, r_low (by omega) h0, Option.bind_some, hlow, show nI k + 1 = nI (k + 1) from nI_add k 1]
        exact hfl'
      have h144 : ∀ q, q ≤ vP a → F_X12_pairs_b144 183 (nI i) (nI k) (nI q) (Em g t) = some (if q = vP a then -nI 1 else if k = i then nI q else nI k, Em g t) := by
        intro q hq
        unfold F_X12_pairs_b144
        rw [x_r183_1 X, Option.bind_some, ha4, Option.bind_some]
        by_cases c : q = vP a
        · rw [if_neg (fun h => h (by rw [c])), if_pos c]
          rfl
        · rw [if_pos (show ¬ nI q = nI (vP a) by rw [nI_eq (by omega) (by omega)]; exact c), if_neg c]
          by_cases c2 : k = i
          · rw [if_neg (fun h => h (by rw [c2])), if_pos c2]
          · rw [if_pos (show ¬ nI k = nI i by rw [nI_eq (by omega) (by omega)]; exact c2), if_neg c2]
      have e2 : nI S &&& (((1 : Int32) <<< (nI k &&& 31)) ^^^ (-1)) = nI (an_ S (2 ^ k)) := by
        rw [show (1 : Int32) <<< (nI k &&& 31) = nI (2 ^ k) from v_pow (by omega), show (-1 : Int32) = -nI 1 from rfl, an_g]
      have hal := an_leS S (2 ^ k)
      have hqr := fpq_r (F := fitp a z) (S := S) hkP
      have hqle : fpq (fitp a z) (vP a) S k ≤ vP a := by omega
      rw [hhead, ifb_t]
      unfold F_X12_pairs_b130
      by_cases ck : k = i
      · rw [if_pos (by rw [ck]), if_pos ck, h144 _ hqle]
        unfold qIp
        by_cases c : fpq (fitp a z) (vP a) S k = vP a
        · rw [if_pos c, if_pos c]
        · rw [if_neg c, if_neg c, if_pos ck]
      · rw [if_neg (show ¬ nI k = nI i by rw [nI_eq (by omega) (by omega)]; exact ck), if_neg ck]
        by_cases cq : fpq (fitp a z) (vP a) S k = i
        · rw [if_neg (fun h => h (by rw [cq])), if_pos cq, h144 _ hqle, if_neg (by omega), if_neg ck]
        · rw [if_pos (show ¬ nI (fpq (fitp a z) (vP a) S k) = nI i by rw [nI_eq (by omega) (by omega)]; exact cq), if_neg cq, x_r183_1 X, Option.bind_some, ha4, Option.bind_some, e2]
          have keep : ∀ T : Nat, (∀ j, T.testBit j = (S.testBit j && !decide (k = j))) → T.testBit i = true ∧ ∀ j, j < k + 1 → T.testBit j = false := by
            intro T hT
            constructor
            · rw [hT, hiS, decide_eq_false ck]
              rfl
            · intro j hj
              rw [hT]
              by_cases e : k = j
              · rw [decide_eq_true e, Bool.not_true, Bool.and_false]
              · rw [hno j (by omega), Bool.false_and]
          have hk1 := keep (an_ S (2 ^ k)) (fun j => by rw [an_bit, Nat.testBit_two_pow])
          by_cases c : fpq (fitp a z) (vP a) S k = vP a
          · rw [if_neg (fun h => h (by rw [c])), fa_and, Nat.and_self]
            unfold rmv
            rw [if_pos c]
            exact ih (k + 1) f _ (by omega) (by omega) (by omega) hk1.1 hk1.2
          · have hal2 := an_leS (an_ S (2 ^ k)) (2 ^ fpq (fitp a z) (vP a) S k)
            rw [if_pos (show ¬ nI (fpq (fitp a z) (vP a) S k) = nI (vP a) by rw [nI_eq (by omega) (by omega)]; exact c), show (1 : Int32) <<< (nI (fpq (fitp a z) (vP a) S k) &&& 31) = nI (2 ^ fpq (fitp a z) (vP a) S k) from v_pow (by omega), show (-1 : Int32) = -nI 1 from rfl, an_g]
            unfold rmv
            rw [if_neg c]
            refine ih (k + 1) f _ (by omega) (by omega) (by omega) ?_ ?_
            · rw [an_bit, hk1.1, Nat.testBit_two_pow, decide_eq_false cq]
              rfl
            · intro j hj
              rw [an_bit, hk1.2 j hj, Bool.false_and]
theorem IV_196 {n : Nat} (I : IV g t v a D n nx) (s : Sw (fun b => decide (b = 196)) g t t') (h0 : tA t' 196 0 = nI 0) : IV g t' v a D n nx := by
  obtain ⟨X, ha, C, H, T, M, R⟩ := I
  have hp : ∀ b, b ≠ 196 → (fun b => decide (b = 196)) b = false := fun b h => decide_eq_false h
  refine ⟨X, by rw [s.2.1 184 (hp _ (by decide)) (sc_x X rfl)]; exact ha, CP_w X (fun b hb => hp b (by omega)) C s, HP_w X (fun b _ _ => hp b (by omega)) H s, Tr_w X (fun b hb => hp b (by omega)) T s, Im_w X (fun b hb => hp b (by omega)) (Nat.le_refl D) C.1.2.2 (fun _ _ => rfl) M s, ?_⟩
  unfold Rd
  rw [s.1 70 1 (hp _ (by decide)) rfl, s.1 70 11 (hp _ (by decide)) rfl, s.1 70 12 (hp _ (by decide)) rfl, s.1 183 5 (hp _ (by decide)) rfl, s.1 183 13 (hp _ (by decide)) rfl, s.1 183 14 (hp _ (by decide)) rfl, s.2.1 71 (hp _ (by decide)) (sc_x X rfl), s.2.1 186 (hp _ (by decide)) (sc_x X rfl)]
  exact ⟨⟨R.1.1, h0⟩, R.2⟩
theorem Sw_a {c : Nat} {P : Nat → Bool} (h : Ax c t t') (hc : P c = true) : Sw P g t t' := ⟨fun a k _ _ => h.1 a k, fun b p _ => h.2.1 b (by
  rintro rfl
  rw [hc] at p
  exact absurd p (by decide)), fun b _ _ => h.2.2 b⟩
theorem ok_pairs {n : Nat} (I : IV g t v a D n nx) (hD : D + 100 < 2 ^ 30) (x y : Int32) : Okc (F_X11_pairs 69 x y) (F_X12_pairs 183 x y) g t D := by
  have X := I.1
  have C := I.2.2.1
  have W := C.1
  have V := C.2.1
  have hP := wP2 W
  have hN := wN3 W
  have h64 : 2 ^ vP a ≤ 64 := Nat.pow_le_pow_right (n := 2) (by decide) hP
  have hpp := Nat.two_pow_pos (vP a)
  have hw0 : ∀ t, wI (Em g t) 183 11 0 0 = some (Em g (wi t 183 0 (nI 0))) := fun t => x_w183_0 X
  have bt : ¬ bI true = (0 : Int32) := by decide
  have bf : ¬ ¬ bI false = (0 : Int32) := by decide
  have ha0 : tA (wi t 183 0 (nI 0)) 184 = a := I.2.1
  have hsh : ((1 : Int32) <<< (nI (vP a) &&& 31)) - 1 = nI (2 ^ vP a - 1) := by
    rw [show (1 : Int32) <<< (nI (vP a) &&& 31) = nI (2 ^ vP a) from v_pow (by omega), show nI (2 ^ vP a) - 1 = nI (2 ^ vP a - 1) from nI_sub (b := 1) (by omega)]
  -- both, once y is seen to be good
  have core : (y = nI 0 ∨ (¬ y = nI 0 ∧ ∃ i, i < vP a ∧ y - 10 = nI i)) → ∃ r t1 t2, F_X11_pairs_b27 69 x y (Em g t) = some (r, Em g t1) ∧ F_X12_pairs_b30 183 x y (Em g (wi t1 183 0 (nI 0))) = some (r, Em g t2) ∧ IV g t2 v a D n nx ∧ Sm g t t1 := by
    intro hy
    rcases oks_c x (vN a) (by omega) with hx | ⟨hx, z, hz, rfl⟩
    · refine ⟨-nI 3, t, wi t 183 0 (nI 0), ?_, ?_, IV_s I (Sm_wi (a := 183) (k := 0) rfl Sm_r), Sm_r⟩
      · unfold F_X11_pairs_b27
        rw [c_r69 X C.2.2.2.1, Option.bind_some, v_rc V, Option.bind_some, k_isNotes V C, Option.bind_some, hx, if_neg bf]
        rfl
      · unfold F_X12_pairs_b30
        rw [x_rc183 X, Option.bind_some, q_isNotes X W ha0, Option.bind_some, hx, if_neg bf]
        rfl
    · have hz31 := p_31 hz (by omega)
      obtain ⟨t1, e1, s1, g0, g1, g9⟩ := k_tg X C (nI z)
      have hfu : 2 ^ vP a - 1 < FU := by show 2 ^ vP a - 1 < 1000000; omega
      have hfp : vP a < FU := by show vP a < 1000000; omega
      obtain ⟨t2, e2, j2, k2⟩ := k_cp_l X W hz31 (2 ^ vP a - 1) 1 FU (wa t1 156 0 (nI 0)) (by omega) (Nat.le_refl 1) hfu g0 g1 (fun p hp => by rw [tA_an (by decide)]; exact g9 p hp) (fun T hT => by
        rw [show T = 0 by omega, tA_as, upd_s, mp_0])
      have j12 : Ax 156 t1 t2 := Ax_t (Ax_wa Ax_r) j2
      have s2 : Sm g t t2 := Sm_t s1 (Ax_m (sc_f rfl) j12)
      have e2' : F_X7_countPairs 153 (Em g t1) = some (nI (mp (fitp a z) (vP a) (2 ^ vP a - 1)), Em g t2) := by
        unfold F_X7_countPairs
        rw [x_i153_0 X, Option.bind_some, g0, x_r153_4 X, Option.bind_some, show sI (Em g t1) 156 0 0 = some (Em g (wa t1 156 0 (nI 0))) from x_s156 X (k := 0) (x := 0) (by decide), Option.bind_some, hsh]
        exact e2
      have s2' : Sm g t (wi t2 183 0 (nI 0)) := Sm_wi rfl s2
      have ha2 : tA (wi t2 183 0 (nI 0)) 184 = a := by rw [Sm_a X s2']; exact I.2.1
      obtain ⟨t3, e3, s3, k3⟩ := r_hears (t := wi t2 183 0 (nI 0)) X W ha2
      have s3' : Sm g t t3 := Sm_t s2' s3
      have ha3 : tA t3 184 = a := by rw [Sm_a X s3]; exact ha2
      have h196 : tA t3 196 0 = nI 0 := by rw [s3'.2.1 196 (sc_x X rfl)]; exact I.2.2.2.2.2.2.1.2
      obtain ⟨t4, e4, j4, k4⟩ := r_lp_l X W hz31 (2 ^ vP a - 1) 1 FU t3 (by omega) (Nat.le_refl 1) hfu ha3 k3 (fun T hT => by
        rw [show T = 0 by omega, h196, mp_0])
      have e4' : F_X12_laysPairs 183 (nI z) (Em g (wi t2 183 0 (nI 0))) = some ((), Em g t4) := by
        unfold F_X12_laysPairs
        rw [x_rc183 X, Option.bind_some, e3, Option.bind_some]
        exact e4
      have I4 : IV g t4 v a D n nx := IV_196 I (Sw_t (Sw_m s3') (Sw_a j4 rfl)) (by rw [k4 0 hpp, mp_0])
      have ha4 : tA t4 184 = a := by rw [j4.2.1 184 (by decide)]; exact ha3
      have a44 : aI (Em g t4) 184 4 = some (nI (vP a)) := by
        have : aI (Em g t4) 184 4 = some (tA t4 184 4) := x_a184 X (k := 4) (by decide)
        rw [this, ha4, wP W]
      rcases hy with hy | ⟨hy, i, hi, hyi⟩
      · subst hy
        refine ⟨nI (mp (fitp a z) (vP a) (2 ^ vP a - 1)), t2, t4, ?_, ?_, I4, s2⟩
        · unfold F_X11_pairs_b27
          rw [c_r69 X C.2.2.2.1, Option.bind_some, v_rc V, Option.bind_some, k_isNotes V C, Option.bind_some, hx, if_pos bt, x_r69_9 X, Option.bind_some, c_r69 X C.2.2.2.1, Option.bind_some, x_r69_2 X, Option.bind_some, x_rc153 X, Option.bind_some, e1, Option.bind_some, x_r69_9 X, Option.bind_some, x_rc153 X, Option.bind_some, e2', Option.bind_some, if_neg (show ¬ ¬ nI 0 = (0 : Int32) from fun h => h rfl)]
        · unfold F_X12_pairs_b30
          rw [x_rc183 X, Option.bind_some, q_isNotes X W ha2, Option.bind_some, hx, if_pos bt, x_rc183 X, Option.bind_some, e4', Option.bind_some, x_r183_1 X, Option.bind_some, a44, Option.bind_some, if_neg (show ¬ ¬ nI 0 = (0 : Int32) from fun h => h rfl), x_r183_27 X, Option.bind_some, hsh, x_a196 X (by omega), Option.bind_some, k4 _ (by omega)]
      · have ec := k_po_l (t := t2) X W (by rw [j12.1]; exact g0) (fun p hp => by rw [j12.2.1 154 (by decide)]; exact g9 p hp) (by rw [j12.1]; exact g1) hz31 hi k2 (vP a) 0 FU (2 ^ vP a - 1) (by omega) hfp (by omega)
        have er := r_po_l (t := t4) X W ha4 (fun p hp => by rw [j4.2.1 193 (by decide)]; exact k3 p hp) hz31 hi k4 (vP a) 0 FU (2 ^ vP a - 1) (by omega) hfp (by omega) (by rw [Nat.testBit_two_pow_sub_one, decide_eq_true hi]) (fun j hj => absurd hj (by omega))
        have ec' : F_X7_partnerOf 153 (nI i) (Em g t2) = some (prt (fitp a z) (vP a) i (vP a) 0 (2 ^ vP a - 1), Em g t2) := by
          unfold F_X7_partnerOf
          rw [x_i153_0 X, Option.bind_some, j12.1, g0, hsh]
          exact ec
        refine ⟨prt (fitp a z) (vP a) i (vP a) 0 (2 ^ vP a - 1), t2, t4, ?_, ?_, I4, s2⟩
        · unfold F_X11_pairs_b27
          rw [c_r69 X C.2.2.2.1, Option.bind_some, v_rc V, Option.bind_some, k_isNotes V C, Option.bind_some, hx, if_pos bt, x_r69_9 X, Option.bind_some, c_r69 X C.2.2.2.1, Option.bind_some, x_r69_2 X, Option.bind_some, x_rc153 X, Option.bind_some, e1, Option.bind_some, x_r69_9 X, Option.bind_some, x_rc153 X, Option.bind_some, e2', Option.bind_some, if_pos (show ¬ y = (0 : Int32) from hy), x_r69_9 X, Option.bind_some, x_rc153 X, Option.bind_some, hyi, ec', Option.bind_some]
        · unfold F_X12_pairs_b30
          rw [x_rc183 X, Option.bind_some, q_isNotes X W ha2, Option.bind_some, hx, if_pos bt, x_rc183 X, Option.bind_some, e4', Option.bind_some, x_r183_1 X, Option.bind_some, a44, Option.bind_some, if_pos (show ¬ y = (0 : Int32) from hy), hsh, hyi]
          exact er
  by_cases y0 : y = nI 0
  · obtain ⟨r, t1, t2, e1, e2, I2, _⟩ := core (Or.inl y0)
    refine ⟨r, g, t1, g, t2, v, a, n, nx, ?_, ?_, rfl, rfl, rfl, rfl, IV_m (by omega) hD I2⟩
    · unfold F_X11_pairs
      rw [if_pos (show y = (0 : Int32) from y0)]
      exact e1
    · unfold F_X12_pairs
      rw [hw0, Option.bind_some, if_pos (show y = (0 : Int32) from y0)]
      exact e2
  · by_cases y10 : y < nI 10
    · refine ok_0 (r := -nI 2) (t1 := t) (t2 := wi t 183 0 (nI 0)) I hD ?_ ?_ Sm_r (Sm_wi (a := 183) (k := 0) rfl Sm_r)
      · unfold F_X11_pairs
        rw [if_neg (show ¬ y = (0 : Int32) from y0), if_pos (show y < (10 : Int32) from y10)]
        rfl
      · unfold F_X12_pairs
        rw [hw0, Option.bind_some, if_neg (show ¬ y = (0 : Int32) from y0), if_pos (show y < (10 : Int32) from y10)]
        rfl
    · rcases okx_c (y - 10) (vP a) (by omega) with hb | ⟨hb, i, hi, hyi⟩
      · refine ok_0 (r := -nI 2) (t1 := t) (t2 := wi t 183 0 (nI 0)) I hD ?_ ?_ Sm_r (Sm_wi (a := 183) (k := 0) rfl Sm_r)
        · unfold F_X11_pairs
          rw [if_neg (show ¬ y = (0 : Int32) from y0), if_neg (show ¬ y < (10 : Int32) from y10), c_r69 X C.2.2.2.1, Option.bind_some, v_rc V, Option.bind_some, k_person V C, Option.bind_some, hb, if_neg bf]
          rfl
        · unfold F_X12_pairs
          rw [hw0, Option.bind_some, if_neg (show ¬ y = (0 : Int32) from y0), if_neg (show ¬ y < (10 : Int32) from y10), x_rc183 X, Option.bind_some, q_personX X W ha0, Option.bind_some, hb, if_neg bf]
          rfl
      · obtain ⟨r, t1, t2, e1, e2, I2, s1⟩ := core (Or.inr ⟨y0, i, hi, hyi⟩)
        refine ⟨r, g, t1, g, t2, v, a, n, nx, ?_, ?_, rfl, rfl, rfl, rfl, IV_m (by omega) hD I2⟩
        · unfold F_X11_pairs
          rw [if_neg (show ¬ y = (0 : Int32) from y0), if_neg (show ¬ y < (10 : Int32) from y10), c_r69 X C.2.2.2.1, Option.bind_some, v_rc V, Option.bind_some, k_person V C, Option.bind_some, hb, if_pos bt]
          exact e1
        · unfold F_X12_pairs
          rw [hw0, Option.bind_some, if_neg (show ¬ y = (0 : Int32) from y0), if_neg (show ¬ y < (10 : Int32) from y10), x_rc183 X, Option.bind_some, q_personX (t := wi t1 183 0 (nI 0)) X W (by rw [tA_wi, Sm_a X s1]; exact I.2.1), Option.bind_some, hb, if_pos bt]
          exact e2
end XPb
