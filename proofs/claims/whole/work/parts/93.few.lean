/-! ===== the class's fewest trials; knowing, begins agree ===== -/
def mn10 (o : Option Nat) : Nat := match o with
  | none => 10
  | some m => if m ≤ 10 then m else 10
theorem nar_b {n : Nat} (h : n < 128) : vp_nar .byte (nI n).toInt8.toInt32 = nI n := by
  have : ∀ n, n < 128 → vp_nar .byte (nI n).toInt8.toInt32 = nI n := by decide +kernel
  exact this n h
section XFe
variable {g : Sk} {t : Tb} {a : Nat → Int32}
variable {D v x nx p : Nat} {t' t'' t1 t2 : Tb}
def kh (KD : Nat → Nat) (kc : Nat) : Nat → Nat := fun n => mk (fun j => (KD j).testBit n) kc
theorem k_worstB (X : Fx g) {H V : Nat → Nat} {S n : Nat} (hS : S < 2048) (hn : n < 10) (hH : H n < 2 ^ 31) (h9 : tA t 151 n = nI (H n)) (hV : ∀ T, T < S → tA t 152 T = nI (V T) ∧ V T ≤ 20) : F_X9_worstBeginningWith 148 (nI n) (nI S) (Em g t) = some (if spl H S n then nI (vst H V S n) else nI 10, Em g t) := by
  unfold F_X9_worstBeginningWith
  have hl : S &&& H n ≤ S := Nat.and_le_left
  have hl2 := an_leS S (H n)
  by_cases h1 : S &&& H n = 0
  · have hs : spl H S n = false := decide_eq_false (fun q => q.1 h1)
    rw [hs]
    have e : nI S &&& nI (H n) = nI 0 := by rw [fa_and, h1]
    simp (disch := omega) only [x_rc148 X, x_i148_0 X, x_w148_0 X, x_r148_1 X, x_r148_2 X, x_i148_3 X, x_w148_3 X, x_r148_4 X, x_r148_5 X, x_a149 X, x_s149 X, x_a150 X, x_s150 X, x_a151 X, x_s151 X, x_a152 X, x_s152 X, Option.bind_some, ↓reduceIte, ite_not, fa_lit, h9, e, Bool.false_eq_true]
  · have e : nI S &&& nI (H n) = nI (S &&& H n) := fa_and _ _
    have n1 : ¬ nI (S &&& H n) = nI 0 := by rw [nI_eq (by omega) (by decide)]; exact h1
    have e2 := an_g S (H n)
    by_cases h2 : an_ S (H n) = 0
    · have hs : spl H S n = false := decide_eq_false (fun q => q.2 h2)
      rw [hs]
      rw [h2] at e2
      simp (disch := omega) only [x_rc148 X, x_i148_0 X, x_w148_0 X, x_r148_1 X, x_r148_2 X, x_i148_3 X, x_w148_3 X, x_r148_4 X, x_r148_5 X, x_a149 X, x_s149 X, x_a150 X, x_s150 X, x_a151 X, x_s151 X, x_a152 X, x_s152 X, Option.bind_some, ↓reduceIte, ite_not, fa_lit, h9, e, n1, e2, Bool.false_eq_true]
    · have hs : spl H S n = true := decide_eq_true ⟨h1, h2⟩
      have n2 : ¬ nI (an_ S (H n)) = nI 0 := by rw [nI_eq (by omega) (by decide)]; exact h2
      have l1 := and_ltS h2
      have l2 := an_ltS h1
      have v1 := hV _ l1
      have v2 := hV _ l2
      have v11 := v1.2
      have v22 := v2.2
      have hmx : ∀ h : xH, F_J9_max_7cf53 (nI (V (S &&& H n))) (nI (V (an_ S (H n)))) h = some (nI (mxn (V (S &&& H n)) (V (an_ S (H n)))), h) := by
        intro h
        unfold F_J9_max_7cf53 mxn
        by_cases c : V (S &&& H n) ≤ V (an_ S (H n))
        · rw [if_pos c]
          by_cases c2 : V (S &&& H n) = V (an_ S (H n))
          · rw [c2]
            split <;> rfl
          · have c3 : nI (V (S &&& H n)) < nI (V (an_ S (H n))) := by rw [nI_ltI (by omega) (by omega)]; omega
            first
              | rw [if_pos c3]
              | (rw [if_neg (by rw [nI_ltI (by omega) (by omega)]; omega)])
              | (rw [if_neg (by rw [nI_leI (by omega) (by omega)]; omega)])
        · rw [if_neg c]
          first
            | (rw [if_neg (by rw [nI_ltI (by omega) (by omega)]; omega)])
            | (rw [if_pos (by rw [nI_ltI (by omega) (by omega)]; omega)])
            | (rw [if_pos (by rw [nI_leI (by omega) (by omega)]; omega)])
      rw [hs]
      unfold vst
      simp (disch := omega) only [x_rc148 X, x_i148_0 X, x_w148_0 X, x_r148_1 X, x_r148_2 X, x_i148_3 X, x_w148_3 X, x_r148_4 X, x_r148_5 X, x_a149 X, x_s149 X, x_a150 X, x_s150 X, x_a151 X, x_s151 X, x_a152 X, x_s152 X, Option.bind_some, ↓reduceIte, ite_not, fa_lit, h9, e, n1, e2, n2, v1.1, v2.1, hmx, nI_add]
theorem k_few_i (X : Fx g) {H V : Nat → Nat} {S N : Nat} {z : Int32} (hN : N ≤ 10) (hS : S < 2048) (h0 : tI t 148 0 = nI N) (hH : ∀ n, n < N → H n < 2 ^ 31) (h9 : ∀ n, n < N → tA t 151 n = nI (H n)) (hV : ∀ T, T < S → tA t 152 T = nI (V T) ∧ V T ≤ 20) (kk : Nat → Int32 → Int32 → xH → Option (Int32 × xH)) : ∀ (d n fuel : Nat), n + d = N → d < fuel → F_X9_fewestAtWorst_b41 kk fuel 148 z (nI S) (nI (mn10 (vmn H V S n))) (nI n) (Em g t) = kk 148 z (nI (S + 1)) (Em g (wa t 152 S (nI (mn10 (vmn H V S N))))) := by
  have hV2 : ∀ T, T < S → V T ≤ 20 := fun T hT => (hV T hT).2
  have hmb : ∀ n, 1 ≤ mn10 (vmn H V S n) ∧ mn10 (vmn H V S n) ≤ 10 := by
    intro n
    cases e : vmn H V S n with
    | none => exact ⟨by decide, by decide⟩
    | some m =>
      have hb := vmn_b hV2 e
      show 1 ≤ (if m ≤ 10 then m else 10) ∧ (if m ≤ 10 then m else 10) ≤ 10
      split <;> omega
  have store : F_X9_fewestAtWorst_b72 kk 148 z (nI S) (nI (mn10 (vmn H V S N))) (Em g t) = kk 148 z (nI (S + 1)) (Em g (wa t 152 S (nI (mn10 (vmn H V S N))))) := by
    have hb := hmb N
    unfold F_X9_fewestAtWorst_b72
    rw [x_r148_5 X, Option.bind_some, x_s152 X hS, Option.bind_some, nar_b (by omega), show nI S + 1 = nI (S + 1) from nI_add S 1]
  intro d
  induction d with
  | zero =>
    intro n fuel hn hf
    obtain ⟨f, rfl⟩ : ∃ f, fuel = f + 1 := ⟨fuel - 1, by omega⟩
    have hn : n = N := by omega
    subst hn
    rw [F_X9_fewestAtWorst_b41, x_i148_0 X, Option.bind_some, h0, if_pos (by rw [nI_leI (by omega) (by omega)]; exact Nat.le_refl n)]
    exact store
  | succ d ih =>
    intro n fuel hn hf
    obtain ⟨f, rfl⟩ : ∃ f, fuel = f + 1 := ⟨fuel - 1, by omega⟩
    have c1 : ¬ nI N ≤ nI n := by rw [nI_leI (by omega) (by omega)]; omega
    have hb := hmb n
    have c2 : ¬ nI (mn10 (vmn H V S n)) ≤ (0 : Int32) := show ¬ nI (mn10 (vmn H V S n)) ≤ nI 0 by rw [nI_leI (by omega) (by decide)]; omega
    have hw := k_worstB (t := t) (V := V) X hS (show n < 10 by omega) (hH n (by omega)) (h9 n (by omega)) hV
    have hmin : ∀ (z : Nat) (h : xH), z ≤ 30 → F_J9_min_7cf53 (nI (mn10 (vmn H V S n))) (nI z) h = some (nI (if z < mn10 (vmn H V S n) then z else mn10 (vmn H V S n)), h) := by
      intro z h hz
      unfold F_J9_min_7cf53
      simp (disch := omega) only [nI_ltI]
      split <;> rfl
    rw [F_X9_fewestAtWorst_b41, x_i148_0 X, Option.bind_some, h0, if_neg c1, if_neg c2, x_rc148 X, Option.bind_some, hw, Option.bind_some, show nI n + 1 = nI (n + 1) from nI_add n 1, ← ih (n + 1) f (by omega) (by omega), vmn]
    by_cases q : spl H S n = true
    · have q2 := spl_t q
      have a1 := hV2 _ (and_ltS q2.2)
      have a2 := hV2 _ (an_ltS q2.1)
      have hvl : vst H V S n ≤ 21 := by
        unfold vst mxn
        split <;> omega
      rw [if_pos q, if_pos q, hmin _ _ (by omega), Option.bind_some]
      have e : (if vst H V S n < mn10 (vmn H V S n) then vst H V S n else mn10 (vmn H V S n)) = mn10 (some (omn (vmn H V S n) (vst H V S n))) := by
        cases e2 : vmn H V S n with
        | none =>
          show (if vst H V S n < 10 then _ else 10) = (if vst H V S n ≤ 10 then vst H V S n else 10)
          repeat' split
          all_goals omega
        | some m =>
          show (if vst H V S n < (if m ≤ 10 then m else 10) then vst H V S n else (if m ≤ 10 then m else 10)) = (if (if m ≤ vst H V S n then m else vst H V S n) ≤ 10 then (if m ≤ vst H V S n then m else vst H V S n) else 10)
          repeat' split
          all_goals omega
      rw [e]
    · rw [if_neg q, if_neg q, hmin 10 _ (by decide), Option.bind_some, if_neg (by omega)]
/-- two kinds are told apart by a note -/
theorem kh_split {KD : Nat → Nat} {kc N S : Nat} (hd : ∀ i j, i < j → j < kc → KD i ≠ KD j) (hb : ∀ j, j < kc → KD j < 2 ^ N) {i j : Nat} (hij : i < j) (hj : j < kc) (h1 : S.testBit i = true) (h2 : S.testBit j = true) : ∃ n, n < N ∧ spl (kh KD kc) S n = true := by
  have hne := hd i j hij hj
  have hex : ∃ n, n < N ∧ (KD i).testBit n ≠ (KD j).testBit n := by
    apply Classical.byContradiction
    intro h
    apply hne
    apply mk_ext (n := N) (hb i (by omega)) (hb j hj)
    intro k hk
    apply Classical.byContradiction
    intro q
    exact h ⟨k, hk, q⟩
  obtain ⟨n, hn, hq⟩ := hex
  have bit : ∀ k, k < kc → (kh KD kc n).testBit k = (KD k).testBit n := fun k hk => by
    unfold kh
    rw [mk_bit]
    simp [hk]
  have nz : ∀ {x k : Nat}, x.testBit k = true → ¬ x = 0 := by
    rintro x k h rfl
    simp at h
  refine ⟨n, hn, decide_eq_true ?_⟩
  cases q1 : (KD i).testBit n
  · have q2 : (KD j).testBit n = true := by
      cases q3 : (KD j).testBit n
      · rw [q1, q3] at hq; exact absurd rfl hq
      · rfl
    exact ⟨nz (k := j) (by rw [Nat.testBit_and, h2, bit j hj, q2]; rfl), nz (k := i) (by rw [an_bit, h1, bit i (by omega), q1]; rfl)⟩
  · have q2 : (KD j).testBit n = false := by
      cases q3 : (KD j).testBit n
      · rfl
      · rw [q1, q3] at hq; exact absurd rfl hq
    exact ⟨nz (k := i) (by rw [Nat.testBit_and, h1, bit i (by omega), q1]; rfl), nz (k := j) (by rw [an_bit, h2, bit j hj, q2]; rfl)⟩
theorem val_10 {H : Nat → Nat} {N S : Nat} (hN : N ≤ 10) (h : ∃ n, n < N ∧ spl H S n = true) : mn10 (vmn H (val H N) S N) = val H N S := by
  have hl := val_N H N S
  rw [val_eq] at hl ⊢
  cases e : vmn H (val H N) S N with
  | none =>
    obtain ⟨n, hn, hs⟩ := h
    rw [vmn_none e n hn] at hs
    cases hs
  | some m =>
    rw [e] at hl
    show (if m ≤ 10 then m else 10) = m
    have : m ≤ N := hl
    rw [if_pos (by omega)]
theorem k_few_l (X : Fx g) {KD : Nat → Nat} {kc N : Nat} (hN : N ≤ 10) (hk1 : 1 ≤ kc) (hkc : kc ≤ 11) (hd : ∀ i j, i < j → j < kc → KD i ≠ KD j) (hb : ∀ j, j < kc → KD j < 2 ^ N) : ∀ (d S fuel : Nat) (t : Tb), S + d = 2 ^ kc → 1 ≤ S → d < fuel → tI t 148 0 = nI N → (∀ n, n < N → tA t 151 n = nI (kh KD kc n)) → (∀ T, T < S → tA t 152 T = nI (val (kh KD kc) N T)) → ∃ t', F_X9_fewestAtWorst_b18 fuel 148 (nI (2 ^ kc - 1)) (nI S) (Em g t) = some (nI (val (kh KD kc) N (2 ^ kc - 1)), Em g t') ∧ Ax 152 t t' ∧ (∀ T, T < 2 ^ kc → tA t' 152 T = nI (val (kh KD kc) N T)) := by
  have h2k := p2048 hkc
  have hH : ∀ n, n < N → kh KD kc n < 2 ^ 31 := fun n _ => mk_31 (by omega)
  intro d
  induction d with
  | zero =>
    intro S fuel t hS hS1 hf h0 h9 hV
    obtain ⟨f, rfl⟩ : ∃ f, fuel = f + 1 := ⟨fuel - 1, by omega⟩
    have hS : S = 2 ^ kc := by omega
    subst hS
    refine ⟨t, ?_, Ax_r, hV⟩
    have c : nI (2 ^ kc - 1) < nI (2 ^ kc) := by rw [nI_ltI (by omega) (by omega)]; omega
    rw [F_X9_fewestAtWorst_b18, if_pos c, x_r148_5 X, Option.bind_some, x_a152 X (by omega), Option.bind_some, hV _ (by omega)]
  | succ d ih =>
    intro S fuel t hS hS1 hf h0 h9 hV
    obtain ⟨f, rfl⟩ : ∃ f, fuel = f + 1 := ⟨fuel - 1, by omega⟩
    have c : ¬ nI (2 ^ kc - 1) < nI S := by rw [nI_ltI (by omega) (by omega)]; omega
    have hfu : N < FU := by show N < 1000000; omega
    have hV20 : ∀ T, T < S → tA t 152 T = nI (val (kh KD kc) N T) ∧ val (kh KD kc) N T ≤ 20 := fun T hT => ⟨hV T hT, by have := val_N (kh KD kc) N T; omega⟩
    have nxt : ∃ t', F_X9_fewestAtWorst_b18 f 148 (nI (2 ^ kc - 1)) (nI (S + 1)) (Em g (wa t 152 S (nI (val (kh KD kc) N S)))) = some (nI (val (kh KD kc) N (2 ^ kc - 1)), Em g t') ∧ Ax 152 (wa t 152 S (nI (val (kh KD kc) N S))) t' ∧ (∀ T, T < 2 ^ kc → tA t' 152 T = nI (val (kh KD kc) N T)) := ih (S + 1) f (wa t 152 S (nI (val (kh KD kc) N S))) (by omega) (by omega) (by omega) h0 (fun n hn => by rw [tA_an (by decide)]; exact h9 n hn) (fun T hT => by
      rw [tA_as]
      by_cases e : T = S
      · rw [e, upd_s]
      · rw [upd_n e]; exact hV T (by omega))
    obtain ⟨t2, e2, j2, k2⟩ := nxt
    refine ⟨t2, ?_, Ax_t (Ax_wa Ax_r) j2, k2⟩
    have hsub : nI S &&& (nI S - 1) = nI (S &&& (S - 1)) := by
      rw [show nI S - 1 = nI (S - 1) from nI_sub hS1, fa_and]
    have hle : S &&& (S - 1) ≤ S := Nat.and_le_left
    rw [F_X9_fewestAtWorst_b18, if_neg c, hsub]
    by_cases hz : S &&& (S - 1) = 0
    · have c2 : ¬ ¬ nI (S &&& (S - 1)) = (0 : Int32) := fun q => q (by rw [hz]; rfl)
      rcases one_c S (by omega) hz with e | ⟨k, hk, e⟩
      · omega
      · have v0 : val (kh KD kc) N S = 0 := by
          rw [e]
          exact val_no (fun n => spl_one)
        rw [v0] at e2
        rw [if_neg c2]
        unfold F_X9_fewestAtWorst_b37
        rw [show (FU : Nat) = (FU - 1) + 1 from rfl, F_X9_fewestAtWorst_b41, x_i148_0 X, Option.bind_some, h0]
        have hst : F_X9_fewestAtWorst_b72 (F_X9_fewestAtWorst_b18 f) 148 (nI (2 ^ kc - 1)) (nI S) 0 (Em g t) = F_X9_fewestAtWorst_b18 f 148 (nI (2 ^ kc - 1)) (nI (S + 1)) (Em g (wa t 152 S (nI 0))) := by
          unfold F_X9_fewestAtWorst_b72
          rw [x_r148_5 X, Option.bind_some, x_s152 X (by omega), Option.bind_some, show nI S + 1 = nI (S + 1) from nI_add S 1]
          rfl
        rw [if_pos (show (0 : Int32) ≤ 0 by decide), ite_self]
        exact hst.trans e2
    · have c2 : ¬ nI (S &&& (S - 1)) = (0 : Int32) := by
        show ¬ nI (S &&& (S - 1)) = nI 0
        rw [nI_eq (by omega) (by decide)]
        exact hz
      obtain ⟨j, hj, i, hij, b1, b2⟩ := two_c S (by omega) hz
      have hjk : j < kc := by
        rcases Nat.lt_or_ge j kc with q | q
        · exact q
        · rw [testBit_ge (M := kc) (by omega) q] at b2; cases b2
      have hv := val_10 hN (kh_split hd hb hij hjk b1 b2)
      have hi := k_few_i (t := t) (V := val (kh KD kc) N) (S := S) (z := nI (2 ^ kc - 1)) X hN (by omega) h0 hH h9 hV20 (F_X9_fewestAtWorst_b18 f) N 0 FU (by omega) hfu
      rw [hv] at hi
      rw [if_pos c2]
      exact hi.trans e2
theorem k_few (X : Fx g) {KD : Nat → Nat} {kc N : Nat} (hN : N ≤ 10) (hk1 : 1 ≤ kc) (hkc : kc ≤ 11) (hd : ∀ i j, i < j → j < kc → KD i ≠ KD j) (hb : ∀ j, j < kc → KD j < 2 ^ N) (h0 : tI t 148 0 = nI N) (h3 : tI t 148 3 = nI kc) (h9 : ∀ n, n < N → tA t 151 n = nI (kh KD kc n)) : ∃ t', F_X9_fewestAtWorst 148 (Em g t) = some (nI (val (kh KD kc) N (2 ^ kc - 1)), Em g t') ∧ Ax 152 t t' ∧ (∀ T, T < 2 ^ kc → tA t' 152 T = nI (val (kh KD kc) N T)) := by
  have h2k := p2048 hkc
  have hp : 2 ^ 1 ≤ 2 ^ kc := Nat.pow_le_pow_right (n := 2) (by decide) hk1
  have hfu : 2 ^ kc - 1 < FU := by show 2 ^ kc - 1 < 1000000; omega
  obtain ⟨t1, e1, j1, k1⟩ := k_few_l (N := N) X hN hk1 hkc hd hb (2 ^ kc - 1) 1 FU (wa t 152 0 (nI 0)) (by omega) (by decide) hfu h0 (fun n hn => by rw [tA_an (by decide)]; exact h9 n hn) (fun T hT => by
    rw [show T = 0 by omega, tA_as, upd_s, val_no (fun n => spl_0)])
  refine ⟨t1, ?_, Ax_t (Ax_wa Ax_r) j1, k1⟩
  have hsh : ((1 : Int32) <<< (nI kc &&& 31)) - 1 = nI (2 ^ kc - 1) := by
    rw [show (1 : Int32) <<< (nI kc &&& 31) = nI (2 ^ kc) from v_pow (by omega), show nI (2 ^ kc) - 1 = nI (2 ^ kc - 1) from nI_sub (b := 1) (by omega)]
  have hs0 : sB (Em g t) 152 0 0 = some (Em g (wa t 152 0 (nI 0))) := x_s152 X (k := 0) (x := 0) (by decide)
  unfold F_X9_fewestAtWorst
  rw [x_i148_3 X, Option.bind_some, h3, x_r148_5 X, Option.bind_some, hs0, Option.bind_some, hsh]
  exact e1
/-- kinds of this person's blanks: what both tables have in common -/
theorem kd_ex {KD : Nat → Nat} {kc : Nat} (W : WA a D) (hK : Kd a p KD kc (vN a + 1)) : ∃ kd : Nat → Nat, (∀ b, b < vN a + 1 → kd b < kc) ∧ (∀ n, n < vN a → ∀ b, b < vN a + 1 → (hbl a p n).testBit b = (kh KD kc n).testBit (kd b)) ∧ Kof kd (vN a + 1) kc (2 ^ (vN a + 1) - 1) = 2 ^ kc - 1 ∧ 1 ≤ kc ∧ kc ≤ 11 ∧ (∀ j, j < kc → KD j < 2 ^ vN a) ∧ (∀ b, b < vN a + 1 → KD (kd b) = hnt a p b) := by
  have hN := wN3 W
  have hch : ∀ b, ∃ j, b < vN a + 1 → j < kc ∧ KD j = hnt a p b := by
    intro b
    by_cases h : b < vN a + 1
    · obtain ⟨j, h1, h2⟩ := hK.1 b h
      exact ⟨j, fun _ => ⟨h1, h2⟩⟩
    · exact ⟨0, fun q => absurd q h⟩
  obtain ⟨kd, hkd⟩ : ∃ kd : Nat → Nat, ∀ b, b < vN a + 1 → kd b < kc ∧ KD (kd b) = hnt a p b := ⟨fun b => Classical.choose (hch b), fun b => Classical.choose_spec (hch b)⟩
  refine ⟨kd, fun b hb => (hkd b hb).1, fun n hn b hb => ?_, ?_, ?_, by have := hK.2.2.2; omega, fun j hj => ?_, fun b hb => (hkd b hb).2⟩
  · have hs := hkd b hb
    unfold kh hbl
    rw [mk_bit, mk_bit, hs.2]
    unfold hnt
    rw [mk_bit, decide_eq_true hb, decide_eq_true hs.1, decide_eq_true hn, Bool.true_and, Bool.true_and]
  · apply Nat.eq_of_testBit_eq
    intro j
    rw [Bool.eq_iff_iff, K_bit, Nat.testBit_two_pow_sub_one, decide_eq_true_eq]
    constructor
    · exact fun h => h.1
    · intro hj
      obtain ⟨i, hi, e⟩ := hK.2.1 j hj
      have hs := hkd i hi
      refine ⟨hj, i, hi, by rw [Nat.testBit_two_pow_sub_one, decide_eq_true_eq]; exact hi, ?_⟩
      apply Classical.byContradiction
      intro hne
      rcases Nat.lt_or_ge (kd i) j with q | q
      · exact hK.2.2.1 _ _ q hj (by rw [hs.2, e])
      · exact hK.2.2.1 _ _ (show j < kd i by omega) hs.1 (by rw [hs.2, e])
  · have := (hkd 0 (by omega)).1
    omega
  · obtain ⟨i, _, e⟩ := hK.2.1 j hj
    rw [e]
    exact mk_lt _ _
theorem ok_knowing {n : Nat} (I : IV g t v a D n nx) (hD : D + 100 < 2 ^ 30) (x : Int32) : Okc (F_X11_knowing 69 x) (F_X12_knowing 183 x) g t D := by
  have X := I.1
  have C := I.2.2.1
  have W := C.1
  have V := C.2.1
  have hP := wP2 W
  have hN := wN3 W
  have hw0 : ∀ t, wI (Em g t) 183 11 0 0 = some (Em g (wi t 183 0 (nI 0))) := fun t => x_w183_0 X
  rcases okx_c x (vP a) (by omega) with hx | ⟨hx, p, hp, rfl⟩
  · refine ok_0 (r := -nI 2) (t1 := t) (t2 := wi t 183 0 (nI 0)) I hD ?_ ?_ Sm_r (Sm_wi (a := 183) (k := 0) rfl Sm_r)
    · unfold F_X11_knowing
      rw [c_r69 X C.2.2.2.1, Option.bind_some, v_rc V, Option.bind_some, k_person V C, Option.bind_some, hx, if_neg (show ¬ ¬ bI false = (0 : Int32) by decide)]
      rfl
    · unfold F_X12_knowing
      rw [hw0, Option.bind_some, x_rc183 X, Option.bind_some, q_personX (t := wi t 183 0 (nI 0)) X W I.2.1, Option.bind_some, hx, if_pos (show bI false = (0 : Int32) by decide)]
      rfl
  · obtain ⟨t1, KD, kc, e1, s1, hK, h0, h3, h49, h50, h51⟩ := k_gather (p := p) X C hp
    obtain ⟨kd, q1, q2, q3, q4, q5, q6, _⟩ := kd_ex W hK
    obtain ⟨t2, e2, j2, k2⟩ := k_few (t := t1) X hN q4 q5 hK.2.2.1 q6 h0 h3 h51
    have s2 : Sm g t t2 := Sm_t s1 (Ax_m (sc_f rfl) j2)
    obtain ⟨t3, e3, s3, _⟩ := r_worst (t := wi t2 183 0 (nI 0)) X W hp (by rw [tA_wi, Sm_a X s2]; exact I.2.1)
    have hval : val (hbl a p) (vN a) (2 ^ (vN a + 1) - 1) = val (kh KD kc) (vN a) (2 ^ kc - 1) := by
      have hp2 := Nat.two_pow_pos (vN a + 1)
      rw [val_K q1 q2 _ (by omega), q3]
    rw [hval] at e3
    refine ok_0 (r := nI (val (kh KD kc) (vN a) (2 ^ kc - 1))) (t1 := t2) (t2 := t3) I hD ?_ ?_ s2 (Sm_t (Sm_wi (a := 183) (k := 0) rfl Sm_r) s3)
    · unfold F_X11_knowing
      rw [c_r69 X C.2.2.2.1, Option.bind_some, v_rc V, Option.bind_some, k_person V C, Option.bind_some, hx, if_pos (show ¬ bI true = (0 : Int32) by decide), x_r69_8 X, Option.bind_some, c_r69 X C.2.2.2.1, Option.bind_some, x_r69_2 X, Option.bind_some, x_rc148 X, Option.bind_some, e1, Option.bind_some, x_r69_8 X, Option.bind_some, x_rc148 X, Option.bind_some, e2, Option.bind_some]
    · unfold F_X12_knowing
      rw [hw0, Option.bind_some, x_rc183 X, Option.bind_some, q_personX (t := wi t2 183 0 (nI 0)) X W (by rw [tA_wi, Sm_a X s2]; exact I.2.1), Option.bind_some, hx, if_neg (show ¬ bI true = (0 : Int32) by decide), x_rc183 X, Option.bind_some, e3, Option.bind_some]
theorem k_first_l (X : Fx g) {H V : Nat → Nat} {N kc m : Nat} (hN : N ≤ 10) (hkc : kc ≤ 11) (hm : m ≤ 20) (h0 : tI t 148 0 = nI N) (hH : ∀ n, n < N → H n < 2 ^ 31) (h9 : ∀ n, n < N → tA t 151 n = nI (H n)) (hV : ∀ T, T < 2 ^ kc → tA t 152 T = nI (V T) ∧ V T ≤ 20) (h10 : m = 10 → ∀ n, n < N → spl H (2 ^ kc - 1) n = true) : ∀ (d n fuel : Nat), n + d = N → d < fuel → F_X9_firstNote_b16 fuel 148 (nI (2 ^ kc - 1)) (nI m) (nI n) (Em g t) = some (if m = 0 then -nI 1 else bgf (fun n => spl H (2 ^ kc - 1) n && decide (vst H V (2 ^ kc - 1) n = m)) d n, Em g t) := by
  have h2k := p2048 hkc
  have hp := Nat.two_pow_pos kc
  intro d
  induction d with
  | zero =>
    intro n fuel hn hf
    obtain ⟨f, rfl⟩ : ∃ f, fuel = f + 1 := ⟨fuel - 1, by omega⟩
    have hn : n = N := by omega
    subst hn
    rw [F_X9_firstNote_b16, x_i148_0 X, Option.bind_some, h0, if_pos (by rw [nI_leI (by omega) (by omega)]; exact Nat.le_refl n)]
    split <;> rfl
  | succ d ih =>
    intro n fuel hn hf
    obtain ⟨f, rfl⟩ : ∃ f, fuel = f + 1 := ⟨fuel - 1, by omega⟩
    have c1 : ¬ nI N ≤ nI n := by rw [nI_leI (by omega) (by omega)]; omega
    have hn1 : nI n + 1 = nI (n + 1) := nI_add n 1
    have hw := k_worstB (t := t) (V := V) (S := 2 ^ kc - 1) X (by omega) (show n < 10 by omega) (hH n (by omega)) (h9 n (by omega)) (fun T hT => hV T (by omega))
    rw [F_X9_firstNote_b16, x_i148_0 X, Option.bind_some, h0, if_neg c1]
    by_cases hz : m = 0
    · subst hz
      rw [if_pos (show nI 0 ≤ (0 : Int32) by decide), if_pos rfl]
      rfl
    · have c2 : ¬ nI m ≤ (0 : Int32) := show ¬ nI m ≤ nI 0 by rw [nI_leI (by omega) (by decide)]; omega
      have ih2 := ih (n + 1) f (by omega) (by omega)
      rw [if_neg hz] at ih2
      rw [if_neg c2, if_neg hz, x_rc148 X, Option.bind_some, hw, Option.bind_some, hn1, ih2, bgf]
      by_cases q : spl H (2 ^ kc - 1) n = true
      · have q2 := spl_t q
        have l1 := and_ltS q2.2
        have l2 := an_ltS q2.1
        have a1 := (hV (2 ^ kc - 1 &&& H n) (by omega)).2
        have a2 := (hV (an_ (2 ^ kc - 1) (H n)) (by omega)).2
        have hvl : vst H V (2 ^ kc - 1) n ≤ 21 := by
          unfold vst mxn
          split <;> omega
        rw [if_pos q, q]
        by_cases e : vst H V (2 ^ kc - 1) n = m
        · rw [if_neg (fun z => z (by rw [e])), if_pos (by simp [e])]
        · rw [if_pos (show ¬ nI (vst H V (2 ^ kc - 1) n) = nI m by rw [nI_eq (by omega) (by omega)]; exact e), if_neg (by simp [e])]
      · have hm10 : ¬ m = 10 := fun e => q (h10 e n (by omega))
        rw [if_neg q, if_pos (show ¬ nI 10 = nI m by rw [nI_eq (by decide) (by omega)]; omega), if_neg (by simp [q])]
theorem ok_begins {n : Nat} (I : IV g t v a D n nx) (hD : D + 100 < 2 ^ 30) (x : Int32) : Okc (F_X11_begins 69 x) (F_X12_begins 183 x) g t D := by
  have X := I.1
  have C := I.2.2.1
  have W := C.1
  have V := C.2.1
  have hP := wP2 W
  have hN := wN3 W
  have hw0 : ∀ t, wI (Em g t) 183 11 0 0 = some (Em g (wi t 183 0 (nI 0))) := fun t => x_w183_0 X
  rcases okx_c x (vP a) (by omega) with hx | ⟨hx, p, hp, rfl⟩
  · refine ok_0 (r := -nI 2) (t1 := t) (t2 := wi t 183 0 (nI 0)) I hD ?_ ?_ Sm_r (Sm_wi (a := 183) (k := 0) rfl Sm_r)
    · unfold F_X11_begins
      rw [c_r69 X C.2.2.2.1, Option.bind_some, v_rc V, Option.bind_some, k_person V C, Option.bind_some, hx, if_neg (show ¬ ¬ bI false = (0 : Int32) by decide)]
      rfl
    · unfold F_X12_begins
      rw [hw0, Option.bind_some, x_rc183 X, Option.bind_some, q_personX (t := wi t 183 0 (nI 0)) X W I.2.1, Option.bind_some, hx, if_neg (show ¬ ¬ bI false = (0 : Int32) by decide)]
      rfl
  · obtain ⟨t1, KD, kc, e1, s1, hK, h0, h3, h49, h50, h51⟩ := k_gather (p := p) X C hp
    obtain ⟨kd, q1, q2, q3, q4, q5, q6, _⟩ := kd_ex W hK
    obtain ⟨t2, e2, j2, k2⟩ := k_few (t := t1) X hN q4 q5 hK.2.2.1 q6 h0 h3 h51
    have s2 : Sm g t t2 := Sm_t s1 (Ax_m (sc_f rfl) j2)
    have ha2 : tA (wi t2 183 0 (nI 0)) 184 = a := by rw [tA_wi, Sm_a X s2]; exact I.2.1
    obtain ⟨t3, e3, s3, r9, r92⟩ := r_worst (t := wi t2 183 0 (nI 0)) X W hp ha2
    have hp2 := Nat.two_pow_pos (vN a + 1)
    have hpk := Nat.two_pow_pos kc
    have hval : val (hbl a p) (vN a) (2 ^ (vN a + 1) - 1) = val (kh KD kc) (vN a) (2 ^ kc - 1) := by
      rw [val_K q1 q2 _ (by omega), q3]
    rw [hval] at e3
    have hm20 : val (kh KD kc) (vN a) (2 ^ kc - 1) ≤ 20 := by have := val_N (kh KD kc) (vN a) (2 ^ kc - 1); omega
    have hfu : vN a < FU := by show vN a < 1000000; omega
    have hH2 : ∀ n, n < vN a → kh KD kc n < 2 ^ 31 := fun n _ => mk_31 (by omega)
    have h0' : tI t2 148 0 = nI (vN a) := by rw [j2.1]; exact h0
    have h51' : ∀ n, n < vN a → tA t2 151 n = nI (kh KD kc n) := fun n hn => by rw [j2.2.1 151 (by decide)]; exact h51 n hn
    have h3' : tI t1 148 3 = nI kc := h3
    have c10 : val (kh KD kc) (vN a) (2 ^ kc - 1) = 10 → ∀ n, n < vN a → spl (kh KD kc) (2 ^ kc - 1) n = true := by
      intro e
      have hl := val_le (kh KD kc) (vN a) (2 ^ kc - 1)
      have hl2 := fb_ct_le (fun k => spl (kh KD kc) (2 ^ kc - 1) k) (vN a)
      exact (fb_ct_all (p := fun k => spl (kh KD kc) (2 ^ kc - 1) k) (n := vN a)).mp (by omega)
    have ec := k_first_l (t := t2) (V := val (kh KD kc) (vN a)) X hN q5 hm20 h0' hH2 h51' (fun T hT => ⟨k2 T hT, by have := val_N (kh KD kc) (vN a) T; omega⟩) c10 (vN a) 0 FU (by omega) hfu
    have er := r_begins_l (t := t3) (V := val (hbl a p) (vN a)) (H := hbl a p) X W (by rw [Sm_a X s3]; exact ha2) hm20 (fun n _ => hbl_31 W) r9 (fun T hT => ⟨r92 T hT, by have := val_N (hbl a p) (vN a) T; omega⟩) (vN a) 0 FU (by omega) hfu
    have heq : bgf (fun n => spl (hbl a p) (2 ^ (vN a + 1) - 1) n && decide (vst (hbl a p) (val (hbl a p) (vN a)) (2 ^ (vN a + 1) - 1) n = val (kh KD kc) (vN a) (2 ^ kc - 1))) (vN a) 0 = bgf (fun n => spl (kh KD kc) (2 ^ kc - 1) n && decide (vst (kh KD kc) (val (kh KD kc) (vN a)) (2 ^ kc - 1) n = val (kh KD kc) (vN a) (2 ^ kc - 1))) (vN a) 0 := by
      refine bgf_c _ _ (fun j _ hj => ?_)
      have hj' : j < vN a := by omega
      have l1 : (2 ^ (vN a + 1) - 1) &&& hbl a p j ≤ 2 ^ (vN a + 1) - 1 := Nat.and_le_left
      have l2 := an_leS (2 ^ (vN a + 1) - 1) (hbl a p j)
      have e1 := spl_K (B := 2 ^ (vN a + 1) - 1) q1 (q2 j hj') (by omega)
      have e2 := vst_K (B := 2 ^ (vN a + 1) - 1) (V := val (hbl a p) (vN a)) (V' := val (kh KD kc) (vN a)) q1 (q2 j hj') (val_K q1 q2 _ (by omega)) (val_K q1 q2 _ (by omega))
      rw [q3] at e1 e2
      show (spl (hbl a p) (2 ^ (vN a + 1) - 1) j && decide (vst (hbl a p) (val (hbl a p) (vN a)) (2 ^ (vN a + 1) - 1) j = _)) = (spl (kh KD kc) (2 ^ kc - 1) j && decide (vst (kh KD kc) (val (kh KD kc) (vN a)) (2 ^ kc - 1) j = _))
      rw [e1, e2]
    rw [heq] at er
    have hsh : ((1 : Int32) <<< (nI kc &&& 31)) - 1 = nI (2 ^ kc - 1) := by
      rw [show (1 : Int32) <<< (nI kc &&& 31) = nI (2 ^ kc) from v_pow (by omega), show nI (2 ^ kc) - 1 = nI (2 ^ kc - 1) from nI_sub (b := 1) (by omega)]
    have efn : F_X9_firstNote 148 (Em g t1) = some (if val (kh KD kc) (vN a) (2 ^ kc - 1) = 0 then -nI 1 else bgf (fun n => spl (kh KD kc) (2 ^ kc - 1) n && decide (vst (kh KD kc) (val (kh KD kc) (vN a)) (2 ^ kc - 1) n = val (kh KD kc) (vN a) (2 ^ kc - 1))) (vN a) 0, Em g t2) := by
      unfold F_X9_firstNote
      rw [x_i148_3 X, Option.bind_some, h3', x_rc148 X, Option.bind_some, e2, Option.bind_some, hsh]
      exact ec
    refine ok_0 (r := if val (kh KD kc) (vN a) (2 ^ kc - 1) = 0 then -nI 1 else bgf (fun n => spl (kh KD kc) (2 ^ kc - 1) n && decide (vst (kh KD kc) (val (kh KD kc) (vN a)) (2 ^ kc - 1) n = val (kh KD kc) (vN a) (2 ^ kc - 1))) (vN a) 0) (t1 := t2) (t2 := t3) I hD ?_ ?_ s2 (Sm_t (Sm_wi (a := 183) (k := 0) rfl Sm_r) s3)
    · unfold F_X11_begins
      rw [c_r69 X C.2.2.2.1, Option.bind_some, v_rc V, Option.bind_some, k_person V C, Option.bind_some, hx, if_pos (show ¬ bI true = (0 : Int32) by decide), x_r69_8 X, Option.bind_some, c_r69 X C.2.2.2.1, Option.bind_some, x_r69_2 X, Option.bind_some, x_rc148 X, Option.bind_some, e1, Option.bind_some, x_r69_8 X, Option.bind_some, x_rc148 X, Option.bind_some, efn, Option.bind_some]
    · unfold F_X12_begins
      rw [hw0, Option.bind_some, x_rc183 X, Option.bind_some, q_personX (t := wi t2 183 0 (nI 0)) X W ha2, Option.bind_some, hx, if_pos (show ¬ bI true = (0 : Int32) by decide), x_rc183 X, Option.bind_some, e3, Option.bind_some]
      exact er
end XFe
