/-! ===== the fewest trials at worst, of sets: pure ===== -/
def spl (H : Nat → Nat) (S n : Nat) : Bool := decide (¬ S &&& H n = 0 ∧ ¬ an_ S (H n) = 0)
def mxn (x y : Nat) : Nat := if x ≤ y then y else x
def vst (H : Nat → Nat) (V : Nat → Nat) (S n : Nat) : Nat := 1 + mxn (V (S &&& H n)) (V (an_ S (H n)))
def omn (o : Option Nat) (x : Nat) : Nat := match o with
  | none => x
  | some m => if m ≤ x then m else x
def vmn (H : Nat → Nat) (V : Nat → Nat) (S : Nat) : Nat → Option Nat
  | 0 => none
  | n + 1 => if spl H S n then some (omn (vmn H V S n) (vst H V S n)) else vmn H V S n
def vv (H : Nat → Nat) (N : Nat) : Nat → Nat → Nat
  | 0, _ => 0
  | f + 1, S => (vmn H (vv H N f) S N).getD 0
def val (H : Nat → Nat) (N S : Nat) : Nat := vv H N (S + 1) S
theorem an_sub (S h : Nat) : an_ S h &&& S = an_ S h := by
  apply Nat.eq_of_testBit_eq
  intro i
  rw [Nat.testBit_and, an_bit]
  cases S.testBit i <;> simp
theorem an_leS (S h : Nat) : an_ S h ≤ S := by
  rw [← an_sub]
  exact Nat.and_le_right
theorem and_ltS {S h : Nat} (q : ¬ an_ S h = 0) : S &&& h < S := by
  have h1 : S &&& h ≤ S := Nat.and_le_left
  have h2 : S &&& h ≠ S := by
    intro e
    apply q
    unfold an_
    rw [e, Nat.xor_self]
  omega
theorem an_ltS {S h : Nat} (q : ¬ S &&& h = 0) : an_ S h < S := by
  have h1 := an_leS S h
  have h2 : an_ S h ≠ S := by
    intro e
    apply q
    apply Nat.eq_of_testBit_eq
    intro i
    have := congrArg (fun z => z.testBit i) e
    simp only [an_bit] at this
    rw [Nat.testBit_and]
    cases hs : S.testBit i <;> cases hh : h.testBit i <;> simp [hs, hh] at this ⊢
  omega
theorem spl_t {H : Nat → Nat} {S n : Nat} (h : spl H S n = true) : ¬ S &&& H n = 0 ∧ ¬ an_ S (H n) = 0 := of_decide_eq_true h
theorem vmn_c {H V V' : Nat → Nat} {S : Nat} (h : ∀ T, T < S → V T = V' T) : ∀ n, vmn H V S n = vmn H V' S n
  | 0 => rfl
  | n + 1 => by
    rw [vmn, vmn, vmn_c h n]
    by_cases q : spl H S n = true
    · have q2 := spl_t q
      rw [if_pos q, if_pos q]
      unfold vst
      rw [h _ (and_ltS q2.2), h _ (an_ltS q2.1)]
    · rw [if_neg q, if_neg q]
theorem vv_st {H : Nat → Nat} {N : Nat} : ∀ S f f', S < f → S < f' → vv H N f S = vv H N f' S := by
  intro S
  induction S using Nat.strongRecOn with
  | ind S ih =>
    intro f f' h h'
    obtain ⟨f, rfl⟩ : ∃ k, f = k + 1 := ⟨f - 1, by omega⟩
    obtain ⟨f', rfl⟩ : ∃ k, f' = k + 1 := ⟨f' - 1, by omega⟩
    rw [vv, vv, vmn_c (V' := vv H N f') (fun T hT => ih T hT f f' (by omega) (by omega))]
theorem val_eq (H : Nat → Nat) (N S : Nat) : val H N S = (vmn H (val H N) S N).getD 0 := by
  unfold val
  rw [vv, vmn_c (V' := fun S => vv H N (S + 1) S) (fun T hT => vv_st T S (T + 1) hT (by omega))]
theorem vmn_m {H V : Nat → Nat} {S : Nat} : ∀ {n m : Nat}, vmn H V S n = some m → (∃ j, j < n ∧ spl H S j = true ∧ m = vst H V S j) ∧ ∀ j, j < n → spl H S j = true → m ≤ vst H V S j
  | 0, _, h => by cases h
  | n + 1, m, h => by
    rw [vmn] at h
    by_cases q : spl H S n = true
    · rw [if_pos q] at h
      injection h with h
      cases e : vmn H V S n with
      | none =>
        rw [e] at h
        refine ⟨⟨n, by omega, q, h.symm⟩, fun j hj hs => ?_⟩
        by_cases e2 : j = n
        · rw [e2]
          exact Nat.le_of_eq h.symm
        · exfalso
          have hn : ∀ k, k ≤ n → vmn H V S k = none := by
            intro k
            induction k with
            | zero => intro _; rfl
            | succ k _ =>
              intro hk
              cases e3 : vmn H V S (k + 1) with
              | none => rfl
              | some z =>
                exfalso
                have mono : ∀ d, ∃ z, vmn H V S (k + 1 + d) = some z := by
                  intro d
                  induction d with
                  | zero => exact ⟨z, e3⟩
                  | succ d ihd =>
                    obtain ⟨z', hz'⟩ := ihd
                    rw [show k + 1 + (d + 1) = (k + 1 + d) + 1 by omega, vmn]
                    split
                    · exact ⟨_, rfl⟩
                    · exact ⟨z', hz'⟩
                obtain ⟨z', hz'⟩ := mono (n - (k + 1))
                rw [show k + 1 + (n - (k + 1)) = n by omega, e] at hz'
                cases hz'
          have := hn (j + 1) (by omega)
          rw [vmn, if_pos hs] at this
          cases this
      | some z =>
        rw [e] at h
        have ih := vmn_m e
        unfold omn at h
        simp only at h
        by_cases c : z ≤ vst H V S n
        · rw [if_pos c] at h
          subst h
          refine ⟨?_, fun j hj hs => ?_⟩
          · obtain ⟨j, h1, h2, h3⟩ := ih.1
            exact ⟨j, by omega, h2, h3⟩
          · by_cases e2 : j = n
            · rw [e2]; exact c
            · exact ih.2 j (by omega) hs
        · rw [if_neg c] at h
          subst h
          refine ⟨⟨n, by omega, q, rfl⟩, fun j hj hs => ?_⟩
          by_cases e2 : j = n
          · rw [e2]; exact Nat.le_refl _
          · have := ih.2 j (by omega) hs
            omega
    · rw [if_neg q] at h
      have ih := vmn_m h
      refine ⟨?_, fun j hj hs => ?_⟩
      · obtain ⟨j, h1, h2, h3⟩ := ih.1
        exact ⟨j, by omega, h2, h3⟩
      · by_cases e2 : j = n
        · rw [e2] at hs; exact absurd hs q
        · exact ih.2 j (by omega) hs
theorem vmn_none {H V : Nat → Nat} {S : Nat} : ∀ {n : Nat}, vmn H V S n = none → ∀ j, j < n → spl H S j = false
  | 0, _, j, hj => absurd hj (by omega)
  | n + 1, h, j, hj => by
    rw [vmn] at h
    by_cases q : spl H S n = true
    · rw [if_pos q] at h; cases h
    · rw [if_neg q] at h
      by_cases e : j = n
      · rw [e]; simpa using q
      · exact vmn_none h j (by omega)
theorem bits_sub {x y : Nat} (h : x ≠ 0) (hs : ∀ i, x.testBit i = true → y.testBit i = true) : y ≠ 0 := by
  rintro rfl
  apply h
  apply Nat.eq_of_testBit_eq
  intro i
  cases q : x.testBit i
  · simp
  · have := hs i q
    simp at this
theorem spl_sub {H : Nat → Nat} {S T j : Nat} (hs : ∀ i, T.testBit i = true → S.testBit i = true) (h : spl H T j = true) : spl H S j = true := by
  have h2 := spl_t h
  refine decide_eq_true ⟨bits_sub h2.1 (fun i hi => ?_), bits_sub h2.2 (fun i hi => ?_)⟩
  · rw [Nat.testBit_and, Bool.and_eq_true] at hi ⊢
    exact ⟨hs i hi.1, hi.2⟩
  · rw [an_bit, Bool.and_eq_true] at hi ⊢
    exact ⟨hs i hi.1, hi.2⟩
theorem spl_n1 {H : Nat → Nat} {S n : Nat} : spl H (S &&& H n) n = false := by
  apply decide_eq_false
  rintro ⟨_, h⟩
  apply h
  apply Nat.eq_of_testBit_eq
  intro i
  rw [an_bit, Nat.testBit_and]
  cases S.testBit i <;> cases (H n).testBit i <;> simp
theorem spl_n2 {H : Nat → Nat} {S n : Nat} : spl H (an_ S (H n)) n = false := by
  apply decide_eq_false
  rintro ⟨h, _⟩
  apply h
  apply Nat.eq_of_testBit_eq
  intro i
  rw [Nat.testBit_and, an_bit]
  cases S.testBit i <;> cases (H n).testBit i <;> simp
theorem ct_lt {H : Nat → Nat} {S T N n : Nat} (hn : n < N) (hs : ∀ i, T.testBit i = true → S.testBit i = true) (h1 : spl H S n = true) (h2 : spl H T n = false) : fb_ct (fun k => spl H T k) N + 1 ≤ fb_ct (fun k => spl H S k) N := by
  have e := fb_ct_upd (fun k => spl H S k) false hn
  rw [h1] at e
  simp only [if_true, Bool.false_eq_true, if_false] at e
  have l : fb_ct (fun k => spl H T k) N ≤ fb_ct (fun k => if k = n then false else spl H S k) N := fb_ct_sub (fun k hk q => by
    by_cases ek : k = n
    · rw [ek, h2] at q; exact absurd q (by decide)
    · rw [if_neg ek]; exact spl_sub hs q)
  omega
theorem val_le (H : Nat → Nat) (N : Nat) : ∀ S, val H N S ≤ fb_ct (fun k => spl H S k) N := by
  intro S
  induction S using Nat.strongRecOn with
  | ind S ih =>
    rw [val_eq]
    cases e : vmn H (val H N) S N with
    | none => exact Nat.zero_le _
    | some m =>
      obtain ⟨j, hj, hs, hm⟩ := (vmn_m e).1
      have h2 := spl_t hs
      have i1 := ih _ (and_ltS h2.2)
      have i2 := ih _ (an_ltS h2.1)
      have c1 := ct_lt (T := S &&& H j) hj (fun i hi => by rw [Nat.testBit_and, Bool.and_eq_true] at hi; exact hi.1) hs spl_n1
      have c2 := ct_lt (T := an_ S (H j)) hj (fun i hi => by rw [an_bit, Bool.and_eq_true] at hi; exact hi.1) hs spl_n2
      show m ≤ _
      rw [hm]
      unfold vst mxn
      split <;> omega
theorem val_N (H : Nat → Nat) (N S : Nat) : val H N S ≤ N := Nat.le_trans (val_le H N S) (fb_ct_le _ N)
/-! sets of blanks against sets of kinds -/
def exb (f : Nat → Bool) : Nat → Bool
  | 0 => false
  | m + 1 => exb f m || f m
theorem exb_i {f : Nat → Bool} : ∀ {m : Nat}, exb f m = true ↔ ∃ b, b < m ∧ f b = true
  | 0 => by
    constructor
    · intro h; cases h
    · rintro ⟨b, h, _⟩; omega
  | m + 1 => by
    rw [exb, Bool.or_eq_true, exb_i]
    constructor
    · rintro (⟨b, h1, h2⟩ | h)
      · exact ⟨b, by omega, h2⟩
      · exact ⟨m, by omega, h⟩
    · rintro ⟨b, h1, h2⟩
      by_cases e : b = m
      · rw [e] at h2; exact Or.inr h2
      · exact Or.inl ⟨b, by omega, h2⟩
def Kof (kd : Nat → Nat) (M kc B : Nat) : Nat := mk (fun j => exb (fun b => B.testBit b && decide (kd b = j)) M) kc
theorem K_bit {kd : Nat → Nat} {M kc B j : Nat} : (Kof kd M kc B).testBit j = true ↔ j < kc ∧ ∃ b, b < M ∧ B.testBit b = true ∧ kd b = j := by
  unfold Kof
  rw [mk_bit, Bool.and_eq_true, decide_eq_true_eq, exb_i]
  simp only [Bool.and_eq_true, decide_eq_true_eq]
theorem testBit_ge {B M i : Nat} (h : B < 2 ^ M) (hi : M ≤ i) : B.testBit i = false := Nat.testBit_lt_two_pow (Nat.lt_of_lt_of_le h (Nat.pow_le_pow_right (by decide) hi))
section XTr
variable {kd : Nat → Nat} {M kc N : Nat} {H H' : Nat → Nat}
theorem K_0 (hk : ∀ b, b < M → kd b < kc) {B : Nat} (hB : B < 2 ^ M) : Kof kd M kc B = 0 ↔ B = 0 := by
  constructor
  · intro h
    apply Nat.eq_of_testBit_eq
    intro i
    cases q : B.testBit i
    · simp
    · exfalso
      have hi : i < M := by
        rcases Nat.lt_or_ge i M with z | z
        · exact z
        · rw [testBit_ge hB z] at q; cases q
      have : (Kof kd M kc B).testBit (kd i) = true := K_bit.mpr ⟨hk i hi, i, hi, q, rfl⟩
      rw [h] at this
      simp at this
  · rintro rfl
    apply Nat.eq_of_testBit_eq
    intro i
    cases q : (Kof kd M kc 0).testBit i
    · simp
    · obtain ⟨_, b, _, h, _⟩ := K_bit.mp q
      simp at h
theorem K_and (hk : ∀ b, b < M → kd b < kc) {n : Nat} (hh : ∀ b, b < M → (H n).testBit b = (H' n).testBit (kd b)) {B : Nat} : Kof kd M kc (B &&& H n) = Kof kd M kc B &&& H' n := by
  apply Nat.eq_of_testBit_eq
  intro j
  rw [Bool.eq_iff_iff, Nat.testBit_and, Bool.and_eq_true, K_bit, K_bit]
  constructor
  · rintro ⟨h1, b, h2, h3, h4⟩
    rw [Nat.testBit_and, Bool.and_eq_true, hh b h2, h4] at h3
    exact ⟨⟨h1, b, h2, h3.1, h4⟩, h3.2⟩
  · rintro ⟨⟨h1, b, h2, h3, h4⟩, h5⟩
    refine ⟨h1, b, h2, ?_, h4⟩
    rw [Nat.testBit_and, Bool.and_eq_true, hh b h2, h4]
    exact ⟨h3, h5⟩
theorem K_an (hk : ∀ b, b < M → kd b < kc) {n : Nat} (hh : ∀ b, b < M → (H n).testBit b = (H' n).testBit (kd b)) {B : Nat} : Kof kd M kc (an_ B (H n)) = an_ (Kof kd M kc B) (H' n) := by
  apply Nat.eq_of_testBit_eq
  intro j
  rw [Bool.eq_iff_iff, an_bit, Bool.and_eq_true, K_bit, K_bit]
  constructor
  · rintro ⟨h1, b, h2, h3, h4⟩
    rw [an_bit, Bool.and_eq_true, hh b h2, h4] at h3
    exact ⟨⟨h1, b, h2, h3.1, h4⟩, h3.2⟩
  · rintro ⟨⟨h1, b, h2, h3, h4⟩, h5⟩
    refine ⟨h1, b, h2, ?_, h4⟩
    rw [an_bit, Bool.and_eq_true, hh b h2, h4]
    exact ⟨h3, h5⟩
theorem spl_K (hk : ∀ b, b < M → kd b < kc) {n : Nat} (hh : ∀ b, b < M → (H n).testBit b = (H' n).testBit (kd b)) {B : Nat} (hB : B < 2 ^ M) : spl H' (Kof kd M kc B) n = spl H B n := by
  unfold spl
  rw [← K_and hk hh, ← K_an hk hh, decide_eq_decide, K_0 hk (Nat.lt_of_le_of_lt Nat.and_le_left hB), K_0 hk (Nat.lt_of_le_of_lt (an_leS _ _) hB)]
theorem vst_K (hk : ∀ b, b < M → kd b < kc) {n : Nat} (hh : ∀ b, b < M → (H n).testBit b = (H' n).testBit (kd b)) {V V' : Nat → Nat} {B : Nat} (h1 : V (B &&& H n) = V' (Kof kd M kc (B &&& H n))) (h2 : V (an_ B (H n)) = V' (Kof kd M kc (an_ B (H n)))) : vst H' V' (Kof kd M kc B) n = vst H V B n := by
  unfold vst
  rw [← K_and hk hh, ← K_an hk hh, h1, h2]
theorem val_K (hk : ∀ b, b < M → kd b < kc) (hh : ∀ n, n < N → ∀ b, b < M → (H n).testBit b = (H' n).testBit (kd b)) : ∀ B, B < 2 ^ M → val H N B = val H' N (Kof kd M kc B) := by
  intro B
  induction B using Nat.strongRecOn with
  | ind B ih =>
    intro hB
    rw [val_eq, val_eq]
    have : ∀ n, n ≤ N → vmn H (val H N) B n = vmn H' (val H' N) (Kof kd M kc B) n := by
      intro n
      induction n with
      | zero => intro _; rfl
      | succ n ihn =>
        intro hn
        have hs := spl_K hk (hh n (by omega)) hB
        rw [vmn, vmn, ihn (by omega), hs]
        by_cases q : spl H B n = true
        · have q2 := spl_t q
          have l1 := and_ltS q2.2
          have l2 := an_ltS q2.1
          rw [if_pos q, if_pos q, vst_K hk (hh n (by omega)) (ih _ l1 (by omega)) (ih _ l2 (by omega))]
        · rw [if_neg q, if_neg q]
    rw [this N (Nat.le_refl N)]
end XTr
