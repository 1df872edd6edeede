/-! ===== beginnings of tunes through a set: pure ===== -/
def bgm (A N : Nat) (fo : Nat → Nat → Bool) (V : Nat → Nat) (S : Nat) : Nat := if ¬ an_ S A = 0 then 0 else if S &&& (S - 1) = 0 then S else mk (fun n => S.testBit n && decide (¬ mk (fo n) N &&& V (an_ S (2 ^ n)) = 0)) N
def bgz (A N : Nat) (fo : Nat → Nat → Bool) : Nat → Nat → Nat
  | 0, _ => 0
  | f + 1, S => bgm A N fo (bgz A N fo f) S
def bg (A N : Nat) (fo : Nat → Nat → Bool) (S : Nat) : Nat := bgz A N fo (S + 1) S
theorem an_lt2 {S n : Nat} (h : S.testBit n = true) : an_ S (2 ^ n) < S := an_ltS (by
  intro e
  have := congrArg (fun z => z.testBit n) e
  simp only [Nat.testBit_and, Nat.zero_testBit, h, Nat.testBit_two_pow, decide_true, Bool.and_self] at this
  cases this)
theorem bgm_c {A N : Nat} {fo : Nat → Nat → Bool} {V V' : Nat → Nat} {S : Nat} (h : ∀ T, T < S → V T = V' T) : bgm A N fo V S = bgm A N fo V' S := by
  unfold bgm
  have : mk (fun n => S.testBit n && decide (¬ mk (fo n) N &&& V (an_ S (2 ^ n)) = 0)) N = mk (fun n => S.testBit n && decide (¬ mk (fo n) N &&& V' (an_ S (2 ^ n)) = 0)) N := mk_cong (fun n _ => by
    cases q : S.testBit n
    · rfl
    · rw [h _ (an_lt2 q)])
  rw [this]
theorem bgz_st {A N : Nat} {fo : Nat → Nat → Bool} : ∀ S f f', S < f → S < f' → bgz A N fo f S = bgz A N fo f' S := by
  intro S
  induction S using Nat.strongRecOn with
  | ind S ih =>
    intro f f' h h'
    obtain ⟨f, rfl⟩ : ∃ k, f = k + 1 := ⟨f - 1, by omega⟩
    obtain ⟨f', rfl⟩ : ∃ k, f' = k + 1 := ⟨f' - 1, by omega⟩
    rw [bgz, bgz]
    exact bgm_c (fun T hT => ih T hT f f' (by omega) (by omega))
theorem bg_eq {A N : Nat} {fo : Nat → Nat → Bool} {S : Nat} : bg A N fo S = bgm A N fo (bg A N fo) S := by
  show bgz A N fo (S + 1) S = _
  rw [bgz]
  exact bgm_c (fun T hT => bgz_st T S (T + 1) hT (by omega))
theorem nz_ex {x : Nat} : ¬ x = 0 ↔ ∃ i, x.testBit i = true := by
  constructor
  · intro h
    apply Classical.byContradiction
    intro q
    apply h
    apply Nat.eq_of_testBit_eq
    intro i
    rw [Nat.zero_testBit]
    cases e : x.testBit i
    · rfl
    · exact absurd ⟨i, e⟩ q
  · rintro ⟨i, hi⟩ rfl
    simp at hi
theorem sub_an {S A : Nat} : an_ S A = 0 ↔ ∀ i, S.testBit i = true → A.testBit i = true := by
  constructor
  · intro h i hi
    have := congrArg (fun z => z.testBit i) h
    simp only [an_bit, Nat.zero_testBit, hi, Bool.true_and] at this
    cases q : A.testBit i
    · rw [q] at this; cases this
    · rfl
  · intro h
    apply Nat.eq_of_testBit_eq
    intro i
    rw [an_bit, Nat.zero_testBit]
    cases q : S.testBit i
    · rfl
    · rw [h i q]; rfl
/-- one begins a tune through all of S with b -/
theorem bg_bit {A N : Nat} {fo : Nat → Nat → Bool} {S b : Nat} (hN : N ≤ 10) (hS : S < 2 ^ N) : (bg A N fo S).testBit b = true ↔ an_ S A = 0 ∧ S.testBit b = true ∧ (S = 2 ^ b ∨ ∃ c, fo b c = true ∧ (bg A N fo (an_ S (2 ^ b))).testBit c = true) := by
  have h1k : 2 ^ N ≤ 1024 := Nat.pow_le_pow_right (n := 2) (by decide) hN
  have hbN : ∀ T c, T < 2 ^ N → (bg A N fo T).testBit c = true → c < N := by
    intro T c hT h
    rw [bg_eq] at h
    unfold bgm at h
    split at h
    · simp at h
    · split at h
      · rcases Nat.lt_or_ge c N with q | q
        · exact q
        · rw [testBit_ge hT q] at h; cases h
      · rw [mk_bit, Bool.and_eq_true, decide_eq_true_eq] at h
        exact h.1
  rw [bg_eq]
  unfold bgm
  by_cases h1 : an_ S A = 0
  · rw [if_neg (fun q => q h1)]
    by_cases h2 : S &&& (S - 1) = 0
    · rw [if_pos h2]
      rcases one_c S (by omega) h2 with e | ⟨k, hk, e⟩
      · rw [e]
        simp
      · rw [e, Nat.testBit_two_pow]
        constructor
        · intro q
          have q2 : k = b := of_decide_eq_true q
          exact ⟨by rw [← e]; exact h1, q, Or.inl (by rw [q2])⟩
        · exact fun q => q.2.1
    · rw [if_neg h2, mk_bit, Bool.and_eq_true, decide_eq_true_eq, Bool.and_eq_true, decide_eq_true_eq, nz_ex]
      constructor
      · rintro ⟨q1, q2, i, q3⟩
        rw [Nat.testBit_and, Bool.and_eq_true, mk_bit, Bool.and_eq_true] at q3
        exact ⟨h1, q2, Or.inr ⟨i, q3.1.2, q3.2⟩⟩
      · rintro ⟨_, q2, q3⟩
        have hbN' : b < N := by
          rcases Nat.lt_or_ge b N with q | q
          · exact q
          · rw [testBit_ge hS q] at q2; cases q2
        refine ⟨hbN', q2, ?_⟩
        rcases q3 with q3 | ⟨c, q3, q4⟩
        · exfalso
          apply h2
          rw [q3]
          apply Nat.eq_of_testBit_eq
          intro i
          rw [Nat.testBit_and, Nat.testBit_two_pow, Nat.testBit_two_pow_sub_one, Nat.zero_testBit]
          by_cases e : b = i
          · simp [e]
          · simp [e]
        · have hcN := hbN _ c (Nat.lt_of_le_of_lt (an_leS _ _) hS) q4
          exact ⟨c, by rw [Nat.testBit_and, mk_bit, decide_eq_true hcN, q3, q4]; rfl⟩
  · rw [if_pos h1]
    constructor
    · intro q; simp at q
    · exact fun q => absurd q.1 h1
theorem bg_N {A N : Nat} {fo : Nat → Nat → Bool} {S b : Nat} (hN : N ≤ 10) (hS : S < 2 ^ N) (h : (bg A N fo S).testBit b = true) : b < N ∧ S.testBit b = true ∧ A.testBit b = true := by
  have q := (bg_bit hN hS).mp h
  refine ⟨?_, q.2.1, sub_an.mp q.1 b q.2.1⟩
  rcases Nat.lt_or_ge b N with z | z
  · exact z
  · rw [testBit_ge hS z] at q; exact absurd q.2.1 (by decide)
theorem pc_rm {S n : Nat} (h : S.testBit n = true) : ∀ k, n < k → pc (an_ S (2 ^ n)) k + 1 = pc S k := by
  intro k hk
  have h1 := pc_and S (2 ^ n) k
  have h2 : S &&& 2 ^ n = 2 ^ n := by
    apply Nat.eq_of_testBit_eq
    intro i
    rw [Nat.testBit_and, Nat.testBit_two_pow]
    by_cases e : n = i
    · subst e; simp [h]
    · simp [e]
  have h3 : pc (2 ^ n) k = 1 := by
    have := pc_set (U := 0) (p := n) (by simp) k
    rw [Nat.zero_or, pc_0, if_pos hk] at this
    exact this
  rw [h2, h3] at h1
  omega
def exS (A N : Nat) (fo : Nat → Nat → Bool) (nx : Nat → Nat → Bool) (U l k : Nat) : Prop := ∃ S, S < 2 ^ N ∧ S &&& U = 0 ∧ pcn S = k ∧ (k = 0 ∨ ∃ b, nx l b = true ∧ (bg A N fo S).testBit b = true)
section XBe
variable {A N : Nat} {fo : Nat → Nat → Bool} {nx : Nat → Nat → Bool}
/-- put n before a tune -/
theorem ex_up (hN : N ≤ 10) (hx : ∀ m n, m < N → nx m n = (A.testBit n && fo m n)) {U n k : Nat} (hU : U < 2 ^ N) (hn : n < N) (hnU : U.testBit n = false) (hA : A.testBit n = true) (h : exS A N fo nx (U ||| 2 ^ n) n k) : ∃ S, S < 2 ^ N ∧ S &&& U = 0 ∧ pcn S = k + 1 ∧ (bg A N fo S).testBit n = true := by
  obtain ⟨S', h1, h2, h3, h4⟩ := h
  have hd : ∀ i, S'.testBit i = true → U.testBit i = false ∧ i ≠ n := by
    intro i hi
    have := congrArg (fun z => z.testBit i) h2
    simp only [Nat.testBit_and, Nat.zero_testBit, hi, Bool.true_and, fb_bit_set, Bool.or_eq_false_iff, decide_eq_false_iff_not] at this
    exact this
  have hnS : S'.testBit n = false := by
    cases q : S'.testBit n
    · rfl
    · exact absurd rfl (hd n q).2
  have hlt : S' ||| 2 ^ n < 2 ^ N := Nat.or_lt_two_pow h1 (Nat.pow_lt_pow_right (by decide) hn)
  have hrm : an_ (S' ||| 2 ^ n) (2 ^ n) = S' := by
    apply Nat.eq_of_testBit_eq
    intro i
    rw [an_bit, fb_bit_set, Nat.testBit_two_pow]
    by_cases e : i = n
    · subst e; simp [hnS]
    · have e2 : ¬ n = i := fun z => e z.symm
      simp [e, e2]
  refine ⟨S' ||| 2 ^ n, hlt, ?_, ?_, ?_⟩
  · apply Nat.eq_of_testBit_eq
    intro i
    rw [Nat.testBit_and, fb_bit_set, Nat.zero_testBit]
    by_cases e : i = n
    · rw [e, hnU, Bool.and_false]
    · cases q : S'.testBit i
      · simp [e]
      · rw [(hd i q).1, Bool.and_false]
  · unfold pcn at h3 ⊢
    rw [pc_set hnS, if_pos (by omega), h3]
  · rw [bg_bit hN hlt, hrm]
    have hsub : an_ (S' ||| 2 ^ n) A = 0 := by
      rw [sub_an]
      intro i hi
      rw [fb_bit_set, Bool.or_eq_true, decide_eq_true_eq] at hi
      rcases hi with hi | hi
      · rcases h4 with h4 | ⟨b, _, hb⟩
        · exfalso
          have hz : S' = 0 := by
            apply Nat.eq_of_testBit_eq
            intro j
            rw [Nat.zero_testBit]
            cases q : S'.testBit j
            · rfl
            · exfalso
              have hjN : j < N := by
                rcases Nat.lt_or_ge j N with z | z
                · exact z
                · rw [testBit_ge h1 z] at q; cases q
              have := pc_rm q 11 (by omega)
              unfold pcn at h3
              omega
          rw [hz] at hi
          simp at hi
        · exact sub_an.mp ((bg_bit hN h1).mp hb).1 i hi
      · rw [hi]; exact hA
    refine ⟨hsub, by rw [fb_bit_set, decide_eq_true rfl, Bool.or_true], ?_⟩
    rcases h4 with h4 | ⟨b, hb1, hb2⟩
    · left
      have hz : S' = 0 := by
        apply Nat.eq_of_testBit_eq
        intro j
        rw [Nat.zero_testBit]
        cases q : S'.testBit j
        · rfl
        · exfalso
          have hjN : j < N := by
            rcases Nat.lt_or_ge j N with z | z
            · exact z
            · rw [testBit_ge h1 z] at q; cases q
          have := pc_rm q 11 (by omega)
          unfold pcn at h3
          omega
      rw [hz, Nat.zero_or]
    · right
      rw [hx n b hn, Bool.and_eq_true] at hb1
      exact ⟨b, hb1.2, hb2⟩
/-- take its first note away -/
theorem ex_down (hN : N ≤ 10) (hx : ∀ m n, m < N → nx m n = (A.testBit n && fo m n)) {U n k S : Nat} (hS : S < 2 ^ N) (hd : S &&& U = 0) (hp : pcn S = k + 1) (hb : (bg A N fo S).testBit n = true) : n < N ∧ U.testBit n = false ∧ A.testBit n = true ∧ exS A N fo nx (U ||| 2 ^ n) n k := by
  obtain ⟨hnN, hnS, hnA⟩ := bg_N hN hS hb
  have q := (bg_bit hN hS).mp hb
  have hnU : U.testBit n = false := by
    have := congrArg (fun z => z.testBit n) hd
    simp only [Nat.testBit_and, Nat.zero_testBit, hnS, Bool.true_and] at this
    exact this
  have hlt : an_ S (2 ^ n) < 2 ^ N := Nat.lt_of_le_of_lt (an_leS _ _) hS
  have hpc := pc_rm hnS 11 (by omega)
  refine ⟨hnN, hnU, hnA, an_ S (2 ^ n), hlt, ?_, by unfold pcn at hp ⊢; omega, ?_⟩
  · apply Nat.eq_of_testBit_eq
    intro i
    rw [Nat.testBit_and, an_bit, fb_bit_set, Nat.testBit_two_pow, Nat.zero_testBit]
    by_cases e : i = n
    · subst e; simp
    · have e2 : ¬ n = i := fun z => e z.symm
      have := congrArg (fun z => z.testBit i) hd
      simp only [Nat.testBit_and, Nat.zero_testBit] at this
      simp [e, e2]
      cases hs : S.testBit i
      · simp
      · rw [hs, Bool.true_and] at this
        simp [this]
  · rcases q.2.2 with q3 | ⟨c, q3, q4⟩
    · left
      have h2 : an_ S (2 ^ n) = 0 := by
        rw [q3]
        exact an_self _
      have h0 : pc (an_ S (2 ^ n)) 11 = 0 := by rw [h2]; exact pc_0 11
      unfold pcn at hp
      omega
    · right
      have hc := bg_N hN hlt q4
      refine ⟨c, ?_, q4⟩
      rw [hx n c hnN, hc.2.2, q3]
      rfl
theorem ge_ex (hN : N ≤ 10) (hx : ∀ m n, m < N → nx m n = (A.testBit n && fo m n)) (hxA : ∀ m n, nx m n = true → A.testBit n = true) : ∀ (k U l : Nat), U < 2 ^ N → (k ≤ Mx N nx U l ↔ exS A N fo nx U l k) := by
  intro k
  induction k with
  | zero =>
    intro U l hU
    exact ⟨fun _ => ⟨0, Nat.two_pow_pos N, Nat.zero_and _, pc_0 11, Or.inl rfl⟩, fun _ => Nat.zero_le _⟩
  | succ k ih =>
    intro U l hU
    rw [Mx_s hU]
    constructor
    · intro h
      rcases smx_at (f := fun n => if !U.testBit n && nx l n then 1 + Mx N nx (U ||| 2 ^ n) n else 0) (n := N) with e | ⟨n, hn, e⟩
      · omega
      · have e2 : (if !U.testBit n && nx l n then 1 + Mx N nx (U ||| 2 ^ n) n else 0) = smx (fun n => if !U.testBit n && nx l n then 1 + Mx N nx (U ||| 2 ^ n) n else 0) N := e
        by_cases c : (!U.testBit n && nx l n) = true
        · rw [if_pos c] at e2
          rw [Bool.and_eq_true, Bool.not_eq_true'] at c
          have hor : U ||| 2 ^ n < 2 ^ N := Nat.or_lt_two_pow hU (Nat.pow_lt_pow_right (by decide) hn)
          have hA := hxA l n c.2
          obtain ⟨S, a1, a2, a3, a4⟩ := ex_up hN hx hU hn c.1 hA ((ih (U ||| 2 ^ n) n hor).mp (by omega))
          exact ⟨S, a1, a2, a3, Or.inr ⟨n, c.2, a4⟩⟩
        · rw [if_neg c] at e2
          omega
    · rintro ⟨S, a1, a2, a3, a4⟩
      rcases a4 with a4 | ⟨n, b1, b2⟩
      · omega
      · obtain ⟨c1, c2, c3, c4⟩ := ex_down hN hx a1 a2 a3 b2
        have hor : U ||| 2 ^ n < 2 ^ N := Nat.or_lt_two_pow hU (Nat.pow_lt_pow_right (by decide) c1)
        have h1 := (ih (U ||| 2 ^ n) n hor).mpr c4
        have h2 := smx_ge (f := fun n => if !U.testBit n && nx l n then 1 + Mx N nx (U ||| 2 ^ n) n else 0) c1
        have h3 : (if !U.testBit n && nx l n then 1 + Mx N nx (U ||| 2 ^ n) n else 0) = 1 + Mx N nx (U ||| 2 ^ n) n := by
          rw [c2, b1]
          rfl
        have h4 : 1 + Mx N nx (U ||| 2 ^ n) n ≤ smx (fun n => if !U.testBit n && nx l n then 1 + Mx N nx (U ||| 2 ^ n) n else 0) N := by
          rw [← h3]
          exact h2
        omega
/-- the class's choice is the reference's -/
theorem lok_bg (hN : N ≤ 10) (hx : ∀ m n, m < N → nx m n = (A.testBit n && fo m n)) (hxA : ∀ m n, nx m n = true → A.testBit n = true) {U l r n : Nat} (hU : U < 2 ^ N) (hr : Mx N nx U l = r) (h0 : 0 < r) (hn : n < N) : lok N nx U l r n = true ↔ nx l n = true ∧ ∃ S, S < 2 ^ N ∧ S &&& U = 0 ∧ pcn S = r ∧ (bg A N fo S).testBit n = true := by
  obtain ⟨k, rfl⟩ : ∃ k, r = k + 1 := ⟨r - 1, by omega⟩
  have hor : U ||| 2 ^ n < 2 ^ N := Nat.or_lt_two_pow hU (Nat.pow_lt_pow_right (by decide) hn)
  unfold lok
  rw [Bool.and_eq_true, Bool.and_eq_true, Bool.not_eq_true', decide_eq_true_eq]
  constructor
  · rintro ⟨⟨h1, h2⟩, h3⟩
    exact ⟨h2, ex_up hN hx hU hn h1 (hxA l n h2) ((ge_ex hN hx hxA k _ n hor).mp (by omega))⟩
  · rintro ⟨h2, S, a1, a2, a3, a4⟩
    obtain ⟨c1, c2, c3, c4⟩ := ex_down hN hx a1 a2 a3 a4
    have g1 := (ge_ex hN hx hxA k _ n hor).mpr c4
    rw [Mx_s hU] at hr
    have h3 := smx_ge (f := fun n => if !U.testBit n && nx l n then 1 + Mx N nx (U ||| 2 ^ n) n else 0) hn
    have h4 : (if !U.testBit n && nx l n then 1 + Mx N nx (U ||| 2 ^ n) n else 0) ≤ k + 1 := by
      rw [← hr]
      exact h3
    rw [c2, h2] at h4
    have h5 : 1 + Mx N nx (U ||| 2 ^ n) n ≤ k + 1 := h4
    exact ⟨⟨c2, h2⟩, by omega⟩
end XBe
