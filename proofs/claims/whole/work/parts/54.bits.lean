/-! ===== bits of small numbers ===== -/
theorem bb_tb (a : Nat) : (nI a).toBitVec = BitVec.ofNat 32 a := rfl
theorem bb_inj {x y : Int32} (h : x.toBitVec = y.toBitVec) : x = y := Int32.toBitVec_inj.mp h
/-- 1 << i -/
theorem bb_pow : ∀ i, i < 31 → (1 : Int32) <<< (nI i &&& 31) = nI (2 ^ i) := by decide +kernel
/-- a >> k -/
theorem bb_sh {k : Nat} (hk : k < 32) : ((nI k &&& 31).toBitVec.smod 32).toNat = k := by
  have : ∀ k, k < 32 → ((nI k &&& 31).toBitVec.smod 32).toNat = k := by decide +kernel
  exact this k hk
theorem bb_shr {a k : Nat} (ha : a < 2 ^ 31) (hk : k < 32) : nI a >>> (nI k &&& 31) = nI (a / 2 ^ k) := pk_shrN ha (nI k &&& 31) k (bb_sh hk)
/-- a >> k & 1 -/
theorem bb_bit {a k : Nat} (ha : a < 2 ^ 31) (hk : k < 32) : (nI a >>> (nI k &&& 31)) &&& 1 = if a.testBit k then 1 else 0 := by
  rw [bb_shr ha hk]
  have h1 : (1 : Int32) = nI 1 := rfl
  rw [h1, fa_and]
  have h2 : a / 2 ^ k &&& 1 = (a.testBit k).toNat := by
    rw [Nat.testBit_eq_decide_div_mod_eq, Nat.and_one_is_mod]
    have : a / 2 ^ k % 2 < 2 := Nat.mod_lt _ (by decide)
    rcases (show a / 2 ^ k % 2 = 0 ∨ a / 2 ^ k % 2 = 1 by omega) with h | h <;> simp [h]
  rw [h2]
  cases a.testBit k <;> rfl
theorem bb_bit0 {a k : Nat} (ha : a < 2 ^ 31) (hk : k < 32) : ((nI a >>> (nI k &&& 31)) &&& 1 = 0) ↔ a.testBit k = false := by
  rw [bb_bit ha hk]
  cases a.testBit k <;> decide
theorem bb_bit1 {a k : Nat} (ha : a < 2 ^ 31) (hk : k < 32) : ((nI a >>> (nI k &&& 31)) &&& 1 = 1) ↔ a.testBit k = true := by
  rw [bb_bit ha hk]
  cases a.testBit k <;> decide
/-- the set of the i below n with f i -/
def mk (f : Nat → Bool) : Nat → Nat
  | 0 => 0
  | n + 1 => mk f n + (if f n then 2 ^ n else 0)
theorem mk_lt (f : Nat → Bool) : ∀ n, mk f n < 2 ^ n
  | 0 => by simp [mk]
  | n + 1 => by
    have h := mk_lt f n
    rw [mk, Nat.pow_succ]
    split <;> omega
theorem mk_bit (f : Nat → Bool) (k : Nat) : ∀ n, (mk f n).testBit k = (decide (k < n) && f k)
  | 0 => by simp [mk]
  | n + 1 => by
    have ih := mk_bit f k n
    have hl := mk_lt f n
    rw [mk]
    by_cases hf : f n
    · rw [if_pos hf, Nat.add_comm]
      by_cases hk : k = n
      · subst hk
        rw [Nat.testBit_two_pow_add_eq, Nat.testBit_lt_two_pow hl]
        simp [hf]
      · rcases Nat.lt_or_gt_of_ne hk with h | h
        · rw [Nat.testBit_two_pow_add_gt h, ih]
          simp [h, Nat.lt_succ_of_lt h]
        · have h2 : 2 ^ n + mk f n < 2 ^ k := by
            have : 2 ^ (n + 1) ≤ 2 ^ k := Nat.pow_le_pow_right (by decide) h
            rw [Nat.pow_succ] at this
            omega
          rw [Nat.testBit_lt_two_pow h2]
          have : ¬ k < n + 1 := by omega
          simp [this]
    · rw [if_neg hf, Nat.add_zero, ih]
      by_cases hk : k = n
      · subst hk
        simp [hf]
      · have : (k < n + 1) ↔ (k < n) := by omega
        simp [this]
theorem mk_or (f : Nat → Bool) (n : Nat) (hf : f n = true) : mk f n ||| 2 ^ n = mk f (n + 1) := by
  apply Nat.eq_of_testBit_eq
  intro k
  rw [Nat.testBit_or, Nat.testBit_two_pow, mk_bit, mk_bit]
  by_cases hk : k = n
  · subst hk
    simp [hf]
  · have h1 : (n = k) = False := by simp [Ne.symm hk]
    have h2 : (k < n + 1) ↔ (k < n) := by omega
    simp [h1, h2]
theorem mk_no (f : Nat → Bool) (n : Nat) (hf : f n = false) : mk f (n + 1) = mk f n := by rw [mk, hf]; rfl
theorem mk_ext {m m' n : Nat} (h : m < 2 ^ n) (h' : m' < 2 ^ n) (he : ∀ k, k < n → m.testBit k = m'.testBit k) : m = m' := by
  apply Nat.eq_of_testBit_eq
  intro k
  by_cases hk : k < n
  · exact he k hk
  · have : 2 ^ n ≤ 2 ^ k := Nat.pow_le_pow_right (by decide) (by omega)
    rw [Nat.testBit_lt_two_pow (by omega), Nat.testBit_lt_two_pow (by omega)]
theorem mk_of {m n : Nat} (h : m < 2 ^ n) : mk (fun k => m.testBit k) n = m := by
  refine mk_ext (mk_lt _ _) h (fun k hk => ?_)
  rw [mk_bit]
  simp [hk]
theorem mk_cong {f g : Nat → Bool} {n : Nat} (h : ∀ k, k < n → f k = g k) : mk f n = mk g n := by
  refine mk_ext (mk_lt _ _) (mk_lt _ _) (fun k hk => ?_)
  rw [mk_bit, mk_bit, h k hk]
/-- or of a set in the making -/
theorem bb_mk1 (f : Nat → Bool) {n : Nat} (hn : n < 31) (hf : f n = true) : nI (mk f n) ||| ((1 : Int32) <<< (nI n &&& 31)) = nI (mk f (n + 1)) := by
  rw [bb_pow n hn, fa_or, mk_or f n hf]
theorem bb_mk0 (f : Nat → Bool) {n : Nat} (hf : f n = false) : nI (mk f n) ||| 0 = nI (mk f (n + 1)) := by
  rw [mk_no f n hf]
  show nI (mk f n) ||| nI 0 = _
  rw [fa_or, Nat.or_zero]
/-- how many -/
def pc (m : Nat) : Nat → Nat
  | 0 => 0
  | n + 1 => pc m n + (if m.testBit n then 1 else 0)
theorem pc_le (m : Nat) : ∀ n, pc m n ≤ n
  | 0 => Nat.le_refl 0
  | n + 1 => by have := pc_le m n; rw [pc]; split <;> omega
