/-! ===== the reference's leaves ===== -/
def bI (b : Bool) : Int32 := nI b.toNat
theorem bI_t : bI true = nI 1 := rfl
theorem bI_f : bI false = nI 0 := rfl
theorem bI_0 (b : Bool) : (bI b = nI 0) ↔ b = false := by cases b <;> decide
theorem bI_0' (b : Bool) : (bI b = 0) ↔ b = false := by cases b <;> decide
theorem bI_n (b : Bool) : (¬ bI b = 0) ↔ b = true := by cases b <;> decide
theorem rz_b (b : Bool) (h : xH) : rz .boolean (bI b) h = some (bI b, h) := by
  unfold rz
  rw [if_pos]
  cases b <;> rfl
theorem rz_1 (h : xH) : rz .boolean 1 h = some (bI true, h) := rz_b true h
theorem rz_0 (h : xH) : rz .boolean 0 h = some (bI false, h) := rz_b false h
theorem p_within (x lo hi : Int64) (h : xH) : F_X12_within x lo hi h = some (bI (decide (lo.toInt ≤ x.toInt ∧ x.toInt ≤ hi.toInt)), h) := by
  unfold F_X12_within
  by_cases h1 : x.toInt < lo.toInt
  · rw [if_pos ((lg_cmp_lt x lo).mpr (Int64.lt_iff_toInt_lt.mpr h1))]
    have : ¬ (lo.toInt ≤ x.toInt ∧ x.toInt ≤ hi.toInt) := by omega
    simp only [this, decide_false]
    rfl
  · rw [if_neg (fun q => h1 (Int64.lt_iff_toInt_lt.mp ((lg_cmp_lt x lo).mp q)))]
    by_cases h2 : hi.toInt < x.toInt
    · rw [if_pos ((lg_cmp_gt x hi).mpr (Int64.lt_iff_toInt_lt.mpr h2))]
      have : ¬ (lo.toInt ≤ x.toInt ∧ x.toInt ≤ hi.toInt) := by omega
      simp only [this, decide_false]
      rfl
    · rw [if_neg (fun q => h2 (Int64.lt_iff_toInt_lt.mp ((lg_cmp_gt x hi).mp q)))]
      have : (lo.toInt ≤ x.toInt ∧ x.toInt ≤ hi.toInt) := by omega
      simp only [this, and_self, decide_true]
      rfl
theorem i64 (x : Int32) : x.toInt64.toInt = x.toInt := Int32.toInt_toInt64 x
theorem nI_m1 {m : Nat} (hm : m < 2 ^ 30) : (nI m - 1).toInt = (m : Int) - 1 := by
  have := pk_sub_toInt (a := m) (b := 1) hm (by decide)
  exact this
theorem p_isIn {m k : Nat} (hm : m < 2 ^ 31) (hk : k < 32) (h : xH) : F_X12_isIn (nI m).toInt64 (nI k) h = some (bI (m.testBit k), h) := by
  have e1 : (nI m).toInt64 = lN m := nI_l hm
  have e2 : ((nI k).toInt64 &&& 63) = lN k := by
    have : ∀ k, k < 32 → ((nI k).toInt64 &&& 63) = lN k := by decide +kernel
    exact this k hk
  have e3 : lN m >>> lN k = lN (m / 2 ^ k) := by
    apply Int64.toInt_inj.mp
    have s1 : ((lN k).toBitVec.smod 64).toNat = k := by
      have : ∀ k, k < 32 → ((lN k).toBitVec.smod 64).toNat = k := by decide +kernel
      exact this k hk
    have hq : m / 2 ^ k < 2 ^ 31 := Nat.lt_of_le_of_lt (Nat.div_le_self _ _) hm
    rw [lN_toInt hq]
    have t1 : (lN m >>> lN k).toInt = (lN m).toInt >>> k := by
      show (((lN m).toBitVec.sshiftRight' ((lN k).toBitVec.smod 64))).toInt = _
      rw [BitVec.sshiftRight', BitVec.toInt_sshiftRight, s1]
      rfl
    rw [t1, lN_toInt hm, Int.shiftRight_eq_div_pow]
    exact_mod_cast rfl
  have e4 : lN (m / 2 ^ k) &&& 1 = lN (m.testBit k).toNat := by
    have h1 : (1 : Int64) = lN 1 := rfl
    rw [h1, fb_andL]
    have h2 : m / 2 ^ k &&& 1 = (m.testBit k).toNat := by
      rw [Nat.testBit_eq_decide_div_mod_eq, Nat.and_one_is_mod]
      have : m / 2 ^ k % 2 < 2 := Nat.mod_lt _ (by decide)
      rcases (show m / 2 ^ k % 2 = 0 ∨ m / 2 ^ k % 2 = 1 by omega) with h | h <;> simp [h]
    rw [h2]
  unfold F_X12_isIn
  rw [e1, e2, e3, e4]
  cases m.testBit k <;> rfl
section XL
variable {sc : Nat × (Nat → Int32)} {n : Nat} {S N : Nat → Nat} {I A : Nat → Nat → Int32} {J : Nat → Nat → Int64} {R Q : Nat → Nat → Option Nat}
theorem p_rng {x : Int64} {P : Nat} (hP : P ≤ 100) {a : Int32} (ha : a = nI P) : decide ((0 : Int64).toInt ≤ x.toInt ∧ x.toInt ≤ ((a - 1).toInt64).toInt) = decide (0 ≤ x.toInt ∧ x.toInt < P) := by
  rw [ha, i64, nI_m1 (by omega)]
  have : (0 : Int64).toInt = 0 := rfl
  rw [this]
  congr 1
  apply propext
  omega
theorem p_isPerson (H : Mo S N R) {P : Nat} (hP : A 184 4 = nI P) (h6 : P ≤ 100) (x : Int64) : F_X12_isPerson 183 x (E sc n S N I A J R Q) = some (bI (decide (0 ≤ x.toInt ∧ x.toInt < P)), E sc n S N I A J R Q) := by
  unfold F_X12_isPerson
  have e : aI (E sc n S N I A J R Q) 184 4 = some (A 184 4) := m_a184 H (k := 4) (by decide)
  simp only [m_r1 H, Option.bind_some, e, p_within, p_rng h6 hP, rz_b]
theorem p_isNote (H : Mo S N R) {P : Nat} (hP : A 184 1 = nI P) (h6 : P ≤ 100) (x : Int64) : F_X12_isNote 183 x (E sc n S N I A J R Q) = some (bI (decide (0 ≤ x.toInt ∧ x.toInt < P)), E sc n S N I A J R Q) := by
  unfold F_X12_isNote
  have e : aI (E sc n S N I A J R Q) 184 1 = some (A 184 1) := m_a184 H (k := 1) (by decide)
  simp only [m_r1 H, Option.bind_some, e, p_within, p_rng h6 hP, rz_b]
theorem p_isPlace (H : Mo S N R) {P : Nat} (hP : A 184 3 = nI P) (h6 : P ≤ 100) (x : Int64) : F_X12_isPlace 183 x (E sc n S N I A J R Q) = some (bI (decide (0 ≤ x.toInt ∧ x.toInt < P)), E sc n S N I A J R Q) := by
  unfold F_X12_isPlace
  have e : aI (E sc n S N I A J R Q) 184 3 = some (A 184 3) := m_a184 H (k := 3) (by decide)
  simp only [m_r1 H, Option.bind_some, e, p_within, p_rng h6 hP, rz_b]
theorem p_isTune (H : Mo S N R) {P : Nat} (hP : A 184 2 = nI P) (h6 : P ≤ 100) (x : Int32) : F_X12_isTune 183 x (E sc n S N I A J R Q) = some (bI (decide (0 ≤ x.toInt ∧ x.toInt < P)), E sc n S N I A J R Q) := by
  unfold F_X12_isTune
  have e : aI (E sc n S N I A J R Q) 184 2 = some (A 184 2) := m_a184 H (k := 2) (by decide)
  simp only [m_r1 H, Option.bind_some, e, p_within, p_rng h6 hP, rz_b]
  rw [i64]
theorem p_hasFound (H : Mo S N R) {m k : Nat} (hm : A 184 108 = nI m) (h31 : m < 2 ^ 31) (hk : k < 32) : F_X12_hasFound 183 (nI k) (E sc n S N I A J R Q) = some (bI (m.testBit k), E sc n S N I A J R Q) := by
  unfold F_X12_hasFound
  have e : aI (E sc n S N I A J R Q) 184 108 = some (A 184 108) := m_a184 H (k := 108) (by decide)
  simp only [m_r1 H, Option.bind_some, e, hm, p_isIn h31 hk, rz_b]
/-- a set within n bits -/
theorem p_set {x : Int32} {P : Nat} (hP : P ≤ 30) : (if x < 0 then some (0 : Int32) else if (1 : Int32) <<< (nI P &&& 31) ≤ x then some 0 else some 1) = some (bI (decide (0 ≤ x.toInt ∧ x.toInt < 2 ^ P))) := by
  have h2 : 2 ^ P < 2 ^ 31 := Nat.pow_lt_pow_right (by decide) (by omega)
  have hz : (0 : Int32).toInt = 0 := rfl
  rw [bb_pow P (by omega)]
  by_cases h0 : x < 0
  · rw [if_pos h0]
    rw [fa_lt, hz] at h0
    have : ¬ (0 ≤ x.toInt ∧ x.toInt < 2 ^ P) := by omega
    simp only [this, decide_false]
    rfl
  · rw [if_neg h0]
    rw [fa_lt, hz] at h0
    by_cases h1 : nI (2 ^ P) ≤ x
    · rw [if_pos h1]
      rw [fa_le, nI_toInt h2] at h1
      have : ¬ (0 ≤ x.toInt ∧ x.toInt < 2 ^ P) := by
        intro q
        have := q.2
        push_cast at h1
        omega
      simp only [this, decide_false]
      rfl
    · rw [if_neg h1]
      rw [fa_le, nI_toInt h2] at h1
      have : (0 ≤ x.toInt ∧ x.toInt < 2 ^ P) := by
        push_cast at h1
        omega
      simp only [this, and_self, decide_true]
      rfl
end XL
