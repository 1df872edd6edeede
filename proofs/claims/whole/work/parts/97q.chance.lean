/-! ===== how likely: sums ===== -/
def qd (a : Nat → Int32) (k : Nat) : Nat := 60 / pcn (stq a k)
def chn (a : Nat → Int32) (p : Nat) : Nat → Nat → Nat → Nat
  | 0, _, _ => 0
  | n + 1, k, d => fb_sm (fun to => if can a k to = true then qd a k * (if fnd a p to d = true then 60 ^ n else chn a p n to (d + 1)) else 0) (vK a)
def mvd (a : Nat → Int32) (w : Nat → Nat) (n to : Nat) : Nat := fb_sm (fun k => if can a k to = true then w k * qd a k else 0) n
theorem sm_mulr (f : Nat → Nat) (c : Nat) : ∀ n, fb_sm (fun k => f k * c) n = fb_sm f n * c
  | 0 => by rw [fb_sm, fb_sm, Nat.zero_mul]
  | n + 1 => by rw [fb_sm_succ, fb_sm_succ, sm_mulr f c n, Nat.add_mul]
theorem sm_mull (f : Nat → Nat) (c : Nat) : ∀ n, fb_sm (fun k => c * f k) n = c * fb_sm f n
  | 0 => by rw [fb_sm, fb_sm, Nat.mul_zero]
  | n + 1 => by rw [fb_sm_succ, fb_sm_succ, sm_mull f c n, Nat.mul_add]
theorem sm_sw (F : Nat → Nat → Nat) (n : Nat) : ∀ m, fb_sm (fun j => fb_sm (fun k => F k j) n) m = fb_sm (fun k => fb_sm (fun j => F k j) m) n
  | 0 => by
    rw [fb_sm]
    have : ∀ n, fb_sm (fun k => fb_sm (fun j => F k j) 0) n = 0 := fun n => by
      have := fb_sm_const 0 n
      rw [Nat.mul_zero] at this
      exact this
    rw [this]
  | m + 1 => by
    rw [fb_sm_succ, sm_sw F n m, ← fb_sm_add]
    exact fb_sm_cong (fun k _ => (fb_sm_succ _ _).symm)
theorem sm_one {f : Nat → Nat} {i : Nat} : ∀ {n}, i < n → fb_sm (fun k => (if k = i then 1 else 0) * f k) n = f i
  | 0, h => absurd h (by omega)
  | n + 1, h => by
    rw [fb_sm_succ]
    by_cases e : n = i
    · subst e
      have : fb_sm (fun k => (if k = n then 1 else 0) * f k) n = 0 := by
        have h0 := fb_sm_const 0 n
        rw [Nat.mul_zero] at h0
        refine Eq.trans (fb_sm_cong (fun k hk => ?_)) h0
        rw [if_neg (by omega), Nat.zero_mul]
      rw [this, if_pos rfl, Nat.one_mul, Nat.zero_add]
    · rw [sm_one (f := f) (show i < n by omega), if_neg e, Nat.zero_mul, Nat.add_zero]
theorem sm_pc {m c : Nat} : ∀ n, fb_sm (fun j => if m.testBit j = true then c else 0) n = pc m n * c
  | 0 => by rw [fb_sm, pc, Nat.zero_mul]
  | n + 1 => by
    rw [fb_sm_succ, sm_pc n, pc, Nat.add_mul]
    by_cases h : m.testBit n = true
    · rw [if_pos h, if_pos h, Nat.one_mul]
    · rw [if_neg h, if_neg h, Nat.zero_mul]
section XCh
variable {a : Nat → Int32} {D p : Nat}
theorem tot_s {w : Nat → Nat} {f m d : Nat} : (f * 60 + fb_sm (fun to => if fnd a p to d = true then mvd a w (vK a) to else 0) (vK a)) * 60 ^ m + fb_sm (fun to => (if fnd a p to d = true then 0 else mvd a w (vK a) to) * chn a p m to (d + 1)) (vK a) = f * 60 ^ (m + 1) + fb_sm (fun k => w k * chn a p (m + 1) k d) (vK a) := by
  have h1 : fb_sm (fun to => if fnd a p to d = true then mvd a w (vK a) to else 0) (vK a) * 60 ^ m + fb_sm (fun to => (if fnd a p to d = true then 0 else mvd a w (vK a) to) * chn a p m to (d + 1)) (vK a) = fb_sm (fun to => mvd a w (vK a) to * (if fnd a p to d = true then 60 ^ m else chn a p m to (d + 1))) (vK a) := by
    rw [← sm_mulr, ← fb_sm_add]
    refine fb_sm_cong (fun k _ => ?_)
    by_cases h : fnd a p k d = true
    · rw [if_pos h, if_pos h, if_pos h, Nat.zero_mul, Nat.add_zero]
    · rw [if_neg h, if_neg h, if_neg h, Nat.zero_mul, Nat.zero_add]
  have h2 : fb_sm (fun to => mvd a w (vK a) to * (if fnd a p to d = true then 60 ^ m else chn a p m to (d + 1))) (vK a) = fb_sm (fun k => w k * chn a p (m + 1) k d) (vK a) := by
    have e1 : fb_sm (fun to => mvd a w (vK a) to * (if fnd a p to d = true then 60 ^ m else chn a p m to (d + 1))) (vK a) = fb_sm (fun to => fb_sm (fun k => (if can a k to = true then w k * qd a k else 0) * (if fnd a p to d = true then 60 ^ m else chn a p m to (d + 1))) (vK a)) (vK a) := fb_sm_cong (fun to _ => by rw [sm_mulr]; rfl)
    rw [e1, sm_sw (fun k to => (if can a k to = true then w k * qd a k else 0) * (if fnd a p to d = true then 60 ^ m else chn a p m to (d + 1)))]
    refine fb_sm_cong (fun k _ => ?_)
    rw [chn, ← sm_mull]
    refine fb_sm_cong (fun to _ => ?_)
    by_cases h : can a k to = true
    · rw [if_pos h, if_pos h, Nat.mul_assoc]
    · rw [if_neg h, if_neg h, Nat.zero_mul, Nat.mul_zero]
  rw [Nat.add_mul, Nat.mul_assoc, show 60 * 60 ^ m = 60 ^ (m + 1) by rw [Nat.pow_succ, Nat.mul_comm], Nat.add_assoc, h1, h2]
theorem pc_st (W : WA a D) {k : Nat} (hk : k < vK a) : 1 ≤ pcn (stq a k) ∧ pcn (stq a k) ≤ 11 ∧ pc (stq a k) (vK a) = pcn (stq a k) := by
  have hK := wK2 W
  have h1 : pcn (stq a k) = pc (stq a k) (vK a) := pc_hi (stq_lt W hk) 11 (by omega)
  refine ⟨?_, pc_le _ 11, h1.symm⟩
  have h2 := pc_rm (S := stq a k) (n := k) (by rw [stq_bit]; exact can_r k) 11 (by omega)
  unfold pcn
  omega
theorem chn_le (W : WA a D) : ∀ n {k : Nat} (d : Nat), k < vK a → chn a p n k d ≤ 60 ^ n
  | 0, k, d, _ => by rw [chn]; exact Nat.zero_le _
  | n + 1, k, d, hk => by
    obtain ⟨h1, h2, h3⟩ := pc_st W hk
    rw [chn]
    have hb : fb_sm (fun to => if can a k to = true then qd a k * (if fnd a p to d = true then 60 ^ n else chn a p n to (d + 1)) else 0) (vK a) ≤ fb_sm (fun to => if (stq a k).testBit to = true then qd a k * 60 ^ n else 0) (vK a) := fb_sm_le (fun to hto => by
      rw [stq_bit]
      by_cases h : can a k to = true
      · rw [if_pos h, if_pos h]
        refine Nat.mul_le_mul_left _ ?_
        split
        · exact Nat.le_refl _
        · exact chn_le W n _ hto
      · rw [if_neg h, if_neg h]
        exact Nat.le_refl _)
    rw [sm_pc, h3] at hb
    refine Nat.le_trans hb ?_
    rw [← Nat.mul_assoc, Nat.pow_succ, Nat.mul_comm (60 ^ n)]
    refine Nat.mul_le_mul_right _ ?_
    unfold qd
    exact Nat.mul_div_le 60 _
def pff (a : Nat → Int32) (p n : Nat) : Nat := if (vFo a).testBit p = true then 60 ^ n else chn a p n (vAt a p) (vDy a)
theorem pff_le (W : WA a D) (hp : p < vP a) (n : Nat) : pff a p n ≤ 60 ^ n := by
  unfold pff
  split
  · exact Nat.le_refl _
  · exact chn_le W n _ (wAt2 W hp)
theorem p60 : ∀ n, n ≤ 6 → 60 ^ n ≤ 46656000000 ∧ 1 ≤ 60 ^ n := by decide
/-! the greatest that both share -/
theorem gc_h {x y : Nat} (h0 : 0 < x) (h : x ≤ y) : 2 * (y % x) < y := by
  have h1 : y % x < x := Nat.mod_lt _ h0
  have h2 := Nat.div_add_mod y x
  have h3 : 1 ≤ y / x := Nat.div_pos h h0
  have h4 : x * 1 ≤ x * (y / x) := Nat.mul_le_mul_left x h3
  omega
theorem gc_m {x y m : Nat} (h0 : 0 < x) (h : x ≤ y) (hm : x * y < 2 ^ (m + 1)) : (y % x) * x < 2 ^ m := by
  have h1 := Nat.mul_lt_mul_of_pos_right (gc_h h0 h) h0
  rw [Nat.mul_assoc, Nat.mul_comm y x] at h1
  rw [Nat.pow_succ] at hm
  omega
theorem k_gcd (h : xH) : ∀ (m x y c fuel : Nat), x ≤ y → x * y < 2 ^ m → c + m ≤ 99 → m < fuel → y < 2 ^ 63 → F_X1_greatestShared_b9 fuel (lN x) (lN y) (nI c) h = some (lN (Nat.gcd x y), h) := by
  intro m
  induction m with
  | zero =>
    intro x y c fuel hxy hm hc hf hy
    obtain ⟨f, rfl⟩ : ∃ f, fuel = f + 1 := ⟨fuel - 1, by omega⟩
    have h0 : x = 0 := by
      rcases Nat.eq_zero_or_pos x with q | q
      · exact q
      · have := Nat.mul_pos q (Nat.lt_of_lt_of_le q hxy)
        omega
    subst h0
    rw [F_X1_greatestShared_b9, if_neg (show ¬ (100 : Int32) ≤ nI c from show ¬ nI 100 ≤ nI c by rw [nI_leI (by decide) (by omega)]; omega), if_pos (show lg_cmp (lN 0) 0 = 0 by decide), Nat.gcd_zero_left]
  | succ m ih =>
    intro x y c fuel hxy hm hc hf hy
    obtain ⟨f, rfl⟩ : ∃ f, fuel = f + 1 := ⟨fuel - 1, by omega⟩
    rw [F_X1_greatestShared_b9, if_neg (show ¬ (100 : Int32) ≤ nI c from show ¬ nI 100 ≤ nI c by rw [nI_leI (by decide) (by omega)]; omega)]
    rcases Nat.eq_zero_or_pos x with q | q
    · subst q
      rw [if_pos (show lg_cmp (lN 0) 0 = 0 by decide), Nat.gcd_zero_left]
    · have hne : ¬ lN x = 0 := show ¬ lN x = lN 0 by rw [pk_lEQ (by omega) (by decide)]; omega
      rw [if_neg (fun e => hne ((lg_cmp_eq _ _).mp e)), if_neg hne, r_lrm hy q (by omega), show nI c + 1 = nI (c + 1) from nI_add c 1, ih (y % x) x (c + 1) f (Nat.le_of_lt (Nat.mod_lt _ q)) (gc_m q hxy hm) (by omega) (by omega) (by omega), ← Nat.gcd_rec]
theorem k_shared (h : xH) {x y : Nat} (hxy : x ≤ y) (hy : y ≤ 46656000000) : F_X1_greatestShared (lN x) (lN y) h = some (lN (Nat.gcd x y), h) := by
  have h1 : x * y ≤ 46656000000 * 46656000000 := Nat.mul_le_mul (by omega) hy
  exact k_gcd h 71 x y 0 FU hxy (by omega) (by omega) (by decide) (by omega)
theorem r_gcd (h : xH) : ∀ (m x y N : Nat), y ≤ x → y * x < 2 ^ m → m < N → x < 2 ^ 63 → G_X12_common N (lN x) (lN y) h = some (lN (Nat.gcd x y), h) := by
  intro m
  induction m with
  | zero =>
    intro x y N hxy hm hN hy
    obtain ⟨f, rfl⟩ : ∃ f, N = f + 1 := ⟨N - 1, by omega⟩
    have h0 : y = 0 := by
      rcases Nat.eq_zero_or_pos y with q | q
      · exact q
      · have := Nat.mul_pos q (Nat.lt_of_lt_of_le q hxy)
        omega
    subst h0
    rw [G_X12_common, F_X12_common, if_neg (show ¬ ¬ lg_cmp (lN 0) 0 = 0 by decide), Nat.gcd_zero_right]
  | succ m ih =>
    intro x y N hxy hm hN hy
    obtain ⟨f, rfl⟩ : ∃ f, N = f + 1 := ⟨N - 1, by omega⟩
    rw [G_X12_common, F_X12_common]
    rcases Nat.eq_zero_or_pos y with q | q
    · subst q
      rw [if_neg (show ¬ ¬ lg_cmp (lN 0) 0 = 0 by decide), Nat.gcd_zero_right]
    · have hne : ¬ lN y = 0 := show ¬ lN y = lN 0 by rw [pk_lEQ (by omega) (by decide)]; omega
      rw [if_pos (fun e => hne ((lg_cmp_eq _ _).mp e)), if_neg hne, r_lrm hy q (by omega), ih y (x % y) f (Nat.le_of_lt (Nat.mod_lt _ q)) (gc_m q hxy hm) (by omega) (by omega), Option.bind_some, Nat.gcd_comm y, ← Nat.gcd_rec, Nat.gcd_comm]
theorem r_common (h : xH) {x y : Nat} (hxy : x ≤ y) (h0 : 0 < y) (hy : y ≤ 46656000000) : C_X12_common 100 (lN x) (lN y) h = some (lN (Nat.gcd x y), h) := by
  have hl := Nat.mod_lt x h0
  have h1 : x % y * y ≤ 46656000000 * 46656000000 := Nat.mul_le_mul (by omega) hy
  have hne : ¬ lN y = 0 := show ¬ lN y = lN 0 by rw [pk_lEQ (by omega) (by decide)]; omega
  show G_X12_common (99 + 1) (lN x) (lN y) h = _
  rw [G_X12_common, F_X12_common, if_pos (fun e => hne ((lg_cmp_eq _ _).mp e)), if_neg hne, r_lrm (by omega) h0 (by omega), r_gcd h 71 y (x % y) 99 (by omega) (by omega) (by decide) (by omega), Option.bind_some, Nat.gcd_comm y, ← Nat.gcd_rec, Nat.gcd_comm]
theorem k_inall (h : xH) {n : Nat} (hn : n ≤ 6) : ∀ (d k fuel : Nat), k + d = n → d < fuel → F_X1_partsInAll_b4 fuel (nI n) (lN (60 ^ k)) (nI k) h = some (lN (60 ^ n), h) := by
  intro d
  induction d with
  | zero =>
    intro k fuel hk hf
    obtain ⟨f, rfl⟩ : ∃ f, fuel = f + 1 := ⟨fuel - 1, by omega⟩
    have hk : k = n := by omega
    subst hk
    rw [F_X1_partsInAll_b4, if_pos (by rw [nI_leI (by omega) (by omega)]; exact Nat.le_refl _)]
  | succ d ih =>
    intro k fuel hk hf
    obtain ⟨f, rfl⟩ : ∃ f, fuel = f + 1 := ⟨fuel - 1, by omega⟩
    rw [F_X1_partsInAll_b4, if_neg (by rw [nI_leI (by omega) (by omega)]; omega), show lN (60 ^ k) * 60 = lN (60 ^ (k + 1)) from (lN_mul _ 60).trans (by rw [Nat.pow_succ]), show nI k + 1 = nI (k + 1) from nI_add k 1]
    exact ih (k + 1) f (by omega) (by omega)
theorem k_inAll (h : xH) {n : Nat} (hn : n ≤ 6) : F_X1_partsInAll (nI n) h = some (lN (60 ^ n), h) := by
  have hfu : n < FU := by show n < 1000000; omega
  exact k_inall h hn n 0 FU (by omega) hfu
theorem r_whole_l (h : xH) {n : Nat} (hn : n ≤ 6) : ∀ (d k fuel : Nat), k + d = n → d < fuel → F_X12_wholeOf_b4 fuel (nI n) (lN (60 ^ k)) (nI k) h = some (lN (60 ^ n), h) := by
  intro d
  induction d with
  | zero =>
    intro k fuel hk hf
    obtain ⟨f, rfl⟩ : ∃ f, fuel = f + 1 := ⟨fuel - 1, by omega⟩
    have hk : k = n := by omega
    subst hk
    rw [F_X12_wholeOf_b4, if_pos (by rw [nI_leI (by omega) (by omega)]; exact Nat.le_refl _)]
  | succ d ih =>
    intro k fuel hk hf
    obtain ⟨f, rfl⟩ : ∃ f, fuel = f + 1 := ⟨fuel - 1, by omega⟩
    rw [F_X12_wholeOf_b4, if_neg (by rw [nI_leI (by omega) (by omega)]; omega), show lN (60 ^ k) * 60 = lN (60 ^ (k + 1)) from (lN_mul _ 60).trans (by rw [Nat.pow_succ]), show nI k + 1 = nI (k + 1) from nI_add k 1]
    exact ih (k + 1) f (by omega) (by omega)
theorem r_wholeOf (h : xH) {n : Nat} (hn : n ≤ 6) : F_X12_wholeOf (nI n) h = some (lN (60 ^ n), h) := by
  have hfu : n < FU := by show n < 1000000; omega
  exact r_whole_l h hn n 0 FU (by omega) hfu
end XCh
section XCr
variable {g : Sk} {t : Tb} {a : Nat → Int32}
variable {D v p x n nx : Nat} {t' t'' : Tb}
/-! the reference -/
theorem r_chn_l (X : Fx g) (W : WA a D) (ha : tA t 184 = a) (hp : p < vP a) {m k d N : Nat} (hm : m < 6) (hk : k < vK a) (hd : d + 1 < 2 ^ 31) (hr : ∀ to, to < vK a → G_X12_chanceOf N 183 (nI p) (nI to) (nI (d + 1)) (nI m) (Em g t) = some (lN (chn a p m to (d + 1)), Em g t)) : ∀ (c to fuel : Nat), to + c = vK a → c < fuel → F_X12_chanceOf_b20 (G_X12_chanceOf N) fuel 183 (nI p) (nI d) (nI (m + 1)) (nI (stq a k)) (lN (fb_sm (fun to => if can a k to = true then qd a k * (if fnd a p to d = true then 60 ^ m else chn a p m to (d + 1)) else 0) to)) (nI to) (Em g t) = some (lN (chn a p (m + 1) k d), Em g t) := by
  have hK := wK2 W
  have hst := stq_lt W hk
  have h64 : 2 ^ vK a ≤ 64 := Nat.pow_le_pow_right (n := 2) (by decide) hK
  obtain ⟨q1, q2, _⟩ := pc_st W hk
  have h3 : aI (Em g t) 184 3 = some (nI (vK a)) := by
    have : aI (Em g t) 184 3 = some (tA t 184 3) := x_a184 X (k := 3) (by decide)
    rw [this, ha, wK W]
  have e1 : nI (m + 1) - 1 = nI m := nI_sub (b := 1) (by omega)
  have hq : ldv 60 (nI (pcn (stq a k))).toInt64 = lN (qd a k) := by
    rw [nI_l (by omega)]
    exact r_ldv (m := 60) (by decide) (by omega) (by omega)
  have hne : ¬ (nI (pcn (stq a k))).toInt64 = 0 := by
    rw [nI_l (by omega)]
    show ¬ lN _ = lN 0
    rw [pk_lEQ (by omega) (by decide)]
    omega
  intro c
  induction c with
  | zero =>
    intro to fuel hto hf
    obtain ⟨f, rfl⟩ : ∃ f, fuel = f + 1 := ⟨fuel - 1, by omega⟩
    have hto : to = vK a := by omega
    subst hto
    rw [F_X12_chanceOf_b20, x_r183_1 X, Option.bind_some, h3, Option.bind_some, if_pos (by rw [nI_leI (by omega) (by omega)]; exact Nat.le_refl _), chn]
  | succ c ih =>
    intro to fuel hto hf
    obtain ⟨f, rfl⟩ : ∃ f, fuel = f + 1 := ⟨fuel - 1, by omega⟩
    have htK : to < vK a := by omega
    have hi := ih (to + 1) f (by omega) (by omega)
    rw [fb_sm_succ] at hi
    rw [F_X12_chanceOf_b20, x_r183_1 X, Option.bind_some, h3, Option.bind_some, if_neg (by rw [nI_leI (by omega) (by omega)]; omega), q_isIn (by omega) (by omega), Option.bind_some, stq_bit, show nI to + 1 = nI (to + 1) from nI_add to 1]
    cases hc : can a k to
    · rw [hc, if_neg (by decide), Nat.add_zero] at hi
      rw [if_neg (show ¬ ¬ bI false = (0 : Int32) by decide)]
      exact hi
    · rw [hc, if_pos rfl] at hi
      rw [if_pos (show ¬ bI true = (0 : Int32) by decide), q_bits (by omega), Option.bind_some, if_neg hne, x_rc183 X, Option.bind_some, r_isFoundAt X W ha hp htK (by omega), Option.bind_some]
      cases hf : fnd a p to d
      · rw [hf, if_neg (by decide)] at hi
        rw [if_pos (show bI false = (0 : Int32) by decide), x_rc183 X, Option.bind_some, show nI d + 1 = nI (d + 1) from nI_add d 1, e1, hr to htK, Option.bind_some]
        unfold F_X12_chanceOf_b92
        rw [hq, lN_mul, lN_add, show nI to + 1 = nI (to + 1) from nI_add to 1]
        exact hi
      · rw [hf, if_pos rfl] at hi
        rw [if_neg (show ¬ bI true = (0 : Int32) by decide), e1, r_wholeOf _ (by omega), Option.bind_some]
        unfold F_X12_chanceOf_b92
        rw [hq, lN_mul, lN_add, show nI to + 1 = nI (to + 1) from nI_add to 1]
        exact hi
theorem r_ch (X : Fx g) (W : WA a D) (ha : tA t 184 = a) (hp : p < vP a) : ∀ (m k d N : Nat), m ≤ 6 → k < vK a → d + m < 2 ^ 31 → m < N → G_X12_chanceOf N 183 (nI p) (nI k) (nI d) (nI m) (Em g t) = some (lN (chn a p m k d), Em g t) := by
  intro m
  induction m with
  | zero =>
    intro k d N hm hk hd hN
    obtain ⟨f, rfl⟩ : ∃ f, N = f + 1 := ⟨N - 1, by omega⟩
    rw [G_X12_chanceOf, F_X12_chanceOf, if_neg (fun h => h rfl), chn]
    rfl
  | succ m ih =>
    intro k d N hm hk hd hN
    obtain ⟨f, rfl⟩ : ∃ f, N = f + 1 := ⟨N - 1, by omega⟩
    have hK := wK2 W
    have hfu : vK a < FU := by show vK a < 1000000; omega
    have key := r_chn_l (m := m) (N := f) X W ha hp (by omega) hk (by omega) (fun to hto => ih to (d + 1) f (by omega) hto (by omega) (by omega)) (vK a) 0 FU (by omega) hfu
    rw [G_X12_chanceOf, F_X12_chanceOf, if_pos (show ¬ nI (m + 1) = (0 : Int32) by rw [nI_z (by omega)]; omega), x_rc183 X, Option.bind_some, r_stepped X W ha hk, Option.bind_some]
    exact key
theorem r_chNow (X : Fx g) (W : WA a D) (ha : tA t 184 = a) (hp : p < vP a) {m : Nat} (hm : m ≤ 6) : F_X12_chanceNow 183 (nI p) (nI m) (Em g t) = some (lN (pff a p m), Em g t) := by
  have hP := wP2 W
  have hdy := wDy2 W
  have hD := wD W
  unfold F_X12_chanceNow pff
  rw [x_rc183 X, Option.bind_some, q_found X W ha hp, Option.bind_some]
  cases c : (vFo a).testBit p
  · have h107 : aI (Em g t) 184 107 = some (nI (vDy a)) := by
      have : aI (Em g t) 184 107 = some (tA t 184 107) := x_a184 X (k := 107) (by decide)
      rw [this, ha, wDy W]
    have h109 : aI (Em g t) 184 (nI (109 + p)) = some (nI (vAt a p)) := by rw [x_a184 X (by omega), ha, wAt W hp]
    have key : C_X12_chanceOf 100 183 (nI p) (nI (vAt a p)) (nI (vDy a)) (nI m) (Em g t) = some (lN (chn a p m (vAt a p) (vDy a)), Em g t) := r_ch X W ha hp m (vAt a p) (vDy a) 100 hm (wAt2 W hp) (by omega) (by omega)
    rw [if_pos (show bI false = (0 : Int32) by decide), if_neg (by decide), x_r183_1 X, Option.bind_some, show (109 : Int32) + nI p = nI (109 + p) from nI_add 109 p, h109, Option.bind_some, Option.bind_some, h107, Option.bind_some, x_rc183 X, Option.bind_some, key, Option.bind_some]
  · rw [if_neg (show ¬ bI true = (0 : Int32) by decide), if_pos rfl, r_wholeOf _ hm, Option.bind_some]
/-! the class -/
theorem Jx_m {c : Nat} (hc : scJ c = true) (h : Jx c t t') : Sm g t t' := ⟨fun a k _ => h.1 a k, fun b _ => h.2.1 b, fun b q => h.2.2 b (by
  rintro rfl
  rw [hc] at q
  cases q)⟩
theorem k_fl6_l {c : Nat} (h21 : gS g c = 21) (h6 : gN g c = 6) (h69 : 69 ≤ c) : ∀ (d k fuel : Nat) (t : Tb), k + d = 6 → d < fuel → ∃ t', F_J7_fill_d0a16_b6 fuel c 0 (nI k) (nI 6) (Em g t) = some ((), Em g t') ∧ Jx c t t' ∧ (∀ j, k ≤ j → j < 6 → tJ t' c j = 0) ∧ (∀ j, j < k → tJ t' c j = tJ t c j) := by
  intro d
  induction d with
  | zero =>
    intro k fuel t hk hf
    obtain ⟨f, rfl⟩ : ∃ f, fuel = f + 1 := ⟨fuel - 1, by omega⟩
    have hk : k = 6 := by omega
    subst hk
    refine ⟨t, ?_, Jx_r, fun j h1 h2 => absurd h1 (by omega), fun _ _ => rfl⟩
    rw [F_J7_fill_d0a16_b6]
    simp (disch := omega) only [Option.bind_some, ↓reduceIte, ite_not, fa_lit, nI_add, nI_mulN, nI_an, nI_sub, irm_n, nI_eq, nI_leI, nI_ltI, v_pow, v_shr, v_bit, nI_cl, nI_m1e, Nat.le_refl]
  | succ d ih =>
    intro k fuel t hk hf
    obtain ⟨f, rfl⟩ : ∃ f, fuel = f + 1 := ⟨fuel - 1, by omega⟩
    have hk2 : ¬ 6 ≤ k := by omega
    have hs : sJ (Em g t) c (nI k) 0 = some (Em g (wj t c k 0)) := y_sJ h21 h6 h69 (by decide) (by omega)
    obtain ⟨t2, e2, j2, z2, z3⟩ := ih (k + 1) f (wj t c k 0) (by omega) (by omega)
    have hkeep : tJ t2 c k = 0 := by rw [z3 k (by omega), tJ_js, pk_uLs]
    refine ⟨t2, ?_, Jx_t (Jx_wj Jx_r) j2, fun j h1 h2 => ?_, fun j hj => by rw [z3 j (by omega), tJ_js, pk_uLn (by omega)]⟩
    · rw [F_J7_fill_d0a16_b6]
      simp (disch := omega) only [Option.bind_some, ↓reduceIte, ite_not, fa_lit, nI_leI, hk2]
      rw [hs, Option.bind_some, nI_add]
      exact e2
    · by_cases e : j = k
      · rw [e]; exact hkeep
      · exact z2 j (by omega) h2
theorem k_fl6 {c : Nat} (h21 : gS g c = 21) (h6 : gN g c = 6) (h69 : 69 ≤ c) : ∃ t', F_J7_fill_d0a16 c 0 (Em g t) = some ((), Em g t') ∧ Jx c t t' ∧ (∀ j, j < 6 → tJ t' c j = 0) := by
  obtain ⟨t1, e1, j1, z1, _⟩ := k_fl6_l h21 h6 h69 6 0 FU t rfl (by decide)
  have hal : al (Em g t) c = some (nI 6) := by
    have h := E_al (sc := g.1) (n := gn g) (S := gS g) (N := gN g) (I := tI t) (A := tA t) (J := tJ t) (R := gR g) (Q := gQ g) (a := c) h69 (by rw [h21]; decide)
    rw [h6] at h
    exact h
  refine ⟨t1, ?_, j1, fun j hj => z1 j (Nat.zero_le _) hj⟩
  unfold F_J7_fill_d0a16
  rw [hal, Option.bind_some]
  exact e1
theorem k_mv_i (X : Fx g) (V : VaS g v) {k e : Nat} (hk : k < vK a) (kk : Nat → Nat → Int32 → xH → Option (Unit × xH)) : ∀ (d to fuel : Nat) (t : Tb) (u : Nat → Nat), CP g t v a D → to + d = vK a → d < fuel → (∀ j, j < vK a → tJ t 166 j = lN (u j)) → ∃ t', F_X1_moveAtRandom_b53 kk fuel 163 v (nI k) (nI (stq a k)) (lN e) (nI to) (Em g t) = kk 163 v (nI (k + 1)) (Em g t') ∧ Jx 166 t t' ∧ ∀ j, j < vK a → tJ t' 166 j = lN (u j + (if to ≤ j ∧ can a k j = true then e else 0)) := by
  intro d
  induction d with
  | zero =>
    intro to fuel t u C hto hf hu
    have W := C.1
    have hK := wK2 W
    obtain ⟨f, rfl⟩ : ∃ f, fuel = f + 1 := ⟨fuel - 1, by omega⟩
    have hto : to = vK a := by omega
    subst hto
    refine ⟨t, ?_, Jx_r, fun j hj => by rw [if_neg (by omega), Nat.add_zero]; exact hu j hj⟩
    rw [F_X1_moveAtRandom_b53, v_i3 V, Option.bind_some, vK_ C, if_pos (by rw [nI_leI (by omega) (by omega)]; exact Nat.le_refl _), show nI k + 1 = nI (k + 1) from nI_add k 1]
  | succ d ih =>
    intro to fuel t u C hto hf hu
    have W := C.1
    have hK := wK2 W
    have hst := stq_lt W hk
    have h64 : 2 ^ vK a ≤ 64 := Nat.pow_le_pow_right (n := 2) (by decide) hK
    obtain ⟨f, rfl⟩ : ∃ f, fuel = f + 1 := ⟨fuel - 1, by omega⟩
    have hb : (nI (stq a k) >>> (nI to &&& 31)) &&& 1 = bI (can a k to) := by
      show (nI (stq a k) >>> (nI to &&& nI 31)) &&& nI 1 = _
      rw [v_shr (by omega) (by omega), v_bit, stq_bit]
    have nxt : ∀ z y, z = lN y → y = (if can a k to = true then e else 0) → ∃ t', F_X1_moveAtRandom_b86 kk (F_X1_moveAtRandom_b53 kk f) 163 v (nI k) (nI (stq a k)) (lN e) (nI to) 166 (nI to) (lN (u to)) z (Em g t) = kk 163 v (nI (k + 1)) (Em g t') ∧ Jx 166 t t' ∧ ∀ j, j < vK a → tJ t' 166 j = lN (u j + (if to ≤ j ∧ can a k j = true then e else 0)) := fun z y hz hy => by
      obtain ⟨t2, e2, j2, k2⟩ := ih (to + 1) f (wj t 166 to (lN (u to + y))) (fun j => if j = to then u to + y else u j) (CP_s X C (Sm_wj rfl Sm_r)) (by omega) (by omega) (fun j hj => by
        rw [tJ_js]
        by_cases c : j = to
        · rw [c, pk_uLs, if_pos rfl]
        · rw [pk_uLn c, if_neg c]; exact hu j hj)
      refine ⟨t2, ?_, Jx_t (Jx_wj Jx_r) j2, fun j hj => ?_⟩
      · unfold F_X1_moveAtRandom_b86
        rw [hz, lN_add, x_s166 X (by omega), Option.bind_some, show nI to + 1 = nI (to + 1) from nI_add to 1]
        exact e2
      · rw [k2 j hj]
        by_cases c : j = to
        · subst c
          rw [if_pos rfl, if_neg (by omega), Nat.add_zero, hy]
          by_cases c2 : can a k j = true
          · rw [if_pos c2, if_pos ⟨Nat.le_refl _, c2⟩]
          · rw [if_neg c2, if_neg (fun h => c2 h.2)]
        · rw [if_neg c]
          by_cases c2 : to ≤ j ∧ can a k j = true
          · rw [if_pos c2, if_pos ⟨by omega, c2.2⟩]
          · rw [if_neg c2, if_neg (fun h => c2 ⟨by omega, h.2⟩)]
    rw [F_X1_moveAtRandom_b53, v_i3 V, Option.bind_some, vK_ C, if_neg (by rw [nI_leI (by omega) (by omega)]; omega), x_r163_2 X, Option.bind_some, x_a166 X (by omega), Option.bind_some, hu to (by omega), hb]
    cases c : can a k to
    · rw [if_pos (show ¬ bI false = (1 : Int32) by decide)]
      exact nxt 0 0 rfl (by rw [c, if_neg (by decide)])
    · rw [if_neg (show ¬ ¬ bI true = (1 : Int32) by decide)]
      exact nxt (lN e) e rfl (by rw [c, if_pos rfl])
theorem k_mv_l (X : Fx g) (V : VaS g v) {w : Nat → Nat} : ∀ (d k fuel : Nat) (t : Tb), CP g t v a D → k + d = vK a → d < fuel → (∀ j, j < vK a → tJ t 165 j = lN (w j)) → (∀ j, j < vK a → tJ t 166 j = lN (mvd a w k j)) → ∃ t', F_X1_moveAtRandom_b10 fuel 163 v (nI k) (Em g t) = some ((), Em g t') ∧ Jx 166 t t' ∧ ∀ j, j < vK a → tJ t' 166 j = lN (mvd a w (vK a) j) := by
  intro d
  induction d with
  | zero =>
    intro k fuel t C hk hf hw hu
    have W := C.1
    have hK := wK2 W
    obtain ⟨f, rfl⟩ : ∃ f, fuel = f + 1 := ⟨fuel - 1, by omega⟩
    have hk : k = vK a := by omega
    subst hk
    refine ⟨t, ?_, Jx_r, hu⟩
    rw [F_X1_moveAtRandom_b10, v_i3 V, Option.bind_some, vK_ C, if_pos (by rw [nI_leI (by omega) (by omega)]; exact Nat.le_refl _)]
  | succ d ih =>
    intro k fuel t C hk hf hw hu
    have W := C.1
    have hK := wK2 W
    have hkK : k < vK a := by omega
    have hst := stq_lt W hkK
    have h64 : 2 ^ vK a ≤ 64 := Nat.pow_le_pow_right (n := 2) (by decide) hK
    obtain ⟨q1, q2, _⟩ := pc_st W hkK
    obtain ⟨f, rfl⟩ : ∃ f, fuel = f + 1 := ⟨fuel - 1, by omega⟩
    have hfu : vK a < FU := by show vK a < 1000000; omega
    obtain ⟨t1, e1, j1, k1⟩ := k_mv_i (k := k) (e := w k * qd a k) X V hkK (F_X1_moveAtRandom_b10 f) (vK a) 0 FU t (mvd a w k) C (by omega) hfu hu
    have C1 : CP g t1 v a D := CP_s X C (Jx_m rfl j1)
    obtain ⟨t2, e2, j2, k2⟩ := ih (k + 1) f t1 C1 (by omega) (by omega) (fun j hj => by rw [j1.2.2 165 (by decide)]; exact hw j hj) (fun j hj => by
      rw [k1 j hj]
      congr 2
      dsimp only
      by_cases c : can a k j = true
      · rw [if_pos c, if_pos ⟨Nat.zero_le _, c⟩]
      · rw [if_neg c, if_neg (fun h => c h.2)])
    refine ⟨t2, ?_, Jx_t j1 j2, k2⟩
    have hor : nI (vWy a k) ||| (1 : Int32) <<< (nI k &&& 31) = nI (stq a k) := by
      rw [show (1 : Int32) <<< (nI k &&& 31) = nI (2 ^ k) from v_pow (by omega), fa_or]
      rfl
    have hmax : ∀ h : xH, F_J9_max_7cf53 1 (nI (pcn (stq a k))) h = some (nI (pcn (stq a k)), h) := fun h => by
      unfold F_J9_max_7cf53
      by_cases c : (1 : Int32) < nI (pcn (stq a k))
      · rw [if_pos c]
      · have c' : ¬ nI 1 < nI (pcn (stq a k)) := c
        rw [nI_ltI (by decide) (by omega)] at c'
        rw [if_neg c, show pcn (stq a k) = 1 by omega]
        rfl
    have hq : lN (w k) * (idv 60 (nI (pcn (stq a k)))).toInt64 = lN (w k * qd a k) := by
      rw [show idv 60 (nI (pcn (stq a k))) = nI (60 / pcn (stq a k)) from r_idv (m := 60) (by decide) (by omega) (by omega), nI_l (by have := Nat.div_le_self 60 (pcn (stq a k)); omega), lN_mul]
      rfl
    have hne : ¬ nI (pcn (stq a k)) = (0 : Int32) := show ¬ nI _ = nI 0 by rw [nI_eq (by omega) (by decide)]; omega
    rw [F_X1_moveAtRandom_b10, v_i3 V, Option.bind_some, vK_ C, if_neg (by rw [nI_leI (by omega) (by omega)]; omega), v_r9 V, Option.bind_some, v_a5 V (by omega), Option.bind_some, vWy_ C hkK, x_r163_1 X, Option.bind_some, x_a165 X (by omega), Option.bind_some, hw k hkK, hor, k_bits _ (by omega), Option.bind_some, hmax, Option.bind_some, if_neg hne, hq]
    exact e1.trans e2
theorem k_moved (X : Fx g) (V : VaS g v) (C : CP g t v a D) {w : Nat → Nat} (hw : ∀ j, j < vK a → tJ t 165 j = lN (w j)) : ∃ t', F_X1_moveAtRandom 163 v (Em g t) = some ((), Em g t') ∧ Jx 166 t t' ∧ ∀ j, j < vK a → tJ t' 166 j = lN (mvd a w (vK a) j) := by
  have hK := wK2 C.1
  have hfu : vK a < FU := by show vK a < 1000000; omega
  obtain ⟨t1, e1, j1, z1⟩ := k_fl6 (t := t) (c := 166) (x_S X 21 rfl) (x_N X 6 rfl) (by decide)
  obtain ⟨t2, e2, j2, k2⟩ := k_mv_l (w := w) X V (vK a) 0 FU t1 (CP_s X C (Jx_m rfl j1)) (by omega) hfu (fun j hj => by rw [j1.2.2 165 (by decide)]; exact hw j hj) (fun j hj => by rw [z1 j (by omega)]; rfl)
  refine ⟨t2, ?_, Jx_t j1 j2, k2⟩
  unfold F_X1_moveAtRandom
  rw [x_r163_2 X, Option.bind_some, e1, Option.bind_some]
  exact e2
theorem k_pf_i (X : Fx g) (V : VaS g v) {d0 f0 : Nat} {u : Nat → Nat} {y z : Int32} (kk : Nat → Nat → Nat → Int32 → Int32 → Int64 → Int32 → xH → Option (Int64 × xH)) : ∀ (d k fuel : Nat) (t : Tb), CP g t v a D → k + d = vK a → d < fuel → (∀ j, j < vK a → tJ t 166 j = lN (u j)) → (∀ j, j < k → tJ t 165 j = lN (if fnd a p j d0 = true then 0 else u j)) → ∃ t', F_X1_partsFound_b82 kk fuel 163 v 95 (nI p) y (lN (f0 + fb_sm (fun j => if fnd a p j d0 = true then u j else 0) k)) z (nI (sgs a p d0)) (nI k) (Em g t) = kk 163 v 95 (nI p) y (lN (f0 + fb_sm (fun j => if fnd a p j d0 = true then u j else 0) (vK a))) (z + 1) (Em g t') ∧ Jx 165 t t' ∧ ∀ j, j < vK a → tJ t' 165 j = lN (if fnd a p j d0 = true then 0 else u j) := by
  intro d
  induction d with
  | zero =>
    intro k fuel t C hk hf hu hw
    have W := C.1
    have hK := wK2 W
    obtain ⟨f, rfl⟩ : ∃ f, fuel = f + 1 := ⟨fuel - 1, by omega⟩
    have hk : k = vK a := by omega
    subst hk
    refine ⟨t, ?_, Jx_r, hw⟩
    rw [F_X1_partsFound_b82, v_i3 V, Option.bind_some, vK_ C, if_pos (by rw [nI_leI (by omega) (by omega)]; exact Nat.le_refl _)]
  | succ d ih =>
    intro k fuel t C hk hf hu hw
    have W := C.1
    have hK := wK2 W
    have hkK : k < vK a := by omega
    have hsg := sgs_lt (a := a) (p := p) (d0 := d0)
    have h64 : 2 ^ vK a ≤ 64 := Nat.pow_le_pow_right (n := 2) (by decide) hK
    obtain ⟨f, rfl⟩ : ∃ f, fuel = f + 1 := ⟨fuel - 1, by omega⟩
    have hb : (nI (sgs a p d0) >>> (nI k &&& 31)) &&& 1 = bI (fnd a p k d0) := by
      show (nI (sgs a p d0) >>> (nI k &&& nI 31)) &&& nI 1 = _
      rw [v_shr (by omega) (by omega), v_bit]
      unfold sgs
      rw [mk_bit, decide_eq_true hkK, Bool.true_and]
    have nx := fun y => ih (k + 1) f (wj t 165 k (lN y)) (CP_s X C (Sm_wj rfl Sm_r)) (by omega) (by omega) hu
    rw [F_X1_partsFound_b82, v_i3 V, Option.bind_some, vK_ C, if_neg (by rw [nI_leI (by omega) (by omega)]; omega), hb]
    cases c : fnd a p k d0
    · obtain ⟨t2, e2, j2, k2⟩ := nx (u k) (fun j hj => by
        rw [tJ_js]
        by_cases e : j = k
        · rw [e, pk_uLs, c, if_neg (by decide)]
        · rw [pk_uLn e]; exact hw j (by omega))
      rw [fb_sm_succ, c, if_neg (by decide), Nat.add_zero] at e2
      refine ⟨t2, ?_, Jx_t (Jx_wj Jx_r) j2, k2⟩
      rw [if_pos (show ¬ bI false = (1 : Int32) by decide)]
      unfold F_X1_partsFound_b107 F_X1_partsFound_b127
      rw [if_pos rfl, x_r163_1 X, Option.bind_some, if_pos rfl, x_r163_2 X, Option.bind_some, x_a166 X (by omega), Option.bind_some, hu k hkK, x_s165 X (by omega), Option.bind_some, show nI k + 1 = nI (k + 1) from nI_add k 1, show ∀ q : Nat, lN q + 0 = lN q from fun q => (lN_add q 0).trans (by rw [Nat.add_zero])]
      exact e2
    · obtain ⟨t2, e2, j2, k2⟩ := nx 0 (fun j hj => by
        rw [tJ_js]
        by_cases e : j = k
        · rw [e, pk_uLs, c, if_pos rfl]
        · rw [pk_uLn e]; exact hw j (by omega))
      rw [fb_sm_succ, c, if_pos rfl, ← Nat.add_assoc] at e2
      refine ⟨t2, ?_, Jx_t (Jx_wj Jx_r) j2, k2⟩
      rw [if_neg (show ¬ ¬ bI true = (1 : Int32) by decide)]
      unfold F_X1_partsFound_b107 F_X1_partsFound_b127
      rw [if_neg (by decide), x_r163_2 X, Option.bind_some, x_a166 X (by omega), Option.bind_some, x_r163_1 X, Option.bind_some, if_neg (by decide), show (0 : Int64) = lN 0 from rfl, x_s165 X (by omega), Option.bind_some, show nI k + 1 = nI (k + 1) from nI_add k 1, hu k hkK, lN_add]
      exact e2
theorem k_pf_l (X : Fx g) (V : VaS g v) (hp : p < vP a) {n0 : Nat} (hn : n0 ≤ 6) : ∀ (m i fuel : Nat) (t : Tb) (f : Nat) (w : Nat → Nat), CP g t v a D → i + m = n0 → m < fuel → (∀ j, j < vK a → tJ t 165 j = lN (w j)) → ∃ t', F_X1_partsFound_b40 fuel 163 v 95 (nI p) (nI n0) (lN f) (nI i) (Em g t) = some (lN (f * 60 ^ m + fb_sm (fun k => w k * chn a p m k (vDy a + i)) (vK a)), Em g t') ∧ Sm g t t' := by
  intro m
  induction m with
  | zero =>
    intro i fuel t f w C hi hf hw
    obtain ⟨fu, rfl⟩ : ∃ f, fuel = f + 1 := ⟨fuel - 1, by omega⟩
    have hi : i = n0 := by omega
    subst hi
    refine ⟨t, ?_, Sm_r⟩
    have h0 : fb_sm (fun k => w k * chn a p 0 k (vDy a + i)) (vK a) = 0 := by
      have h0 := fb_sm_const 0 (vK a)
      rw [Nat.mul_zero] at h0
      exact h0
    rw [F_X1_partsFound_b40, if_pos (by rw [nI_leI (by omega) (by omega)]; exact Nat.le_refl _), h0, Nat.pow_zero, Nat.mul_one, Nat.add_zero]
  | succ m ih =>
    intro i fuel t f w C hi hf hw
    have W := C.1
    have hK := wK2 W
    have hP := wP2 W
    have hdy := wDy2 W
    have hD := wD W
    obtain ⟨fu, rfl⟩ : ∃ f, fuel = f + 1 := ⟨fuel - 1, by omega⟩
    obtain ⟨t1, e1, j1, k1⟩ := k_moved X V C hw
    have s1 : Sm g t t1 := Jx_m rfl j1
    have C1 := CP_s X C s1
    have hfu : vK a < FU := by show vK a < 1000000; omega
    obtain ⟨t2, e2, j2, k2⟩ := k_pf_i (p := p) (d0 := vDy a + i) (f0 := f * 60) (u := mvd a w (vK a)) (y := nI n0) (z := nI i) X V (F_X1_partsFound_b40 fu) (vK a) 0 FU t1 C1 (by omega) hfu k1 (fun j hj => absurd hj (by omega))
    have s2 : Sm g t1 t2 := Jx_m rfl j2
    obtain ⟨t3, e3, s3⟩ := ih (i + 1) fu t2 (f * 60 + fb_sm (fun j => if fnd a p j (vDy a + i) = true then mvd a w (vK a) j else 0) (vK a)) (fun j => if fnd a p j (vDy a + i) = true then 0 else mvd a w (vK a) j) (CP_s X C1 s2) (by omega) (by omega) k2
    rw [show vDy a + (i + 1) = vDy a + i + 1 by omega, tot_s] at e3
    refine ⟨t3, ?_, Sm_t s1 (Sm_t s2 s3)⟩
    rw [F_X1_partsFound_b40, if_neg (by rw [nI_leI (by omega) (by omega)]; omega), x_rc163 X, Option.bind_some, e1, Option.bind_some, x_r95_2 X, Option.bind_some, x_a98 X (by omega), Option.bind_some, cBl_ C1 hp, x_i95_4 X, Option.bind_some, cDy_ C1, v_rc V, Option.bind_some, nI_add, k_sg V C1 (by omega), Option.bind_some, show lN f * 60 = lN (f * 60) from lN_mul f 60]
    rw [fb_sm, Nat.add_zero, show nI i + 1 = nI (i + 1) from nI_add i 1] at e2
    exact e2.trans e3
theorem k_parts (X : Fx g) (V : VaS g v) (C : CP g t v a D) (hp : p < vP a) {n0 : Nat} (hn : n0 ≤ 6) : ∃ t', F_X1_partsFound 163 v 95 (nI p) (nI n0) (Em g t) = some (lN (pff a p n0), Em g t') ∧ Sm g t t' := by
  have W := C.1
  have hK := wK2 W
  have hP := wP2 W
  have hat := wAt2 W hp
  have hfu : n0 < FU := by show n0 < 1000000; omega
  unfold F_X1_partsFound pff
  cases c : (vFo a).testBit p
  · obtain ⟨t1, e1, j1, z1⟩ := k_fl6 (t := t) (c := 165) (x_S X 21 rfl) (x_N X 6 rfl) (by decide)
    have s1 : Sm g t t1 := Jx_m rfl j1
    have s2 : Sm g t1 (wj t1 165 (vAt a p) (lN 1)) := Sm_wj rfl Sm_r
    have C1 := CP_s X C s1
    obtain ⟨t3, e3, s3⟩ := k_pf_l X V hp hn n0 0 FU (wj t1 165 (vAt a p) (lN 1)) 0 (fun j => if j = vAt a p then 1 else 0) (CP_s X C1 s2) (by omega) hfu (fun j hj => by
      rw [tJ_js]
      by_cases e : j = vAt a p
      · rw [e, pk_uLs, if_pos rfl]
      · rw [pk_uLn e, if_neg e, z1 j (by omega)]; rfl)
    rw [Nat.zero_mul, Nat.zero_add, Nat.add_zero, sm_one (f := fun k => chn a p n0 k (vDy a)) hat] at e3
    refine ⟨t3, ?_, Sm_t s1 (Sm_t s2 s3)⟩
    rw [x_rc95 X, Option.bind_some, k_found X C hp, Option.bind_some, c, if_pos (show bI false = (0 : Int32) by decide), if_neg (by decide), x_r163_1 X, Option.bind_some, e1, Option.bind_some, x_r163_1 X, Option.bind_some, x_r95_0 X, Option.bind_some, x_a96 X (by omega), Option.bind_some, cAt_ C1 hp, show (1 : Int64) = lN 1 from rfl, x_s165 X (by omega), Option.bind_some]
    exact e3
  · refine ⟨t, ?_, Sm_r⟩
    rw [x_rc95 X, Option.bind_some, k_found X C hp, Option.bind_some, c, if_neg (show ¬ bI true = (0 : Int32) by decide), if_pos rfl, k_inAll _ hn, Option.bind_some]
end XCr
