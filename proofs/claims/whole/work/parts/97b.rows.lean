/-! ===== rows in which neighbours hear all: pure, and the reference ===== -/
def fitp (a : Nat → Int32) (z p q : Nat) : Bool := decide (an_ z (heard a p ||| heard a q) = 0)
def fz (F : Nat → Nat → Bool) (l p : Nat) : Bool := decide (l = 6) || F l p
def smr (f : Nat → Nat) : Nat → Nat → Nat
  | 0, _ => 0
  | d + 1, p => f p + smr f d (p + 1)
def ok1 (F : Nat → Nat → Bool) (U l p : Nat) : Bool := !U.testBit p && fz F l p
def ens (F : Nat → Nat → Bool) (P : Nat) : Nat → Nat → Nat → Nat
  | 0, _, _ => 1
  | d + 1, U, l => smr (fun p => if ok1 F U l p then ens F P d (U ||| 2 ^ p) p else 0) P 0
def En (F : Nat → Nat → Bool) (P U l : Nat) : Nat := ens F P (P - pc U P) U l
def okE (F : Nat → Nat → Bool) (P U l p : Nat) : Bool := ok1 F U l p && decide (0 < En F P (U ||| 2 ^ p) p)
def nxt (F : Nat → Nat → Bool) (P U l : Nat) : Nat := fa_first (okE F P U l) P
def itr (F : Nat → Nat → Bool) (P : Nat) : Nat → Nat → Nat → Nat
  | 0, U, l => nxt F P U l
  | j + 1, U, l => itr F P j (U ||| 2 ^ nxt F P U l) (nxt F P U l)
theorem smr_c {f h : Nat → Nat} : ∀ (d p : Nat), (∀ q, p ≤ q → q < p + d → f q = h q) → smr f d p = smr h d p
  | 0, _, _ => rfl
  | d + 1, p, e => by
    rw [smr, smr, e p (by omega) (by omega), smr_c d (p + 1) (fun q h1 h2 => e q (by omega) (by omega))]
theorem smr_le {f : Nat → Nat} {c : Nat} : ∀ (d p : Nat), (∀ q, p ≤ q → q < p + d → f q ≤ c) → smr f d p ≤ d * c
  | 0, _, _ => by rw [smr]; omega
  | d + 1, p, h => by
    have h1 := h p (by omega) (by omega)
    have h2 := smr_le d (p + 1) (fun q a1 a2 => h q (by omega) (by omega))
    rw [smr, Nat.succ_mul]
    omega
theorem smr_0 {f : Nat → Nat} : ∀ (d p : Nat), smr f d p = 0 ↔ ∀ q, p ≤ q → q < p + d → f q = 0
  | 0, p => ⟨fun _ q h1 h2 => absurd h1 (by omega), fun _ => rfl⟩
  | d + 1, p => by
    have ih := smr_0 (f := f) d (p + 1)
    rw [smr]
    constructor
    · intro h q h1 h2
      by_cases e : q = p
      · rw [e]; omega
      · exact ih.mp (by omega) q (by omega) (by omega)
    · intro h
      have h1 := h p (by omega) (by omega)
      have h2 := ih.mpr (fun q a1 a2 => h q (by omega) (by omega))
      omega
theorem ens_le {F : Nat → Nat → Bool} {P : Nat} (hP : P ≤ 6) : ∀ (d U l : Nat), ens F P d U l ≤ 6 ^ d
  | 0, _, _ => Nat.le_refl 1
  | d + 1, U, l => by
    rw [ens]
    have h := smr_le (f := fun p => if ok1 F U l p then ens F P d (U ||| 2 ^ p) p else 0) (c := 6 ^ d) P 0 (fun q _ _ => by
      show (if ok1 F U l q then _ else 0) ≤ 6 ^ d
      split
      · exact ens_le hP d _ _
      · exact Nat.zero_le _)
    have h2 : P * 6 ^ d ≤ 6 * 6 ^ d := Nat.mul_le_mul_right _ hP
    rw [Nat.pow_succ]
    omega
theorem pc_set {U p : Nat} (hU : U.testBit p = false) : ∀ k, pc (U ||| 2 ^ p) k = pc U k + (if p < k then 1 else 0)
  | 0 => rfl
  | k + 1 => by
    rw [pc, pc, pc_set hU k, fb_bit_set]
    by_cases e : k = p
    · subst e
      rw [hU]
      simp
    · by_cases e2 : p < k
      · simp [e, e2, show p < k + 1 by omega]
        omega
      · simp [e, e2, show ¬ p < k + 1 by omega]
theorem pc_ex {U : Nat} : ∀ {k : Nat}, pc U k < k → ∃ p, p < k ∧ U.testBit p = false
  | 0, h => absurd h (Nat.not_lt_zero _)
  | k + 1, h => by
    rw [pc] at h
    cases q : U.testBit k
    · exact ⟨k, by omega, q⟩
    · rw [q] at h
      simp at h
      obtain ⟨p, h1, h2⟩ := pc_ex (k := k) (by omega)
      exact ⟨p, by omega, h2⟩
theorem En_s {F : Nat → Nat → Bool} {P U l : Nat} (h : pc U P < P) : En F P U l = smr (fun p => if ok1 F U l p then En F P (U ||| 2 ^ p) p else 0) P 0 := by
  unfold En
  obtain ⟨d, hd⟩ : ∃ d, P - pc U P = d + 1 := ⟨P - pc U P - 1, by omega⟩
  rw [hd, ens]
  apply smr_c
  intro q _ hq
  show (if ok1 F U l q then ens F P d (U ||| 2 ^ q) q else 0) = (if ok1 F U l q then ens F P (P - pc (U ||| 2 ^ q) P) (U ||| 2 ^ q) q else 0)
  by_cases c : ok1 F U l q = true
  · have hb : U.testBit q = false := by
      unfold ok1 at c
      rw [Bool.and_eq_true, Bool.not_eq_true'] at c
      exact c.1
    rw [if_pos c, if_pos c, pc_set hb, if_pos (by omega), show P - (pc U P + 1) = d by omega]
  · rw [if_neg c, if_neg c]
theorem En_f {F : Nat → Nat → Bool} {P U l : Nat} (h : pc U P = P) : En F P U l = 1 := by
  unfold En
  rw [h, Nat.sub_self]
  rfl
theorem En_le {F : Nat → Nat → Bool} {P U l : Nat} (hP : P ≤ 6) : En F P U l ≤ 46656 := by
  unfold En
  have h1 := ens_le (F := F) hP (P - pc U P) U l
  have h2 : 6 ^ (P - pc U P) ≤ 6 ^ 6 := Nat.pow_le_pow_right (by decide) (by omega)
  omega
section XRo
variable {g : Sk} {t : Tb} {a : Nat → Int32}
variable {D v x nx p : Nat} {t' t'' t1 t2 : Tb}
theorem r_two (X : Fx g) (W : WA a D) (h9 : ∀ p, p < vP a → tA t 193 p = nI (heard a p)) {z p q : Nat} (hz : z < 2 ^ 31) (hp : p < vP a) (hq : q < vP a) : F_X12_areTwo 183 (nI p) (nI q) (nI z) (Em g t) = some (bI (fitp a z p q), Em g t) := by
  have hP := wP2 W
  have hl := an_leS z (heard a p ||| heard a q)
  have e : nI z &&& ((nI (heard a p) ||| nI (heard a q)) ^^^ -nI 1) = nI (an_ z (heard a p ||| heard a q)) := by rw [fa_or, an_g]
  unfold F_X12_areTwo fitp
  by_cases c : an_ z (heard a p ||| heard a q) = 0
  · have e0 : nI (an_ z (heard a p ||| heard a q)) = nI 0 := by rw [c]
    simp (disch := omega) only [x_rc183 X, x_i183_0 X, x_w183_0 X, x_r183_1 X, x_r183_2 X, x_r183_3 X, x_r183_4 X, x_i183_5 X, x_w183_5 X, x_i183_6 X, x_w183_6 X, x_i183_7 X, x_w183_7 X, x_i183_8 X, x_w183_8 X, x_i183_9 X, x_w183_9 X, x_i183_10 X, x_w183_10 X, x_i183_11 X, x_w183_11 X, x_i183_12 X, x_w183_12 X, x_i183_13 X, x_w183_13 X, x_i183_14 X, x_w183_14 X, x_i183_15 X, x_w183_15 X, x_r183_16 X, x_r183_17 X, x_r183_18 X, x_i183_19 X, x_w183_19 X, x_i183_20 X, x_w183_20 X, x_r183_21 X, x_r183_22 X, x_r183_23 X, x_r183_24 X, x_r183_25 X, x_i183_26 X, x_w183_26 X, x_r183_27 X, x_r183_28 X, x_r183_29 X, x_i183_30 X, x_w183_30 X, x_r183_31 X, x_r183_32 X, x_r183_33 X, x_r183_34 X, x_r183_35 X, x_r183_36 X, x_a184 X, x_s184 X, x_a185 X, x_s185 X, x_a186 X, x_s186 X, x_a187 X, x_s187 X, x_a188 X, x_s188 X, x_a189 X, x_s189 X, x_a190 X, x_s190 X, x_a191 X, x_s191 X, x_a192 X, x_s192 X, x_a193 X, x_s193 X, x_a194 X, x_s194 X, x_a195 X, x_s195 X, x_a196 X, x_s196 X, x_a197 X, x_s197 X, x_a198 X, x_s198 X, x_a199 X, x_s199 X, x_a200 X, x_s200 X, x_a201 X, x_s201 X, x_a202 X, x_s202 X, x_a203 X, x_s203 X, x_a204 X, x_s204 X, Option.bind_some, ↓reduceIte, ite_not, fa_lit, h9 p hp, h9 q hq, e, e0, c, decide_true]
    rfl
  · have e0 : ¬ nI (an_ z (heard a p ||| heard a q)) = nI 0 := by rw [nI_eq (by omega) (by decide)]; exact c
    simp (disch := omega) only [x_rc183 X, x_i183_0 X, x_w183_0 X, x_r183_1 X, x_r183_2 X, x_r183_3 X, x_r183_4 X, x_i183_5 X, x_w183_5 X, x_i183_6 X, x_w183_6 X, x_i183_7 X, x_w183_7 X, x_i183_8 X, x_w183_8 X, x_i183_9 X, x_w183_9 X, x_i183_10 X, x_w183_10 X, x_i183_11 X, x_w183_11 X, x_i183_12 X, x_w183_12 X, x_i183_13 X, x_w183_13 X, x_i183_14 X, x_w183_14 X, x_i183_15 X, x_w183_15 X, x_r183_16 X, x_r183_17 X, x_r183_18 X, x_i183_19 X, x_w183_19 X, x_i183_20 X, x_w183_20 X, x_r183_21 X, x_r183_22 X, x_r183_23 X, x_r183_24 X, x_r183_25 X, x_i183_26 X, x_w183_26 X, x_r183_27 X, x_r183_28 X, x_r183_29 X, x_i183_30 X, x_w183_30 X, x_r183_31 X, x_r183_32 X, x_r183_33 X, x_r183_34 X, x_r183_35 X, x_r183_36 X, x_a184 X, x_s184 X, x_a185 X, x_s185 X, x_a186 X, x_s186 X, x_a187 X, x_s187 X, x_a188 X, x_s188 X, x_a189 X, x_s189 X, x_a190 X, x_s190 X, x_a191 X, x_s191 X, x_a192 X, x_s192 X, x_a193 X, x_s193 X, x_a194 X, x_s194 X, x_a195 X, x_s195 X, x_a196 X, x_s196 X, x_a197 X, x_s197 X, x_a198 X, x_s198 X, x_a199 X, x_s199 X, x_a200 X, x_s200 X, x_a201 X, x_s201 X, x_a202 X, x_s202 X, x_a203 X, x_s203 X, x_a204 X, x_s204 X, Option.bind_some, ↓reduceIte, ite_not, fa_lit, h9 p hp, h9 q hq, e, e0, c, decide_false]
    rfl
theorem k_fit (X : Fx g) (W : WA a D) (h9 : ∀ p, p < vP a → tA t 154 p = nI (heard a p)) {z p q : Nat} (h1 : tI t 153 1 = nI z) (hz : z < 2 ^ 31) (hp : p < vP a) (hq : q < vP a) : F_X7_fit 153 (nI p) (nI q) (Em g t) = some (bI (fitp a z p q), Em g t) := by
  have hP := wP2 W
  have hl := an_leS z (heard a p ||| heard a q)
  have e : nI z &&& ((nI (heard a p) ||| nI (heard a q)) ^^^ -nI 1) = nI (an_ z (heard a p ||| heard a q)) := by rw [fa_or, an_g]
  unfold F_X7_fit fitp
  by_cases c : an_ z (heard a p ||| heard a q) = 0
  · have e0 : nI (an_ z (heard a p ||| heard a q)) = nI 0 := by rw [c]
    simp (disch := omega) only [x_rc153 X, x_i153_0 X, x_w153_0 X, x_i153_1 X, x_w153_1 X, x_r153_2 X, x_r153_3 X, x_r153_4 X, x_a154 X, x_s154 X, x_a155 X, x_s155 X, x_a156 X, x_s156 X, Option.bind_some, ↓reduceIte, ite_not, fa_lit, h1, h9 p hp, h9 q hq, e, e0, c, decide_true]
    rfl
  · have e0 : ¬ nI (an_ z (heard a p ||| heard a q)) = nI 0 := by rw [nI_eq (by omega) (by decide)]; exact c
    simp (disch := omega) only [x_rc153 X, x_i153_0 X, x_w153_0 X, x_i153_1 X, x_w153_1 X, x_r153_2 X, x_r153_3 X, x_r153_4 X, x_a154 X, x_s154 X, x_a155 X, x_s155 X, x_a156 X, x_s156 X, Option.bind_some, ↓reduceIte, ite_not, fa_lit, h1, h9 p hp, h9 q hq, e, e0, c, decide_false]
    rfl
/-! the class's table of endings -/
theorem k_end_l (X : Fx g) (W : WA a D) (h0 : tI t 153 0 = nI (vP a)) (h9 : ∀ p, p < vP a → tA t 154 p = nI (heard a p)) {z U l : Nat} (h1 : tI t 153 1 = nI z) (hz : z < 2 ^ 31) (hU : U < 2 ^ vP a) (hl : l < vP a) (h5 : ∀ p, p < vP a → U.testBit p = false → tA t 155 ((U ||| 2 ^ p) * 6 + p) = nI (En (fitp a z) (vP a) (U ||| 2 ^ p) p)) : ∀ (d k fuel c : Nat), k + d = vP a → d < fuel → c ≤ k * 46656 → F_X7_countEndings_b5 fuel 153 (nI U) (nI l) (nI c) (nI k) (Em g t) = some (nI (c + smr (fun p => if ok1 (fitp a z) U l p then En (fitp a z) (vP a) (U ||| 2 ^ p) p else 0) d k), Em g t) := by
  have hP := wP2 W
  have hU31 := p_31 hU (by omega)
  have h64 : 2 ^ vP a ≤ 64 := Nat.pow_le_pow_right (n := 2) (by decide) hP
  intro d
  induction d with
  | zero =>
    intro k fuel c hk hf hc
    obtain ⟨f, rfl⟩ : ∃ f, fuel = f + 1 := ⟨fuel - 1, by omega⟩
    have hk : k = vP a := by omega
    subst hk
    rw [F_X7_countEndings_b5, x_i153_0 X, Option.bind_some, h0, if_pos (by rw [nI_leI (by omega) (by omega)]; exact Nat.le_refl _)]
    rfl
  | succ d ih =>
    intro k fuel c hk hf hc
    obtain ⟨f, rfl⟩ : ∃ f, fuel = f + 1 := ⟨fuel - 1, by omega⟩
    have hk3 : k < vP a := by omega
    have hn1 : nI k + 1 = nI (k + 1) := nI_add k 1
    have hle := En_le (F := fitp a z) (U := U ||| 2 ^ k) (l := k) hP
    have hsh : (nI U >>> (nI k &&& 31)) &&& 1 = bI (U.testBit k) := by
      show (nI U >>> (nI k &&& nI 31)) &&& nI 1 = _
      rw [v_shr hU31 (by omega), v_bit]
    rw [F_X7_countEndings_b5, x_i153_0 X, Option.bind_some, h0, if_neg (by rw [nI_leI (by omega) (by omega)]; omega), hsh, hn1, smr]
    have hfz : fz (fitp a z) l k = fitp a z l k := by
      unfold fz
      rw [decide_eq_false (by omega), Bool.false_or]
    cases q : U.testBit k
    · have hk1 : ok1 (fitp a z) U l k = fitp a z l k := by
        unfold ok1
        rw [q, hfz]
        rfl
      rw [if_neg (show ¬ ¬ bI false = (0 : Int32) by decide), x_rc153 X, Option.bind_some, k_fit X W h9 h1 hz hl hk3, Option.bind_some, hk1]
      cases q2 : fitp a z l k
      · rw [if_pos (show bI false = (0 : Int32) by decide), if_neg (by decide), Nat.zero_add]
        exact ih (k + 1) f c (by omega) (by omega) (Nat.le_trans hc (Nat.mul_le_mul_right _ (Nat.le_succ k)))
      · have hor : U ||| 2 ^ k < 2 ^ vP a := Nat.or_lt_two_pow hU (Nat.pow_lt_pow_right (by decide) hk3)
        have hix : (nI U ||| ((1 : Int32) <<< (nI k &&& 31))) * 6 + nI k = nI ((U ||| 2 ^ k) * 6 + k) := by
          rw [show (1 : Int32) <<< (nI k &&& 31) = nI (2 ^ k) from v_pow (by omega), fa_or, show nI (U ||| 2 ^ k) * 6 = nI ((U ||| 2 ^ k) * 6) from nI_mulN _ 6, nI_add]
        rw [if_neg (show ¬ bI true = (0 : Int32) by decide), x_r153_3 X, Option.bind_some, hix, x_a155 X (by omega), Option.bind_some, h5 k hk3 q, nI_add, if_pos rfl, ← Nat.add_assoc]
        exact ih (k + 1) f _ (by omega) (by omega) (by omega)
    · have hk1 : ok1 (fitp a z) U l k = false := by
        unfold ok1
        rw [q]
        rfl
      rw [if_pos (show ¬ bI true = (0 : Int32) by decide), hk1, if_neg (by decide), Nat.zero_add]
      exact ih (k + 1) f c (by omega) (by omega) (Nat.le_trans hc (Nat.mul_le_mul_right _ (Nat.le_succ k)))
theorem full_bits {U P : Nat} (hU : U < 2 ^ P) : pc U P = P ↔ U = 2 ^ P - 1 := by
  constructor
  · intro h
    apply mk_ext (n := P) hU (by have := Nat.two_pow_pos P; omega)
    intro k hk
    rw [Nat.testBit_two_pow_sub_one, decide_eq_true hk]
    have key : ∀ n, pc U n = n → ∀ k, k < n → U.testBit k = true := by
      intro n
      induction n with
      | zero => intro _ k hk; omega
      | succ n ih =>
        intro h k hk
        have hl := pc_le U n
        rw [pc] at h
        cases q : U.testBit n
        · rw [q] at h; simp at h; omega
        · rw [q] at h
          simp at h
          by_cases e : k = n
          · rw [e]; exact q
          · exact ih h k (by omega)
    exact key P h k hk
  · rintro rfl
    have key : ∀ n, n ≤ P → pc (2 ^ P - 1) n = n := by
      intro n
      induction n with
      | zero => intro _; rfl
      | succ n ih =>
        intro hn
        rw [pc, ih (by omega), Nat.testBit_two_pow_sub_one, decide_eq_true (by omega)]
        rfl
    exact key P (Nat.le_refl P)
theorem k_ord_i (X : Fx g) (W : WA a D) {z U : Nat} (hz : z < 2 ^ 31) (hU : U < 2 ^ vP a) (kk : Nat → Int32 → Int32 → xH → Option (Int32 × xH)) : ∀ (d l fuel : Nat) (t : Tb), l + d = vP a → d < fuel → tI t 153 0 = nI (vP a) → tI t 153 1 = nI z → (∀ p, p < vP a → tA t 154 p = nI (heard a p)) → (∀ Y, U < Y → Y < 2 ^ vP a → ∀ q, q < vP a → tA t 155 (Y * 6 + q) = nI (En (fitp a z) (vP a) Y q)) → (∀ q, q < l → tA t 155 (U * 6 + q) = nI (En (fitp a z) (vP a) U q)) → ∃ t', F_X7_countOrders_b26 kk fuel 153 (nI (2 ^ vP a - 1)) (nI U) (nI l) (Em g t) = kk 153 (nI (2 ^ vP a - 1)) (nI U + (-1)) (Em g t') ∧ Ax 155 t t' ∧ (∀ Y, U ≤ Y → Y < 2 ^ vP a → ∀ q, q < vP a → tA t' 155 (Y * 6 + q) = nI (En (fitp a z) (vP a) Y q)) := by
  have hP := wP2 W
  have h64 : 2 ^ vP a ≤ 64 := Nat.pow_le_pow_right (n := 2) (by decide) hP
  intro d
  induction d with
  | zero =>
    intro l fuel t hl hf h0 h1 h9 hY hq
    obtain ⟨f, rfl⟩ : ∃ f, fuel = f + 1 := ⟨fuel - 1, by omega⟩
    have hl : l = vP a := by omega
    subst hl
    refine ⟨t, ?_, Ax_r, fun Y h3 h4 q h5 => ?_⟩
    · rw [F_X7_countOrders_b26, x_i153_0 X, Option.bind_some, h0, if_pos (by rw [nI_leI (by omega) (by omega)]; exact Nat.le_refl _)]
    · by_cases e : Y = U
      · rw [e]; exact hq q h5
      · exact hY Y (by omega) h4 q h5
  | succ d ih =>
    intro l fuel t hl hf h0 h1 h9 hY hq
    obtain ⟨f, rfl⟩ : ∃ f, fuel = f + 1 := ⟨fuel - 1, by omega⟩
    have hl3 : l < vP a := by omega
    have hn1 : nI l + 1 = nI (l + 1) := nI_add l 1
    have hle := En_le (F := fitp a z) (P := vP a) (U := U) (l := l) hP
    have hix : nI U * 6 + nI l = nI (U * 6 + l) := by
      rw [show nI U * 6 = nI (U * 6) from nI_mulN U 6, nI_add]
    have hset : ∀ w, sI (Em g t) 155 (nI (U * 6 + l)) w = some (Em g (wa t 155 (U * 6 + l) w)) := fun w => x_s155 X (by omega)
    obtain ⟨t2, e2, j2, k2⟩ := ih (l + 1) f (wa t 155 (U * 6 + l) (nI (En (fitp a z) (vP a) U l))) (by omega) (by omega) h0 h1 (fun p hp => by rw [tA_an (by decide)]; exact h9 p hp) (fun Y h3 h4 q h5 => by rw [tA_as, upd_n (by omega)]; exact hY Y h3 h4 q h5) (fun q h5 => by
      rw [tA_as]
      by_cases e : q = l
      · rw [e, upd_s]
      · rw [upd_n (by omega)]; exact hq q (by omega))
    refine ⟨t2, ?_, Ax_t (Ax_wa Ax_r) j2, k2⟩
    rw [F_X7_countOrders_b26, x_i153_0 X, Option.bind_some, h0, if_neg (by rw [nI_leI (by omega) (by omega)]; omega), x_r153_3 X, Option.bind_some, hix, hn1]
    by_cases hfu : U = 2 ^ vP a - 1
    · have e1 : En (fitp a z) (vP a) U l = 1 := En_f ((full_bits hU).mpr hfu)
      rw [e1] at e2
      rw [if_neg (show ¬ ¬ nI U = nI (2 ^ vP a - 1) from fun q => q (by rw [hfu])), show (1 : Int32) = nI 1 from rfl, hset, Option.bind_some]
      exact e2
    · have hpc : pc U (vP a) < vP a := by
        have := pc_le U (vP a)
        have h3 : pc U (vP a) ≠ vP a := fun e => hfu ((full_bits hU).mp e)
        omega
      have hne : ¬ nI U = nI (2 ^ vP a - 1) := by rw [nI_eq (by omega) (by omega)]; exact hfu
      have hfp : vP a < FU := by show vP a < 1000000; omega
      have he := k_end_l (t := t) (l := l) X W h0 h9 h1 hz hU hl3 (fun p hp hb => hY (U ||| 2 ^ p) (by
        have h3 : U ≤ U ||| 2 ^ p := Nat.left_le_or
        have h4 : U ≠ U ||| 2 ^ p := by
          intro e
          have := fb_bit_set U p p
          rw [← e, hb] at this
          simp at this
        omega) (Nat.or_lt_two_pow hU (Nat.pow_lt_pow_right (by decide) hp)) p hp) (vP a) 0 FU 0 (by omega) hfp (Nat.zero_le _)
      rw [Nat.zero_add, ← En_s hpc] at he
      have he' : F_X7_countEndings 153 (nI U) (nI l) (Em g t) = some (nI (En (fitp a z) (vP a) U l), Em g t) := he
      rw [if_pos hne, x_rc153 X, Option.bind_some, he', Option.bind_some, hset, Option.bind_some]
      exact e2
theorem k_ord_s (X : Fx g) (W : WA a D) (h0 : tI t 153 0 = nI (vP a)) {z : Nat} (h5 : ∀ p, p < vP a → tA t 155 (2 ^ p * 6 + p) = nI (En (fitp a z) (vP a) (2 ^ p) p)) : ∀ (d k fuel c : Nat), k + d = vP a → d < fuel → c ≤ k * 46656 → F_X7_countOrders_b76 fuel 153 (nI c) (nI k) (Em g t) = some (nI (c + smr (fun p => En (fitp a z) (vP a) (2 ^ p) p) d k), Em g t) := by
  have hP := wP2 W
  have h64 : 2 ^ vP a ≤ 64 := Nat.pow_le_pow_right (n := 2) (by decide) hP
  intro d
  induction d with
  | zero =>
    intro k fuel c hk hf hc
    obtain ⟨f, rfl⟩ : ∃ f, fuel = f + 1 := ⟨fuel - 1, by omega⟩
    have hk : k = vP a := by omega
    subst hk
    rw [F_X7_countOrders_b76, x_i153_0 X, Option.bind_some, h0, if_pos (by rw [nI_leI (by omega) (by omega)]; exact Nat.le_refl _)]
    rfl
  | succ d ih =>
    intro k fuel c hk hf hc
    obtain ⟨f, rfl⟩ : ∃ f, fuel = f + 1 := ⟨fuel - 1, by omega⟩
    have hk3 : k < vP a := by omega
    have h2 : 2 ^ k < 2 ^ vP a := Nat.pow_lt_pow_right (by decide) hk3
    have hle := En_le (F := fitp a z) (U := 2 ^ k) (l := k) hP
    have hix : ((1 : Int32) <<< (nI k &&& 31)) * 6 + nI k = nI (2 ^ k * 6 + k) := by
      rw [show (1 : Int32) <<< (nI k &&& 31) = nI (2 ^ k) from v_pow (by omega), show nI (2 ^ k) * 6 = nI (2 ^ k * 6) from nI_mulN _ 6, nI_add]
    rw [F_X7_countOrders_b76, x_i153_0 X, Option.bind_some, h0, if_neg (by rw [nI_leI (by omega) (by omega)]; omega), x_r153_3 X, Option.bind_some, hix, x_a155 X (by omega), Option.bind_some, h5 k hk3, nI_add, show nI k + 1 = nI (k + 1) from nI_add k 1, smr, ← Nat.add_assoc]
    exact ih (k + 1) f _ (by omega) (by omega) (by omega)
theorem En_0 {F : Nat → Nat → Bool} {P : Nat} (hP : 0 < P) : En F P 0 6 = smr (fun p => En F P (2 ^ p) p) P 0 := by
  have h0 : ∀ k, pc 0 k = 0 := by
    intro k
    induction k with
    | zero => rfl
    | succ k ih => rw [pc, ih]; simp
  rw [En_s (by rw [h0]; exact hP)]
  apply smr_c
  intro q _ _
  show (if ok1 F 0 6 q then En F P (0 ||| 2 ^ q) q else 0) = _
  have : ok1 F 0 6 q = true := by
    unfold ok1 fz
    simp
  rw [if_pos this, Nat.zero_or]
theorem k_ord_l (X : Fx g) (W : WA a D) {z : Nat} (hz : z < 2 ^ 31) (hp0 : 0 < vP a) : ∀ (U fuel : Nat) (t : Tb), U < 2 ^ vP a → U < fuel → tI t 153 0 = nI (vP a) → tI t 153 1 = nI z → (∀ p, p < vP a → tA t 154 p = nI (heard a p)) → (∀ Y, U < Y → Y < 2 ^ vP a → ∀ q, q < vP a → tA t 155 (Y * 6 + q) = nI (En (fitp a z) (vP a) Y q)) → ∃ t', F_X7_countOrders_b20 fuel 153 (nI (2 ^ vP a - 1)) (nI U) (Em g t) = some (nI (En (fitp a z) (vP a) 0 6), Em g t') ∧ Ax 155 t t' ∧ (∀ Y, 0 < Y → Y < 2 ^ vP a → ∀ q, q < vP a → tA t' 155 (Y * 6 + q) = nI (En (fitp a z) (vP a) Y q)) := by
  have hP := wP2 W
  have h64 : 2 ^ vP a ≤ 64 := Nat.pow_le_pow_right (n := 2) (by decide) hP
  have hfp : vP a < FU := by show vP a < 1000000; omega
  intro U
  induction U with
  | zero =>
    intro fuel t hU hf h0 h1 h9 hY
    obtain ⟨f, rfl⟩ : ∃ f, fuel = f + 1 := ⟨fuel - 1, by omega⟩
    refine ⟨t, ?_, Ax_r, hY⟩
    have hs := k_ord_s (t := t) (z := z) X W h0 (fun p hp => hY (2 ^ p) (Nat.two_pow_pos p) (Nat.pow_lt_pow_right (by decide) hp) p hp) (vP a) 0 FU 0 (by omega) hfp (Nat.zero_le _)
    rw [Nat.zero_add, ← En_0 hp0] at hs
    rw [F_X7_countOrders_b20, if_pos (show nI 0 ≤ (0 : Int32) by decide)]
    exact hs
  | succ U ih =>
    intro fuel t hU hf h0 h1 h9 hY
    obtain ⟨f, rfl⟩ : ∃ f, fuel = f + 1 := ⟨fuel - 1, by omega⟩
    obtain ⟨t1, e1, j1, k1⟩ := k_ord_i X W hz hU (F_X7_countOrders_b20 f) (vP a) 0 FU t (by omega) hfp h0 h1 h9 hY (fun q hq => absurd hq (by omega))
    obtain ⟨t2, e2, j2, k2⟩ := ih f t1 (by omega) (by omega) (by rw [j1.1]; exact h0) (by rw [j1.1]; exact h1) (fun p hp => by rw [j1.2.1 154 (by decide)]; exact h9 p hp) (fun Y h3 h4 => k1 Y (by omega) h4)
    refine ⟨t2, ?_, Ax_t j1 j2, k2⟩
    have hsub : nI (U + 1) + (-1 : Int32) = nI U := by
      have := nI_an (a := U + 1) (b := 1) (by omega)
      rw [Nat.add_sub_cancel] at this
      exact this
    rw [F_X7_countOrders_b20, if_neg (show ¬ nI (U + 1) ≤ (0 : Int32) from show ¬ nI (U + 1) ≤ nI 0 by rw [nI_leI (by omega) (by decide)]; omega)]
    rw [hsub] at e1
    exact e1.trans e2
theorem k_ord (X : Fx g) (W : WA a D) (h0 : tI t 153 0 = nI (vP a)) {z : Nat} (h1 : tI t 153 1 = nI z) (hz : z < 2 ^ 31) (h9 : ∀ p, p < vP a → tA t 154 p = nI (heard a p)) : ∃ t', F_X7_countOrders 153 (Em g t) = some (nI (En (fitp a z) (vP a) 0 6), Em g t') ∧ Ax 155 t t' ∧ (∀ Y, 0 < Y → Y < 2 ^ vP a → ∀ q, q < vP a → tA t' 155 (Y * 6 + q) = nI (En (fitp a z) (vP a) Y q)) := by
  have hP := wP2 W
  have h64 : 2 ^ vP a ≤ 64 := Nat.pow_le_pow_right (n := 2) (by decide) hP
  have hpp := Nat.two_pow_pos (vP a)
  unfold F_X7_countOrders
  by_cases hp0 : vP a = 0
  · refine ⟨t, ?_, Ax_r, fun Y h3 h4 q hq => absurd hq (by omega)⟩
    rw [x_i153_0 X, Option.bind_some, h0, hp0, if_neg (show ¬ ¬ nI 0 = (0 : Int32) from fun q => q rfl)]
    rfl
  · have hfu : 2 ^ vP a - 1 < FU := by show 2 ^ vP a - 1 < 1000000; omega
    obtain ⟨t1, e1, j1, k1⟩ := k_ord_l X W hz (by omega) (2 ^ vP a - 1) FU t (by omega) hfu h0 h1 h9 (fun Y h3 h4 => absurd h3 (by omega))
    refine ⟨t1, ?_, j1, k1⟩
    have hsh : ((1 : Int32) <<< (nI (vP a) &&& 31)) - 1 = nI (2 ^ vP a - 1) := by
      rw [show (1 : Int32) <<< (nI (vP a) &&& 31) = nI (2 ^ vP a) from v_pow (by omega), show nI (2 ^ vP a) - 1 = nI (2 ^ vP a - 1) from nI_sub (b := 1) (by omega)]
    rw [x_i153_0 X, Option.bind_some, h0, if_pos (show ¬ nI (vP a) = (0 : Int32) from show ¬ nI (vP a) = nI 0 by rw [nI_eq (by omega) (by decide)]; exact hp0), Option.bind_some, hsh]
    exact e1
end XRo
