/-! ===== through: the class's ways and fewest ===== -/
def eg (a : Nat → Int32) (A i j : Nat) : Bool := (fol a i j && A.testBit i) && A.testBit j
def mxf (e : Nat → Nat → Bool) (b i j i' j' : Nat) : Nat := if i' < i ∨ (i' = i ∧ j' < j) then dfw e (b + 1) i' j' else dfw e b i' j'
theorem v_bit3 {x y z i j k : Nat} (hx : x < 2 ^ 31) (hy : y < 2 ^ 31) (hz : z < 2 ^ 31) (hi : i < 32) (hj : j < 32) (hk : k < 32) : (((nI x >>> (nI i &&& 31)) &&& (nI y >>> (nI j &&& 31))) &&& (nI z >>> (nI k &&& 31))) &&& 1 = bI ((x.testBit i && y.testBit j) && z.testBit k) := by
  show (((nI x >>> (nI i &&& nI 31)) &&& (nI y >>> (nI j &&& nI 31))) &&& (nI z >>> (nI k &&& nI 31))) &&& nI 1 = _
  rw [v_shr hx hi, v_shr hy hj, v_shr hz hk, fa_and, fa_and, fa_and]
  unfold bI
  congr 1
  have h0 : ∀ n : Nat, n &&& 1 = (n.testBit 0).toNat := fun n => by
    rw [Nat.and_one_is_mod, Nat.testBit_zero]
    rcases (show n % 2 = 0 ∨ n % 2 = 1 by omega) with q | q <;> rw [q] <;> rfl
  rw [h0, Nat.testBit_and, Nat.testBit_and, Nat.testBit_div_two_pow, Nat.testBit_div_two_pow, Nat.testBit_div_two_pow, Nat.zero_add, Nat.zero_add, Nat.zero_add]
section XWy
variable {g : Sk} {t : Tb} {a : Nat → Int32}
variable {D v p : Nat} {t' t'' : Tb}
theorem k_mi_i (X : Fx g) (V : VaS g v) {A i : Nat} (hA : A < 2 ^ 31) (hi : i < vN a) (k8 : Nat → Nat → Int32 → Int32 → Int32 → xH → Option (Unit × xH)) : ∀ (d j fuel : Nat) (t : Tb), CP g t v a D → j + d = vN a → d < fuel → (∀ i' j', (i' < i ∨ (i' = i ∧ j' < j)) → j' < vN a → tA t 160 (i' * 10 + j') = nI (dfw (eg a A) 0 i' j')) → ∃ t', F_X5_measureWays_b17 k8 fuel 157 v (nI A) (nI (vN a)) (nI i) (nI j) (Em g t) = k8 157 v (nI A) (nI (vN a)) (nI (i + 1)) (Em g t') ∧ Ax 160 t t' ∧ (∀ i' j', i' < i + 1 → j' < vN a → tA t' 160 (i' * 10 + j') = nI (dfw (eg a A) 0 i' j')) := by
  intro d
  induction d with
  | zero =>
    intro j fuel t C hj hf T
    have hN := wN3 C.1
    obtain ⟨f, rfl⟩ : ∃ f, fuel = f + 1 := ⟨fuel - 1, by omega⟩
    have hj : j = vN a := by omega
    subst hj
    refine ⟨t, ?_, Ax_r, fun i' j' h1 h2 => T i' j' (by omega) h2⟩
    rw [F_X5_measureWays_b17, if_pos (by rw [nI_leI (by omega) (by omega)]; exact Nat.le_refl _), show nI i + 1 = nI (i + 1) from nI_add i 1]
  | succ d ih =>
    intro j fuel t C hj hf T
    have hN := wN3 C.1
    have hjN : j < vN a := by omega
    obtain ⟨f, rfl⟩ : ∃ f, fuel = f + 1 := ⟨fuel - 1, by omega⟩
    have hix : nI i * 10 + nI j = nI (i * 10 + j) := by rw [show nI i * 10 = nI (i * 10) from nI_mulN i 10, nI_add]
    have hb : (((nI (mk (fun j => fol a i j) (vN a)) >>> (nI j &&& 31)) &&& (nI A >>> (nI i &&& 31))) &&& (nI A >>> (nI j &&& 31))) &&& 1 = bI (eg a A i j) := by
      rw [v_bit3 (mk_31 (by omega)) hA hA (by omega) (by omega) (by omega), mk_bit, decide_eq_true hjN, Bool.true_and]
      rfl
    obtain ⟨t2, e2, a2, k2⟩ := ih (j + 1) f (wa t 160 (i * 10 + j) (nI (dfw (eg a A) 0 i j))) (CP_s X C (Ax_m (sc_f rfl) (Ax_wa Ax_r))) (by omega) (by omega) (fun i' j' h1 h2 => by
      rw [tA_as]
      by_cases e : i' * 10 + j' = i * 10 + j
      · have e1 : i' = i := by omega
        have e2 : j' = j := by omega
        rw [e, e1, e2, upd_s]
      · rw [upd_n e]
        exact T i' j' (by
          by_cases e1 : i' = i
          · subst e1
            have : j' ≠ j := fun h => e (by rw [h])
            omega
          · omega) h2)
    have nxt : ∀ s0 : Int32, s0 = bI (eg a A i j) → F_X5_measureWays_b54 k8 (F_X5_measureWays_b17 k8 f) 157 v (nI A) (nI (vN a)) (nI i) (nI j) s0 (Em g t) = k8 157 v (nI A) (nI (vN a)) (nI (i + 1)) (Em g t2) := fun s0 hs0 => by
      rw [dfw] at e2
      unfold F_X5_measureWays_b54
      rw [x_r157_3 X, Option.bind_some, hix, show nI j + 1 = nI (j + 1) from nI_add j 1]
      by_cases c : i = j
      · rw [if_pos c] at e2
        rw [if_neg (fun h => h (by rw [c])), show (0 : Int32) = nI 0 from rfl, x_s160 X (by omega), Option.bind_some]
        exact e2
      · rw [if_neg c] at e2
        rw [if_pos (show ¬ nI i = nI j by rw [nI_eq (by omega) (by omega)]; exact c), hs0]
        cases q : eg a A i j
        · rw [q, if_neg (by decide)] at e2
          rw [if_pos (show bI false = (0 : Int32) by decide), show (1000 : Int32) = nI 1000 from rfl, x_s160 X (by omega), Option.bind_some]
          exact e2
        · rw [q, if_pos rfl] at e2
          rw [if_neg (show ¬ bI true = (0 : Int32) by decide), show (1 : Int32) = nI 1 from rfl, x_s160 X (by omega), Option.bind_some]
          exact e2
    refine ⟨t2, ?_, Ax_t (Ax_wa Ax_r) a2, k2⟩
    rw [F_X5_measureWays_b17, if_neg (by rw [nI_leI (by omega) (by omega)]; omega), v_r10 V, Option.bind_some, v_a6 V (by omega), Option.bind_some, vFl_ C hi, hb]
    cases q : eg a A i j
    · rw [if_pos (show ¬ bI false = (1 : Int32) by decide)]
      exact nxt 0 (by rw [q]; rfl)
    · rw [if_neg (show ¬ ¬ bI true = (1 : Int32) by decide)]
      exact nxt 1 (by rw [q]; rfl)
theorem k_mi_l (X : Fx g) (V : VaS g v) {A : Nat} (hA : A < 2 ^ 31) : ∀ (d i fuel : Nat) (t : Tb), CP g t v a D → i + d = vN a → d < fuel → (∀ i' j', i' < i → j' < vN a → tA t 160 (i' * 10 + j') = nI (dfw (eg a A) 0 i' j')) → ∃ t', F_X5_measureWays_b8 fuel 157 v (nI A) (nI (vN a)) (nI i) (Em g t) = F_X5_measureWays_b107 FU 157 (nI (vN a)) 0 (Em g t') ∧ Ax 160 t t' ∧ (∀ i' j', i' < vN a → j' < vN a → tA t' 160 (i' * 10 + j') = nI (dfw (eg a A) 0 i' j')) := by
  intro d
  induction d with
  | zero =>
    intro i fuel t C hi hf T
    have hN := wN3 C.1
    obtain ⟨f, rfl⟩ : ∃ f, fuel = f + 1 := ⟨fuel - 1, by omega⟩
    have hi : i = vN a := by omega
    subst hi
    refine ⟨t, ?_, Ax_r, T⟩
    rw [F_X5_measureWays_b8, if_pos (by rw [nI_leI (by omega) (by omega)]; exact Nat.le_refl _)]
  | succ d ih =>
    intro i fuel t C hi hf T
    have hN := wN3 C.1
    obtain ⟨f, rfl⟩ : ∃ f, fuel = f + 1 := ⟨fuel - 1, by omega⟩
    have hfu : vN a < FU := by show vN a < 1000000; omega
    obtain ⟨t1, e1, a1, k1⟩ := k_mi_i (i := i) X V hA (by omega) (F_X5_measureWays_b8 f) (vN a) 0 FU t C (by omega) hfu (fun i' j' h1 h2 => T i' j' (by omega) h2)
    obtain ⟨t2, e2, a2, k2⟩ := ih (i + 1) f t1 (CP_s X C (Ax_m (sc_f rfl) a1)) (by omega) (by omega) k1
    refine ⟨t2, ?_, Ax_t a1 a2, k2⟩
    rw [F_X5_measureWays_b8, if_neg (by rw [nI_leI (by omega) (by omega)]; omega)]
    exact e1.trans e2
theorem k_fw_i (X : Fx g) {N b i : Nat} {e : Nat → Nat → Bool} (hN : N ≤ 10) (hb : b < N) (hi : i < N) (k107 : Nat → Int32 → Int32 → xH → Option (Unit × xH)) (kk : Nat → Int32 → Int32 → Int32 → xH → Option (Unit × xH)) : ∀ (d j fuel : Nat) (t : Tb), j + d = N → d < fuel → (∀ i' j', i' < N → j' < N → tA t 160 (i' * 10 + j') = nI (mxf e b i j i' j')) → ∃ t', F_X5_measureWays_b125 k107 kk fuel 157 (nI N) (nI b) (nI i) (nI j) (Em g t) = kk 157 (nI N) (nI b) (nI (i + 1)) (Em g t') ∧ Ax 160 t t' ∧ (∀ i' j', i' < N → j' < N → tA t' 160 (i' * 10 + j') = nI (mxf e b (i + 1) 0 i' j')) := by
  intro d
  induction d with
  | zero =>
    intro j fuel t hj hf T
    obtain ⟨f, rfl⟩ : ∃ f, fuel = f + 1 := ⟨fuel - 1, by omega⟩
    have hj : j = N := by omega
    subst hj
    refine ⟨t, ?_, Ax_r, fun i' j' h1 h2 => ?_⟩
    · rw [F_X5_measureWays_b125, if_pos (by rw [nI_leI (by omega) (by omega)]; exact Nat.le_refl _), show nI i + 1 = nI (i + 1) from nI_add i 1]
    · rw [T i' j' h1 h2]
      unfold mxf
      by_cases c : i' < i ∨ (i' = i ∧ j' < j)
      · rw [if_pos c, if_pos (by omega)]
      · rw [if_neg c, if_neg (by omega)]
  | succ d ih =>
    intro j fuel t hj hf T
    obtain ⟨f, rfl⟩ : ∃ f, fuel = f + 1 := ⟨fuel - 1, by omega⟩
    have hjN : j < N := by omega
    have hix : ∀ x y : Nat, nI x * 10 + nI y = nI (x * 10 + y) := fun x y => by rw [show nI x * 10 = nI (x * 10) from nI_mulN x 10, nI_add]
    have t1 : tA t 160 (i * 10 + b) = nI (dfw e b i b) := by
      rw [T i b hi hb]
      unfold mxf
      split
      · rw [dfw_c]
      · rfl
    have t2 : tA t 160 (b * 10 + j) = nI (dfw e b b j) := by
      rw [T b j hb hjN]
      unfold mxf
      split
      · rw [dfw_r]
      · rfl
    have t3 : tA t 160 (i * 10 + j) = nI (dfw e b i j) := by
      rw [T i j hi hjN]
      unfold mxf
      rw [if_neg (by omega)]
    have l1 := dfw_le (e := e) b i b
    have l2 := dfw_le (e := e) b b j
    have l3 := dfw_le (e := e) b i j
    have hmin : ∀ h : xH, F_J9_min_7cf53 (nI (dfw e b i j)) (nI (dfw e b i b + dfw e b b j)) h = some (nI (dfw e (b + 1) i j), h) := fun h => by
      unfold F_J9_min_7cf53
      rw [dfw]
      by_cases c : dfw e b i b + dfw e b b j < dfw e b i j
      · rw [if_pos (by rw [nI_ltI (by omega) (by omega)]; exact c), if_pos c]
      · rw [if_neg (by rw [nI_ltI (by omega) (by omega)]; exact c), if_neg c]
    obtain ⟨t5, e5, a5, k5⟩ := ih (j + 1) f (wa t 160 (i * 10 + j) (nI (dfw e (b + 1) i j))) (by omega) (by omega) (fun i' j' h1 h2 => by
      rw [tA_as]
      by_cases q : i' * 10 + j' = i * 10 + j
      · have e1 : i' = i := by omega
        have e2 : j' = j := by omega
        rw [q, e1, e2, upd_s]
        unfold mxf
        rw [if_pos (by omega)]
      · rw [upd_n q, T i' j' h1 h2]
        unfold mxf
        have hne : ¬ (i' = i ∧ j' = j) := fun h => q (by rw [h.1, h.2])
        by_cases c : i' < i ∨ (i' = i ∧ j' < j)
        · rw [if_pos c, if_pos (by omega)]
        · rw [if_neg c, if_neg (by omega)])
    refine ⟨t5, ?_, Ax_t (Ax_wa Ax_r) a5, k5⟩
    rw [F_X5_measureWays_b125, if_neg (by rw [nI_leI (by omega) (by omega)]; omega), x_r157_3 X, Option.bind_some, hix, x_a160 X (by omega), Option.bind_some, t1, Option.bind_some, hix, x_a160 X (by omega), Option.bind_some, t2, Option.bind_some, Option.bind_some, hix, x_a160 X (by omega), Option.bind_some, t3, nI_add, hmin, Option.bind_some, x_s160 X (by omega), Option.bind_some, show nI j + 1 = nI (j + 1) from nI_add j 1]
    exact e5
theorem k_fw_l (X : Fx g) {N b : Nat} {e : Nat → Nat → Bool} (hN : N ≤ 10) (hb : b < N) (kk : Nat → Int32 → Int32 → xH → Option (Unit × xH)) : ∀ (d i fuel : Nat) (t : Tb), i + d = N → d < fuel → (∀ i' j', i' < N → j' < N → tA t 160 (i' * 10 + j') = nI (mxf e b i 0 i' j')) → ∃ t', F_X5_measureWays_b116 kk fuel 157 (nI N) (nI b) (nI i) (Em g t) = kk 157 (nI N) (nI (b + 1)) (Em g t') ∧ Ax 160 t t' ∧ (∀ i' j', i' < N → j' < N → tA t' 160 (i' * 10 + j') = nI (dfw e (b + 1) i' j')) := by
  intro d
  induction d with
  | zero =>
    intro i fuel t hi hf T
    obtain ⟨f, rfl⟩ : ∃ f, fuel = f + 1 := ⟨fuel - 1, by omega⟩
    have hi : i = N := by omega
    subst hi
    refine ⟨t, ?_, Ax_r, fun i' j' h1 h2 => ?_⟩
    · rw [F_X5_measureWays_b116, if_pos (by rw [nI_leI (by omega) (by omega)]; exact Nat.le_refl _), show nI b + 1 = nI (b + 1) from nI_add b 1]
    · rw [T i' j' h1 h2]
      unfold mxf
      rw [if_pos (by omega)]
  | succ d ih =>
    intro i fuel t hi hf T
    obtain ⟨f, rfl⟩ : ∃ f, fuel = f + 1 := ⟨fuel - 1, by omega⟩
    have hfu : N < FU := by show N < 1000000; omega
    obtain ⟨t1, e1, a1, k1⟩ := k_fw_i X hN hb (show i < N by omega) kk (F_X5_measureWays_b116 kk f) N 0 FU t (by omega) hfu T
    obtain ⟨t2, e2, a2, k2⟩ := ih (i + 1) f t1 (by omega) (by omega) k1
    refine ⟨t2, ?_, Ax_t a1 a2, k2⟩
    rw [F_X5_measureWays_b116, if_neg (by rw [nI_leI (by omega) (by omega)]; omega)]
    exact e1.trans e2
theorem k_fw_b (X : Fx g) {N : Nat} {e : Nat → Nat → Bool} (hN : N ≤ 10) : ∀ (d b fuel : Nat) (t : Tb), b + d = N → d < fuel → (∀ i' j', i' < N → j' < N → tA t 160 (i' * 10 + j') = nI (dfw e b i' j')) → ∃ t', F_X5_measureWays_b107 fuel 157 (nI N) (nI b) (Em g t) = some ((), Em g t') ∧ Ax 160 t t' ∧ (∀ i' j', i' < N → j' < N → tA t' 160 (i' * 10 + j') = nI (dfw e N i' j')) := by
  intro d
  induction d with
  | zero =>
    intro b fuel t hb hf T
    obtain ⟨f, rfl⟩ : ∃ f, fuel = f + 1 := ⟨fuel - 1, by omega⟩
    have hb : b = N := by omega
    subst hb
    refine ⟨t, ?_, Ax_r, T⟩
    rw [F_X5_measureWays_b107, if_pos (by rw [nI_leI (by omega) (by omega)]; exact Nat.le_refl _)]
  | succ d ih =>
    intro b fuel t hb hf T
    obtain ⟨f, rfl⟩ : ∃ f, fuel = f + 1 := ⟨fuel - 1, by omega⟩
    have hfu : N < FU := by show N < 1000000; omega
    obtain ⟨t1, e1, a1, k1⟩ := k_fw_l X hN (show b < N by omega) (F_X5_measureWays_b107 f) N 0 FU t (by omega) hfu (fun i' j' h1 h2 => by
      rw [T i' j' h1 h2]
      unfold mxf
      rw [if_neg (by omega)])
    obtain ⟨t2, e2, a2, k2⟩ := ih (b + 1) f t1 (by omega) (by omega) k1
    refine ⟨t2, ?_, Ax_t a1 a2, k2⟩
    rw [F_X5_measureWays_b107, if_neg (by rw [nI_leI (by omega) (by omega)]; omega)]
    exact e1.trans e2
theorem k_ways2 (X : Fx g) (V : VaS g v) (C : CP g t v a D) {A : Nat} (hA : A < 2 ^ 31) : ∃ t', F_X5_measureWays 157 v (nI A) (Em g t) = some ((), Em g t') ∧ Ax 160 t t' ∧ (∀ i' j', i' < vN a → j' < vN a → tA t' 160 (i' * 10 + j') = nI (dfw (eg a A) (vN a) i' j')) := by
  have hN := wN3 C.1
  have hfu : vN a < FU := by show vN a < 1000000; omega
  obtain ⟨t1, e1, a1, k1⟩ := k_mi_l X V hA (vN a) 0 FU t C (by omega) hfu (fun i' j' h1 => absurd h1 (by omega))
  obtain ⟨t2, e2, a2, k2⟩ := k_fw_b X hN (vN a) 0 FU t1 (by omega) hfu k1
  refine ⟨t2, ?_, Ax_t a1 a2, k2⟩
  unfold F_X5_measureWays
  rw [v_i0 V, Option.bind_some, vN_ C]
  exact e1.trans e2
/-! the fewest more -/
def MoS (g : Sk) (q : Nat) : Prop := gR g 157 4 = some q ∧ 205 ≤ q ∧ gS g q = 33 ∧ gN g q = 10240
theorem o_r4 (X : Fx g) {q : Nat} (M : MoS g q) : fR (Em g t) 157 4 4 = some q := y_fR (Or.inl (x_S X 5 rfl)) M.1 (by decide) (by decide) rfl
theorem o_a {q k : Nat} (M : MoS g q) (hk : k < 10240) : aI (Em g t) q (nI k) = some (tA t q k) := y_aI (Or.inr (by rw [M.2.2.1]; decide)) M.2.2.2 (by have := M.2.1; omega) (by decide) hk
theorem o_s {q k : Nat} {z : Int32} (M : MoS g q) (hk : k < 10240) : sI (Em g t) q (nI k) z = some (Em g (wa t q k z)) := y_sI (Or.inr (by rw [M.2.2.1]; decide)) M.2.2.2 (by have := M.2.1; omega) (by decide) hk
theorem wo_I {S n : Nat} (hn : n < 31) (h : xH) : F_X5_without (nI S) (nI n) h = some (nI (an_ S (2 ^ n)), h) := by
  unfold F_X5_without
  rw [show (1 : Int32) <<< (nI n &&& 31) = nI (2 ^ n) from v_pow hn, show (-1 : Int32) = -nI 1 from rfl, an_g]
def Mdd (t : Tb) (q : Nat) (N : Nat) (nx : Nat → Nat → Bool) (A z S0 n0 : Nat) : Prop := ∀ S n, (S < S0 ∨ (S = S0 ∧ n < n0)) → an_ S z = 0 → n < N → A.testBit n = true → S.testBit n = false → tA t q (S * 10 + n) = nI (dd N nx S n)
theorem k_fmr_l (X : Fx g) {q N A z S n : Nat} {nx e : Nat → Nat → Bool} (M : MoS g q) (hN : N ≤ 10) (hz : z < 2 ^ N) (hzA : an_ z A = 0) (hS : an_ S z = 0) (hS0 : S ≠ 0) (hn : n < N) (hF : ∀ i j, i < N → j < N → tA t 160 (i * 10 + j) = nI (dfw e N i j)) {n0 : Nat} (T : Mdd t q N nx A z S n0) : ∀ (d k fuel : Nat), k + d = N → d < fuel → F_X5_fewestMore_b16 fuel 157 (nI N) (nI S) (nI n) (nI (fmn N nx e S n k)) (nI k) (Em g t) = some (nI (fmn N nx e S n N), Em g t) := by
  have h1k : 2 ^ N ≤ 1024 := Nat.pow_le_pow_right (n := 2) (by decide) hN
  have hSl := sub_lt hS hz
  intro d
  induction d with
  | zero =>
    intro k fuel hk hf
    obtain ⟨f, rfl⟩ : ∃ f, fuel = f + 1 := ⟨fuel - 1, by omega⟩
    have hk : k = N := by omega
    subst hk
    rw [F_X5_fewestMore_b16, if_pos (by rw [nI_leI (by omega) (by omega)]; exact Nat.le_refl _)]
  | succ d ih =>
    intro k fuel hk hf
    obtain ⟨f, rfl⟩ : ∃ f, fuel = f + 1 := ⟨fuel - 1, by omega⟩
    have hkN : k < N := by omega
    have hi := ih (k + 1) f (by omega) (by omega)
    rw [fmn] at hi
    have hb : (nI S >>> (nI k &&& 31)) &&& 1 = bI (S.testBit k) := by
      show (nI S >>> (nI k &&& nI 31)) &&& nI 1 = _
      rw [v_shr (by omega) (by omega), v_bit]
    rw [F_X5_fewestMore_b16, if_neg (by rw [nI_leI (by omega) (by omega)]; omega), if_neg (by rw [nI_z (by omega)]; exact hS0), hb, show nI k + 1 = nI (k + 1) from nI_add k 1]
    cases c : S.testBit k
    · rw [c, if_neg (by decide)] at hi
      rw [if_pos (show ¬ bI false = (1 : Int32) by decide)]
      exact hi
    · rw [c, if_pos rfl] at hi
      have hix : ∀ x y : Nat, nI x * 10 + nI y = nI (x * 10 + y) := fun x y => by rw [show nI x * 10 = nI (x * 10) from nI_mulN x 10, nI_add]
      have hlt := an_lt2 c
      have hz2 : an_ (an_ S (2 ^ k)) z = 0 := sub_an.mpr (fun i hi => sub_an.mp hS i (an_b.mp hi).1)
      have hkz : z.testBit k = true := sub_an.mp hS k c
      have hT := T (an_ S (2 ^ k)) k (Or.inl hlt) hz2 hkN (sub_an.mp hzA k hkz) (by
        cases c2 : (an_ S (2 ^ k)).testBit k
        · rfl
        · exact absurd rfl (an_b.mp c2).2)
      have l1 := dfw_le (e := e) N n k
      have l2 := @dd_le N nx (an_ S (2 ^ k)) k
      have l3 := fmn_le (N := N) (nx := nx) (e := e) (S := S) (n := n) k
      have hmin : ∀ h : xH, F_J9_min_7cf53 (nI (fmn N nx e S n k)) (nI (dfw e N n k + dd N nx (an_ S (2 ^ k)) k)) h = some (nI (if dfw e N n k + dd N nx (an_ S (2 ^ k)) k < fmn N nx e S n k then dfw e N n k + dd N nx (an_ S (2 ^ k)) k else fmn N nx e S n k), h) := fun h => by
        unfold F_J9_min_7cf53
        by_cases c : dfw e N n k + dd N nx (an_ S (2 ^ k)) k < fmn N nx e S n k
        · rw [if_pos (by rw [nI_ltI (by omega) (by omega)]; exact c), if_pos c]
        · rw [if_neg (by rw [nI_ltI (by omega) (by omega)]; exact c), if_neg c]
      rw [if_neg (show ¬ ¬ bI true = (1 : Int32) by decide), x_r157_3 X, Option.bind_some, hix, x_a160 X (by omega), Option.bind_some, hF n k hn hkN, o_r4 X M, Option.bind_some, wo_I (by omega), Option.bind_some, hix, o_a M (by omega), Option.bind_some, hT, nI_add, hmin, Option.bind_some]
      exact hi
theorem k_fmr (X : Fx g) {q N A z S n : Nat} {nx e : Nat → Nat → Bool} (M : MoS g q) (hN : N ≤ 10) (h2 : 2 ≤ N) (hz : z < 2 ^ N) (hzA : an_ z A = 0) (he : ∀ l m, A.testBit l = true → e l m = nx l m) (hA : ∀ l m, nx l m = true → A.testBit m = true) (hS : an_ S z = 0) (hn : n < N) (hnA : A.testBit n = true) (hnS : S.testBit n = false) (hF : ∀ i j, i < N → j < N → tA t 160 (i * 10 + j) = nI (dfw e N i j)) {n0 : Nat} (T : Mdd t q N nx A z S n0) : F_X5_fewestMore 157 (nI N) (nI S) (nI n) (Em g t) = some (nI (dd N nx S n), Em g t) := by
  have h1k : 2 ^ N ≤ 1024 := Nat.pow_le_pow_right (n := 2) (by decide) hN
  have hSl := sub_lt hS hz
  have hfu : N < FU := by show N < 1000000; omega
  unfold F_X5_fewestMore F_X5_fewestMore_b11
  by_cases c : S = 0
  · subst c
    rw [if_neg (fun h => h rfl), dd_0]
    show F_X5_fewestMore_b16 (999999 + 1) 157 (nI N) (nI 0) (nI n) 0 (nI 0) (Em g t) = _
    rw [F_X5_fewestMore_b16, if_neg (by rw [nI_leI (by omega) (by omega)]; omega), if_pos (show nI 0 = (0 : Int32) from rfl)]
    rfl
  · have key := k_fmr_l (e := e) (nx := nx) X M hN hz hzA hS c hn hF T N 0 FU (by omega) hfu
    rw [fmn_dd he hA hnA hn hSl hnS, show fmn N nx e S n 0 = 1000 from if_neg c] at key
    rw [if_pos (by rw [nI_z (by omega)]; exact c)]
    exact key
end XWy
