/-! ===== through: the class's table, path; more cells ===== -/
section XMm
variable {g : Sk} {t : Tb} {a : Nat → Int32}
variable {D v p : Nat} {t' t'' : Tb}
theorem Mdd_s {q N A z S n n0 : Nat} {nx : Nat → Nat → Bool} (h : Mdd t q N nx A z S n0) (hn : ∀ m, n0 ≤ m → m < n → ¬ (A.testBit m = true ∧ S.testBit m = false)) : Mdd t q N nx A z S n := fun S' m h1 h2 h3 h4 h5 => by
  by_cases c : S' < S ∨ (S' = S ∧ m < n0)
  · exact h S' m c h2 h3 h4 h5
  · have e : S' = S := by omega
    subst e
    exact absurd ⟨h4, h5⟩ (hn m (by omega) (by omega))
theorem k_mm_i (X : Fx g) {q N A z S : Nat} {nx e : Nat → Nat → Bool} (M : MoS g q) (hN : N ≤ 10) (h2 : 2 ≤ N) (hA31 : A < 2 ^ 31) (hz : z < 2 ^ N) (hzA : an_ z A = 0) (he : ∀ l m, A.testBit l = true → e l m = nx l m) (hA : ∀ l m, nx l m = true → A.testBit m = true) (hS : S ≤ z) (kk : Nat → Int32 → Int32 → Int32 → Int32 → xH → Option (Unit × xH)) : ∀ (d n fuel : Nat) (t : Tb), n + d = N → d < fuel → (∀ i j, i < N → j < N → tA t 160 (i * 10 + j) = nI (dfw e N i j)) → Mdd t q N nx A z S n → ∃ t', F_X5_measureMore_b12 kk fuel 157 (nI N) (nI A) (nI z) (nI S) (nI n) (Em g t) = kk 157 (nI N) (nI A) (nI z) (nI (S + 1)) (Em g t') ∧ Ax q t t' ∧ Mdd t' q N nx A z (S + 1) 0 := by
  have h1k : 2 ^ N ≤ 1024 := Nat.pow_le_pow_right (n := 2) (by decide) hN
  have hq := M.2.1
  intro d
  induction d with
  | zero =>
    intro n fuel t hn hf hF T
    obtain ⟨f, rfl⟩ : ∃ f, fuel = f + 1 := ⟨fuel - 1, by omega⟩
    have hn : n = N := by omega
    subst hn
    refine ⟨t, ?_, Ax_r, fun S' m g1 g2 g3 g4 g5 => T S' m (by omega) g2 g3 g4 g5⟩
    rw [F_X5_measureMore_b12, if_pos (by rw [nI_leI (by omega) (by omega)]; exact Nat.le_refl _), show nI S + 1 = nI (S + 1) from nI_add S 1]
  | succ d ih =>
    intro n fuel t hn hf hF T
    obtain ⟨f, rfl⟩ : ∃ f, fuel = f + 1 := ⟨fuel - 1, by omega⟩
    have hnN : n < N := by omega
    have han := an_leS S z
    have hbA : (nI A >>> (nI n &&& 31)) &&& 1 = bI (A.testBit n) := by
      show (nI A >>> (nI n &&& nI 31)) &&& nI 1 = _
      rw [v_shr (by omega) (by omega), v_bit]
    have hbS : (nI S >>> (nI n &&& 31)) &&& 1 = bI (S.testBit n) := by
      show (nI S >>> (nI n &&& nI 31)) &&& nI 1 = _
      rw [v_shr (by omega) (by omega), v_bit]
    rw [F_X5_measureMore_b12, if_neg (by rw [nI_leI (by omega) (by omega)]; omega), show (-1 : Int32) = -nI 1 from rfl, an_g, hbA, hbS, show nI n + 1 = nI (n + 1) from nI_add n 1]
    by_cases c0 : an_ S z = 0
    · rw [if_neg (show ¬ ¬ nI (an_ S z) = (0 : Int32) by rw [c0]; exact fun h => h rfl)]
      have skip : ¬ (A.testBit n = true ∧ S.testBit n = false) → ∃ t', F_X5_measureMore_b12 kk f 157 (nI N) (nI A) (nI z) (nI S) (nI (n + 1)) (Em g t) = kk 157 (nI N) (nI A) (nI z) (nI (S + 1)) (Em g t') ∧ Ax q t t' ∧ Mdd t' q N nx A z (S + 1) 0 := fun h => ih (n + 1) f t (by omega) (by omega) hF (Mdd_s T (fun m m1 m2 => by
        have : m = n := by omega
        subst this
        exact h))
      cases cA : A.testBit n
      · rw [if_pos (show ¬ bI false = (1 : Int32) by decide)]
        exact skip (fun h => by rw [cA] at h; cases h.1)
      · rw [if_neg (show ¬ ¬ bI true = (1 : Int32) by decide)]
        cases cS : S.testBit n
        · rw [if_neg (show ¬ ¬ bI false = (0 : Int32) by decide), o_r4 X M, Option.bind_some, x_rc157 X, Option.bind_some, k_fmr X M hN h2 hz hzA he hA c0 hnN cA cS hF T, Option.bind_some, show nI S * 10 = nI (S * 10) from nI_mulN S 10, nI_add, o_s M (by omega), Option.bind_some]
          obtain ⟨t2, e2, a2, k2⟩ := ih (n + 1) f (wa t q (S * 10 + n) (nI (dd N nx S n))) (by omega) (by omega) (fun i j hi hj => by rw [tA_an (by omega)]; exact hF i j hi hj) (fun S' m m1 m2 m3 m4 m5 => by
            rw [tA_as]
            by_cases e1 : S' * 10 + m = S * 10 + n
            · have e2 : S' = S := by omega
              have e3 : m = n := by omega
              rw [e1, e2, e3, upd_s]
            · rw [upd_n e1]
              refine T S' m ?_ m2 m3 m4 m5
              by_cases e2 : S' = S
              · subst e2
                have : m ≠ n := fun h => e1 (by rw [h])
                omega
              · omega)
          exact ⟨t2, e2, Ax_t (Ax_wa Ax_r) a2, k2⟩
        · rw [if_pos (show ¬ bI true = (0 : Int32) by decide)]
          exact skip (fun h => by rw [cS] at h; cases h.2)
    · refine ⟨t, ?_, Ax_r, fun S' m g1 g2 g3 g4 g5 => ?_⟩
      · rw [if_pos (by rw [nI_z (by omega)]; exact c0), show nI S + 1 = nI (S + 1) from nI_add S 1]
      · by_cases e1 : S' = S
        · rw [e1] at g2; exact absurd g2 c0
        · exact T S' m (by omega) g2 g3 g4 g5
theorem k_mm_l (X : Fx g) {q N A z : Nat} {nx e : Nat → Nat → Bool} (M : MoS g q) (hN : N ≤ 10) (h2 : 2 ≤ N) (hA31 : A < 2 ^ 31) (hz : z < 2 ^ N) (hzA : an_ z A = 0) (he : ∀ l m, A.testBit l = true → e l m = nx l m) (hA : ∀ l m, nx l m = true → A.testBit m = true) : ∀ (d S fuel : Nat) (t : Tb), S + d = z + 1 → d < fuel → (∀ i j, i < N → j < N → tA t 160 (i * 10 + j) = nI (dfw e N i j)) → Mdd t q N nx A z S 0 → ∃ t', F_X5_measureMore_b3 fuel 157 (nI N) (nI A) (nI z) (nI S) (Em g t) = some ((), Em g t') ∧ Ax q t t' ∧ Mdd t' q N nx A z (z + 1) 0 := by
  have h1k : 2 ^ N ≤ 1024 := Nat.pow_le_pow_right (n := 2) (by decide) hN
  have hq := M.2.1
  intro d
  induction d with
  | zero =>
    intro S fuel t hS hf hF T
    obtain ⟨f, rfl⟩ : ∃ f, fuel = f + 1 := ⟨fuel - 1, by omega⟩
    have hS : S = z + 1 := by omega
    subst hS
    refine ⟨t, ?_, Ax_r, T⟩
    rw [F_X5_measureMore_b3, if_pos (by rw [nI_ltI (by omega) (by omega)]; omega)]
  | succ d ih =>
    intro S fuel t hS hf hF T
    obtain ⟨f, rfl⟩ : ∃ f, fuel = f + 1 := ⟨fuel - 1, by omega⟩
    have hfu : N < FU := by show N < 1000000; omega
    obtain ⟨t1, e1, a1, k1⟩ := k_mm_i X M hN h2 hA31 hz hzA he hA (show S ≤ z by omega) (F_X5_measureMore_b3 f) N 0 FU t (by omega) hfu hF T
    obtain ⟨t2, e2, a2, k2⟩ := ih (S + 1) f t1 (by omega) (by omega) (fun i j hi hj => by rw [a1.2.1 160 (by omega)]; exact hF i j hi hj) k1
    refine ⟨t2, ?_, Ax_t a1 a2, k2⟩
    rw [F_X5_measureMore_b3, if_neg (by rw [nI_ltI (by omega) (by omega)]; omega)]
    exact e1.trans e2
theorem sub_tr {S T z : Nat} (h : an_ S z = 0) (ht : ∀ j, T.testBit j = true → S.testBit j = true) : an_ T z = 0 := sub_an.mpr (fun i hi => sub_an.mp h i (ht i hi))
theorem an_in {S n j : Nat} (h : (an_ S (2 ^ n)).testBit j = true) : S.testBit j = true := (an_b.mp h).1
theorem an_self0 {S n : Nat} : (an_ S (2 ^ n)).testBit n = false := by
  cases c : (an_ S (2 ^ n)).testBit n
  · rfl
  · exact absurd rfl (an_b.mp c).2
theorem sub_le {S z : Nat} (h : an_ S z = 0) : S ≤ z := by
  have e : S = S &&& z := by
    apply Nat.eq_of_testBit_eq
    intro j
    rw [Nat.testBit_and]
    cases c : S.testBit j
    · rfl
    · rw [sub_an.mp h j c]; rfl
  rw [e]
  exact Nat.and_le_right
theorem k_ft_l (X : Fx g) {q N A z S l r O : Nat} {nx : Nat → Nat → Bool} (M : MoS g q) (hN : N ≤ 10) (hz : z < 2 ^ N) (hS : an_ S z = 0) (hO : O < 2 ^ 31) (hOb : ∀ n, n < N → O.testBit n = nx l n) (hA : ∀ l m, nx l m = true → A.testBit m = true) (hr : dd N nx S l = r) (h0 : 0 < r) (h : r < 1000) (T : Mdd t q N nx A z (z + 1) 0) : ∀ (d k fuel : Nat), k + d = tfs N nx S l r → d < fuel → F_X5_firstTowards_b3 fuel 157 (nI O) (nI S) (nI (r - 1)) (nI N) (nI k) (Em g t) = some (nI (tfs N nx S l r), Em g t) := by
  have h1k : 2 ^ N ≤ 1024 := Nat.pow_le_pow_right (n := 2) (by decide) hN
  obtain ⟨f1, f2, f3⟩ := tfs_p hr h0 h
  have hSl := sub_lt hS hz
  have hb : ∀ k, k < N → (nI O >>> (nI k &&& 31)) &&& 1 = bI (nx l k) := fun k hk => by
    show (nI O >>> (nI k &&& nI 31)) &&& nI 1 = _
    rw [v_shr (by omega) (by omega), v_bit, hOb k hk]
  have hm : ∀ k, k < N → nx l k = true → tA t q (an_ S (2 ^ k) * 10 + k) = nI (dd N nx (an_ S (2 ^ k)) k) := fun k hk c => by
    have hs2 := sub_tr hS (T := an_ S (2 ^ k)) (fun j => an_in)
    exact T _ k (Or.inl (by have := sub_le hs2; omega)) hs2 hk (hA _ _ c) an_self0
  have hix : ∀ x y : Nat, nI x * 10 + nI y = nI (x * 10 + y) := fun x y => by rw [show nI x * 10 = nI (x * 10) from nI_mulN x 10, nI_add]
  intro d
  induction d with
  | zero =>
    intro k fuel hk hf
    obtain ⟨f, rfl⟩ : ∃ f, fuel = f + 1 := ⟨fuel - 1, by omega⟩
    have hk : k = tfs N nx S l r := by omega
    rw [← hk] at f1 f2 ⊢
    obtain ⟨q1, q2⟩ := tbl_iff.mp f2
    have hal := an_leS S (2 ^ k)
    rw [F_X5_firstTowards_b3, if_neg (by rw [nI_leI (by omega) (by omega)]; omega), hb k f1, q1, if_neg (show ¬ ¬ bI true = (1 : Int32) by decide), o_r4 X M, Option.bind_some, wo_I (by omega), Option.bind_some, hix, o_a M (by omega), Option.bind_some, hm k f1 q1, if_neg (fun h => h (congrArg nI (by omega)))]
  | succ d ih =>
    intro k fuel hk hf
    obtain ⟨f, rfl⟩ : ∃ f, fuel = f + 1 := ⟨fuel - 1, by omega⟩
    have hkN : k < N := by omega
    have hno := f3 k (by omega)
    have hi := ih (k + 1) f (by omega) (by omega)
    have hal := an_leS S (2 ^ k)
    have hdl := @dd_le N nx (an_ S (2 ^ k)) k
    rw [F_X5_firstTowards_b3, if_neg (by rw [nI_leI (by omega) (by omega)]; omega), hb k hkN, show nI k + 1 = nI (k + 1) from nI_add k 1]
    cases c : nx l k
    · rw [if_pos (show ¬ bI false = (1 : Int32) by decide)]
      exact hi
    · have hne : ¬ dd N nx (an_ S (2 ^ k)) k = r - 1 := fun e => by
        have : tbl N nx S l r k = true := tbl_iff.mpr ⟨c, by omega⟩
        rw [hno] at this
        cases this
      rw [if_neg (show ¬ ¬ bI true = (1 : Int32) by decide), o_r4 X M, Option.bind_some, wo_I (by omega), Option.bind_some, hix, o_a M (by omega), Option.bind_some, hm k hkN c, if_pos (show ¬ nI _ = nI _ by rw [nI_eq (by omega) (by omega)]; exact hne)]
      exact hi
theorem k_ly_l (X : Fx g) (V : VaS g v) {q A z len : Nat} (M : MoS g q) (hA : A < 2 ^ vN a) (hz : z < 2 ^ vN a) (hlen : len ≤ 46) : ∀ (r x fuel : Nat) (t : Tb) (S l O : Nat), CP g t v a D → x + r = len → r < fuel → an_ S z = 0 → O < 2 ^ 31 → (∀ n, n < vN a → O.testBit n = fnx a A l n) → dd (vN a) (fnx a A) S l = r → tI t 157 1 = nI x → Mdd t q (vN a) (fnx a A) A z (z + 1) 0 → ∃ t', F_X5_layOutThrough_b10 fuel 157 v (nI A) (nI O) (nI S) (nI r) (Em g t) = some ((), Em g t') ∧ Sm g t t' ∧ tI t' 157 1 = nI len ∧ (∀ j, j < x → tA t' 158 j = tA t 158 j) ∧ (∀ j, j < r → tA t' 158 (x + j) = nI (tpk (vN a) (fnx a A) j S l r)) := by
  intro r
  induction r with
  | zero =>
    intro x fuel t S l O C hx hf hS hO hOb hr h1 T
    obtain ⟨f, rfl⟩ : ∃ f, fuel = f + 1 := ⟨fuel - 1, by omega⟩
    have : x = len := by omega
    subst this
    refine ⟨t, ?_, Sm_r, h1, fun _ _ => rfl, fun j hj => absurd hj (by omega)⟩
    rw [F_X5_layOutThrough_b10, if_pos (show nI 0 ≤ (0 : Int32) by decide)]
  | succ r ih =>
    intro x fuel t S l O C hx hf hS hO hOb hr h1 T
    have W := C.1
    have hN := wN3 W
    have h1k : 2 ^ vN a ≤ 1024 := Nat.pow_le_pow_right (n := 2) (by decide) hN
    obtain ⟨f, rfl⟩ : ∃ f, fuel = f + 1 := ⟨fuel - 1, by omega⟩
    have hAx : ∀ l m, fnx a A l m = true → A.testBit m = true := fun l m h => by
      unfold fnx at h
      rw [Bool.and_eq_true] at h
      exact h.1
    obtain ⟨f1, f2, f3⟩ := tfs_p hr (by omega) (by omega)
    obtain ⟨q1, q2⟩ := tbl_iff.mp f2
    have hfu : tfs (vN a) (fnx a A) S l (r + 1) < FU := by show tfs (vN a) (fnx a A) S l (r + 1) < 1000000; omega
    have e1 := k_ft_l X M hN hz hS hO hOb hAx hr (by omega) (by omega) T (tfs (vN a) (fnx a A) S l (r + 1)) 0 FU (by omega) hfu
    have e1' : F_X5_firstTowards 157 (nI O) (nI S) (nI r) (nI (vN a)) (Em g t) = some (nI (tfs (vN a) (fnx a A) S l (r + 1)), Em g t) := e1
    generalize hm : tfs (vN a) (fnx a A) S l (r + 1) = m at f1 f2 f3 q1 q2 e1 e1'
    have s1 : Sm g t (wi (wa t 158 x (nI m)) 157 1 (nI (x + 1))) := Sm_wi rfl (Sm_wa (sc_f rfl) Sm_r)
    have C1 := CP_s X C s1
    have hfl : mk (fun j => fol a m j) (vN a) < 2 ^ vN a := mk_lt _ _
    have hqn := M.2.1
    obtain ⟨t2, e2, s2, l2, k2, k3⟩ := ih (x + 1) f (wi (wa t 158 x (nI m)) 157 1 (nI (x + 1))) (an_ S (2 ^ m)) m (A &&& mk (fun j => fol a m j) (vN a)) C1 (by omega) (by omega) (sub_tr hS (fun j => an_in)) (Nat.lt_of_le_of_lt Nat.and_le_left (by omega)) (fun n hn => by
      rw [Nat.testBit_and, mk_bit, decide_eq_true hn, Bool.true_and, r_may_f W f1]) (by omega) tI_is (fun S' n g1 g2 g3 g4 g5 => by
      rw [tA_wi, tA_an (by omega)]
      exact T S' n g1 g2 g3 g4 g5)
    have hm1 : ¬ nI m = (-1 : Int32) := by
      show ¬ nI m = -nI 1
      rw [nI_m1e (by omega)]
      exact id
    refine ⟨t2, ?_, Sm_t s1 s2, l2, fun j hj => by rw [k2 j (by omega), tA_wi, tA_as, upd_n (by omega)], fun j hj => ?_⟩
    · rw [F_X5_layOutThrough_b10, if_neg (show ¬ nI (r + 1) ≤ (0 : Int32) from show ¬ nI (r + 1) ≤ nI 0 by rw [nI_leI (by omega) (by decide)]; omega), v_i0 V, Option.bind_some, vN_ C, x_rc157 X, Option.bind_some, show nI (r + 1) - 1 = nI r from nI_sub (b := 1) (by omega), e1', Option.bind_some, if_pos hm1, x_r157_0 X, Option.bind_some, x_i157_1 X, Option.bind_some, h1, x_s158 X (by omega), Option.bind_some, x_i157_1 X, Option.bind_some, tI_wa, h1, show nI x + 1 = nI (x + 1) from nI_add x 1, x_w157_1 X, Option.bind_some, wo_I (by omega), Option.bind_some, v_r10 V, Option.bind_some, v_a6 V (by omega), Option.bind_some, vFl_ C1 f1, fa_and, nI_mm, show nI (r + 1) - 1 = nI r from nI_sub (b := 1) (by omega)]
      exact e2
    · cases j with
      | zero => rw [Nat.add_zero, k2 x (by omega), tA_wi, tA_as, upd_s, tpk, hm]
      | succ j =>
        rw [show x + (j + 1) = x + 1 + j by omega, k3 j (by omega), tpk, hm, Nat.add_sub_cancel]
noncomputable def totn (N : Nat) (nx : Nat → Nat → Bool) (A z : Nat) : Nat → Nat
  | 0 => 1000
  | k + 1 => if A.testBit k = true then (if 1 + dd N nx (an_ z (2 ^ k)) k < totn N nx A z k then 1 + dd N nx (an_ z (2 ^ k)) k else totn N nx A z k) else totn N nx A z k
theorem tot_le {N A z : Nat} {nx : Nat → Nat → Bool} : ∀ k, totn N nx A z k ≤ 1000
  | 0 => Nat.le_refl _
  | k + 1 => by
    have := tot_le (N := N) (A := A) (z := z) (nx := nx) k
    rw [totn]
    split
    · split <;> omega
    · exact this
theorem tot_b {N A z m : Nat} {nx : Nat → Nat → Bool} (h : A.testBit m = true) : ∀ k, m < k → totn N nx A z k ≤ 1 + dd N nx (an_ z (2 ^ m)) m
  | 0, hk => absurd hk (by omega)
  | k + 1, hk => by
    rw [totn]
    by_cases c : m = k
    · subst c
      rw [if_pos h]
      split <;> omega
    · have := tot_b (N := N) (z := z) (nx := nx) h k (by omega)
      split
      · split <;> omega
      · exact this
theorem tot_a {N A z : Nat} {nx : Nat → Nat → Bool} : ∀ k, totn N nx A z k = 1000 ∨ ∃ m, m < k ∧ A.testBit m = true ∧ totn N nx A z k = 1 + dd N nx (an_ z (2 ^ m)) m
  | 0 => Or.inl rfl
  | k + 1 => by
    rw [totn]
    by_cases c : A.testBit k = true
    · rw [if_pos c]
      split
      · exact Or.inr ⟨k, by omega, c, rfl⟩
      · rcases tot_a (N := N) (A := A) (z := z) (nx := nx) k with q | ⟨m, m1, m2⟩
        · exact Or.inl q
        · exact Or.inr ⟨m, by omega, m2⟩
    · rw [if_neg c]
      rcases tot_a (N := N) (A := A) (z := z) (nx := nx) k with q | ⟨m, m1, m2⟩
      · exact Or.inl q
      · exact Or.inr ⟨m, by omega, m2⟩
theorem tot_dd {N A z l : Nat} {nx : Nat → Nat → Bool} (h0 : z ≠ 0) (hx : ∀ m, nx l m = A.testBit m) : totn N nx A z N = dd N nx z l := by
  have h1 : totn N nx A z N ≤ dd N nx z l := by
    by_cases c : dd N nx z l < 1000
    · obtain ⟨m, m1, m2, m3⟩ := dd_ex h0 c
      rw [hx] at m2
      have := tot_b (N := N) (z := z) (nx := nx) m2 N m1
      omega
    · have := tot_le (N := N) (A := A) (z := z) (nx := nx) N; omega
  have h2 : dd N nx z l ≤ totn N nx A z N := by
    rcases tot_a (N := N) (A := A) (z := z) (nx := nx) N with q | ⟨m, m1, m2, m3⟩
    · rw [q]; exact dd_le
    · have := dd_s (nx := nx) (l := l) (S := z) m1 (by rw [hx]; exact m2)
      omega
  omega
theorem k_tot_l (X : Fx g) (V : VaS g v) (C : CP g t v a D) {q A z : Nat} (M : MoS g q) (hA : A < 2 ^ vN a) (hz : z < 2 ^ vN a) (h0 : z ≠ 0) (h1 : tI t 157 1 = nI 0) (T : Mdd t q (vN a) (fnx a A) A z (z + 1) 0) : ∀ (d k fuel : Nat), k + d = vN a → d < fuel → ∃ t', F_X5_findThrough_b61 fuel 157 v (nI A) (nI z) (nI (totn (vN a) (fnx a A) A z k)) (nI k) (Em g t) = some (bI (decide (dd (vN a) (fnx a A) z 10 < 1000)), Em g t', 0, 0) ∧ Sm g t t' ∧ (dd (vN a) (fnx a A) z 10 < 1000 → tI t' 157 1 = nI (dd (vN a) (fnx a A) z 10) ∧ ∀ j, j < dd (vN a) (fnx a A) z 10 → tA t' 158 j = nI (tpk (vN a) (fnx a A) j z 10 (dd (vN a) (fnx a A) z 10))) := by
  have W := C.1
  have hN := wN3 W
  have h1k : 2 ^ vN a ≤ 1024 := Nat.pow_le_pow_right (n := 2) (by decide) hN
  have hx10 : ∀ m, fnx a A 10 m = A.testBit m := fun m => by
    unfold fnx
    rw [decide_eq_true rfl, Bool.true_or, Bool.and_true]
  intro d
  induction d with
  | zero =>
    intro k fuel hk hf
    obtain ⟨f, rfl⟩ : ∃ f, fuel = f + 1 := ⟨fuel - 1, by omega⟩
    have hk : k = vN a := by omega
    subst hk
    have hle := @dd_le (vN a) (fnx a A) z 10
    have head : F_X5_findThrough_b61 (f + 1) 157 v (nI A) (nI z) (nI (totn (vN a) (fnx a A) A z (vN a))) (nI (vN a)) (Em g t) = if nI (dd (vN a) (fnx a A) z 10) ≤ (82 : Int32) then (F_X5_layOutThrough 157 v (nI A) (nI z) (nI (dd (vN a) (fnx a A) z 10)) (Em g t)).bind fun z132 => some (1, z132.2, 0, 0) else some (0, Em g t, 0, 0) := by
      rw [F_X5_findThrough_b61, v_i0 V, Option.bind_some, vN_ C, if_pos (by rw [nI_leI (by omega) (by omega)]; exact Nat.le_refl _), tot_dd h0 hx10, x_rc157 X, Option.bind_some]
    rw [head]
    by_cases c : dd (vN a) (fnx a A) z 10 < 1000
    · have hb := dd_bd hN c
      have hfu : dd (vN a) (fnx a A) z 10 < FU := by show dd (vN a) (fnx a A) z 10 < 1000000; omega
      obtain ⟨t1, e1, s1, l1, _, k1⟩ := k_ly_l X V M hA hz hb (dd (vN a) (fnx a A) z 10) 0 FU t z 10 A C (by omega) hfu (an_self z) (by omega) (fun n _ => (hx10 n).symm) rfl h1 T
      have e1' : F_X5_layOutThrough 157 v (nI A) (nI z) (nI (dd (vN a) (fnx a A) z 10)) (Em g t) = some ((), Em g t1) := e1
      refine ⟨t1, ?_, s1, fun _ => ⟨l1, fun j hj => ?_⟩⟩
      · rw [if_pos (show nI (dd (vN a) (fnx a A) z 10) ≤ (82 : Int32) from show nI (dd (vN a) (fnx a A) z 10) ≤ nI 82 by rw [nI_leI (by omega) (by decide)]; omega), e1', Option.bind_some, decide_eq_true c]
        rfl
      · have := k1 j hj
        rw [Nat.zero_add] at this
        exact this
    · refine ⟨t, ?_, Sm_r, fun h => absurd h c⟩
      rw [if_neg (show ¬ nI (dd (vN a) (fnx a A) z 10) ≤ (82 : Int32) from show ¬ nI (dd (vN a) (fnx a A) z 10) ≤ nI 82 by rw [nI_leI (by omega) (by decide)]; omega), decide_eq_false c]
      rfl
  | succ d ih =>
    intro k fuel hk hf
    obtain ⟨f, rfl⟩ : ∃ f, fuel = f + 1 := ⟨fuel - 1, by omega⟩
    have hkN : k < vN a := by omega
    have hb : (nI A >>> (nI k &&& 31)) &&& 1 = bI (A.testBit k) := by
      show (nI A >>> (nI k &&& nI 31)) &&& nI 1 = _
      rw [v_shr (by omega) (by omega), v_bit]
    have hi := ih (k + 1) f (by omega) (by omega)
    rw [totn] at hi
    rw [F_X5_findThrough_b61, v_i0 V, Option.bind_some, vN_ C, if_neg (by rw [nI_leI (by omega) (by omega)]; omega), hb, show nI k + 1 = nI (k + 1) from nI_add k 1]
    cases c : A.testBit k
    · rw [c, if_neg (by decide)] at hi
      rw [if_pos (show ¬ bI false = (1 : Int32) by decide)]
      exact hi
    · rw [c, if_pos rfl] at hi
      have hs2 : an_ (an_ z (2 ^ k)) z = 0 := sub_tr (an_self z) (fun j => an_in)
      have hT := T (an_ z (2 ^ k)) k (Or.inl (by have := sub_le hs2; omega)) hs2 hkN c an_self0
      have hal := an_leS z (2 ^ k)
      have hdl := @dd_le (vN a) (fnx a A) (an_ z (2 ^ k)) k
      have htl := tot_le (N := vN a) (A := A) (z := z) (nx := fnx a A) k
      have hmin : ∀ h : xH, F_J9_min_7cf53 (nI (totn (vN a) (fnx a A) A z k)) (nI (1 + dd (vN a) (fnx a A) (an_ z (2 ^ k)) k)) h = some (nI (if 1 + dd (vN a) (fnx a A) (an_ z (2 ^ k)) k < totn (vN a) (fnx a A) A z k then 1 + dd (vN a) (fnx a A) (an_ z (2 ^ k)) k else totn (vN a) (fnx a A) A z k), h) := fun h => by
        unfold F_J9_min_7cf53
        by_cases c : 1 + dd (vN a) (fnx a A) (an_ z (2 ^ k)) k < totn (vN a) (fnx a A) A z k
        · rw [if_pos (by rw [nI_ltI (by omega) (by omega)]; exact c), if_pos c]
        · rw [if_neg (by rw [nI_ltI (by omega) (by omega)]; exact c), if_neg c]
      rw [if_neg (show ¬ ¬ bI true = (1 : Int32) by decide), o_r4 X M, Option.bind_some, wo_I (by omega), Option.bind_some, show nI (an_ z (2 ^ k)) * 10 = nI (an_ z (2 ^ k) * 10) from nI_mulN _ 10, nI_add, o_a M (by omega), Option.bind_some, hT, show (1 : Int32) + nI (dd (vN a) (fnx a A) (an_ z (2 ^ k)) k) = nI (1 + dd (vN a) (fnx a A) (an_ z (2 ^ k)) k) from nI_add 1 _, hmin, Option.bind_some]
      exact hi
theorem k_thru (X : Fx g) (V : VaS g v) (C : CP g t v a D) {q A z : Nat} (M : MoS g q) (hA : A < 2 ^ vN a) (hz : z < 2 ^ vN a) (hzA : an_ z A = 0) (h0 : z ≠ 0) (h1 : tI t 157 1 = nI 0) : ∃ t', F_X5_findThrough_b37 157 v (nI A) (nI z) (Em g t) = some (bI (decide (dd (vN a) (fnx a A) z 10 < 1000)), Em g t', 0, 0) ∧ Sm g t t' ∧ (dd (vN a) (fnx a A) z 10 < 1000 → tI t' 157 1 = nI (dd (vN a) (fnx a A) z 10) ∧ ∀ j, j < dd (vN a) (fnx a A) z 10 → tA t' 158 j = nI (tpk (vN a) (fnx a A) j z 10 (dd (vN a) (fnx a A) z 10))) := by
  have W := C.1
  have hN := wN3 W
  have h1k : 2 ^ vN a ≤ 1024 := Nat.pow_le_pow_right (n := 2) (by decide) hN
  have hAx : ∀ l m, fnx a A l m = true → A.testBit m = true := fun l m h => by
    unfold fnx at h
    rw [Bool.and_eq_true] at h
    exact h.1
  have he : ∀ l m, A.testBit l = true → eg a A l m = fnx a A l m := fun l m hl => by
    have hlN := tb_lt hA hl
    unfold eg
    rw [r_may_f W hlN, hl, Bool.and_true, Bool.and_comm]
  obtain ⟨t1, e1, a1, k1⟩ := k_ways2 X V C (A := A) (by omega)
  have hfu : z + 1 < FU := by show z + 1 < 1000000; omega
  have hfn : vN a < FU := by show vN a < 1000000; omega
  obtain ⟨t2, e2, a2, k2⟩ := k_mm_l (nx := fnx a A) X M hN (wN2 W) (by omega) hz hzA he hAx (z + 1) 0 FU t1 (by omega) hfu k1 (fun S n h => absurd h (by omega))
  have hq := M.2.1
  have s1 : Sm g t t1 := Ax_m (sc_f rfl) a1
  have s2 : Sm g t1 t2 := Ax_m (sc_33 M.2.2.1) a2
  have C1 := CP_s X C s1
  have C2 := CP_s X C1 s2
  obtain ⟨t3, e3, s3, k3⟩ := k_tot_l X V C2 M hA hz h0 (by rw [a2.1, a1.1]; exact h1) k2 (vN a) 0 FU (by omega) hfn
  refine ⟨t3, ?_, Sm_t s1 (Sm_t s2 s3), k3⟩
  unfold F_X5_findThrough_b37
  rw [x_rc157 X, Option.bind_some, e1, Option.bind_some, v_i0 V, Option.bind_some, vN_ C1, x_rc157 X, Option.bind_some]
  have e2' : F_X5_measureMore 157 (nI (vN a)) (nI A) (nI z) (Em g t1) = some ((), Em g t2) := e2
  rw [e2', Option.bind_some]
  exact e3
end XMm
