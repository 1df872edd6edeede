/-! ===== tunes through told notes: walks ===== -/
noncomputable def lea (P : Nat → Prop) : Nat → Nat → Nat
  | 0, i => i
  | f + 1, i => @ite Nat (P i) (Classical.propDecidable _) i (lea P f (i + 1))
theorem lea_le {P : Nat → Prop} : ∀ f i, lea P f i ≤ i + f
  | 0, i => Nat.le_refl _
  | f + 1, i => by
    rw [lea]
    split
    · omega
    · have := lea_le (P := P) f (i + 1); omega
theorem lea_a {P : Nat → Prop} : ∀ f i, lea P f i < i + f → P (lea P f i)
  | 0, i, h => absurd h (by rw [lea]; omega)
  | f + 1, i, h => by
    rw [lea] at h ⊢
    split
    · rename_i c; exact c
    · rename_i c
      rw [if_neg c] at h
      exact lea_a f (i + 1) (by omega)
theorem lea_b {P : Nat → Prop} : ∀ f i j, P j → i ≤ j → lea P f i ≤ j
  | 0, i, j, _, h => h
  | f + 1, i, j, q, h => by
    rw [lea]
    split
    · exact h
    · rename_i c
      exact lea_b f (i + 1) j q (by
        have : i ≠ j := fun e => c (by rw [e]; exact q)
        omega)
def Wk (N : Nat) (nx : Nat → Nat → Bool) : Nat → Nat → Nat → Prop
  | 0, S, _ => S = 0
  | i + 1, S, l => ∃ m, m < N ∧ nx l m = true ∧ Wk N nx i (an_ S (2 ^ m)) m
noncomputable def dd (N : Nat) (nx : Nat → Nat → Bool) (S l : Nat) : Nat := lea (fun i => Wk N nx i S l) 1000 0
def Pth (N : Nat) (nx : Nat → Nat → Bool) : Nat → Nat → Nat → Prop
  | 0, n, m => m = n
  | i + 1, n, m => ∃ x, x < N ∧ nx n x = true ∧ Pth N nx i x m
def PU (N : Nat) (nx : Nat → Nat → Bool) (U : Nat) : Nat → Nat → Nat → Prop
  | 0, n, m => m = n
  | i + 1, n, m => ∃ x, x < N ∧ U.testBit n = true ∧ nx n x = true ∧ PU N nx U i x m
def bdd : Nat → Nat
  | 0 => 0
  | c + 1 => (9 - c) + bdd c
theorem bd_9 : ∀ c, c ≤ 9 → bdd c ≤ 45 := by decide
theorem an_0 (f : Nat) : an_ 0 f = 0 := by unfold an_; simp
theorem an_b {S m j : Nat} : (an_ S (2 ^ m)).testBit j = true ↔ S.testBit j = true ∧ j ≠ m := by
  rw [an_bit, Bool.and_eq_true, Nat.testBit_two_pow]
  by_cases e : m = j
  · subst e; simp
  · rw [decide_eq_false e]; simp; intro _; exact fun h => e h.symm
theorem an_id {S m : Nat} (h : S.testBit m = false) : an_ S (2 ^ m) = S := by
  apply Nat.eq_of_testBit_eq
  intro j
  rw [an_bit, Nat.testBit_two_pow]
  by_cases e : m = j
  · subst e; rw [h]; rfl
  · rw [decide_eq_false e]; simp
section XWk
variable {N : Nat} {nx : Nat → Nat → Bool}
theorem Wk_mo : ∀ {i S S' l : Nat}, (∀ j, S'.testBit j = true → S.testBit j = true) → Wk N nx i S l → Wk N nx i S' l
  | 0, S, S', l, h, q => by
    have q : S = 0 := q
    subst q
    show S' = 0
    apply Nat.eq_of_testBit_eq
    intro j
    rw [Nat.zero_testBit]
    cases c : S'.testBit j
    · rfl
    · have := h j c
      rw [Nat.zero_testBit] at this
      cases this
  | i + 1, S, S', l, h, ⟨m, m1, m2, m3⟩ => ⟨m, m1, m2, Wk_mo (fun j q => by
      rw [an_b] at q ⊢
      exact ⟨h j q.1, q.2⟩) m3⟩
theorem Wk_cat : ∀ {j i S n to : Nat}, Pth N nx (j + 1) n to → Wk N nx i (an_ S (2 ^ to)) to → Wk N nx (j + 1 + i) S n
  | 0, i, S, n, to, ⟨x, x1, x2, x3⟩, w => by
    have x3 : to = x := x3
    subst x3
    rw [show 0 + 1 + i = i + 1 by omega]
    exact ⟨to, x1, x2, w⟩
  | j + 1, i, S, n, to, ⟨x, x1, x2, x3⟩, w => by
    have := Wk_cat (S := an_ S (2 ^ x)) x3 (Wk_mo (fun q h => by
      rw [an_b] at h ⊢
      rw [an_b] at h
      exact ⟨h.1.1, h.2⟩) w)
    rw [show j + 1 + 1 + i = j + 1 + i + 1 by omega]
    exact ⟨x, x1, x2, this⟩
theorem dd_le {S l : Nat} : dd N nx S l ≤ 1000 := by have := lea_le (P := fun i => Wk N nx i S l) 1000 0; unfold dd; omega
theorem dd_a {S l : Nat} (h : dd N nx S l < 1000) : Wk N nx (dd N nx S l) S l := lea_a (P := fun i => Wk N nx i S l) 1000 0 (by unfold dd at h; omega)
theorem dd_b {S l i : Nat} (h : Wk N nx i S l) : dd N nx S l ≤ i := lea_b (P := fun i => Wk N nx i S l) 1000 0 i h (Nat.zero_le _)
theorem dd_0 {l : Nat} : dd N nx 0 l = 0 := Nat.le_zero.mp (dd_b (i := 0) rfl)
theorem dd_1 {S l : Nat} (h : S ≠ 0) : 1 ≤ dd N nx S l := by
  by_cases c : dd N nx S l < 1000
  · have := dd_a c
    rcases Nat.eq_zero_or_pos (dd N nx S l) with q | q
    · rw [q] at this
      exact absurd this h
    · exact q
  · omega
theorem dd_s {S l m : Nat} (hm : m < N) (h : nx l m = true) : dd N nx S l ≤ dd N nx (an_ S (2 ^ m)) m + 1 := by
  by_cases c : dd N nx (an_ S (2 ^ m)) m < 1000
  · exact dd_b ⟨m, hm, h, dd_a c⟩
  · have := @dd_le N nx S l; omega
theorem dd_ex {S l : Nat} (h : S ≠ 0) (c : dd N nx S l < 1000) : ∃ m, m < N ∧ nx l m = true ∧ dd N nx (an_ S (2 ^ m)) m + 1 = dd N nx S l := by
  have h1 := dd_1 (N := N) (nx := nx) (l := l) h
  have w := dd_a c
  obtain ⟨r, hr⟩ : ∃ r, dd N nx S l = r + 1 := ⟨dd N nx S l - 1, by omega⟩
  rw [hr] at w
  obtain ⟨m, m1, m2, m3⟩ := w
  have := dd_b m3
  have := dd_s (S := S) m1 m2
  exact ⟨m, m1, m2, by omega⟩
/-! a walk that leaves a set -/
theorem Wk_ex {U : Nat} : ∀ {i S n : Nat}, S ≠ 0 → U.testBit n = true → (∀ j, U.testBit j = true → S.testBit j = false) → Wk N nx i S n → ∃ j m i', m < N ∧ U.testBit m = false ∧ PU N nx U j n m ∧ Wk N nx i' (an_ S (2 ^ m)) m
  | 0, S, n, h0, _, _, w => absurd w h0
  | i + 1, S, n, h0, hn, hd, ⟨m, m1, m2, m3⟩ => by
    cases c : U.testBit m
    · exact ⟨1, m, i, m1, c, ⟨m, m1, hn, m2, rfl⟩, m3⟩
    · rw [an_id (hd m c)] at m3
      obtain ⟨j, q, i', q1, q2, q3, q4⟩ := Wk_ex h0 c hd m3
      exact ⟨j + 1, q, i', q1, q2, ⟨m, m1, hn, m2, q3⟩, q4⟩
theorem PU_pt {U : Nat} : ∀ {j n m : Nat}, PU N nx U j n m → Pth N nx j n m
  | 0, _, _, h => h
  | j + 1, _, _, ⟨x, x1, _, x3, x4⟩ => ⟨x, x1, x3, PU_pt x4⟩
theorem PU_cat {U : Nat} : ∀ {i k n x m : Nat}, PU N nx U i n x → PU N nx U k x m → PU N nx U (i + k) n m
  | 0, k, n, x, m, h, q => by
    have h : x = n := h
    subst h
    rw [Nat.zero_add]
    exact q
  | i + 1, k, n, x, m, ⟨y, y1, y2, y3, y4⟩, q => by
    rw [show i + 1 + k = i + k + 1 by omega]
    exact ⟨y, y1, y2, y3, PU_cat y4 q⟩
theorem PU_sp {U : Nat} : ∀ {i k n m : Nat}, PU N nx U (i + k) n m → ∃ x, PU N nx U i n x ∧ PU N nx U k x m
  | 0, k, n, m, h => ⟨n, rfl, by rw [Nat.zero_add] at h; exact h⟩
  | i + 1, k, n, m, h => by
    rw [show i + 1 + k = i + k + 1 by omega] at h
    obtain ⟨y, y1, y2, y3, y4⟩ := h
    obtain ⟨x, x1, x2⟩ := PU_sp y4
    exact ⟨x, ⟨y, y1, y2, y3, x1⟩, x2⟩
theorem least_ex {P : Nat → Prop} : ∀ {j : Nat}, P j → ∃ d, d ≤ j ∧ P d ∧ ∀ i, i < d → ¬ P i := by
  intro j h
  have h1 := lea_le (P := P) (j + 1) 0
  have h2 := lea_b (P := P) (j + 1) 0 j h (Nat.zero_le _)
  refine ⟨lea P (j + 1) 0, h2, lea_a (P := P) (j + 1) 0 (by omega), fun i hi q => ?_⟩
  have := lea_b (P := P) (j + 1) 0 i q (Nat.zero_le _)
  omega
theorem cn_pc {U : Nat} : ∀ n, cn (fun x => U.testBit x = true) n = pc U n
  | 0 => rfl
  | n + 1 => by
    rw [cn, pc, cn_pc n]
    by_cases c : U.testBit n = true
    · rw [if_pos c, if_pos c]
    · rw [if_neg c, if_neg c]
theorem PU_sh {U j n m : Nat} (hU : U < 2 ^ N) (h : PU N nx U j n m) : ∃ d, PU N nx U d n m ∧ d ≤ pc U N := by
  obtain ⟨d, _, d2, d3⟩ := least_ex (P := fun d => PU N nx U d n m) h
  refine ⟨d, d2, ?_⟩
  have key : ∀ i, i ≤ d → i ≤ cn (fun x => U.testBit x = true ∧ ∃ i', i' < i ∧ PU N nx U i' n x) N := by
    intro i
    induction i with
    | zero => intro _; exact Nat.zero_le _
    | succ i ih =>
      intro hi
      have h1 := ih (by omega)
      have d2' : PU N nx U (i + (d - i)) n m := by rw [show i + (d - i) = d by omega]; exact d2
      obtain ⟨x, x1, x2⟩ := PU_sp d2'
      obtain ⟨k, hk⟩ : ∃ k, d - i = k + 1 := ⟨d - i - 1, by omega⟩
      have hx : U.testBit x = true := by
        rw [hk] at x2
        obtain ⟨_, _, q, _⟩ := x2
        exact q
      have h2 := cn_lt (f := fun x => U.testBit x = true ∧ ∃ i', i' < i ∧ PU N nx U i' n x) (h := fun x => U.testBit x = true ∧ ∃ i', i' < i + 1 ∧ PU N nx U i' n x) (n := N) (fun y _ q => ⟨q.1, by
        obtain ⟨i', q1, q2⟩ := q.2
        exact ⟨i', by omega, q2⟩⟩) ⟨x, tb_lt hU hx, ⟨hx, i, by omega, x1⟩, fun q => by
        obtain ⟨_, i', q1, q2⟩ := q
        exact d3 (i' + (d - i)) (by omega) (PU_cat q2 x2)⟩
      omega
  have h3 := key d (Nat.le_refl _)
  have h4 := cn_mo (f := fun x => U.testBit x = true ∧ ∃ i', i' < d ∧ PU N nx U i' n x) (h := fun x => U.testBit x = true) (n := N) (fun _ _ q => q.1)
  rw [cn_pc] at h4
  omega
theorem Wk_bd (hN : N ≤ 10) : ∀ (c U S n i : Nat), U < 2 ^ N → pc U N + c = N → n < N → U.testBit n = true → (∀ j, U.testBit j = true → S.testBit j = false) → Wk N nx i S n → ∃ i', Wk N nx i' S n ∧ i' ≤ bdd c := by
  intro c
  induction c with
  | zero =>
    intro U S n i hU hc hn hu hd w
    by_cases h0 : S = 0
    · exact ⟨0, h0, Nat.zero_le _⟩
    · exfalso
      obtain ⟨j, m, i', m1, m2, m3, m4⟩ := Wk_ex h0 hu hd w
      have h1 := pc_set (U := U) (p := m) m2 N
      have h2 := pc_le (U ||| 2 ^ m) N
      rw [if_pos m1] at h1
      omega
  | succ c ih =>
    intro U S n i hU hc hn hu hd w
    by_cases h0 : S = 0
    · exact ⟨0, h0, Nat.zero_le _⟩
    · obtain ⟨j, m, i', m1, m2, m3, m4⟩ := Wk_ex h0 hu hd w
      have h1 := pc_set (U := U) (p := m) m2 N
      rw [if_pos m1] at h1
      obtain ⟨i2, w2, b2⟩ := ih (U ||| 2 ^ m) (an_ S (2 ^ m)) m i' (Nat.or_lt_two_pow hU (Nat.pow_lt_pow_right (by decide) m1)) (by omega) m1 (by rw [Nat.testBit_or, Nat.testBit_two_pow, decide_eq_true rfl, Bool.or_true]) (fun q hq => by
        rw [Nat.testBit_or, Nat.testBit_two_pow, Bool.or_eq_true, decide_eq_true_eq] at hq
        rw [an_bit, Nat.testBit_two_pow]
        rcases hq with hq | hq
        · rw [hd q hq]; rfl
        · rw [decide_eq_true hq]; simp) m4
      obtain ⟨d, d1, d2⟩ := PU_sh hU m3
      have hd0 : d ≠ 0 := by
        rintro rfl
        have d1 : m = n := d1
        rw [d1, hu] at m2
        cases m2
      obtain ⟨e, rfl⟩ : ∃ e, d = e + 1 := ⟨d - 1, by omega⟩
      refine ⟨e + 1 + i2, Wk_cat (PU_pt d1) w2, ?_⟩
      rw [bdd]
      omega
theorem dd_bd (hN : N ≤ 10) {S l : Nat} (h : dd N nx S l < 1000) : dd N nx S l ≤ 46 := by
  by_cases h0 : S = 0
  · rw [h0, dd_0]; omega
  · obtain ⟨m, m1, m2, m3⟩ := dd_ex h0 h
    have hp : pc (2 ^ m) N = 1 := by
      have := pc_set (U := 0) (p := m) (Nat.zero_testBit m) N
      rw [Nat.zero_or, pc_0, if_pos m1] at this
      exact this
    obtain ⟨i', w, b⟩ := Wk_bd hN (N - 1) (2 ^ m) (an_ S (2 ^ m)) m _ (Nat.pow_lt_pow_right (by decide) m1) (by omega) m1 (by rw [Nat.testBit_two_pow, decide_eq_true rfl]) (fun j hj => by
      rw [Nat.testBit_two_pow, decide_eq_true_eq] at hj
      subst hj
      rw [an_bit, Nat.testBit_two_pow, decide_eq_true rfl]
      simp) (dd_a (N := N) (nx := nx) (S := an_ S (2 ^ m)) (l := m) (by omega))
    have := dd_b w
    have := bd_9 (N - 1) (by omega)
    omega
theorem Wk_A {A : Nat} (hA : ∀ l m, nx l m = true → A.testBit m = true) : ∀ {i S l j : Nat}, Wk N nx i S l → S.testBit j = true → A.testBit j = true
  | 0, S, l, j, w, h => by
    have w : S = 0 := w
    subst w
    rw [Nat.zero_testBit] at h
    cases h
  | i + 1, S, l, j, ⟨m, m1, m2, m3⟩, h => by
    by_cases e : j = m
    · subst e; exact hA _ _ m2
    · exact Wk_A hA m3 (an_b.mpr ⟨h, e⟩)
/-! shortest ways, by what may lie between -/
def dfw (e : Nat → Nat → Bool) : Nat → Nat → Nat → Nat
  | 0, i, j => if i = j then 0 else if e i j = true then 1 else 1000
  | b + 1, i, j => if dfw e b i b + dfw e b b j < dfw e b i j then dfw e b i b + dfw e b b j else dfw e b i j
variable {e : Nat → Nat → Bool}
theorem dfw_d : ∀ (b i : Nat), dfw e b i i = 0
  | 0, i => by rw [dfw, if_pos rfl]
  | b + 1, i => by rw [dfw, dfw_d b i, if_neg (by omega)]
theorem dfw_le : ∀ (b i j : Nat), dfw e b i j ≤ 1000
  | 0, i, j => by rw [dfw]; split; · omega
                  · split <;> omega
  | b + 1, i, j => by have := dfw_le b i j; rw [dfw]; split <;> omega
theorem dfw_mo (b i j : Nat) : dfw e (b + 1) i j ≤ dfw e b i j := by rw [dfw]; split <;> omega
theorem dfw_m0 : ∀ (b i j : Nat), dfw e b i j ≤ dfw e 0 i j
  | 0, _, _ => Nat.le_refl _
  | b + 1, i, j => Nat.le_trans (dfw_mo b i j) (dfw_m0 b i j)
theorem dfw_c (b i : Nat) : dfw e (b + 1) i b = dfw e b i b := by rw [dfw, dfw_d, if_neg (by omega)]
theorem dfw_r (b j : Nat) : dfw e (b + 1) b j = dfw e b b j := by rw [dfw, dfw_d, if_neg (by omega)]
theorem dfw_t : ∀ (b m i j : Nat), m < b → dfw e b i j ≤ dfw e b i m + dfw e b m j
  | 0, m, _, _, h => absurd h (by omega)
  | b + 1, m, i, j, h => by
    by_cases c : m = b
    · subst c
      rw [dfw_c, dfw_r]
      rw [dfw]
      split <;> omega
    · have t1 := dfw_t b m i j (by omega)
      have t2 := dfw_t b m i b (by omega)
      have t3 := dfw_t b m b j (by omega)
      rw [dfw, dfw, dfw]
      split <;> split <;> split <;> omega
theorem dfw_p : ∀ (b i j : Nat), b ≤ N → i < N → j < N → dfw e b i j < 1000 → Pth N e (dfw e b i j) i j
  | 0, i, j, _, hi, hj, h => by
    rw [dfw] at h ⊢
    by_cases c : i = j
    · rw [if_pos c]; exact c.symm
    · rw [if_neg c] at h ⊢
      by_cases c2 : e i j = true
      · rw [if_pos c2]; exact ⟨j, hj, c2, rfl⟩
      · rw [if_neg c2] at h; omega
  | b + 1, i, j, hb, hi, hj, h => by
    rw [dfw] at h ⊢
    by_cases c : dfw e b i b + dfw e b b j < dfw e b i j
    · rw [if_pos c] at h ⊢
      exact Pt_cat (dfw_p b i b (by omega) hi (by omega) (by omega)) (dfw_p b b j (by omega) (by omega) hj (by omega))
    · rw [if_neg c] at h ⊢
      exact dfw_p b i j (by omega) hi hj h
where
  Pt_cat : ∀ {i k n x m : Nat}, Pth N e i n x → Pth N e k x m → Pth N e (i + k) n m
    | 0, k, n, x, m, h, q => by
      have h : x = n := h
      subst h
      rw [Nat.zero_add]
      exact q
    | i + 1, k, n, x, m, ⟨y, y1, y2, y4⟩, q => by
      rw [show i + 1 + k = i + k + 1 by omega]
      exact ⟨y, y1, y2, Pt_cat y4 q⟩
theorem dfw_u : ∀ {l i j : Nat}, Pth N e l i j → dfw e N i j ≤ l
  | 0, i, j, h => by
    have h : j = i := h
    subst h
    rw [dfw_d]
    omega
  | l + 1, i, j, ⟨x, x1, x2, x3⟩ => by
    have h1 := dfw_u x3
    have h2 := dfw_t (e := e) N x i j x1
    have h3 := dfw_m0 (e := e) N i x
    have h4 : dfw e 0 i x ≤ 1 := by
      rw [dfw, if_pos x2]
      split
      · omega
      · omega
    omega
/-! the next told note that one comes on -/
theorem Wk_1 {A : Nat} (he : ∀ l m, A.testBit l = true → e l m = nx l m) (hA : ∀ l m, nx l m = true → A.testBit m = true) : ∀ {i S n : Nat}, S ≠ 0 → A.testBit n = true → Wk N nx i S n → ∃ to j i', to < N ∧ S.testBit to = true ∧ j + i' = i ∧ Pth N e j n to ∧ Wk N nx i' (an_ S (2 ^ to)) to
  | 0, S, n, h0, _, w => absurd w h0
  | i + 1, S, n, h0, hn, ⟨m, m1, m2, m3⟩ => by
    cases c : S.testBit m
    · rw [an_id c] at m3
      obtain ⟨to, j, i', t1, t2, t3, t4, t5⟩ := Wk_1 he hA h0 (hA _ _ m2) m3
      exact ⟨to, j + 1, i', t1, t2, by omega, ⟨m, m1, by rw [he _ _ hn]; exact m2, t4⟩, t5⟩
    · exact ⟨m, 1, i, m1, c, by omega, ⟨m, m1, by rw [he _ _ hn]; exact m2, rfl⟩, m3⟩
theorem Pt_nx {A : Nat} (he : ∀ l m, A.testBit l = true → e l m = nx l m) (hA : ∀ l m, nx l m = true → A.testBit m = true) : ∀ {j n m : Nat}, A.testBit n = true → Pth N e j n m → Pth N nx j n m
  | 0, _, _, _, h => h
  | j + 1, n, m, hn, ⟨x, x1, x2, x3⟩ => by
    rw [he _ _ hn] at x2
    exact ⟨x, x1, x2, Pt_nx he hA (hA _ _ x2) x3⟩
/-- the fewest more, by the next told note among the first ones -/
noncomputable def fmn (N : Nat) (nx e : Nat → Nat → Bool) (S n : Nat) : Nat → Nat
  | 0 => if S = 0 then 0 else 1000
  | k + 1 => if S.testBit k = true then (if dfw e N n k + dd N nx (an_ S (2 ^ k)) k < fmn N nx e S n k then dfw e N n k + dd N nx (an_ S (2 ^ k)) k else fmn N nx e S n k) else fmn N nx e S n k
theorem fmn_le {S n : Nat} : ∀ k, fmn N nx e S n k ≤ 1000
  | 0 => by rw [fmn]; split <;> omega
  | k + 1 => by have := fmn_le (S := S) (n := n) k; rw [fmn]; split; · split <;> omega
                · exact this
theorem fmn_b {S n k : Nat} (h : S.testBit k = true) : ∀ m, k < m → fmn N nx e S n m ≤ dfw e N n k + dd N nx (an_ S (2 ^ k)) k
  | 0, hm => absurd hm (by omega)
  | m + 1, hm => by
    rw [fmn]
    by_cases c : k = m
    · subst c
      rw [if_pos h]
      split <;> omega
    · have := fmn_b (n := n) h m (by omega)
      split
      · split <;> omega
      · exact this
theorem fmn_a {S n : Nat} (h0 : S ≠ 0) : ∀ m, fmn N nx e S n m = 1000 ∨ ∃ k, k < m ∧ S.testBit k = true ∧ fmn N nx e S n m = dfw e N n k + dd N nx (an_ S (2 ^ k)) k
  | 0 => by rw [fmn, if_neg h0]; exact Or.inl rfl
  | m + 1 => by
    rw [fmn]
    by_cases c : S.testBit m = true
    · rw [if_pos c]
      split
      · exact Or.inr ⟨m, by omega, c, rfl⟩
      · rcases fmn_a (n := n) h0 m with q | ⟨k, k1, k2⟩
        · exact Or.inl q
        · exact Or.inr ⟨k, by omega, k2⟩
    · rw [if_neg c]
      rcases fmn_a (n := n) h0 m with q | ⟨k, k1, k2⟩
      · exact Or.inl q
      · exact Or.inr ⟨k, by omega, k2⟩
theorem fmn_dd {A S n : Nat} (he : ∀ l m, A.testBit l = true → e l m = nx l m) (hA : ∀ l m, nx l m = true → A.testBit m = true) (hn : A.testBit n = true) (hnN : n < N) (hS : S < 2 ^ N) (hnS : S.testBit n = false) : fmn N nx e S n N = dd N nx S n := by
  by_cases h0 : S = 0
  · subst h0
    rw [dd_0]
    have : ∀ k, fmn N nx e 0 n k = 0 := fun k => by
      induction k with
      | zero => rw [fmn, if_pos rfl]
      | succ k ih => rw [fmn, Nat.zero_testBit, if_neg (by decide)]; exact ih
    exact this N
  · have h1 : fmn N nx e S n N ≤ dd N nx S n := by
      by_cases c : dd N nx S n < 1000
      · obtain ⟨to, j, i', t1, t2, t3, t4, t5⟩ := Wk_1 he hA h0 hn (dd_a c)
        have q1 := fmn_b (N := N) (nx := nx) (e := e) (n := n) t2 N t1
        have q2 := dfw_u t4
        have q3 := dd_b t5
        omega
      · have := fmn_le (N := N) (nx := nx) (e := e) (S := S) (n := n) N; omega
    have h2 : dd N nx S n ≤ fmn N nx e S n N := by
      rcases fmn_a (N := N) (nx := nx) (e := e) (n := n) h0 N with q | ⟨k, k1, k2, k3⟩
      · rw [q]; exact dd_le
      · rw [k3]
        have l1 := dfw_le (e := e) N n k
        have l2 := @dd_le N nx S n
        by_cases c1 : dfw e N n k < 1000
        · by_cases c2 : dd N nx (an_ S (2 ^ k)) k < 1000
          · have p := Pt_nx he hA hn (dfw_p (N := N) N n k (Nat.le_refl _) hnN k1 c1)
            have hne : dfw e N n k ≠ 0 := fun z => by
              rw [z] at p
              have p : k = n := p
              rw [p, hnS] at k2
              cases k2
            obtain ⟨q, hq⟩ : ∃ q, dfw e N n k = q + 1 := ⟨dfw e N n k - 1, by omega⟩
            rw [hq] at p ⊢
            exact dd_b (Wk_cat p (dd_a c2))
          · omega
        · omega
    omega
/-! the path -/
noncomputable def tbl (N : Nat) (nx : Nat → Nat → Bool) (S l r n : Nat) : Bool := nx l n && decide (dd N nx (an_ S (2 ^ n)) n + 1 = r)
noncomputable def tfs (N : Nat) (nx : Nat → Nat → Bool) (S l r : Nat) : Nat := fa_first (tbl N nx S l r) N
noncomputable def tpk (N : Nat) (nx : Nat → Nat → Bool) : Nat → Nat → Nat → Nat → Nat
  | 0, S, l, r => tfs N nx S l r
  | j + 1, S, l, r => tpk N nx j (an_ S (2 ^ tfs N nx S l r)) (tfs N nx S l r) (r - 1)
theorem tbl_iff {S l r n : Nat} : tbl N nx S l r n = true ↔ nx l n = true ∧ dd N nx (an_ S (2 ^ n)) n + 1 = r := by
  unfold tbl
  rw [Bool.and_eq_true, decide_eq_true_eq]
theorem tfs_p {S l r : Nat} (hr : dd N nx S l = r) (h0 : 0 < r) (h : r < 1000) : tfs N nx S l r < N ∧ tbl N nx S l r (tfs N nx S l r) = true ∧ ∀ j, j < tfs N nx S l r → tbl N nx S l r j = false := by
  have hS : S ≠ 0 := fun e => by rw [e, dd_0] at hr; omega
  obtain ⟨m, m1, m2, m3⟩ := dd_ex (N := N) (nx := nx) (l := l) hS (by omega)
  rw [hr] at m3
  have hno := fa_first_no (tbl N nx S l r) N
  have hle : tfs N nx S l r ≤ m := Nat.le_of_not_lt (fun c => by
    have := hno m c
    rw [tbl_iff.mpr ⟨m2, m3⟩] at this
    cases this)
  have hlt : tfs N nx S l r < N := by omega
  exact ⟨hlt, fa_first_yes (tbl N nx S l r) N hlt, hno⟩
end XWk
