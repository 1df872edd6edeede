/-! ===== tokens ===== -/
def eqs (T : Nat → Int32) (b e i : Nat) : Bool := decide (e - b = xsl i ∧ ∀ k, k < xsl i → T (b + k) = xsb i k)
def spc (c : Int32) : Bool := decide (c = nI 10 ∨ c = nI 32)
def ltr (c : Int32) : Bool := decide (nI 97 ≤ c ∧ c ≤ nI 122)
def dgt (c : Int32) : Bool := decide (nI 48 ≤ c ∧ c ≤ nI 57)
def run (p : Int32 → Bool) (T : Nat → Int32) : Nat → Nat → Nat
  | 0, b => b
  | d + 1, b => if p (T b) = true then run p T d (b + 1) else b
def nvl (T : Nat → Int32) (b : Nat) : Nat → Nat
  | 0 => 0
  | j + 1 => if j < 3 then nvl T b j * 10 + (tn (T (b + j)) - 48) else nvl T b j
/-- the keywords, by their Strings -/
def ksi (j : Nat) : Nat := ([1, 3, 4, 5, 6, 7, 8, 9, 10, 11, 31, 18, 19, 20, 21, 22, 30, 29, 13] : List Nat).getD j 0
/-- a token's kind, by its String -/
def kcd (i : Nat) : Nat := ([99, 0, 30, 1, 2, 3, 4, 5, 6, 7, 8, 9, 31, 18, 37, 38, 35, 36, 11, 12, 13, 14, 15, 34, 32, 33, 39, 40, 41, 17, 16, 10] : List Nat).getD i 99
def kwz (T : Nat → Int32) (b e : Nat) : Nat → Nat → Nat
  | 0, _ => 22
  | d + 1, j => if eqs T b e (ksi j) = true then j else kwz T b e d (j + 1)
theorem run_le {p : Int32 → Bool} {T : Nat → Int32} : ∀ d b, b ≤ run p T d b ∧ run p T d b ≤ b + d
  | 0, b => by rw [run]; omega
  | d + 1, b => by
    have := run_le (p := p) (T := T) d (b + 1)
    rw [run]
    split <;> omega
theorem run_p {p : Int32 → Bool} {T : Nat → Int32} : ∀ d b k, b ≤ k → k < run p T d b → p (T k) = true
  | 0, b, k, h1, h2 => by rw [run] at h2; omega
  | d + 1, b, k, h1, h2 => by
    rw [run] at h2
    split at h2
    · rename_i c
      by_cases e : k = b
      · rw [e]; exact c
      · exact run_p d (b + 1) k (by omega) h2
    · omega
theorem run_s {p : Int32 → Bool} {T : Nat → Int32} : ∀ d b, run p T d b < b + d → p (T (run p T d b)) = false
  | 0, b, h => by rw [run] at h; omega
  | d + 1, b, h => by
    rw [run] at h ⊢
    split
    · rename_i c
      rw [if_pos c] at h
      exact run_s d (b + 1) (by omega)
    · rename_i c
      exact Bool.eq_false_iff.mpr c
theorem run_pos {p : Int32 → Bool} {T : Nat → Int32} {d b : Nat} (hd : 0 < d) (h : p (T b) = true) : b < run p T d b := by
  obtain ⟨d, rfl⟩ : ∃ e, d = e + 1 := ⟨d - 1, by omega⟩
  rw [run, if_pos h]
  have := run_le (p := p) (T := T) d (b + 1)
  omega
def skp (T : Nat → Int32) (n b : Nat) : Nat := run spc T (n - b) b
/-- the good tokens -/
def tk (T : Nat → Int32) (n e0 b e km kc vl : Nat) : Prop := b = skp T n e0 ∧ ((b = n ∧ e = n ∧ km = 24 ∧ kc = 3 ∧ vl = 0) ∨ (b < n ∧ ltr (T b) = true ∧ e = run ltr T (n - b) b ∧ km = kwz T b e 19 0 ∧ kc = 0 ∧ vl = 0) ∨ (b < n ∧ ltr (T b) = false ∧ dgt (T b) = true ∧ e = run dgt T (n - b) b ∧ e - b ≤ 3 ∧ km = 23 ∧ kc = 1 ∧ vl = nvl T b (e - b)) ∨ (b < n ∧ ltr (T b) = false ∧ dgt (T b) = false ∧ (∃ j, j < 12 ∧ T b = xsb 0 j ∧ km = 30 + j) ∧ e = b + 1 ∧ kc = 2 ∧ vl = 0))
/-- the bad ones -/
def tb (T : Nat → Int32) (n e0 b : Nat) : Prop := b = skp T n e0 ∧ b < n ∧ ltr (T b) = false ∧ ((dgt (T b) = true ∧ 3 < run dgt T (n - b) b - b) ∨ (dgt (T b) = false ∧ ∀ j, j < 12 → T b ≠ xsb 0 j))
theorem skp_le {T : Nat → Int32} {n e0 : Nat} (h : e0 ≤ n) : e0 ≤ skp T n e0 ∧ skp T n e0 ≤ n := by
  have := run_le (p := spc) (T := T) (n - e0) e0
  unfold skp
  omega
theorem tok_c (T : Nat → Int32) {n e0 : Nat} (h : e0 ≤ n) : (∃ b e km kc vl, tk T n e0 b e km kc vl) ∨ ∃ b, tb T n e0 b := by
  have hs := skp_le (T := T) h
  generalize hb : skp T n e0 = b at hs
  by_cases c0 : b = n
  · exact Or.inl ⟨b, n, 24, 3, 0, hb.symm, Or.inl ⟨c0, rfl, rfl, rfl, rfl⟩⟩
  · cases c1 : ltr (T b)
    · cases c2 : dgt (T b)
      · by_cases c3 : ∃ j, j < 12 ∧ T b = xsb 0 j
        · obtain ⟨j, j1, j2⟩ := c3
          exact Or.inl ⟨b, b + 1, 30 + j, 2, 0, hb.symm, Or.inr (Or.inr (Or.inr ⟨by omega, c1, c2, ⟨j, j1, j2, rfl⟩, rfl, rfl, rfl⟩))⟩
        · exact Or.inr ⟨b, hb.symm, by omega, c1, Or.inr ⟨c2, fun j hj e => c3 ⟨j, hj, e⟩⟩⟩
      · by_cases c3 : 3 < run dgt T (n - b) b - b
        · exact Or.inr ⟨b, hb.symm, by omega, c1, Or.inl ⟨c2, c3⟩⟩
        · exact Or.inl ⟨b, run dgt T (n - b) b, 23, 1, nvl T b (run dgt T (n - b) b - b), hb.symm, Or.inr (Or.inr (Or.inl ⟨by omega, c1, c2, rfl, by omega, rfl, rfl, rfl⟩))⟩
    · exact Or.inl ⟨b, run ltr T (n - b) b, _, 0, 0, hb.symm, Or.inr (Or.inl ⟨by omega, c1, rfl, rfl, rfl, rfl⟩)⟩
/-! which String a token is -/
theorem kwz_c {T : Nat → Int32} {b e : Nat} : ∀ d j, (kwz T b e d j = 22 ∧ ∀ i, j ≤ i → i < j + d → eqs T b e (ksi i) = false) ∨ (j ≤ kwz T b e d j ∧ kwz T b e d j < j + d ∧ eqs T b e (ksi (kwz T b e d j)) = true)
  | 0, j => by rw [kwz]; exact Or.inl ⟨rfl, fun i h1 h2 => by omega⟩
  | d + 1, j => by
    rw [kwz]
    by_cases c : eqs T b e (ksi j) = true
    · rw [if_pos c]; exact Or.inr ⟨Nat.le_refl _, by omega, c⟩
    · rw [if_neg c]
      rcases kwz_c (T := T) (b := b) (e := e) d (j + 1) with ⟨h1, h2⟩ | ⟨h1, h2, h3⟩
      · refine Or.inl ⟨h1, fun i g1 g2 => ?_⟩
        by_cases q : i = j
        · rw [q]; exact Bool.eq_false_iff.mpr c
        · exact h2 i (by omega) (by omega)
      · exact Or.inr ⟨by omega, by omega, h3⟩
theorem xs_w : ∀ i, i < 32 → 1 ≤ i → (0 < xsl i ∧ dgt (xsb i 0) = false ∧ ((ltr (xsb i 0) = true ∧ kcd i < 19 ∧ ksi (kcd i) = i) ∨ (ltr (xsb i 0) = false ∧ xsl i = 1 ∧ 30 ≤ kcd i ∧ kcd i < 42 ∧ ∀ j, j < 12 → (xsb i 0 = xsb 0 j ↔ kcd i = 30 + j)))) := by decide +kernel
theorem ks_w : ∀ j, j < 19 → (1 ≤ ksi j ∧ ksi j < 32 ∧ kcd (ksi j) = j) := by decide +kernel
theorem xs_d : ∀ i, i < 32 → ∀ i', i' < 32 → (1 ≤ i ∧ 1 ≤ i' ∧ xsl i = xsl i' ∧ ∀ k, k < xsl i → xsb i k = xsb i' k) → i = i' := by decide +kernel
theorem eqs_i {T : Nat → Int32} {b e i i' : Nat} (h1 : 1 ≤ i ∧ i < 32) (h2 : 1 ≤ i' ∧ i' < 32) (h : eqs T b e i = true) (h' : eqs T b e i' = true) : i = i' := by
  unfold eqs at h h'
  rw [decide_eq_true_eq] at h h'
  exact xs_d i h1.2 i' h2.2 ⟨h1.1, h2.1, by omega, fun k hk => by rw [← h.2 k hk, ← h'.2 k (by omega)]⟩
/-- a good token is the String i just if its kind says so -/
theorem tk_s {T : Nat → Int32} {n e0 b e km kc vl i : Nat} (h0 : e0 ≤ n) (h : tk T n e0 b e km kc vl) (h1 : 1 ≤ i) (h2 : i < 32) : eqs T b e i = decide (km = kcd i) := by
  obtain ⟨hb, h⟩ := h
  obtain ⟨w1, w2, w3⟩ := xs_w i h2 h1
  have fst : eqs T b e i = true → T b = xsb i 0 := fun q => by
    unfold eqs at q
    rw [decide_eq_true_eq] at q
    have := q.2 0 w1
    rw [Nat.add_zero] at this
    exact this
  have no : (¬ eqs T b e i = true) → km ≠ kcd i → eqs T b e i = decide (km = kcd i) := fun c q => by
    rw [decide_eq_false q]
    exact Bool.eq_false_iff.mpr c
  rcases h with ⟨g1, g2, g3, _⟩ | ⟨g1, g2, g3, g4, _⟩ | ⟨g1, g2, g3, g4, g5, g6, _⟩ | ⟨g1, g2, g3, ⟨j, j1, j2, j3⟩, g4, _⟩
  · refine no (fun q => ?_) (by rcases w3 with w | w <;> omega)
    unfold eqs at q
    rw [decide_eq_true_eq] at q
    omega
  · rcases w3 with ⟨v1, v2, v3⟩ | ⟨v1, v2, v3, v4⟩
    · rcases kwz_c (T := T) (b := b) (e := e) 19 0 with ⟨k1, k2⟩ | ⟨k1, k2, k3⟩
      · refine no (fun q => ?_) (by omega)
        have := k2 (kcd i) (by omega) (by omega)
        rw [v3, q] at this
        cases this
      · rw [← g4] at k1 k2 k3
        obtain ⟨u1, u2, u3⟩ := ks_w km (by omega)
        by_cases c : km = kcd i
        · rw [decide_eq_true c]
          rw [c, v3] at k3
          exact k3
        · exact no (fun q => c (by rw [← eqs_i ⟨u1, u2⟩ ⟨h1, h2⟩ k3 q, u3])) c
    · refine no (fun q => ?_) ?_
      · rw [fst q, v1] at g2
        cases g2
      · rcases kwz_c (T := T) (b := b) (e := e) 19 0 with ⟨k1, k2⟩ | ⟨k1, k2, k3⟩ <;> omega
  · refine no (fun q => ?_) (by rcases w3 with w | w <;> omega)
    rw [fst q, w2] at g3
    cases g3
  · rcases w3 with ⟨v1, v2, v3⟩ | ⟨v1, v2, v3, v4, v5⟩
    · refine no (fun q => ?_) (by omega)
      rw [fst q, v1] at g2
      cases g2
    · by_cases c : km = kcd i
      · rw [decide_eq_true c]
        unfold eqs
        rw [decide_eq_true_eq]
        refine ⟨by omega, fun k hk => ?_⟩
        have : k = 0 := by omega
        subst this
        rw [Nat.add_zero, j2]
        exact ((v5 j j1).mpr (by omega)).symm
      · exact no (fun q => c (by
          have := (v5 j j1).mp (by rw [← fst q, j2])
          omega)) c
/-- a bad one is none -/
theorem tb_s {T : Nat → Int32} {n e0 b e i : Nat} (h : tb T n e0 b) (he : b ≤ e) (h1 : 1 ≤ i) (h2 : i < 32) (h3 : e = b ∨ dgt (T b) = true) : eqs T b e i = false := by
  obtain ⟨w1, w2, w3⟩ := xs_w i h2 h1
  refine Bool.eq_false_iff.mpr (fun q => ?_)
  unfold eqs at q
  rw [decide_eq_true_eq] at q
  rcases h3 with h3 | h3
  · omega
  · have := q.2 0 w1
    rw [Nat.add_zero] at this
    rw [this, w2] at h3
    cases h3
theorem tk_b {T : Nat → Int32} {n e0 b e km kc vl : Nat} (h0 : e0 ≤ n) (h : tk T n e0 b e km kc vl) : e0 ≤ b ∧ b ≤ e ∧ e ≤ n ∧ km < 42 ∧ km ≠ 25 ∧ (km = 24 ∨ b < e) ∧ (km = 24 ↔ kc = 3) ∧ (km = 23 ↔ kc = 1) ∧ kc < 4 ∧ (km = 24 → b = n) ∧ ((km < 23) → kwz T b e 19 0 = km) := by
  have hs := skp_le (T := T) h0
  obtain ⟨hb, h⟩ := h
  rcases h with ⟨g1, g2, g3, g4, g5⟩ | ⟨g1, g2, g3, g4, g5, g6⟩ | ⟨g1, g2, g3, g4, g5, g6, g7, g8⟩ | ⟨g1, g2, g3, ⟨j, j1, j2, j3⟩, g4, g5, g6⟩
  · refine ⟨by omega, by omega, by omega, by omega, by omega, by omega, by omega, by omega, by omega, by omega, by omega⟩
  · have r1 := run_le (p := ltr) (T := T) (n - b) b
    have r2 := run_pos (p := ltr) (T := T) (d := n - b) (by omega) g2
    have r3 := kwz_c (T := T) (b := b) (e := e) 19 0
    refine ⟨by omega, by omega, by omega, by omega, by omega, by omega, by omega, by omega, by omega, by omega, fun _ => g4.symm⟩
  · have r1 := run_le (p := dgt) (T := T) (n - b) b
    have r2 := run_pos (p := dgt) (T := T) (d := n - b) (by omega) g3
    refine ⟨by omega, by omega, by omega, by omega, by omega, by omega, by omega, by omega, by omega, by omega, by omega⟩
  · refine ⟨by omega, by omega, by omega, by omega, by omega, by omega, by omega, by omega, by omega, by omega, by omega⟩
theorem nvl_lt {T : Nat → Int32} {b : Nat} : ∀ j, (∀ k, k < j → dgt (T (b + k)) = true) → nvl T b j < 10 ^ (min j 3)
  | 0, _ => by rw [nvl]; decide
  | j + 1, h => by
    have ih := nvl_lt (T := T) (b := b) j (fun k hk => h k (by omega))
    have hd := h j (by omega)
    unfold dgt at hd
    rw [decide_eq_true_eq] at hd
    rw [nvl]
    by_cases c : j < 3
    · rw [if_pos c]
      have h1 : tn (T (b + j)) ≤ 57 := by
        have h2 := hd.2
        rw [fa_le] at h2
        have h3 : (nI 57).toInt = 57 := rfl
        unfold tn
        rw [show (T (b + j)).toNatClampNeg = (T (b + j)).toInt.toNat from rfl]
        omega
      rcases (show j = 0 ∨ j = 1 ∨ j = 2 by omega) with e | e | e <;> subst e <;> simp at ih h1 ⊢ <;> omega
    · rw [if_neg c]
      rw [show min (j + 1) 3 = 3 by omega]
      rw [show min j 3 = 3 by omega] at ih
      exact ih
