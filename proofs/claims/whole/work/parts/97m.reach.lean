/-! ===== coming on one's own note: who can be where ===== -/
def fnd (a : Nat → Int32) (p k d : Nat) : Bool := decide (¬ a (121 + p) = -nI 1 ∧ snd a k d = a (121 + p))
def can (a : Nat → Int32) (k j : Nat) : Bool := decide (j = k) || (vWy a k).testBit j
def rs (a : Nat → Int32) : Nat → Nat → Nat → Prop
  | 0, k, j => j = k
  | i + 1, k, j => ∃ m, m < vK a ∧ can a k m = true ∧ rs a i m j
def Rn (a : Nat → Int32) (p n k d : Nat) : Prop := ∃ i, i < n ∧ ∃ j, j < vK a ∧ rs a (i + 1) k j ∧ fnd a p j (d + i) = true
theorem can_r {a : Nat → Int32} (k : Nat) : can a k k = true := by unfold can; simp
theorem rs_b {a : Nat → Int32} : ∀ {i k j : Nat}, k < vK a → j < vK a → (rs a (i + 1) k j ↔ ∃ m, m < vK a ∧ rs a i k m ∧ can a m j = true)
  | 0, k, j, hk, hj => by
    constructor
    · rintro ⟨m, h1, h2, h3⟩
      have h3 : j = m := h3
      subst h3
      exact ⟨k, hk, rfl, h2⟩
    · rintro ⟨m, h1, h2, h3⟩
      have h2 : m = k := h2
      subst h2
      exact ⟨j, hj, h3, rfl⟩
  | i + 1, k, j, hk, hj => by
    constructor
    · rintro ⟨m, h1, h2, h3⟩
      obtain ⟨q, g1, g2, g3⟩ := (rs_b h1 hj).mp h3
      exact ⟨q, g1, ⟨m, h1, h2, g2⟩, g3⟩
    · rintro ⟨q, g1, ⟨m, h1, h2, g2⟩, g3⟩
      exact ⟨m, h1, h2, (rs_b h1 hj).mpr ⟨q, g1, g2, g3⟩⟩
theorem rs_up {a : Nat → Int32} {i k j : Nat} (hk : k < vK a) (h : rs a i k j) : rs a (i + 1) k j := ⟨k, hk, can_r k, h⟩
theorem rs_ups {a : Nat → Int32} {i k j : Nat} (hk : k < vK a) (h : rs a i k j) : ∀ d, rs a (i + d) k j
  | 0 => h
  | d + 1 => rs_up hk (rs_ups hk h d)
/-! sets of places, counted -/
noncomputable def cn (f : Nat → Prop) : Nat → Nat
  | 0 => 0
  | k + 1 => cn f k + @ite Nat (f k) (Classical.propDecidable _) 1 0
theorem cn_le {f : Nat → Prop} : ∀ n, cn f n ≤ n
  | 0 => Nat.le_refl 0
  | n + 1 => by have := cn_le (f := f) n; rw [cn]; split <;> omega
theorem cn_mo {f h : Nat → Prop} : ∀ {n}, (∀ i, i < n → f i → h i) → cn f n ≤ cn h n
  | 0, _ => Nat.le_refl 0
  | n + 1, q => by
    have := cn_mo (f := f) (h := h) (n := n) (fun i hi => q i (by omega))
    rw [cn, cn]
    have := q n (by omega)
    split
    · rename_i c; rw [if_pos (this c)]; omega
    · split <;> omega
theorem cn_lt {f h : Nat → Prop} : ∀ {n}, (∀ i, i < n → f i → h i) → (∃ i, i < n ∧ h i ∧ ¬ f i) → cn f n < cn h n
  | 0, _, ⟨i, hi, _⟩ => absurd hi (by omega)
  | n + 1, q, ⟨i, hi, h1, h2⟩ => by
    rw [cn, cn]
    by_cases e : i = n
    · subst e
      have := cn_mo (f := f) (h := h) (n := i) (fun i hi => q i (by omega))
      rw [if_neg h2, if_pos h1]; omega
    · have := cn_lt (f := f) (h := h) (n := n) (fun i hi => q i (by omega)) ⟨i, by omega, h1, h2⟩
      have := q n (by omega)
      split
      · rename_i c; rw [if_pos (this c)]; omega
      · split <;> omega
theorem rs_st {a : Nat → Int32} {k : Nat} (hk : k < vK a) : ∀ i, (∀ j, j < vK a → rs a (i + 1) k j → rs a i k j) ∨ i + 2 ≤ cn (fun j => rs a (i + 1) k j) (vK a)
  | 0 => by
    by_cases c : ∀ j, j < vK a → rs a 1 k j → rs a 0 k j
    · exact Or.inl c
    · refine Or.inr ?_
      have : ∃ j, j < vK a ∧ rs a 1 k j ∧ ¬ rs a 0 k j := Classical.byContradiction (fun q => c (fun j h1 h2 => Classical.byContradiction (fun h3 => q ⟨j, h1, h2, h3⟩)))
      have h1 := cn_lt (f := fun j => rs a 0 k j) (h := fun j => rs a 1 k j) (n := vK a) (fun i _ h => rs_up hk h) this
      have h2 := cn_lt (f := fun _ => False) (h := fun j => rs a 0 k j) (n := vK a) (fun i _ h => h.elim) ⟨k, hk, rfl, id⟩
      show 2 ≤ cn (fun j => rs a 1 k j) (vK a)
      omega
  | i + 1 => by
    rcases rs_st hk i with q | q
    · refine Or.inl (fun j hj h => ?_)
      obtain ⟨m, h1, h2, h3⟩ := (rs_b hk hj).mp h
      exact (rs_b hk hj).mpr ⟨m, h1, q m h1 h2, h3⟩
    · by_cases c : ∀ j, j < vK a → rs a (i + 2) k j → rs a (i + 1) k j
      · exact Or.inl c
      · refine Or.inr ?_
        have : ∃ j, j < vK a ∧ rs a (i + 2) k j ∧ ¬ rs a (i + 1) k j := Classical.byContradiction (fun q => c (fun j h1 h2 => Classical.byContradiction (fun h3 => q ⟨j, h1, h2, h3⟩)))
        have h1 := cn_lt (f := fun j => rs a (i + 1) k j) (h := fun j => rs a (i + 2) k j) (n := vK a) (fun i _ h => rs_up hk h) this
        show i + 3 ≤ cn (fun j => rs a (i + 2) k j) (vK a)
        omega
theorem rs_5 {a : Nat → Int32} {k : Nat} (hK : vK a ≤ 6) (hk : k < vK a) : ∀ d j, j < vK a → rs a (5 + d) k j → rs a 5 k j
  | 0, _, _, h => h
  | d + 1, j, hj, h => by
    obtain ⟨m, h1, h2, h3⟩ := (rs_b (i := 5 + d) hk hj).mp h
    have q := rs_5 hK hk d m h1 h2
    have hs : ∀ j, j < vK a → rs a (5 + 1) k j → rs a 5 k j := by
      rcases rs_st hk 5 with c | c
      · exact c
      · have := cn_le (f := fun j => rs a (5 + 1) k j) (vK a)
        omega
    exact hs j hj ((rs_b hk hj).mpr ⟨m, h1, q, h3⟩)
theorem rs_5' {a : Nat → Int32} {i k j : Nat} (hK : vK a ≤ 6) (hk : k < vK a) (hj : j < vK a) (h : rs a i k j) {m : Nat} (hm : 5 ≤ m) : rs a m k j := by
  have h5 : rs a 5 k j := by
    by_cases c : i ≤ 5
    · have := rs_ups hk h (5 - i); rwa [show i + (5 - i) = 5 by omega] at this
    · have : rs a (5 + (i - 5)) k j := by rwa [show 5 + (i - 5) = i by omega]
      exact rs_5 hK hk (i - 5) j hj this
  have := rs_ups hk h5 (m - 5)
  rwa [show 5 + (m - 5) = m by omega] at this
/-! the round of twelve days -/
theorem co12 {c d : Nat} (h1 : 1 ≤ c) (h2 : c ≤ 4) : (d % 12) % c = d % c := by
  rcases (show c = 1 ∨ c = 2 ∨ c = 3 ∨ c = 4 by omega) with q | q | q | q <;> subst q <;> omega
theorem co12e {c d e : Nat} (h1 : 1 ≤ c) (h2 : c ≤ 4) (h : d % 12 = e % 12) : d % c = e % c := by
  rw [← co12 (d := d) h1 h2, ← co12 (d := e) h1 h2, h]
section XRe
variable {a : Nat → Int32} {D : Nat}
theorem fnd_12 (W : WA a D) {p k d e : Nat} (hk : k < vK a) (h : d % 12 = e % 12) : fnd a p k d = fnd a p k e := by
  unfold fnd snd sno
  rw [co12e (wCo1 W hk) (wCo2 W hk) h]
theorem Rn_12 (W : WA a D) {p n k d e : Nat} (h : d % 12 = e % 12) : Rn a p n k d ↔ Rn a p n k e := by
  unfold Rn
  constructor
  · rintro ⟨i, h1, j, h2, h3, h4⟩
    exact ⟨i, h1, j, h2, h3, by rw [← h4]; exact fnd_12 W h2 (by omega)⟩
  · rintro ⟨i, h1, j, h2, h3, h4⟩
    exact ⟨i, h1, j, h2, h3, by rw [← h4]; exact fnd_12 W h2 (by omega)⟩
theorem Rn_mo {p n m k d : Nat} (h : n ≤ m) (q : Rn a p n k d) : Rn a p m k d := by
  obtain ⟨i, h1, r⟩ := q
  exact ⟨i, by omega, r⟩
theorem Rn_s {p n k d : Nat} : Rn a p (n + 1) k d ↔ ∃ m, m < vK a ∧ can a k m = true ∧ (fnd a p m d = true ∨ Rn a p n m (d + 1)) := by
  constructor
  · rintro ⟨i, h1, j, h2, ⟨m, h3, h4, h5⟩, h6⟩
    cases i with
    | zero =>
      have h5 : j = m := h5
      subst h5
      exact ⟨j, h2, h4, Or.inl h6⟩
    | succ i => exact ⟨m, h3, h4, Or.inr ⟨i, by omega, j, h2, h5, by rw [show d + 1 + i = d + (i + 1) by omega]; exact h6⟩⟩
  · rintro ⟨m, h3, h4, h5 | ⟨i, h1, j, h2, h5, h6⟩⟩
    · exact ⟨0, by omega, m, h3, ⟨m, h3, h4, rfl⟩, h5⟩
    · exact ⟨i + 1, by omega, j, h2, ⟨m, h3, h4, h5⟩, by rw [show d + (i + 1) = d + 1 + i by omega]; exact h6⟩
theorem Rn_18 (W : WA a D) {p n k d : Nat} (hk : k < vK a) (h : Rn a p n k d) : Rn a p 18 k d := by
  obtain ⟨i, h1, j, h2, h3, h4⟩ := h
  by_cases c : i < 18
  · exact ⟨i, c, j, h2, h3, h4⟩
  · refine ⟨4 + (i + 8) % 12, by omega, j, h2, rs_5' (wK2 W) hk h2 h3 (by omega), ?_⟩
    rw [← h4]
    exact fnd_12 W h2 (by omega)
/-! the soonest -/
noncomputable def sof (a : Nat → Int32) (p k d : Nat) : Nat → Nat → Nat
  | 0, _ => 268435456
  | f + 1, i => @ite Nat (∃ j, j < vK a ∧ rs a (i + 1) k j ∧ fnd a p j (d + i) = true) (Classical.propDecidable _) (i + 1) (sof a p k d f (i + 1))
noncomputable def soo (a : Nat → Int32) (p k d : Nat) : Nat := sof a p k d 18 0
theorem sof_le {p k d : Nat} : ∀ f i, i + f ≤ 18 → sof a p k d f i ≤ 268435456
  | 0, _, _ => Nat.le_refl _
  | f + 1, i, h => by rw [sof]; split; · omega
                      · exact sof_le f (i + 1) (by omega)
theorem sof_a {p k d : Nat} : ∀ f i, i + f ≤ 18 → sof a p k d f i < 268435456 → Rn a p (sof a p k d f i) k d ∧ sof a p k d f i ≤ 18 ∧ 1 ≤ sof a p k d f i
  | 0, _, _, h => absurd h (by rw [sof]; omega)
  | f + 1, i, h, q => by
    rw [sof] at q ⊢
    split
    · rename_i c; exact ⟨⟨i, by omega, c⟩, by omega, by omega⟩
    · rename_i c; rw [if_neg c] at q; exact sof_a f (i + 1) (by omega) q
theorem sof_b {p k d : Nat} : ∀ f i, i + f = 18 → ∀ l, i ≤ l → l < 18 → (∃ j, j < vK a ∧ rs a (l + 1) k j ∧ fnd a p j (d + l) = true) → sof a p k d f i ≤ l + 1
  | 0, i, h, l, h1, h2, _ => by omega
  | f + 1, i, h, l, h1, h2, q => by
    rw [sof]
    split
    · omega
    · rename_i c
      have : i ≠ l := fun e => c (by rw [e]; exact q)
      exact sof_b f (i + 1) (by omega) l (by omega) h2 q
theorem soo_le {p k d : Nat} : soo a p k d ≤ 268435456 := sof_le 18 0 (by omega)
theorem soo_a {p k d : Nat} (h : soo a p k d < 268435456) : Rn a p (soo a p k d) k d := (sof_a 18 0 (by omega) h).1
theorem soo_18 {p k d : Nat} (h : soo a p k d < 268435456) : soo a p k d ≤ 18 := (sof_a 18 0 (by omega) h).2.1
theorem soo_1 {p k d : Nat} : 1 ≤ soo a p k d := by
  by_cases c : soo a p k d < 268435456
  · exact (sof_a 18 0 (by omega) c).2.2
  · omega
theorem soo_b (W : WA a D) {p n k d : Nat} (hk : k < vK a) (h : Rn a p n k d) : soo a p k d ≤ n := by
  by_cases c : n ≤ 18
  · obtain ⟨i, h1, q⟩ := h
    have := sof_b (a := a) (p := p) (k := k) (d := d) 18 0 rfl i (by omega) (by omega) q
    show sof a p k d 18 0 ≤ n
    omega
  · obtain ⟨i, h1, q⟩ := Rn_18 W hk h
    have := sof_b (a := a) (p := p) (k := k) (d := d) 18 0 rfl i (by omega) (by omega) q
    show sof a p k d 18 0 ≤ n
    omega
theorem soo_iff (W : WA a D) {p n k d : Nat} (hk : k < vK a) (hn : n < 268435456) : soo a p k d ≤ n ↔ Rn a p n k d := by
  constructor
  · intro h; exact Rn_mo h (soo_a (by omega))
  · exact soo_b W hk
theorem soo_12 (W : WA a D) {p k d e : Nat} (hk : k < vK a) (h : d % 12 = e % 12) : soo a p k d = soo a p k e := by
  have h1 : soo a p k d ≤ soo a p k e := by
    by_cases c : soo a p k e < 268435456
    · exact soo_b W hk ((Rn_12 W h).mpr (soo_a c))
    · have := @soo_le a p k d; omega
  have h2 : soo a p k e ≤ soo a p k d := by
    by_cases c : soo a p k d < 268435456
    · exact soo_b W hk ((Rn_12 W h).mp (soo_a c))
    · have := @soo_le a p k e; omega
  omega
end XRe
