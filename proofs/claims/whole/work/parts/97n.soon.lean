/-! ===== finding: the reference's table of soonest days ===== -/
def FARn : Nat := 268435456
def stq (a : Nat → Int32) (k : Nat) : Nat := vWy a k ||| 2 ^ k
def nix (k to : Nat) : Nat := 6 * ((k / 6 + 1) % 12) + to
def fbn (a : Nat → Int32) (p : Nat) (s : Nat → Nat) (k to : Nat) : Nat := if fnd a p to (k / 6) = true then 1 else if s (nix k to) = 268435456 then 268435456 else s (nix k to) + 1
noncomputable def sok (a : Nat → Int32) (p k : Nat) : Nat := soo a p (k % 6) (k / 6)
theorem nI_z {m : Nat} (h : m < 2 ^ 31) : (nI m = (0 : Int32)) = (m = 0) := propext (nI_eq (b := 0) h (by decide))
theorem nI_mm (x : Int32) : x + (-1) = x - 1 := (Int32.sub_eq_add_neg x 1).symm
theorem stq_bit {a : Nat → Int32} {k j : Nat} : (stq a k).testBit j = can a k j := by
  unfold stq can
  rw [Nat.testBit_or, Nat.testBit_two_pow, Bool.or_comm]
  by_cases h : k = j
  · subst h; simp
  · rw [decide_eq_false h, decide_eq_false (fun e => h e.symm)]
/-- the table lies at 201 -/
def Tso (t : Tb) (s : Nat → Nat) : Prop := ∀ k, k < 72 → tA t 201 k = nI (s k) ∧ s k ≤ 268435456
def lob (a : Nat → Int32) (p : Nat) (s : Nat → Nat) : Prop := ∀ k, k < 72 → k % 6 < vK a → sok a p k ≤ s k
def xab (a : Nat → Int32) (p : Nat) (s : Nat → Nat) (i n : Nat) : Prop := ∀ k, k < n → k % 6 < vK a → sok a p k ≤ i → s k = sok a p k
def fxb (a : Nat → Int32) (p : Nat) (s : Nat → Nat) (n : Nat) : Prop := ∀ k, k < n → k % 6 < vK a → ∀ to, to < vK a → can a (k % 6) to = true → s k ≤ fbn a p s k to
section XSo
variable {a : Nat → Int32} {D p : Nat} {s : Nat → Nat}
theorem nix_d {k to : Nat} (h : to < 6) : nix k to < 72 ∧ nix k to % 6 = to ∧ nix k to / 6 = (k / 6 + 1) % 12 := by unfold nix; omega
theorem nix_n {k to : Nat} (h : to < 6) (hk : k < 72) : nix k to ≠ k := by unfold nix; omega
theorem sok_n (W : WA a D) {k to : Nat} (h : to < vK a) : sok a p (nix k to) = soo a p to (k / 6 + 1) := by
  have hK := wK2 W
  obtain ⟨_, h2, h3⟩ := nix_d (k := k) (to := to) (by omega)
  unfold sok
  rw [h2, h3]
  exact soo_12 W h (by omega)
theorem fbn_ge (W : WA a D) (A : lob a p s) (hs : ∀ k, k < 72 → s k ≤ 268435456) {k to : Nat} (hk : k < 72) (hk6 : k % 6 < vK a) (hto : to < vK a) (hc : can a (k % 6) to = true) : sok a p k ≤ fbn a p s k to := by
  have hK := wK2 W
  obtain ⟨h1, h2, _⟩ := nix_d (k := k) (to := to) (by omega)
  unfold fbn
  split
  · rename_i c
    exact soo_b W hk6 (Rn_s.mpr ⟨to, hto, hc, Or.inl c⟩)
  · split
    · exact soo_le
    · rename_i c
      have q1 := A (nix k to) h1 (by omega)
      rw [sok_n W hto] at q1
      have q2 := hs (nix k to) h1
      exact soo_b W hk6 (Rn_s.mpr ⟨to, hto, hc, Or.inr ((soo_iff W hto (by omega)).mp q1)⟩)
theorem fbn_ex (W : WA a D) {i : Nat} (B : xab a p s i 72) (hi : i < 1000) {k : Nat} (hk6 : k % 6 < vK a) (h : sok a p k ≤ i + 1) : ∃ to, to < vK a ∧ can a (k % 6) to = true ∧ fbn a p s k to ≤ sok a p k := by
  have hK := wK2 W
  have h1 : 1 ≤ sok a p k := soo_1
  have hr : Rn a p (sok a p k) (k % 6) (k / 6) := soo_a (by show sok a p k < _; omega)
  obtain ⟨n, hn⟩ : ∃ n, sok a p k = n + 1 := ⟨sok a p k - 1, by omega⟩
  rw [hn] at hr ⊢
  obtain ⟨m, m1, m2, m3⟩ := Rn_s.mp hr
  refine ⟨m, m1, m2, ?_⟩
  unfold fbn
  rcases m3 with c | c
  · rw [if_pos c]; omega
  · split
    · omega
    · obtain ⟨g1, g2, _⟩ := nix_d (k := k) (to := m) (by omega)
      have q := soo_b W m1 c
      have e := B (nix k m) g1 (by omega) (by rw [sok_n W m1]; omega)
      rw [sok_n W m1] at e
      rw [e, if_neg (by omega)]
      omega
theorem xab_s (W : WA a D) (A : lob a p s) {i : Nat} (hi : i < 1000) (B : xab a p s i 72) {k : Nat} (hk : k < 72) (hk6 : k % 6 < vK a) (F : ∀ to, to < vK a → can a (k % 6) to = true → s k ≤ fbn a p s k to) (h : sok a p k ≤ i + 1) : s k = sok a p k := by
  obtain ⟨to, h1, h2, h3⟩ := fbn_ex W B hi hk6 h
  have := F to h1 h2
  have := A k hk hk6
  omega
theorem xab_0 : xab a p s 0 72 := fun k _ _ h => by
  have : 1 ≤ sok a p k := soo_1
  omega
theorem fxb_a (W : WA a D) (A : lob a p s) (F : fxb a p s 72) : ∀ i, i < 1000 → xab a p s i 72
  | 0, _ => xab_0
  | i + 1, h => fun k hk hk6 q => xab_s W A (by omega) (fxb_a W A F i (by omega)) hk hk6 (F k hk hk6) q
theorem xab_all (A : lob a p s) (hs : ∀ k, k < 72 → s k ≤ 268435456) {i : Nat} (hi : 18 ≤ i) (B : xab a p s i 72) : ∀ k, k < 72 → k % 6 < vK a → s k = sok a p k := by
  intro k hk hk6
  by_cases c : sok a p k < 268435456
  · have : sok a p k ≤ 18 := soo_18 c
    exact B k hk hk6 (by omega)
  · have := A k hk hk6
    have := hs k hk
    omega
theorem fbn_u {k to x : Nat} (h : to < 6) (hk : k < 72) : fbn a p (fun j => if j = k then x else s j) k to = fbn a p s k to := by
  have := nix_n (k := k) (to := to) h hk
  have e : (fun j => if j = k then x else s j) (nix k to) = s (nix k to) := if_neg this
  unfold fbn
  rw [e]
end XSo
section XSr
variable {g : Sk} {t : Tb} {a : Nat → Int32}
variable {D p : Nat} {t' t'' : Tb}
theorem r_isFoundAt (X : Fx g) (W : WA a D) (ha : tA t 184 = a) (hp : p < vP a) {k d : Nat} (hk : k < vK a) (hd : d < 2 ^ 31) : F_X12_isFoundAt 183 (nI p) (nI k) (nI d) (Em g t) = some (bI (fnd a p k d), Em g t) := by
  have hP := wP2 W
  unfold F_X12_isFoundAt fnd
  rw [x_r183_1 X, Option.bind_some, show (121 : Int32) + nI p = nI (121 + p) from nI_add 121 p, x_a184 X (by omega), Option.bind_some, ha]
  by_cases c : a (121 + p) = -nI 1
  · rw [if_pos (show a (121 + p) = (-1 : Int32) from c), decide_eq_false (fun h => h.1 c)]
    rfl
  · rw [if_neg (show ¬ a (121 + p) = (-1 : Int32) from c), x_rc183 X, Option.bind_some, q_soundOf X W ha hk hd, Option.bind_some, x_r183_1 X, Option.bind_some, x_a184 X (by omega), Option.bind_some, ha]
    by_cases c2 : snd a k d = a (121 + p)
    · rw [if_neg (fun h => h c2), decide_eq_true ⟨c, c2⟩]
      rfl
    · rw [if_pos c2, decide_eq_false (fun h => c2 h.2)]
      rfl
theorem r_stepped (X : Fx g) (W : WA a D) (ha : tA t 184 = a) {k : Nat} (hk : k < vK a) : F_X12_steppedTo 183 (nI k) (Em g t) = some (nI (stq a k), Em g t) := by
  have hK := wK2 W
  unfold F_X12_steppedTo
  rw [x_r183_1 X, Option.bind_some, show (77 : Int32) + nI k = nI (77 + k) from nI_add 77 k, x_a184 X (by omega), Option.bind_some, ha, wWy W hk, show (1 : Int32) <<< (nI k &&& 31) = nI (2 ^ k) from v_pow (by omega), fa_or]
  rfl
theorem stq_lt (W : WA a D) {k : Nat} (hk : k < vK a) : stq a k < 2 ^ vK a := Nat.or_lt_two_pow (wWy2 W hk) (Nat.pow_lt_pow_right (by decide) hk)
theorem r_foundBy (X : Fx g) (W : WA a D) (ha : tA t 184 = a) (hp : p < vP a) {s : Nat → Nat} {k to : Nat} (hs : tA t 201 (nix k to) = nI (s (nix k to)) ∧ s (nix k to) ≤ 268435456) (hk : k < 72) (hto : to < vK a) : F_X12_foundBy 183 (nI p) (nI to) (nI (k / 6)) (Em g t) = some (nI (fbn a p s k to), Em g t) := by
  have hK := wK2 W
  obtain ⟨h1, _, _⟩ := nix_d (k := k) (to := to) (by omega)
  unfold F_X12_foundBy fbn
  rw [x_rc183 X, Option.bind_some, r_isFoundAt X W ha hp hto (by omega), Option.bind_some]
  cases c : fnd a p to (k / 6)
  · have e : (6 : Int32) * irm (nI (k / 6) + 1) 12 + nI to = nI (nix k to) := by
      rw [show nI (k / 6) + 1 = nI (k / 6 + 1) from nI_add _ 1, show irm (nI (k / 6 + 1)) 12 = nI ((k / 6 + 1) % 12) from irm_n (b := 12) (by omega) (by decide) (by decide), show (6 : Int32) * nI ((k / 6 + 1) % 12) = nI (6 * ((k / 6 + 1) % 12)) from nI_mulN 6 _, nI_add]
      rfl
    rw [if_pos (show bI false = (0 : Int32) by decide), if_neg (by decide), x_r183_33 X, Option.bind_some, e, x_a201 X h1, Option.bind_some, hs.1]
    by_cases c2 : s (nix k to) = 268435456
    · rw [if_neg (fun h => h (by rw [c2]; rfl)), if_pos c2]
      rfl
    · rw [if_pos (show ¬ nI (s (nix k to)) = (268435456 : Int32) from show ¬ nI (s (nix k to)) = nI 268435456 by rw [nI_eq (by omega) (by decide)]; exact c2), if_neg c2, show nI (s (nix k to)) + 1 = nI (s (nix k to) + 1) from nI_add _ 1]
  · rw [if_neg (show ¬ bI true = (0 : Int32) by decide), if_pos rfl]
    rfl
theorem Tso_u {s : Nat → Nat} (T : Tso t s) {k x : Nat} (hx : x ≤ 268435456) : Tso (wa t 201 k (nI x)) (fun j => if j = k then x else s j) := by
  intro j hj
  rw [tA_as]
  by_cases e : j = k
  · subst e
    rw [upd_s]
    dsimp only
    rw [if_pos rfl]
    exact ⟨rfl, hx⟩
  · rw [upd_n e]
    dsimp only
    rw [if_neg e]
    exact T j hj
theorem fbn_le {s : Nat → Nat} (hs : ∀ k, k < 72 → s k ≤ 268435456) {k to : Nat} (hto : to < 6) : fbn a p s k to ≤ 268435456 := by
  have := hs (nix k to) (nix_d hto).1
  unfold fbn
  split
  · omega
  · split <;> omega
theorem r_so_i (X : Fx g) (W : WA a D) (hp : p < vP a) {k : Nat} (hk : k < 72) (hk6 : k % 6 < vK a) (k25 : Nat → Int32 → Int32 → xH → Option (Unit × xH)) (kk : Nat → Int32 → Int32 → Int32 → xH → Option (Unit × xH)) : ∀ (d to fuel : Nat) (t : Tb) (s : Nat → Nat) (y : Int32), to + d = vK a → d < fuel → tA t 184 = a → Tso t s → lob a p s → (∀ j, j < to → can a (k % 6) j = true → s k ≤ fbn a p s k j) → ∃ t' s' y', F_X12_laysSoon_b42 k25 kk fuel 183 (nI p) y (nI k) (nI to) (Em g t) = kk 183 (nI p) y' (nI (k + 1)) (Em g t') ∧ Ax 201 t t' ∧ Tso t' s' ∧ lob a p s' ∧ (∀ j, j < vK a → can a (k % 6) j = true → s' k ≤ fbn a p s' k j) ∧ (∀ j, s' j ≤ s j) ∧ ((s' = s ∧ y' = y) ∨ (y' = nI 1 ∧ s' k < s k)) := by
  have hK := wK2 W
  have e6 : irm (nI k) 6 = nI (k % 6) := irm_n (b := 6) (by omega) (by decide) (by decide)
  have d6 : idv (nI k) 6 = nI (k / 6) := r_idv (d := 6) (by omega) (by decide) (by decide)
  have h3 : ∀ t, tA t 184 = a → aI (Em g t) 184 3 = some (nI (vK a)) := fun t ha => by
    have : aI (Em g t) 184 3 = some (tA t 184 3) := x_a184 X (k := 3) (by decide)
    rw [this, ha, wK W]
  intro d
  induction d with
  | zero =>
    intro to fuel t s y hto hf ha T A F
    obtain ⟨f, rfl⟩ : ∃ f, fuel = f + 1 := ⟨fuel - 1, by omega⟩
    have hto : to = vK a := by omega
    subst hto
    refine ⟨t, s, y, ?_, Ax_r, T, A, F, fun _ => Nat.le_refl _, Or.inl ⟨rfl, rfl⟩⟩
    rw [F_X12_laysSoon_b42, x_r183_1 X, Option.bind_some, h3 t ha, Option.bind_some, if_pos (by rw [nI_leI (by omega) (by omega)]; exact Nat.le_refl _), show nI k + 1 = nI (k + 1) from nI_add k 1]
  | succ d ih =>
    intro to fuel t s y hto hf ha T A F
    obtain ⟨f, rfl⟩ : ∃ f, fuel = f + 1 := ⟨fuel - 1, by omega⟩
    have htK : to < vK a := by omega
    have hn1 : nI to + 1 = nI (to + 1) := nI_add to 1
    have hst := stq_lt W hk6
    have h64 : 2 ^ vK a ≤ 64 := Nat.pow_le_pow_right (n := 2) (by decide) hK
    have hs : ∀ k, k < 72 → s k ≤ 268435456 := fun j hj => (T j hj).2
    have head : F_X12_laysSoon_b42 k25 kk (f + 1) 183 (nI p) y (nI k) (nI to) (Em g t) = if bI (can a (k % 6) to) = 0 then F_X12_laysSoon_b42 k25 kk f 183 (nI p) y (nI k) (nI (to + 1)) (Em g t) else if nI (fbn a p s k to) < nI (s k) then F_X12_laysSoon_b42 k25 kk f 183 (nI p) 1 (nI k) (nI (to + 1)) (Em g (wa t 201 k (nI (fbn a p s k to)))) else F_X12_laysSoon_b42 k25 kk f 183 (nI p) y (nI k) (nI (to + 1)) (Em g t) := by
      rw [F_X12_laysSoon_b42, x_r183_1 X, Option.bind_some, h3 t ha, Option.bind_some, if_neg (by rw [nI_leI (by omega) (by omega)]; omega), Option.bind_some, h3 t ha, Option.bind_some, e6, if_neg (by rw [nI_leI (by omega) (by omega)]; omega), x_rc183 X, Option.bind_some, r_stepped X W ha hk6, Option.bind_some, q_isIn (by omega) (by omega), Option.bind_some, stq_bit, hn1, x_rc183 X, Option.bind_some, d6, r_foundBy X W ha hp (T _ (nix_d (by omega)).1) hk htK, Option.bind_some, x_r183_33 X, Option.bind_some, x_a201 X hk, Option.bind_some, (T k hk).1, Option.bind_some, x_rc183 X, Option.bind_some, r_foundBy X W ha hp (T _ (nix_d (by omega)).1) hk htK, Option.bind_some, x_s201 X hk, Option.bind_some]
    cases c : can a (k % 6) to
    · rw [c, if_pos (show bI false = (0 : Int32) by decide)] at head
      rw [head]
      exact ih (to + 1) f t s y (by omega) (by omega) ha T A (fun j hj hc => by
        by_cases e : j = to
        · rw [e, c] at hc; cases hc
        · exact F j (by omega) hc)
    · rw [c, if_neg (show ¬ bI true = (0 : Int32) by decide)] at head
      rw [head]
      have hfl := fbn_le (a := a) (p := p) hs (k := k) (to := to) (by omega)
      have hsk := hs k hk
      by_cases c2 : fbn a p s k to < s k
      · rw [if_pos (by rw [nI_ltI (by omega) (by omega)]; exact c2)]
        have hge := fbn_ge W A hs hk hk6 htK c
        obtain ⟨t2, s2, y2, e2, a2, T2, A2, F2, m2, o2⟩ := ih (to + 1) f (wa t 201 k (nI (fbn a p s k to))) (fun j => if j = k then fbn a p s k to else s j) 1 (by omega) (by omega) (by rw [tA_an (by decide)]; exact ha) (Tso_u T hfl) (fun j hj hj6 => by
          by_cases e : j = k
          · subst e; dsimp only; rw [if_pos rfl]; exact hge
          · dsimp only; rw [if_neg e]; exact A j hj hj6) (fun j hj hc => by
          rw [fbn_u (by omega) hk, if_pos rfl]
          by_cases e : j = to
          · rw [e]; exact Nat.le_refl _
          · have := F j (by omega) hc; omega)
        have mk0 := m2 k
        rw [if_pos rfl] at mk0
        refine ⟨t2, s2, y2, e2, Ax_t (Ax_wa Ax_r) a2, T2, A2, F2, fun j => ?_, Or.inr ⟨?_, by omega⟩⟩
        · have := m2 j
          by_cases e : j = k
          · subst e; rw [if_pos rfl] at this; omega
          · rw [if_neg e] at this; exact this
        · rcases o2 with ⟨_, q⟩ | ⟨q, _⟩
          · rw [q]; rfl
          · exact q
      · rw [if_neg (by rw [nI_ltI (by omega) (by omega)]; exact c2)]
        exact ih (to + 1) f t s y (by omega) (by omega) ha T A (fun j hj hc => by
          by_cases e : j = to
          · rw [e]; omega
          · exact F j (by omega) hc)
theorem r_so_l (X : Fx g) (W : WA a D) (hp : p < vP a) {i : Nat} (hi : i < 900) (kk : Nat → Int32 → Int32 → xH → Option (Unit × xH)) : ∀ (d k fuel : Nat) (t : Tb) (s : Nat → Nat) (y : Int32), k + d = 72 → d < fuel → tA t 184 = a → Tso t s → lob a p s → xab a p s i 72 → xab a p s (i + 1) k → (y = nI 0 ∨ y = nI 1) → (y = nI 0 → fxb a p s k) → ∃ t' s' y', F_X12_laysSoon_b33 kk fuel 183 (nI p) y (nI k) (Em g t) = kk 183 (nI p) y' (Em g t') ∧ Ax 201 t t' ∧ Tso t' s' ∧ lob a p s' ∧ xab a p s' (i + 1) 72 ∧ (y' = nI 0 ∨ y' = nI 1) ∧ (y' = nI 0 → fxb a p s' 72) ∧ (∀ j, s' j ≤ s j) ∧ (y' = nI 1 → y = nI 1 ∨ ∃ j, j < 72 ∧ j % 6 < vK a ∧ s' j < s j) := by
  have hK := wK2 W
  have h3 : ∀ t, tA t 184 = a → aI (Em g t) 184 3 = some (nI (vK a)) := fun t ha => by
    have : aI (Em g t) 184 3 = some (tA t 184 3) := x_a184 X (k := 3) (by decide)
    rw [this, ha, wK W]
  intro d
  induction d with
  | zero =>
    intro k fuel t s y hk hf ha T A B B2 hy F
    obtain ⟨f, rfl⟩ : ∃ f, fuel = f + 1 := ⟨fuel - 1, by omega⟩
    have hk : k = 72 := by omega
    subst hk
    refine ⟨t, s, y, ?_, Ax_r, T, A, B2, hy, F, fun _ => Nat.le_refl _, fun h => Or.inl h⟩
    rw [F_X12_laysSoon_b33, if_pos (show (72 : Int32) ≤ nI 72 by decide)]
  | succ d ih =>
    intro k fuel t s y hk hf ha T A B B2 hy F
    obtain ⟨f, rfl⟩ : ∃ f, fuel = f + 1 := ⟨fuel - 1, by omega⟩
    have hk72 : k < 72 := by omega
    have h72 : ¬ (72 : Int32) ≤ nI k := show ¬ nI 72 ≤ nI k by rw [nI_leI (by decide) (by omega)]; omega
    have e6 : irm (nI k) 6 = nI (k % 6) := irm_n (b := 6) (by omega) (by decide) (by decide)
    have hfu : vK a < FU := by show vK a < 1000000; omega
    rw [F_X12_laysSoon_b33, if_neg h72]
    by_cases hk6 : k % 6 < vK a
    · obtain ⟨t1, s1, y1, e1, a1, T1, A1, F1, m1, o1⟩ := r_so_i X W hp hk72 hk6 kk (F_X12_laysSoon_b33 kk f) (vK a) 0 FU t s y (by omega) hfu ha T A (fun j hj => absurd hj (by omega))
      have e1' : F_X12_laysSoon_b42 kk (F_X12_laysSoon_b33 kk f) FU 183 (nI p) y (nI k) 0 (Em g t) = F_X12_laysSoon_b33 kk f 183 (nI p) y1 (nI (k + 1)) (Em g t1) := e1
      have up : ∀ c n, xab a p s c n → n ≤ 72 → xab a p s1 c n := fun c n q hn j hj hj6 hq => by
        have := q j hj hj6 hq
        have := m1 j
        have := A1 j (by omega) hj6
        omega
      have B1 := up i 72 B (by omega)
      obtain ⟨t2, s2, y2, e2, a2, r2⟩ := ih (k + 1) f t1 s1 y1 (by omega) (by omega) (by rw [a1.2.1 184 (by decide)]; exact ha) T1 A1 B1 (fun j hj hj6 hq => by
        by_cases e : j = k
        · subst e; exact xab_s W A1 (by omega) B1 hk72 hj6 F1 hq
        · exact up (i + 1) k B2 (by omega) j (by omega) hj6 hq) (by
        rcases o1 with ⟨_, q⟩ | ⟨q, _⟩
        · rw [q]; exact hy
        · exact Or.inr q) (fun hz j hj hj6 => by
        rcases o1 with ⟨q1, q2⟩ | ⟨q, _⟩
        · by_cases e : j = k
          · subst e; exact F1
          · rw [q1]; exact F (by rw [← q2]; exact hz) j (by omega) hj6
        · rw [q] at hz; exact absurd hz (by decide))
      obtain ⟨T2, A2, B3, hy2, F2, m2, o2⟩ := r2
      refine ⟨t2, s2, y2, e1'.trans e2, Ax_t a1 a2, T2, A2, B3, hy2, F2, fun j => Nat.le_trans (m2 j) (m1 j), fun q => ?_⟩
      rcases o2 q with c | ⟨j, j1, j2, j3⟩
      · rcases o1 with ⟨_, q2⟩ | ⟨_, q2⟩
        · exact Or.inl (by rw [← q2]; exact c)
        · exact Or.inr ⟨k, hk72, hk6, by have := m2 k; omega⟩
      · exact Or.inr ⟨j, j1, j2, by have := m1 j; omega⟩
    · have e1 : F_X12_laysSoon_b42 kk (F_X12_laysSoon_b33 kk f) FU 183 (nI p) y (nI k) 0 (Em g t) = F_X12_laysSoon_b33 kk f 183 (nI p) y (nI (k + 1)) (Em g t) := by
        show F_X12_laysSoon_b42 kk (F_X12_laysSoon_b33 kk f) (999999 + 1) 183 (nI p) y (nI k) (nI 0) (Em g t) = _
        rw [F_X12_laysSoon_b42, x_r183_1 X, Option.bind_some, h3 t ha, Option.bind_some, show nI k + 1 = nI (k + 1) from nI_add k 1]
        by_cases c : vK a ≤ 0
        · rw [if_pos (by rw [nI_leI (by omega) (by omega)]; exact c)]
        · rw [if_neg (by rw [nI_leI (by omega) (by omega)]; exact c), Option.bind_some, h3 t ha, Option.bind_some, e6, if_pos (by rw [nI_leI (by omega) (by omega)]; omega)]
      obtain ⟨t2, s2, y2, e2, r2⟩ := ih (k + 1) f t s y (by omega) (by omega) ha T A B (fun j hj hj6 hq => by
        by_cases e : j = k
        · subst e; exact absurd hj6 hk6
        · exact B2 j (by omega) hj6 hq) hy (fun hz j hj hj6 => by
        by_cases e : j = k
        · subst e; exact absurd hj6 hk6
        · exact F hz j (by omega) hj6)
      exact ⟨t2, s2, y2, e1.trans e2, r2⟩
theorem r_so_w (X : Fx g) (W : WA a D) (hp : p < vP a) : ∀ (d i fuel : Nat) (t : Tb) (s : Nat → Nat), i + d = 18 → d + 1 < fuel → tA t 184 = a → Tso t s → lob a p s → xab a p s i 72 → ∃ t', F_X12_laysSoon_b25 fuel 183 (nI p) 1 (Em g t) = some ((), Em g t') ∧ Ax 201 t t' ∧ ∀ k, k < 72 → k % 6 < vK a → tA t' 201 k = nI (sok a p k) := by
  intro d
  induction d with
  | zero =>
    intro i fuel t s hi hf ha T A B
    obtain ⟨f, rfl⟩ : ∃ f, fuel = f + 2 := ⟨fuel - 2, by omega⟩
    obtain ⟨t1, s1, y1, e1, a1, T1, A1, B1, hy, F1, m1, o1⟩ := r_so_l (i := i) X W hp (by omega) (F_X12_laysSoon_b25 (f + 1)) 72 0 FU t s (nI 0) rfl (by decide) ha T A B (fun j hj => absurd hj (by omega)) (Or.inl rfl) (fun _ j hj => absurd hj (by omega))
    have h1 : ∀ k, k < 72 → k % 6 < vK a → s k = sok a p k := xab_all A (fun k hk => (T k hk).2) (by omega) B
    have hy0 : y1 = nI 0 := by
      rcases hy with q | q
      · exact q
      · rcases o1 q with c | ⟨j, j1, j2, j3⟩
        · exact absurd c (by decide)
        · have := h1 j j1 j2
          have := A1 j j1 j2
          omega
    subst hy0
    refine ⟨t1, ?_, a1, fun k hk hk6 => ?_⟩
    · have e1' : F_X12_laysSoon_b33 (F_X12_laysSoon_b25 (f + 1)) FU 183 (nI p) 0 0 (Em g t) = F_X12_laysSoon_b25 (f + 1) 183 (nI p) (nI 0) (Em g t1) := e1
      rw [F_X12_laysSoon_b25, if_neg (by decide), e1', F_X12_laysSoon_b25, if_pos (show nI 0 = (0 : Int32) from rfl)]
    · rw [(T1 k hk).1, xab_all A1 (fun k hk => (T1 k hk).2) (show 18 ≤ i + 1 by omega) B1 k hk hk6]
  | succ d ih =>
    intro i fuel t s hi hf ha T A B
    obtain ⟨f, rfl⟩ : ∃ f, fuel = f + 2 := ⟨fuel - 2, by omega⟩
    obtain ⟨t1, s1, y1, e1, a1, T1, A1, B1, hy, F1, m1, o1⟩ := r_so_l (i := i) X W hp (by omega) (F_X12_laysSoon_b25 (f + 1)) 72 0 FU t s (nI 0) rfl (by decide) ha T A B (fun j hj => absurd hj (by omega)) (Or.inl rfl) (fun _ j hj => absurd hj (by omega))
    have e1' : F_X12_laysSoon_b33 (F_X12_laysSoon_b25 (f + 1)) FU 183 (nI p) 0 0 (Em g t) = F_X12_laysSoon_b25 (f + 1) 183 (nI p) y1 (Em g t1) := e1
    rcases hy with q | q
    · subst q
      refine ⟨t1, ?_, a1, fun k hk hk6 => ?_⟩
      · rw [F_X12_laysSoon_b25, if_neg (by decide), e1', F_X12_laysSoon_b25, if_pos (show nI 0 = (0 : Int32) from rfl)]
      · rw [(T1 k hk).1, xab_all A1 (fun k hk => (T1 k hk).2) (Nat.le_refl 18) (fxb_a W A1 (F1 rfl) 18 (by decide)) k hk hk6]
    · subst q
      obtain ⟨t2, e2, a2, r2⟩ := ih (i + 1) (f + 1) t1 s1 (by omega) (by omega) (by rw [a1.2.1 184 (by decide)]; exact ha) T1 A1 B1
      refine ⟨t2, ?_, Ax_t a1 a2, r2⟩
      rw [F_X12_laysSoon_b25, if_neg (by decide), e1']
      exact e2
theorem r_so_f (X : Fx g) : ∀ (d k fuel : Nat) (t : Tb), k + d = 72 → d < fuel → (∀ j, j < k → tA t 201 j = nI 268435456) → ∃ t', F_X12_laysSoon_b2 fuel 183 (nI p) (nI k) (Em g t) = F_X12_laysSoon_b25 FU 183 (nI p) 1 (Em g t') ∧ Ax 201 t t' ∧ ∀ j, j < 72 → tA t' 201 j = nI 268435456 := by
  intro d
  induction d with
  | zero =>
    intro k fuel t hk hf h
    obtain ⟨f, rfl⟩ : ∃ f, fuel = f + 1 := ⟨fuel - 1, by omega⟩
    have hk : k = 72 := by omega
    subst hk
    refine ⟨t, ?_, Ax_r, h⟩
    rw [F_X12_laysSoon_b2, if_pos (show (72 : Int32) ≤ nI 72 by decide)]
  | succ d ih =>
    intro k fuel t hk hf h
    obtain ⟨f, rfl⟩ : ∃ f, fuel = f + 1 := ⟨fuel - 1, by omega⟩
    have h72 : ¬ (72 : Int32) ≤ nI k := show ¬ nI 72 ≤ nI k by rw [nI_leI (by decide) (by omega)]; omega
    obtain ⟨t2, e2, a2, k2⟩ := ih (k + 1) f (wa t 201 k 268435456) (by omega) (by omega) (fun j hj => by
      rw [tA_as]
      by_cases e : j = k
      · subst e; rw [upd_s]; rfl
      · rw [upd_n e]; exact h j (by omega))
    refine ⟨t2, ?_, Ax_t (Ax_wa Ax_r) a2, k2⟩
    rw [F_X12_laysSoon_b2, if_neg h72, x_r183_33 X, Option.bind_some, x_s201 X (by omega), Option.bind_some, show nI k + 1 = nI (k + 1) from nI_add k 1]
    exact e2
theorem r_laysSoon (X : Fx g) (W : WA a D) (ha : tA t 184 = a) (hp : p < vP a) : ∃ t', F_X12_laysSoon 183 (nI p) (Em g t) = some ((), Em g t') ∧ Ax 201 t t' ∧ ∀ k, k < 72 → k % 6 < vK a → tA t' 201 k = nI (sok a p k) := by
  obtain ⟨t1, e1, a1, k1⟩ := r_so_f (p := p) X 72 0 FU t rfl (by decide) (fun j hj => absurd hj (by omega))
  obtain ⟨t2, e2, a2, k2⟩ := r_so_w X W hp 18 0 FU t1 (fun _ => 268435456) rfl (by decide) (by rw [a1.2.1 184 (by decide)]; exact ha) (fun k hk => ⟨k1 k hk, Nat.le_refl _⟩) (fun k _ _ => soo_le) xab_0
  exact ⟨t2, e1.trans e2, Ax_t a1 a2, k2⟩
end XSr
