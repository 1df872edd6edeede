/-! ===== the class's cells: a law, a state, a valley; how they are read and written ===== -/
def ccn (l c : Nat) : Nat := if c < 1000 then c else if c < 3000 then (if l = 0 then c else c - 5) else if c = 3000 then 2006 else if c = 3001 then 2007 else if c = 3002 then 2008 else if c = 3006 then 2000 else if c = 3007 then 2001 else if c = 3008 then 2002 else c - 1000
def LwS (g : Sk) (w m : Nat) : Prop := (205 ≤ w ∧ m ≤ 900 ∧ w + 4 ≤ gn g) ∧ oc 2 (gS g w) ∧ (gR g w 0 = some (w + 1) ∧ gR g w 1 = some (w + 2) ∧ gR g w 2 = some (w + 3)) ∧ (gS g (w + 1) = 32 ∧ gN g (w + 1) = m) ∧ (gS g (w + 2) = 30 ∧ gN g (w + 2) = 5) ∧ (gS g (w + 3) = 30 ∧ gN g (w + 3) = 24)
def LwP (g : Sk) (t : Tb) (w : Nat) (a : Nat → Int32) (l : Nat) : Prop := LwS g w (vMa a l) ∧ ∀ k, k < vMa a l → tA t (w + 1) k = nI (ccn l (tn (a (329 + vFr a l + k))))
def StS (g : Sk) (x : Nat) : Prop := 69 ≤ x ∧ oc 5 (gS g x) ∧ (gR g x 0 = some (x + 1) ∧ gR g x 1 = some (x + 2) ∧ gR g x 2 = some (x + 3)) ∧ (ic (gS g (x + 1)) ∧ gN g (x + 1) = 6) ∧ (ic (gS g (x + 2)) ∧ gN g (x + 2) = 6) ∧ (ic (gS g (x + 3)) ∧ gN g (x + 3) = 6)
/-- a state's cells hold the twenty values of f from o on (of those who are there) -/
def StP (t : Tb) (x P : Nat) (f : Nat → Int32) (o : Nat) : Prop := (tI t x 3 = f (o + 1) ∧ tI t x 4 = f o) ∧ ∀ p, p < P → tA t (x + 1) p = f (o + 2 + p) ∧ tA t (x + 2) p = f (o + 8 + p) ∧ tA t (x + 3) p = f (o + 14 + p)
def VaS (g : Sk) (v : Nat) : Prop := (v = 84 ∨ 205 ≤ v) ∧ gS g v = 70 ∧ (gR g v 5 = some (v + 1) ∧ gR g v 6 = some (v + 2) ∧ gR g v 7 = some (v + 3) ∧ gR g v 8 = some (v + 4) ∧ gR g v 9 = some (v + 5) ∧ gR g v 10 = some (v + 6) ∧ gR g v 11 = some (v + 7)) ∧ (gS g (v + 1) = 31 ∧ gN g (v + 1) = 54) ∧ (gS g (v + 2) = 31 ∧ gN g (v + 2) = 6) ∧ (gS g (v + 3) = 31 ∧ gN g (v + 3) = 24) ∧ (gS g (v + 4) = 31 ∧ gN g (v + 4) = 6) ∧ (gS g (v + 5) = 31 ∧ gN g (v + 5) = 6) ∧ (gS g (v + 6) = 31 ∧ gN g (v + 6) = 10) ∧ v + 11 ≤ gn g
def VaP (g : Sk) (t : Tb) (v : Nat) (a : Nat → Int32) : Prop := (tI t v 0 = a 1 ∧ tI t v 1 = a 0 ∧ tI t v 2 = a 2 ∧ tI t v 3 = a 3 ∧ tI t v 4 = a 4) ∧ (∀ u, u < vT a → tA t (v + 2) u = a (11 + u) ∧ ∀ i, i < vLg a u → tA t (v + 1) (u * 9 + i) = a (17 + 9 * u + i)) ∧ (∀ k, k < vK a → tA t (v + 4) k = a (71 + k) ∧ tA t (v + 5) k = a (77 + k) ∧ ∀ i, i < vCo a k → tA t (v + 3) (k * 4 + i) = a (83 + 4 * k + i)) ∧ (∀ i, i < vN a → tA t (v + 6) i = nI (mk (fun j => fol a i j) (vN a))) ∧ ((a 5 = nI 0 ∧ gR g v 12 = none) ∨ (¬ a 5 = nI 0 ∧ ∃ w, gR g v 12 = some w ∧ LwP g t w a 0))
section XC1
variable {g : Sk} {t : Tb} {a : Nat → Int32}
variable {D v w m x : Nat} {t' : Tb}
theorem l_rc (L : LwS g w m) : rc (Em g t) w 2 = some () := y_rc L.2.1 (by have := L.1.1; omega) (by decide)
theorem l_r0 (L : LwS g w m) : fR (Em g t) w 2 0 = some (w + 1) := y_fR L.2.1 L.2.2.1.1 (by have := L.1.1; omega) (by decide) rfl
theorem l_r1 (L : LwS g w m) : fR (Em g t) w 2 1 = some (w + 2) := y_fR L.2.1 L.2.2.1.2.1 (by have := L.1.1; omega) (by decide) rfl
theorem l_r2 (L : LwS g w m) : fR (Em g t) w 2 2 = some (w + 3) := y_fR L.2.1 L.2.2.1.2.2 (by have := L.1.1; omega) (by decide) rfl
theorem l_al (L : LwS g w m) : al (Em g t) (w + 1) = some (nI m) := by
  have h := E_al (sc := g.1) (n := gn g) (S := gS g) (N := gN g) (I := tI t) (A := tA t) (J := tJ t) (R := gR g) (Q := gQ g) (a := w + 1) (by have := L.1.1; omega) (by rw [L.2.2.2.1.1]; decide)
  rw [L.2.2.2.1.2] at h
  exact h
theorem l_a1 (L : LwS g w m) {k : Nat} (hk : k < m) : aI (Em g t) (w + 1) (nI k) = some (tA t (w + 1) k) := y_aI (Or.inr (by rw [L.2.2.2.1.1]; decide)) L.2.2.2.1.2 (by have := L.1.1; omega) (by have := L.1.2; omega) hk
theorem l_a2 (L : LwS g w m) {k : Nat} (hk : k < 5) : aI (Em g t) (w + 2) (nI k) = some (tA t (w + 2) k) := y_aI (Or.inr (by rw [L.2.2.2.2.1.1]; decide)) L.2.2.2.2.1.2 (by have := L.1.1; omega) (by decide) hk
theorem l_s2 (L : LwS g w m) {k : Nat} {z : Int32} (hk : k < 5) : sI (Em g t) (w + 2) (nI k) z = some (Em g (wa t (w + 2) k z)) := y_sI (Or.inr (by rw [L.2.2.2.2.1.1]; decide)) L.2.2.2.2.1.2 (by have := L.1.1; omega) (by decide) hk
theorem l_a3 (L : LwS g w m) {k : Nat} (hk : k < 24) : aI (Em g t) (w + 3) (nI k) = some (tA t (w + 3) k) := y_aI (Or.inr (by rw [L.2.2.2.2.2.1]; decide)) L.2.2.2.2.2.2 (by have := L.1.1; omega) (by decide) hk
theorem l_s3 (L : LwS g w m) {k : Nat} {z : Int32} (hk : k < 24) : sI (Em g t) (w + 3) (nI k) z = some (Em g (wa t (w + 3) k z)) := y_sI (Or.inr (by rw [L.2.2.2.2.2.1]; decide)) L.2.2.2.2.2.2 (by have := L.1.1; omega) (by decide) hk
theorem z_rc (Z : StS g x) : rc (Em g t) x 5 = some () := y_rc Z.2.1 Z.1 (by decide)
theorem z_r0 (Z : StS g x) : fR (Em g t) x 5 0 = some (x + 1) := y_fR Z.2.1 Z.2.2.1.1 Z.1 (by decide) rfl
theorem z_r1 (Z : StS g x) : fR (Em g t) x 5 1 = some (x + 2) := y_fR Z.2.1 Z.2.2.1.2.1 Z.1 (by decide) rfl
theorem z_r2 (Z : StS g x) : fR (Em g t) x 5 2 = some (x + 3) := y_fR Z.2.1 Z.2.2.1.2.2 Z.1 (by decide) rfl
theorem z_i3 (Z : StS g x) : fI (Em g t) x 5 3 = some (tI t x 3) := y_fI Z.2.1 Z.1 (by decide) rfl
theorem z_i4 (Z : StS g x) : fI (Em g t) x 5 4 = some (tI t x 4) := y_fI Z.2.1 Z.1 (by decide) rfl
theorem z_w3 (Z : StS g x) {z : Int32} : wI (Em g t) x 5 3 z = some (Em g (wi t x 3 z)) := y_wI Z.2.1 Z.1 (by decide) rfl
theorem z_w4 (Z : StS g x) {z : Int32} : wI (Em g t) x 5 4 z = some (Em g (wi t x 4 z)) := y_wI Z.2.1 Z.1 (by decide) rfl
theorem z_a1 (Z : StS g x) {k : Nat} (hk : k < 6) : aI (Em g t) (x + 1) (nI k) = some (tA t (x + 1) k) := y_aI Z.2.2.2.1.1 Z.2.2.2.1.2 (by have := Z.1; omega) (by decide) hk
theorem z_a2 (Z : StS g x) {k : Nat} (hk : k < 6) : aI (Em g t) (x + 2) (nI k) = some (tA t (x + 2) k) := y_aI Z.2.2.2.2.1.1 Z.2.2.2.2.1.2 (by have := Z.1; omega) (by decide) hk
theorem z_a3 (Z : StS g x) {k : Nat} (hk : k < 6) : aI (Em g t) (x + 3) (nI k) = some (tA t (x + 3) k) := y_aI Z.2.2.2.2.2.1 Z.2.2.2.2.2.2 (by have := Z.1; omega) (by decide) hk
theorem z_s1 (Z : StS g x) {k : Nat} {z : Int32} (hk : k < 6) : sI (Em g t) (x + 1) (nI k) z = some (Em g (wa t (x + 1) k z)) := y_sI Z.2.2.2.1.1 Z.2.2.2.1.2 (by have := Z.1; omega) (by decide) hk
theorem z_s2 (Z : StS g x) {k : Nat} {z : Int32} (hk : k < 6) : sI (Em g t) (x + 2) (nI k) z = some (Em g (wa t (x + 2) k z)) := y_sI Z.2.2.2.2.1.1 Z.2.2.2.2.1.2 (by have := Z.1; omega) (by decide) hk
theorem z_s3 (Z : StS g x) {k : Nat} {z : Int32} (hk : k < 6) : sI (Em g t) (x + 3) (nI k) z = some (Em g (wa t (x + 3) k z)) := y_sI Z.2.2.2.2.2.1 Z.2.2.2.2.2.2 (by have := Z.1; omega) (by decide) hk
theorem v_69 (V : VaS g v) : 69 ≤ v := by rcases V.1 with h | h <;> omega
theorem v_rc (V : VaS g v) : rc (Em g t) v 9 = some () := y_rc (Or.inr V.2.1) (v_69 V) (by decide)
theorem v_i0 (V : VaS g v) : fI (Em g t) v 9 0 = some (tI t v 0) := y_fI (Or.inr V.2.1) (v_69 V) (by decide) rfl
theorem v_i1 (V : VaS g v) : fI (Em g t) v 9 1 = some (tI t v 1) := y_fI (Or.inr V.2.1) (v_69 V) (by decide) rfl
theorem v_i2 (V : VaS g v) : fI (Em g t) v 9 2 = some (tI t v 2) := y_fI (Or.inr V.2.1) (v_69 V) (by decide) rfl
theorem v_i3 (V : VaS g v) : fI (Em g t) v 9 3 = some (tI t v 3) := y_fI (Or.inr V.2.1) (v_69 V) (by decide) rfl
theorem v_i4 (V : VaS g v) : fI (Em g t) v 9 4 = some (tI t v 4) := y_fI (Or.inr V.2.1) (v_69 V) (by decide) rfl
theorem v_r5 (V : VaS g v) : fR (Em g t) v 9 5 = some (v + 1) := y_fR (Or.inr V.2.1) V.2.2.1.1 (v_69 V) (by decide) rfl
theorem v_r6 (V : VaS g v) : fR (Em g t) v 9 6 = some (v + 2) := y_fR (Or.inr V.2.1) V.2.2.1.2.1 (v_69 V) (by decide) rfl
theorem v_r7 (V : VaS g v) : fR (Em g t) v 9 7 = some (v + 3) := y_fR (Or.inr V.2.1) V.2.2.1.2.2.1 (v_69 V) (by decide) rfl
theorem v_r8 (V : VaS g v) : fR (Em g t) v 9 8 = some (v + 4) := y_fR (Or.inr V.2.1) V.2.2.1.2.2.2.1 (v_69 V) (by decide) rfl
theorem v_r9 (V : VaS g v) : fR (Em g t) v 9 9 = some (v + 5) := y_fR (Or.inr V.2.1) V.2.2.1.2.2.2.2.1 (v_69 V) (by decide) rfl
theorem v_r10 (V : VaS g v) : fR (Em g t) v 9 10 = some (v + 6) := y_fR (Or.inr V.2.1) V.2.2.1.2.2.2.2.2.1 (v_69 V) (by decide) rfl
theorem v_r11 (V : VaS g v) : fR (Em g t) v 9 11 = some (v + 7) := y_fR (Or.inr V.2.1) V.2.2.1.2.2.2.2.2.2 (v_69 V) (by decide) rfl
theorem v_a1 (V : VaS g v) {k : Nat} (hk : k < 54) : aI (Em g t) (v + 1) (nI k) = some (tA t (v + 1) k) := y_aI (Or.inr (by rw [V.2.2.2.1.1]; decide)) V.2.2.2.1.2 (by have := v_69 V; omega) (by decide) hk
theorem v_a2 (V : VaS g v) {k : Nat} (hk : k < 6) : aI (Em g t) (v + 2) (nI k) = some (tA t (v + 2) k) := y_aI (Or.inr (by rw [V.2.2.2.2.1.1]; decide)) V.2.2.2.2.1.2 (by have := v_69 V; omega) (by decide) hk
theorem v_a3 (V : VaS g v) {k : Nat} (hk : k < 24) : aI (Em g t) (v + 3) (nI k) = some (tA t (v + 3) k) := y_aI (Or.inr (by rw [V.2.2.2.2.2.1.1]; decide)) V.2.2.2.2.2.1.2 (by have := v_69 V; omega) (by decide) hk
theorem v_a4 (V : VaS g v) {k : Nat} (hk : k < 6) : aI (Em g t) (v + 4) (nI k) = some (tA t (v + 4) k) := y_aI (Or.inr (by rw [V.2.2.2.2.2.2.1.1]; decide)) V.2.2.2.2.2.2.1.2 (by have := v_69 V; omega) (by decide) hk
theorem v_a5 (V : VaS g v) {k : Nat} (hk : k < 6) : aI (Em g t) (v + 5) (nI k) = some (tA t (v + 5) k) := y_aI (Or.inr (by rw [V.2.2.2.2.2.2.2.1.1]; decide)) V.2.2.2.2.2.2.2.1.2 (by have := v_69 V; omega) (by decide) hk
theorem v_a6 (V : VaS g v) {k : Nat} (hk : k < 10) : aI (Em g t) (v + 6) (nI k) = some (tA t (v + 6) k) := y_aI (Or.inr (by rw [V.2.2.2.2.2.2.2.2.1.1]; decide)) V.2.2.2.2.2.2.2.2.1.2 (by have := v_69 V; omega) (by decide) hk
/-! what lies elsewhere stays -/
theorem sc_205 {b : Nat} (h : 205 ≤ b) : scF b = false := by
  unfold scF
  simp only [List.contains_eq_mem, decide_eq_false_iff_not, List.mem_cons, List.not_mem_nil, or_false]
  omega
theorem sI_v {b k : Nat} (h : b = 84 ∨ 205 ≤ b) : scI b k = false := by
  have h1 : (b == 99) = false := by simp; omega
  have h2 : (b == 148) = false := by simp; omega
  have h3 : (b == 153) = false := by simp; omega
  have h4 : (b == 157) = false := by simp; omega
  have h5 : (b == 70) = false := by simp; omega
  have h6 : (b == 183) = false := by simp; omega
  unfold scI
  rw [h1, h2, h3, h4, h5, h6]
  rfl
theorem sA_v (V : VaS g v) {j : Nat} (h1 : 1 ≤ j) (h6 : j ≤ 6) : scA g (v + j) = false := by
  have hs : gS g (v + j) = 31 := by
    rcases (show j = 1 ∨ j = 2 ∨ j = 3 ∨ j = 4 ∨ j = 5 ∨ j = 6 by omega) with e | e | e | e | e | e <;> subst e
    · exact V.2.2.2.1.1
    · exact V.2.2.2.2.1.1
    · exact V.2.2.2.2.2.1.1
    · exact V.2.2.2.2.2.2.1.1
    · exact V.2.2.2.2.2.2.2.1.1
    · exact V.2.2.2.2.2.2.2.2.1.1
  refine sc_n (by rw [hs]; decide) (by rw [hs]; decide) ?_
  rcases V.1 with h | h
  · subst h
    rcases (show j = 1 ∨ j = 2 ∨ j = 3 ∨ j = 4 ∨ j = 5 ∨ j = 6 by omega) with e | e | e | e | e | e <;> subst e <;> rfl
  · exact sc_205 (by omega)
theorem LwP_s {l : Nat} (h : LwP g t w a l) (s : Sm g t t') : LwP g t' w a l := by
  refine ⟨h.1, fun k hk => ?_⟩
  rw [s.2.1 (w + 1) (sc_n (by rw [h.1.2.2.2.1.1]; decide) (by rw [h.1.2.2.2.1.1]; decide) (sc_205 (by have := h.1.1.1; omega)))]
  exact h.2 k hk
theorem VaP_s (V : VaS g v) (h : VaP g t v a) (s : Sm g t t') : VaP g t' v a := by
  have ei : ∀ k, tI t' v k = tI t v k := fun k => s.1 v k (sI_v V.1)
  have ea : ∀ j, 1 ≤ j → j ≤ 6 → tA t' (v + j) = tA t (v + j) := fun j h1 h6 => s.2.1 (v + j) (sA_v V h1 h6)
  unfold VaP
  rw [ei, ei, ei, ei, ei, ea 1 (by decide) (by decide), ea 2 (by decide) (by decide), ea 3 (by decide) (by decide), ea 4 (by decide) (by decide), ea 5 (by decide) (by decide), ea 6 (by decide) (by decide)]
  refine ⟨h.1, h.2.1, h.2.2.1, h.2.2.2.1, ?_⟩
  rcases h.2.2.2.2 with q | ⟨q, w, hw, hL⟩
  · exact Or.inl q
  · exact Or.inr ⟨q, w, hw, LwP_s hL s⟩
theorem StP_s {P o : Nat} {f : Nat → Int32} (h3 : scI x 3 = false) (h4 : scI x 4 = false) (a1 : scA g (x + 1) = false) (a2 : scA g (x + 2) = false) (a3 : scA g (x + 3) = false) (h : StP t x P f o) (s : Sm g t t') : StP t' x P f o := by
  unfold StP
  rw [s.1 x 3 h3, s.1 x 4 h4, s.2.1 _ a1, s.2.1 _ a2, s.2.1 _ a3]
  exact h
theorem StS_95 (X : Fx g) : StS g 95 := ⟨by decide, Or.inl (x_S X 6 rfl), ⟨x_R X rfl, x_R X rfl, x_R X rfl⟩, ⟨Or.inl (x_S X 20 rfl), x_N X 6 rfl⟩, ⟨Or.inl (x_S X 20 rfl), x_N X 6 rfl⟩, ⟨Or.inl (x_S X 20 rfl), x_N X 6 rfl⟩⟩
theorem StS_99 (X : Fx g) : StS g 99 := ⟨by decide, Or.inl (x_S X 6 rfl), ⟨x_R X rfl, x_R X rfl, x_R X rfl⟩, ⟨Or.inl (x_S X 20 rfl), x_N X 6 rfl⟩, ⟨Or.inl (x_S X 20 rfl), x_N X 6 rfl⟩, ⟨Or.inl (x_S X 20 rfl), x_N X 6 rfl⟩⟩
theorem StS_f (X : Fx g) {x : Nat} (h : decide (69 ≤ x ∧ x + 3 < 205 ∧ S0 x = 6 ∧ R0 x 0 = x + 1 ∧ R0 x 1 = x + 2 ∧ R0 x 2 = x + 3 ∧ S0 (x + 1) = 20 ∧ S0 (x + 2) = 20 ∧ S0 (x + 3) = 20 ∧ N0 (x + 1) = 6 ∧ N0 (x + 2) = 6 ∧ N0 (x + 3) = 6) = true) : StS g x := by
  obtain ⟨h1, h2, h3, r0, r1, r2, s1, s2, s3, n1, n2, n3⟩ := of_decide_eq_true h
  refine ⟨h1, Or.inl (by rw [(X.1 x h1 (by omega)).1, h3]), ⟨?_, ?_, ?_⟩, ⟨Or.inl ?_, ?_⟩, ⟨Or.inl ?_, ?_⟩, ⟨Or.inl ?_, ?_⟩⟩
  · rw [X.2.1 x 0 h1 (by omega) (by omega), r0]
  · rw [X.2.1 x 1 h1 (by omega) (by omega), r1]
  · rw [X.2.1 x 2 h1 (by omega) (by omega), r2]
  · rw [(X.1 (x + 1) (by omega) (by omega)).1, s1]
  · rw [(X.1 (x + 1) (by omega) (by omega)).2, n1]
  · rw [(X.1 (x + 2) (by omega) (by omega)).1, s2]
  · rw [(X.1 (x + 2) (by omega) (by omega)).2, n2]
  · rw [(X.1 (x + 3) (by omega) (by omega)).1, s3]
  · rw [(X.1 (x + 3) (by omega) (by omega)).2, n3]
end XC1
