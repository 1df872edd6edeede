/-! ===== finding: the class's masks; finds, all, near agree ===== -/
def wnf (a : Nat → Int32) (m : Nat) : Nat → Nat
  | 0 => m
  | k + 1 => if m.testBit k = true then wnf a m k ||| vWy a k else wnf a m k
def wn (a : Nat → Int32) (m : Nat) : Nat := wnf a m (vK a)
def soI (n : Nat) : Int32 := if n = 268435456 then -nI 1 else nI n
noncomputable def fiv (a : Nat → Int32) (p : Nat) : Int32 := if (vFo a).testBit p = true then nI 0 else soI (soo a p (vAt a p) (vDy a))
theorem wnf_bit {a : Nat → Int32} {m j : Nat} : ∀ n, (wnf a m n).testBit j = true ↔ m.testBit j = true ∨ ∃ k, k < n ∧ m.testBit k = true ∧ (vWy a k).testBit j = true
  | 0 => by
    rw [wnf]
    exact ⟨Or.inl, fun h => by
      rcases h with h | ⟨k, hk, _⟩
      · exact h
      · exact absurd hk (by omega)⟩
  | n + 1 => by
    have ih := wnf_bit (a := a) (m := m) (j := j) n
    rw [wnf]
    constructor
    · intro h
      have : (wnf a m n).testBit j = true ∨ (m.testBit n = true ∧ (vWy a n).testBit j = true) := by
        split at h
        · rename_i c
          rw [Nat.testBit_or, Bool.or_eq_true] at h
          rcases h with h | h
          · exact Or.inl h
          · exact Or.inr ⟨c, h⟩
        · exact Or.inl h
      rcases this with h | h
      · rcases ih.mp h with h | ⟨k, k1, k2⟩
        · exact Or.inl h
        · exact Or.inr ⟨k, by omega, k2⟩
      · exact Or.inr ⟨n, by omega, h⟩
    · intro h
      have : (wnf a m n).testBit j = true ∨ (m.testBit n = true ∧ (vWy a n).testBit j = true) := by
        rcases h with h | ⟨k, k1, k2⟩
        · exact Or.inl (ih.mpr (Or.inl h))
        · by_cases e : k = n
          · rw [e] at k2; exact Or.inr k2
          · exact Or.inl (ih.mpr (Or.inr ⟨k, by omega, k2⟩))
      split
      · rw [Nat.testBit_or, Bool.or_eq_true]
        rcases this with h | h
        · exact Or.inl h
        · exact Or.inr h.2
      · rename_i c
        rcases this with h | h
        · exact h
        · exact absurd h.1 c
section XFi
variable {g : Sk} {t : Tb} {a : Nat → Int32}
variable {D v p x n nx : Nat} {t' t'' : Tb}
theorem can_sym (W : WA a D) {k j : Nat} (hk : k < vK a) (hj : j < vK a) : can a k j = can a j k := by
  unfold can
  rw [(W.1.2.2.1 k hk).2.2.2.1 j hj]
  by_cases e : j = k
  · subst e; rfl
  · rw [decide_eq_false e, decide_eq_false (fun h => e h.symm)]
theorem can_lt (W : WA a D) {k j : Nat} (hk : k < vK a) (h : can a k j = true) : j < vK a := by
  unfold can at h
  rw [Bool.or_eq_true, decide_eq_true_eq] at h
  rcases h with h | h
  · omega
  · exact Nat.lt_of_not_le (fun hge => by
      rw [Nat.testBit_lt_two_pow (Nat.lt_of_lt_of_le (wWy2 W hk) (Nat.pow_le_pow_right (by decide) hge))] at h
      cases h)
theorem tb_lt {m j n : Nat} (hm : m < 2 ^ n) (h : m.testBit j = true) : j < n := Nat.lt_of_not_le (fun hge => by
  rw [Nat.testBit_lt_two_pow (Nat.lt_of_lt_of_le hm (Nat.pow_le_pow_right (by decide) hge))] at h
  cases h)
theorem wn_bit {m j : Nat} (hm : m < 2 ^ vK a) : (wn a m).testBit j = true ↔ ∃ k, k < vK a ∧ m.testBit k = true ∧ can a k j = true := by
  unfold wn
  rw [wnf_bit]
  constructor
  · rintro (h | ⟨k, h1, h2, h3⟩)
    · exact ⟨j, tb_lt hm h, h, can_r j⟩
    · exact ⟨k, h1, h2, by unfold can; rw [h3, Bool.or_true]⟩
  · rintro ⟨k, h1, h2, h3⟩
    unfold can at h3
    rw [Bool.or_eq_true, decide_eq_true_eq] at h3
    rcases h3 with h3 | h3
    · rw [h3]; exact Or.inl h2
    · exact Or.inr ⟨k, h1, h2, h3⟩
theorem wnf_lt (W : WA a D) {m : Nat} (hm : m < 2 ^ vK a) : ∀ n, n ≤ vK a → wnf a m n < 2 ^ vK a
  | 0, _ => hm
  | n + 1, h => by
    have ih := wnf_lt W hm n (by omega)
    rw [wnf]
    split
    · exact Nat.or_lt_two_pow ih (wWy2 W (by omega))
    · exact ih
theorem wn_lt (W : WA a D) {m : Nat} (hm : m < 2 ^ vK a) : wn a m < 2 ^ vK a := wnf_lt W hm _ (Nat.le_refl _)
theorem k_wn_l (W : WA a D) (V : VaS g v) (C : CP g t v a D) {m : Nat} (hm : m < 2 ^ vK a) : ∀ (d k fuel : Nat), k + d = vK a → d < fuel → F_X10_withNeighbours_b4 fuel v (nI m) (nI (wnf a m k)) (nI k) (Em g t) = some (nI (wn a m), Em g t) := by
  have hK := wK2 W
  have h64 : 2 ^ vK a ≤ 64 := Nat.pow_le_pow_right (n := 2) (by decide) hK
  intro d
  induction d with
  | zero =>
    intro k fuel hk hf
    obtain ⟨f, rfl⟩ : ∃ f, fuel = f + 1 := ⟨fuel - 1, by omega⟩
    have hk : k = vK a := by omega
    subst hk
    rw [F_X10_withNeighbours_b4, v_i3 V, Option.bind_some, vK_ C, if_pos (by rw [nI_leI (by omega) (by omega)]; exact Nat.le_refl _)]
    rfl
  | succ d ih =>
    intro k fuel hk hf
    obtain ⟨f, rfl⟩ : ∃ f, fuel = f + 1 := ⟨fuel - 1, by omega⟩
    have hb : (nI m >>> (nI k &&& 31)) &&& 1 = bI (m.testBit k) := by
      show (nI m >>> (nI k &&& nI 31)) &&& nI 1 = _
      rw [v_shr (by omega) (by omega), v_bit]
    have hi := ih (k + 1) f (by omega) (by omega)
    rw [wnf] at hi
    rw [F_X10_withNeighbours_b4, v_i3 V, Option.bind_some, vK_ C, if_neg (by rw [nI_leI (by omega) (by omega)]; omega), hb, show nI k + 1 = nI (k + 1) from nI_add k 1]
    cases c : m.testBit k
    · rw [c, if_neg (by decide)] at hi
      rw [if_pos (show ¬ bI false = (1 : Int32) by decide)]
      exact hi
    · rw [c, if_pos rfl] at hi
      rw [if_neg (show ¬ ¬ bI true = (1 : Int32) by decide), v_r9 V, Option.bind_some, v_a5 V (by omega), Option.bind_some, vWy_ C (by omega), fa_or]
      exact hi
theorem k_wn (V : VaS g v) (C : CP g t v a D) {m : Nat} (hm : m < 2 ^ vK a) : F_X10_withNeighbours v (nI m) (Em g t) = some (nI (wn a m), Em g t) := by
  have hK := wK2 C.1
  have hfu : vK a < FU := by show vK a < 1000000; omega
  exact k_wn_l C.1 V C hm (vK a) 0 FU (by omega) hfu
def sgs (a : Nat → Int32) (p d : Nat) : Nat := mk (fun k => fnd a p k d) (vK a)
theorem k_sg_l (V : VaS g v) (C : CP g t v a D) {d0 : Nat} (hd0 : d0 < 2 ^ 31) (hb : ¬ a (121 + p) = -nI 1) : ∀ (d k fuel : Nat), k + d = vK a → d < fuel → F_X10_placesSounding_b5 fuel v (a (121 + p)) (nI d0) (nI (mk (fun k => fnd a p k d0) k)) (nI k) (Em g t) = some (nI (sgs a p d0), Em g t) := by
  have hK := wK2 C.1
  intro d
  induction d with
  | zero =>
    intro k fuel hk hf
    obtain ⟨f, rfl⟩ : ∃ f, fuel = f + 1 := ⟨fuel - 1, by omega⟩
    have hk : k = vK a := by omega
    subst hk
    rw [F_X10_placesSounding_b5, v_i3 V, Option.bind_some, vK_ C, if_pos (by rw [nI_leI (by omega) (by omega)]; exact Nat.le_refl _)]
    rfl
  | succ d ih =>
    intro k fuel hk hf
    obtain ⟨f, rfl⟩ : ∃ f, fuel = f + 1 := ⟨fuel - 1, by omega⟩
    have hi := ih (k + 1) f (by omega) (by omega)
    rw [F_X10_placesSounding_b5, v_i3 V, Option.bind_some, vK_ C, if_neg (by rw [nI_leI (by omega) (by omega)]; omega), if_neg (show ¬ a (121 + p) = (-1 : Int32) from hb), v_rc V, Option.bind_some, k_soundOn V C (by omega) hd0, Option.bind_some, show nI k + 1 = nI (k + 1) from nI_add k 1]
    by_cases c : snd a k d0 = a (121 + p)
    · have hf1 : fnd a p k d0 = true := by unfold fnd; exact decide_eq_true ⟨hb, c⟩
      rw [if_neg (fun h => h c), show (1 : Int32) <<< (nI k &&& 31) = nI (2 ^ k) from v_pow (by omega), s_or1 (f := fun k => fnd a p k d0) hf1]
      exact hi
    · have hf0 : fnd a p k d0 = false := by unfold fnd; exact decide_eq_false (fun h => c h.2)
      rw [if_pos c, ← mk_no (fun k => fnd a p k d0) k hf0]
      exact hi
theorem k_sg (V : VaS g v) (C : CP g t v a D) {d0 : Nat} (hd0 : d0 < 2 ^ 31) : F_X10_placesSounding v (a (121 + p)) (nI d0) (Em g t) = some (nI (sgs a p d0), Em g t) := by
  have hK := wK2 C.1
  have hfu : vK a < FU := by show vK a < 1000000; omega
  by_cases hb : a (121 + p) = -nI 1
  · have h0 : sgs a p d0 = 0 := mk_zero.mpr (fun i _ => by unfold fnd; exact decide_eq_false (fun h => h.1 hb))
    show F_X10_placesSounding_b5 (999999 + 1) v (a (121 + p)) (nI d0) 0 0 (Em g t) = _
    rw [F_X10_placesSounding_b5, v_i3 V, Option.bind_some, h0, if_pos (show a (121 + p) = (-1 : Int32) from hb)]
    split <;> rfl
  · exact k_sg_l V C hd0 hb (vK a) 0 FU (by omega) hfu
theorem sgs_bit {d0 j : Nat} : (sgs a p d0).testBit j = true ↔ j < vK a ∧ fnd a p j d0 = true := by
  unfold sgs
  rw [mk_bit, Bool.and_eq_true, decide_eq_true_eq]
theorem sgs_lt {d0 : Nat} : sgs a p d0 < 2 ^ vK a := mk_lt _ _
theorem and_nz {m q : Nat} : ¬ m &&& q = 0 ↔ ∃ j, m.testBit j = true ∧ q.testBit j = true := by
  rw [nz_ex]
  constructor
  · rintro ⟨i, h⟩
    rw [Nat.testBit_and, Bool.and_eq_true] at h
    exact ⟨i, h⟩
  · rintro ⟨i, h1, h2⟩
    exact ⟨i, by rw [Nat.testBit_and, h1, h2]; rfl⟩
theorem k_so_l (X : Fx g) (V : VaS g v) (C : CP g t v a D) {k : Nat} (hk : k < vK a) : ∀ (d i fuel m : Nat), i + d = 18 → d < fuel → m < 2 ^ vK a → (∀ j, j < vK a → (m.testBit j = true ↔ rs a i k j)) → F_X1_soonest_b31 fuel v 95 (a (121 + p)) (nI m) (nI i) (Em g t) = some (soI (sof a p k (vDy a) d i), Em g t) := by
  have W := C.1
  have hK := wK2 W
  have h64 : 2 ^ vK a ≤ 64 := Nat.pow_le_pow_right (n := 2) (by decide) hK
  have hdy := wDy2 W
  have hD := wD W
  intro d
  induction d with
  | zero =>
    intro i fuel m hi hf hm hr
    obtain ⟨f, rfl⟩ : ∃ f, fuel = f + 1 := ⟨fuel - 1, by omega⟩
    have hi : i = 18 := by omega
    subst hi
    rw [F_X1_soonest_b31, if_pos (show (18 : Int32) ≤ nI 18 by decide), sof]
    rfl
  | succ d ih =>
    intro i fuel m hi hf hm hr
    obtain ⟨f, rfl⟩ : ∃ f, fuel = f + 1 := ⟨fuel - 1, by omega⟩
    have h18 : ¬ (18 : Int32) ≤ nI i := show ¬ nI 18 ≤ nI i by rw [nI_leI (by decide) (by omega)]; omega
    have hw := wn_lt W hm
    have hs := sgs_lt (a := a) (p := p) (d0 := vDy a + i)
    have hr2 : ∀ j, j < vK a → ((wn a m).testBit j = true ↔ rs a (i + 1) k j) := fun j hj => by
      rw [wn_bit hm, rs_b hk hj]
      constructor
      · rintro ⟨q, q1, q2, q3⟩; exact ⟨q, q1, (hr q q1).mp q2, q3⟩
      · rintro ⟨q, q1, q2, q3⟩; exact ⟨q, q1, (hr q q1).mpr q2, q3⟩
    have hle : wn a m &&& sgs a p (vDy a + i) ≤ wn a m := Nat.and_le_left
    have hex : (¬ wn a m &&& sgs a p (vDy a + i) = 0) ↔ ∃ j, j < vK a ∧ rs a (i + 1) k j ∧ fnd a p j (vDy a + i) = true := by
      rw [and_nz]
      constructor
      · rintro ⟨j, j1, j2⟩
        rw [sgs_bit] at j2
        exact ⟨j, j2.1, (hr2 j j2.1).mp j1, j2.2⟩
      · rintro ⟨j, j1, j2, j3⟩
        exact ⟨j, (hr2 j j1).mpr j2, sgs_bit.mpr ⟨j1, j3⟩⟩
    rw [F_X1_soonest_b31, if_neg h18, v_rc V, Option.bind_some, k_wn V C hm, Option.bind_some, x_i95_4 X, Option.bind_some, cDy_ C, v_rc V, Option.bind_some, nI_add, k_sg V C (by omega), Option.bind_some, fa_and, show nI i + 1 = nI (i + 1) from nI_add i 1, sof]
    by_cases c : wn a m &&& sgs a p (vDy a + i) = 0
    · rw [if_pos (by rw [c]; rfl), if_neg (fun h => hex.mpr h c)]
      exact ih (i + 1) f (wn a m) (by omega) (by omega) hw hr2
    · rw [if_neg (by rw [nI_z (by omega)]; exact c), if_pos (hex.mp c)]
      unfold soI
      rw [if_neg (by omega)]
theorem k_soonest (X : Fx g) (V : VaS g v) (C : CP g t v a D) (hp : p < vP a) : F_X1_soonest 163 v 95 (nI p) (Em g t) = some (fiv a p, Em g t) := by
  have W := C.1
  have hK := wK2 W
  have hP := wP2 W
  have hat := wAt2 W hp
  unfold F_X1_soonest fiv
  rw [x_rc95 X, Option.bind_some, k_found X C hp, Option.bind_some]
  cases c : (vFo a).testBit p
  · have h18 : 18 < FU := by decide
    have key := k_so_l (p := p) X V C hat 18 0 FU (2 ^ vAt a p) rfl h18 (Nat.pow_lt_pow_right (by decide) hat) (fun j _ => by
      rw [Nat.testBit_two_pow, decide_eq_true_eq]
      exact ⟨fun h => h.symm, fun (h : j = vAt a p) => h.symm⟩)
    rw [if_pos (show bI false = (0 : Int32) by decide), if_neg (by decide), x_r95_2 X, Option.bind_some, x_a98 X (by omega), Option.bind_some, cBl_ C hp, x_r95_0 X, Option.bind_some, x_a96 X (by omega), Option.bind_some, cAt_ C hp, show (1 : Int32) <<< (nI (vAt a p) &&& 31) = nI (2 ^ vAt a p) from v_pow (by omega)]
    exact key
  · rw [if_neg (show ¬ bI true = (0 : Int32) by decide), if_pos rfl]
    rfl
theorem r_findsOf (X : Fx g) (W : WA a D) (ha : tA t 184 = a) (hp : p < vP a) : ∃ t', F_X12_findsOf 183 (nI p) (Em g t) = some (fiv a p, Em g t') ∧ Ax 201 t t' ∧ ((vFo a).testBit p = false → ∀ k, k < 72 → k % 6 < vK a → tA t' 201 k = nI (sok a p k)) := by
  have hK := wK2 W
  have hP := wP2 W
  have hat := wAt2 W hp
  have hdy := wDy2 W
  have hD := wD W
  unfold F_X12_findsOf fiv
  rw [x_rc183 X, Option.bind_some, q_found X W ha hp, Option.bind_some]
  cases c : (vFo a).testBit p
  · obtain ⟨t1, e1, a1, k1⟩ := r_laysSoon X W ha hp
    have ha1 : tA t1 184 = a := by rw [a1.2.1 184 (by decide)]; exact ha
    have h107 : aI (Em g t1) 184 107 = some (nI (vDy a)) := by
      have : aI (Em g t1) 184 107 = some (tA t1 184 107) := x_a184 X (k := 107) (by decide)
      rw [this, ha1, wDy W]
    have h109 : aI (Em g t1) 184 (nI (109 + p)) = some (nI (vAt a p)) := by rw [x_a184 X (by omega), ha1, wAt W hp]
    have e12 : irm (nI (vDy a)) 12 = nI (vDy a % 12) := irm_n (b := 12) (by omega) (by decide) (by decide)
    have hix : (6 : Int32) * nI (vDy a % 12) + nI (vAt a p) = nI (6 * (vDy a % 12) + vAt a p) := by rw [show (6 : Int32) * nI (vDy a % 12) = nI (6 * (vDy a % 12)) from nI_mulN 6 _, nI_add]
    have hso : sok a p (6 * (vDy a % 12) + vAt a p) = soo a p (vAt a p) (vDy a) := by
      unfold sok
      rw [show (6 * (vDy a % 12) + vAt a p) % 6 = vAt a p by omega, show (6 * (vDy a % 12) + vAt a p) / 6 = vDy a % 12 by omega]
      exact soo_12 W hat (by omega)
    have hle := @soo_le a p (vAt a p) (vDy a)
    refine ⟨t1, ?_, a1, fun _ => k1⟩
    rw [if_pos (show bI false = (0 : Int32) by decide), if_neg (by decide), x_rc183 X, Option.bind_some, e1, Option.bind_some, x_r183_33 X, Option.bind_some, x_r183_1 X, Option.bind_some, h107, Option.bind_some, Option.bind_some, show (109 : Int32) + nI p = nI (109 + p) from nI_add 109 p, h109, Option.bind_some, e12, hix, x_a201 X (by omega), Option.bind_some, k1 _ (by omega) (by omega), hso]
    unfold soI
    by_cases c2 : soo a p (vAt a p) (vDy a) = 268435456
    · rw [if_neg (fun h => h (by rw [c2]; rfl)), if_pos c2]
      rfl
    · rw [if_pos (show ¬ nI (soo a p (vAt a p) (vDy a)) = (268435456 : Int32) from show ¬ nI (soo a p (vAt a p) (vDy a)) = nI 268435456 by rw [nI_eq (by omega) (by decide)]; exact c2), if_neg c2]
  · refine ⟨t, ?_, Ax_r, fun h => by cases h⟩
    rw [if_neg (show ¬ bI true = (0 : Int32) by decide), if_pos rfl]
    rfl
theorem Sm_201 (h : Ax 201 t t') : Sm g t t' := Ax_m (sc_f rfl) h
theorem ok_finds (I : IV g t v a D n nx) (hD : D + 100 < 2 ^ 30) (x : Int32) : Okc (F_X11_finds 69 x) (F_X12_finds 183 x) g t D := by
  have X := I.1
  have C := I.2.2.1
  have W := C.1
  have V := C.2.1
  have hw0 : ∀ t, wI (Em g t) 183 11 0 0 = some (Em g (wi t 183 0 (nI 0))) := fun t => x_w183_0 X
  have ha0 : tA (wi t 183 0 (nI 0)) 184 = a := I.2.1
  have qp : F_X12_isPerson 183 x.toInt64 (Em g (wi t 183 0 (nI 0))) = some (bI (okx x (vP a)), Em g (wi t 183 0 (nI 0))) := by
    rw [q_person X W ha0, lg_wide]; rfl
  rcases okx_c x (vP a) (by have := wP2 W; omega) with hx | ⟨hx, i, hi, rfl⟩
  · refine ok_0 (r := -nI 2) (t1 := t) (t2 := wi t 183 0 (nI 0)) I hD ?_ ?_ Sm_r (Sm_wi (a := 183) (k := 0) rfl Sm_r)
    · unfold F_X11_finds
      rw [c_r69 X C.2.2.2.1, Option.bind_some, v_rc V, Option.bind_some, k_person V C, Option.bind_some, hx, if_pos (show bI false = (0 : Int32) by decide)]
      rfl
    · unfold F_X12_finds
      rw [hw0, Option.bind_some, x_rc183 X, Option.bind_some, qp, Option.bind_some, hx, if_pos (show bI false = (0 : Int32) by decide)]
      rfl
  · obtain ⟨t2, e2, a2, _⟩ := r_findsOf X W ha0 hi
    refine ok_0 (r := fiv a i) (t1 := t) (t2 := t2) I hD ?_ ?_ Sm_r (Sm_t (Sm_wi (a := 183) (k := 0) rfl Sm_r) (Sm_201 a2))
    · unfold F_X11_finds
      rw [c_r69 X C.2.2.2.1, Option.bind_some, v_rc V, Option.bind_some, k_person V C, Option.bind_some, hx, if_neg (show ¬ bI true = (0 : Int32) by decide), x_r69_11 X, Option.bind_some, c_r69 X C.2.2.2.1, Option.bind_some, x_r69_2 X, Option.bind_some, x_rc163 X, Option.bind_some, k_soonest X V C hi, Option.bind_some]
    · unfold F_X12_finds
      rw [hw0, Option.bind_some, x_rc183 X, Option.bind_some, qp, Option.bind_some, hx, if_neg (show ¬ bI true = (0 : Int32) by decide), x_rc183 X, Option.bind_some, e2, Option.bind_some]
noncomputable def alz (a : Nat → Int32) : Nat → Nat → Int32 → Int32
  | 0, _, x => x
  | d + 1, k, x => alz a d (k + 1) (if x < fiv a k then fiv a k else x)
theorem k_all_l (X : Fx g) (V : VaS g v) (C : CP g t v a D) : ∀ (d k fuel : Nat) (x : Int32), k + d = vP a → d < fuel → F_X11_all_b4 fuel 69 x (nI k) (Em g t) = some (alz a d k x, Em g t) := by
  have hP := wP2 C.1
  intro d
  induction d with
  | zero =>
    intro k fuel x hk hf
    obtain ⟨f, rfl⟩ : ∃ f, fuel = f + 1 := ⟨fuel - 1, by omega⟩
    have hk : k = vP a := by omega
    subst hk
    rw [F_X11_all_b4, c_r69 X C.2.2.2.1, Option.bind_some, v_i4 V, Option.bind_some, vP_ C, if_pos (by rw [nI_leI (by omega) (by omega)]; exact Nat.le_refl _)]
    rfl
  | succ d ih =>
    intro k fuel x hk hf
    obtain ⟨f, rfl⟩ : ∃ f, fuel = f + 1 := ⟨fuel - 1, by omega⟩
    have hmax : ∀ h : xH, F_J9_max_7cf53 x (fiv a k) h = some (if x < fiv a k then fiv a k else x, h) := fun h => by
      unfold F_J9_max_7cf53
      split <;> rfl
    rw [F_X11_all_b4, c_r69 X C.2.2.2.1, Option.bind_some, v_i4 V, Option.bind_some, vP_ C, if_neg (by rw [nI_leI (by omega) (by omega)]; omega), x_r69_11 X, Option.bind_some, Option.bind_some, x_r69_2 X, Option.bind_some, x_rc163 X, Option.bind_some, k_soonest X V C (by omega), Option.bind_some, hmax, Option.bind_some, show nI k + 1 = nI (k + 1) from nI_add k 1, alz]
    exact ih (k + 1) f _ (by omega) (by omega)
theorem r_alz_l (X : Fx g) (W : WA a D) : ∀ (d k fuel : Nat) (x : Int32) (t : Tb), k + d = vP a → d < fuel → tA t 184 = a → ∃ t', F_X12_all_b9 fuel 183 x (nI k) (Em g t) = some (alz a d k x, Em g t') ∧ Ax 201 t t' := by
  have hP := wP2 W
  have h4 : ∀ t, tA t 184 = a → aI (Em g t) 184 4 = some (nI (vP a)) := fun t ha => by
    have : aI (Em g t) 184 4 = some (tA t 184 4) := x_a184 X (k := 4) (by decide)
    rw [this, ha, wP W]
  intro d
  induction d with
  | zero =>
    intro k fuel x t hk hf ha
    obtain ⟨f, rfl⟩ : ∃ f, fuel = f + 1 := ⟨fuel - 1, by omega⟩
    have hk : k = vP a := by omega
    subst hk
    refine ⟨t, ?_, Ax_r⟩
    rw [F_X12_all_b9, x_r183_1 X, Option.bind_some, h4 t ha, Option.bind_some, if_pos (by rw [nI_leI (by omega) (by omega)]; exact Nat.le_refl _)]
    rfl
  | succ d ih =>
    intro k fuel x t hk hf ha
    obtain ⟨f, rfl⟩ : ∃ f, fuel = f + 1 := ⟨fuel - 1, by omega⟩
    obtain ⟨t1, e1, a1, _⟩ := r_findsOf X W ha (show k < vP a by omega)
    have ha1 : tA t1 184 = a := by rw [a1.2.1 184 (by decide)]; exact ha
    obtain ⟨t2, e2, a2, _⟩ := r_findsOf X W ha1 (show k < vP a by omega)
    have ha2 : tA t2 184 = a := by rw [a2.2.1 184 (by decide)]; exact ha1
    by_cases c : fiv a k ≤ x
    · obtain ⟨t3, e3, a3⟩ := ih (k + 1) f x t1 (by omega) (by omega) ha1
      refine ⟨t3, ?_, Ax_t a1 a3⟩
      rw [F_X12_all_b9, x_r183_1 X, Option.bind_some, h4 t ha, Option.bind_some, if_neg (by rw [nI_leI (by omega) (by omega)]; omega), x_rc183 X, Option.bind_some, e1, Option.bind_some, if_pos c, show nI k + 1 = nI (k + 1) from nI_add k 1, alz, if_neg (fun h => absurd c (Int32.not_le.mpr h))]
      exact e3
    · obtain ⟨t3, e3, a3⟩ := ih (k + 1) f (fiv a k) t2 (by omega) (by omega) ha2
      refine ⟨t3, ?_, Ax_t a1 (Ax_t a2 a3)⟩
      rw [F_X12_all_b9, x_r183_1 X, Option.bind_some, h4 t ha, Option.bind_some, if_neg (by rw [nI_leI (by omega) (by omega)]; omega), x_rc183 X, Option.bind_some, e1, Option.bind_some, if_neg c, x_rc183 X, Option.bind_some, e2, Option.bind_some, show nI k + 1 = nI (k + 1) from nI_add k 1, alz, if_pos (Int32.not_le.mp c)]
      exact e3
theorem ok_all (I : IV g t v a D n nx) (hD : D + 100 < 2 ^ 30) : Okc (F_X11_all 69) (F_X12_all 183) g t D := by
  have X := I.1
  have C := I.2.2.1
  have W := C.1
  have hP := wP2 W
  have hfu : vP a < FU := by show vP a < 1000000; omega
  have ha0 : tA (wi t 183 0 (nI 0)) 184 = a := I.2.1
  have hw0 : ∀ t, wI (Em g t) 183 11 0 0 = some (Em g (wi t 183 0 (nI 0))) := fun t => x_w183_0 X
  have e1 := k_all_l X C.2.1 C (vP a) 0 FU 0 (by omega) hfu
  obtain ⟨t2, e2, a2⟩ := r_alz_l X W (vP a) 0 FU 0 (wi t 183 0 (nI 0)) (by omega) hfu ha0
  refine ok_0 (r := alz a (vP a) 0 0) (t1 := t) (t2 := t2) I hD e1 ?_ Sm_r (Sm_t (Sm_wi (a := 183) (k := 0) rfl Sm_r) (Sm_201 a2))
  unfold F_X12_all
  rw [hw0, Option.bind_some]
  exact e2
/-! near -/
theorem k_nr_l (X : Fx g) (V : VaS g v) (C : CP g t v a D) (hp : p < vP a) {n0 : Nat} (hn0 : n0 ≤ 99) : ∀ (i fuel m : Nat), i ≤ n0 → i < fuel → m < 2 ^ vK a → (∀ k, k < vK a → (m.testBit k = true ↔ Rn a p (n0 - i) k (vDy a + i))) → ∃ m', m' < 2 ^ vK a ∧ F_X1_placesWithin_b26 fuel v 95 (nI p) (nI m) (nI i - 1) (Em g t) = some (nI m', Em g t) ∧ ∀ k, k < vK a → (m'.testBit k = true ↔ Rn a p n0 k (vDy a)) := by
  have W := C.1
  have hK := wK2 W
  have hP := wP2 W
  have hdy := wDy2 W
  have hD := wD W
  intro i
  induction i with
  | zero =>
    intro fuel m hi hf hm hr
    obtain ⟨f, rfl⟩ : ∃ f, fuel = f + 1 := ⟨fuel - 1, by omega⟩
    refine ⟨m, hm, ?_, hr⟩
    rw [F_X1_placesWithin_b26, if_pos (by decide)]
  | succ i ih =>
    intro fuel m hi hf hm hr
    obtain ⟨f, rfl⟩ : ∃ f, fuel = f + 1 := ⟨fuel - 1, by omega⟩
    have e0 : nI (i + 1) - 1 = nI i := nI_sub (b := 1) (by omega)
    have h0 : ¬ nI i < 0 := show ¬ nI i < nI 0 by rw [nI_ltI (by omega) (by decide)]; omega
    have hu : m ||| sgs a p (vDy a + i) < 2 ^ vK a := Nat.or_lt_two_pow hm sgs_lt
    obtain ⟨m', h1, h2, h3⟩ := ih f (wn a (m ||| sgs a p (vDy a + i))) (by omega) (by omega) (wn_lt W hu) (fun k hk => by
      rw [wn_bit hu, show n0 - i = (n0 - (i + 1)) + 1 by omega, Rn_s]
      constructor
      · rintro ⟨q, q1, q2, q3⟩
        refine ⟨q, q1, by rw [can_sym W hk q1]; exact q3, ?_⟩
        rw [Nat.testBit_or, Bool.or_eq_true] at q2
        rcases q2 with q2 | q2
        · exact Or.inr ((hr q q1).mp q2)
        · exact Or.inl (sgs_bit.mp q2).2
      · rintro ⟨q, q1, q2, q3⟩
        refine ⟨q, q1, ?_, by rw [can_sym W q1 hk]; exact q2⟩
        rw [Nat.testBit_or, Bool.or_eq_true]
        rcases q3 with q3 | q3
        · exact Or.inr (sgs_bit.mpr ⟨q1, q3⟩)
        · exact Or.inl ((hr q q1).mpr q3))
    refine ⟨m', h1, ?_, h3⟩
    rw [F_X1_placesWithin_b26, e0, if_neg h0, x_r95_2 X, Option.bind_some, x_a98 X (by omega), Option.bind_some, cBl_ C hp, x_i95_4 X, Option.bind_some, cDy_ C, v_rc V, Option.bind_some, nI_add, k_sg V C (by omega), Option.bind_some, v_rc V, Option.bind_some, fa_or, k_wn V C hu, Option.bind_some, nI_mm]
    exact h2
noncomputable def nrs (a : Nat → Int32) (p n0 k : Nat) : Bool := (vFo a).testBit p || @decide (soo a p k (vDy a) ≤ n0) (Nat.decLe _ _)
theorem k_near (X : Fx g) (V : VaS g v) (C : CP g t v a D) (hp : p < vP a) {n0 : Nat} (h1 : 1 ≤ n0) (hn0 : n0 ≤ 99) : F_X1_placesWithin 163 v 95 (nI p) (nI n0) (Em g t) = some (nI (mk (nrs a p n0) (vK a)), Em g t) := by
  have W := C.1
  have hK := wK2 W
  unfold F_X1_placesWithin
  rw [x_rc95 X, Option.bind_some, k_found X C hp, Option.bind_some]
  cases c : (vFo a).testBit p
  · have hfu : n0 < FU := by show n0 < 1000000; omega
    obtain ⟨m', q1, q2, q3⟩ := k_nr_l X V C hp hn0 n0 FU 0 (Nat.le_refl _) hfu (Nat.two_pow_pos _) (fun k hk => by
      rw [Nat.sub_self]
      exact ⟨fun h => absurd h (by simp), fun ⟨i, hi, _⟩ => absurd hi (by omega)⟩)
    have hm : m' = mk (nrs a p n0) (vK a) := mk_ext q1 (mk_lt _ _) (fun k hk => by
      rw [mk_bit, decide_eq_true hk, Bool.true_and]
      unfold nrs
      rw [c, Bool.false_or]
      by_cases h : soo a p k (vDy a) ≤ n0
      · rw [decide_eq_true h]
        exact (q3 k hk).mpr ((soo_iff W hk (by omega)).mp h)
      · rw [decide_eq_false h]
        cases e : m'.testBit k
        · rfl
        · exact absurd ((soo_iff W hk (by omega)).mpr ((q3 k hk).mp e)) h)
    rw [if_pos (show bI false = (0 : Int32) by decide), ← hm]
    exact q2
  · have hall : mk (nrs a p n0) (vK a) = 2 ^ vK a - 1 := by
      rw [← mk_all (vK a)]
      congr 1
      funext k
      unfold nrs
      rw [c, Bool.true_or]
    have hpos : 0 < 2 ^ vK a := Nat.two_pow_pos _
    rw [if_neg (show ¬ bI true = (0 : Int32) by decide), v_i3 V, Option.bind_some, vK_ C, show (1 : Int32) <<< (nI (vK a) &&& 31) = nI (2 ^ vK a) from v_pow (by omega), hall, show nI (2 ^ vK a) - 1 = nI (2 ^ vK a - 1) from nI_sub (b := 1) (by omega)]
theorem r_nr_l (X : Fx g) (W : WA a D) (ha : tA t 184 = a) (hp : p < vP a) {n0 : Nat} (hn0 : n0 ≤ 99) (hT : ∀ k, k < 72 → k % 6 < vK a → tA t 201 k = nI (sok a p k)) : ∀ (d k fuel : Nat), k + d = vK a → d < fuel → F_X12_near_b42 fuel 183 (nI p) (nI n0) (nI (mk (nrs a p n0) k)) (nI k) (Em g t) = some (nI (mk (nrs a p n0) (vK a)), Em g t) := by
  have hK := wK2 W
  have hdy := wDy2 W
  have hD := wD W
  have h3 : aI (Em g t) 184 3 = some (nI (vK a)) := by
    have : aI (Em g t) 184 3 = some (tA t 184 3) := x_a184 X (k := 3) (by decide)
    rw [this, ha, wK W]
  have h107 : aI (Em g t) 184 107 = some (nI (vDy a)) := by
    have : aI (Em g t) 184 107 = some (tA t 184 107) := x_a184 X (k := 107) (by decide)
    rw [this, ha, wDy W]
  have e12 : irm (nI (vDy a)) 12 = nI (vDy a % 12) := irm_n (b := 12) (by omega) (by decide) (by decide)
  intro d
  induction d with
  | zero =>
    intro k fuel hk hf
    obtain ⟨f, rfl⟩ : ∃ f, fuel = f + 1 := ⟨fuel - 1, by omega⟩
    have hk : k = vK a := by omega
    subst hk
    rw [F_X12_near_b42, x_r183_1 X, Option.bind_some, h3, Option.bind_some, if_pos (by rw [nI_leI (by omega) (by omega)]; exact Nat.le_refl _)]
  | succ d ih =>
    intro k fuel hk hf
    obtain ⟨f, rfl⟩ : ∃ f, fuel = f + 1 := ⟨fuel - 1, by omega⟩
    have hi := ih (k + 1) f (by omega) (by omega)
    have hix : (6 : Int32) * nI (vDy a % 12) + nI k = nI (6 * (vDy a % 12) + k) := by rw [show (6 : Int32) * nI (vDy a % 12) = nI (6 * (vDy a % 12)) from nI_mulN 6 _, nI_add]
    have hso : sok a p (6 * (vDy a % 12) + k) = soo a p k (vDy a) := by
      unfold sok
      rw [show (6 * (vDy a % 12) + k) % 6 = k by omega, show (6 * (vDy a % 12) + k) / 6 = vDy a % 12 by omega]
      exact soo_12 W (by omega) (by omega)
    have hle := @soo_le a p k (vDy a)
    have yes : nrs a p n0 k = true → F_X12_near_b87 (F_X12_near_b42 f) 183 (nI p) (nI n0) (nI k) (nI (mk (nrs a p n0) k)) (Em g t) = some (nI (mk (nrs a p n0) (vK a)), Em g t) := fun h => by
      unfold F_X12_near_b87 F_X12_near_b95
      rw [show (1 : Int32) <<< (nI k &&& 31) = nI (2 ^ k) from v_pow (by omega), s_or1 h, show nI k + 1 = nI (k + 1) from nI_add k 1]
      exact hi
    rw [F_X12_near_b42, x_r183_1 X, Option.bind_some, h3, Option.bind_some, if_neg (by rw [nI_leI (by omega) (by omega)]; omega), x_rc183 X, Option.bind_some, q_found X W ha hp, Option.bind_some]
    cases c : (vFo a).testBit p
    · rw [if_neg (show ¬ ¬ bI false = (0 : Int32) by decide), x_r183_33 X, Option.bind_some, x_r183_1 X, Option.bind_some, h107, Option.bind_some, e12, hix, x_a201 X (by omega), Option.bind_some, hT _ (by omega) (by omega), hso]
      by_cases h : soo a p k (vDy a) ≤ n0
      · rw [if_neg (by rw [nI_ltI (by omega) (by omega)]; omega)]
        exact yes (by unfold nrs; rw [c, Bool.false_or, decide_eq_true h])
      · have hno : nrs a p n0 k = false := by unfold nrs; rw [c, Bool.false_or, decide_eq_false h]
        rw [if_pos (by rw [nI_ltI (by omega) (by omega)]; omega)]
        unfold F_X12_near_b95
        rw [show (0 : Int32) = nI 0 from rfl, s_or0 hno, show nI k + 1 = nI (k + 1) from nI_add k 1]
        exact hi
    · rw [if_pos (show ¬ bI true = (0 : Int32) by decide)]
      exact yes (by unfold nrs; rw [c, Bool.true_or])
end XFi
