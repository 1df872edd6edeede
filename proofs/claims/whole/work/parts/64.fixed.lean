/-! ===== the fixed skeleton of the store, the state, the rules on both: written by a program ===== -/
abbrev Sk : Type := (Nat × (Nat → Int32)) × Nat × (Nat → Nat) × (Nat → Nat) × (Nat → Nat → Option Nat) × (Nat → Nat → Option Nat)
abbrev Tb : Type := (Nat → Nat → Int32) × (Nat → Nat → Int32) × (Nat → Nat → Int64)
def gn (g : Sk) : Nat := g.2.1
def gS (g : Sk) : Nat → Nat := g.2.2.1
def gN (g : Sk) : Nat → Nat := g.2.2.2.1
def gR (g : Sk) : Nat → Nat → Option Nat := g.2.2.2.2.1
def gQ (g : Sk) : Nat → Nat → Option Nat := g.2.2.2.2.2
def tI (t : Tb) : Nat → Nat → Int32 := t.1
def tA (t : Tb) : Nat → Nat → Int32 := t.2.1
def tJ (t : Tb) : Nat → Nat → Int64 := t.2.2
def Em (g : Sk) (t : Tb) : xH := E g.1 (gn g) (gS g) (gN g) (tI t) (tA t) (tJ t) (gR g) (gQ g)
def wi (t : Tb) (a k : Nat) (x : Int32) : Tb := (up2 (tI t) a k x, tA t, tJ t)
def wa (t : Tb) (b k : Nat) (x : Int32) : Tb := (tI t, up1 (tA t) b (upd (tA t b) k x), tJ t)
def wj (t : Tb) (b k : Nat) (x : Int64) : Tb := (tI t, tA t, up1 (tJ t) b (vp_updL (tJ t b) k x))
/-- a whole int row anew -/
def wr (t : Tb) (b : Nat) (f : Nat → Int32) : Tb := (tI t, up1 (tA t) b f, tJ t)
def wq (t : Tb) (b : Nat) (f : Nat → Int64) : Tb := (tI t, tA t, up1 (tJ t) b f)
theorem tI_wa {t : Tb} {b k : Nat} {x : Int32} : tI (wa t b k x) = tI t := rfl
theorem tI_wj {t : Tb} {b k : Nat} {x : Int64} : tI (wj t b k x) = tI t := rfl
theorem tI_wr {t : Tb} {b : Nat} {f : Nat → Int32} : tI (wr t b f) = tI t := rfl
theorem tI_wq {t : Tb} {b : Nat} {f : Nat → Int64} : tI (wq t b f) = tI t := rfl
theorem tA_wi {t : Tb} {a k : Nat} {x : Int32} : tA (wi t a k x) = tA t := rfl
theorem tA_wj {t : Tb} {b k : Nat} {x : Int64} : tA (wj t b k x) = tA t := rfl
theorem tA_wq {t : Tb} {b : Nat} {f : Nat → Int64} : tA (wq t b f) = tA t := rfl
theorem tJ_wi {t : Tb} {a k : Nat} {x : Int32} : tJ (wi t a k x) = tJ t := rfl
theorem tJ_wa {t : Tb} {b k : Nat} {x : Int32} : tJ (wa t b k x) = tJ t := rfl
theorem tJ_wr {t : Tb} {b : Nat} {f : Nat → Int32} : tJ (wr t b f) = tJ t := rfl
theorem tI_is {t : Tb} {a k : Nat} {x : Int32} : tI (wi t a k x) a k = x := up2_s
theorem tI_ia {t : Tb} {a k b j : Nat} {x : Int32} (h : b ≠ a) : tI (wi t a k x) b j = tI t b j := up2_a h
theorem tI_ik {t : Tb} {a k b j : Nat} {x : Int32} (h : j ≠ k) : tI (wi t a k x) b j = tI t b j := up2_k h
theorem tA_as {t : Tb} {b k : Nat} {x : Int32} : tA (wa t b k x) b = upd (tA t b) k x := up1_s
theorem tA_an {t : Tb} {b c k : Nat} {x : Int32} (h : c ≠ b) : tA (wa t b k x) c = tA t c := up1_n h
theorem tA_rs {t : Tb} {b : Nat} {f : Nat → Int32} : tA (wr t b f) b = f := up1_s
theorem tA_rn {t : Tb} {b c : Nat} {f : Nat → Int32} (h : c ≠ b) : tA (wr t b f) c = tA t c := up1_n h
theorem tJ_js {t : Tb} {b k : Nat} {x : Int64} : tJ (wj t b k x) b = vp_updL (tJ t b) k x := up1_s
theorem tJ_jn {t : Tb} {b c k : Nat} {x : Int64} (h : c ≠ b) : tJ (wj t b k x) c = tJ t c := up1_n h
theorem tJ_ls {t : Tb} {b : Nat} {f : Nat → Int64} : tJ (wq t b f) b = f := up1_s
theorem tJ_ln {t : Tb} {b c : Nat} {f : Nat → Int64} (h : c ≠ b) : tJ (wq t b f) c = tJ t c := up1_n h
def S0 (a : Nat) : Nat := ([11, 4, 22, 20, 70, 31, 31, 31, 31, 31, 31, 66, 31, 31, 31, 70, 31, 31, 31, 31, 31, 31, 66, 31, 31, 31, 6, 20, 20, 20, 6, 20, 20, 20, 2, 25, 6, 20, 20, 20, 6, 20, 20, 20, 6, 20, 20, 20, 6, 20, 20, 20, 6, 20, 20, 20, 6, 20, 20, 20, 6, 20, 20, 20, 6, 20, 20, 20, 6, 20, 20, 20, 6, 20, 20, 20, 26, 27, 25, 9, 20, 20, 20, 23, 7, 20, 20, 20, 5, 20, 20, 20, 21, 21, 1, 20, 21, 21, 8, 21, 8, 21, 8, 21, 8, 21, 6, 20, 20, 20, 6, 20, 20, 20, 12, 20, 24, 20, 20, 20, 20, 20, 20, 20, 20, 20, 20, 20, 20, 20, 21, 21, 20, 20, 20, 21] : List Nat).getD (a - 69) 0
def N0 (a : Nat) : Nat := ([0, 0, 900, 900, 0, 54, 6, 24, 6, 6, 10, 0, 6, 6, 6, 0, 54, 6, 24, 6, 6, 10, 0, 6, 6, 6, 0, 6, 6, 6, 0, 6, 6, 6, 0, 10, 0, 6, 6, 6, 0, 6, 6, 6, 0, 6, 6, 6, 0, 6, 6, 6, 0, 6, 6, 6, 0, 6, 6, 6, 0, 6, 6, 6, 0, 6, 6, 6, 0, 6, 6, 6, 0, 6, 6, 6, 4, 2, 2, 0, 11, 11, 10, 2048, 0, 6, 384, 64, 0, 82, 1024, 100, 10, 10, 0, 18, 6, 6, 0, 40, 0, 40, 0, 40, 0, 40, 0, 6, 6, 6, 0, 6, 6, 6, 0, 3687, 2, 900, 1229, 900, 8, 20, 10, 2048, 6, 6, 6, 64, 11264, 64, 12, 12, 72, 4, 4, 160] : List Nat).getD (a - 69) 0
/-- where a fixed reference field points; 0: it may change -/
def R0 (a k : Nat) : Nat := (([[70, 0, 95, 99, 103, 145, 146, 147, 148, 153, 157, 163], [71, 0, 72, 0, 0, 0, 0, 0, 0, 0, 0, 0, 0], [], [], [0, 0, 0, 0, 0, 74, 75, 76, 77, 78, 79, 80, 0, 0], [], [], [], [], [], [], [81, 82, 83, 0, 0], [], [], [], [0, 0, 0, 0, 0, 85, 86, 87, 88, 89, 90, 91, 0, 0], [], [], [], [], [], [], [92, 93, 94, 0, 0], [], [], [], [96, 97, 98, 0, 0], [], [], [], [100, 101, 102, 0, 0], [], [], [], [104, 0, 0], [], [106, 107, 108, 0, 0], [], [], [], [110, 111, 112, 0, 0], [], [], [], [114, 115, 116, 0, 0], [], [], [], [118, 119, 120, 0, 0], [], [], [], [122, 123, 124, 0, 0], [], [], [], [126, 127, 128, 0, 0], [], [], [], [130, 131, 132, 0, 0], [], [], [], [134, 135, 136, 0, 0], [], [], [], [138, 139, 140, 0, 0], [], [], [], [142, 143, 144, 0, 0], [], [], [], [], [], [], [0, 149, 150, 0, 151, 152], [], [], [], [], [0, 0, 154, 155, 156], [], [], [], [158, 0, 159, 160, 0, 161, 162], [], [], [], [], [], [164, 165, 166], [], [], [], [168, 0, 0], [], [170, 0, 0], [], [172, 0, 0], [], [174, 0, 0], [], [176, 177, 178, 0, 0], [], [], [], [180, 181, 182, 0, 0], [], [], [], [0, 184, 185, 186, 187, 0, 0, 0, 0, 0, 0, 0, 0, 0, 0, 0, 188, 189, 190, 0, 0, 191, 192, 193, 194, 195, 0, 196, 197, 198, 0, 199, 200, 201, 202, 203, 204], [], [], [], [], [], [], [], [], [], [], [], [], [], [], [], [], [], [], [], [], []] : List (List Nat)).getD (a - 69) []).getD k 0
def Fx (g : Sk) : Prop := (∀ a, 69 ≤ a → a < 205 → gS g a = S0 a ∧ gN g a = N0 a) ∧ (∀ a k, 69 ≤ a → a < 205 → R0 a k ≠ 0 → gR g a k = some (R0 a k)) ∧ (∀ i, i < 10 → gQ g 104 i = some (105 + 4 * i)) ∧ (∀ i, i < 4 → gQ g 145 i = some (167 + 2 * i)) ∧ (∀ i, i < 2 → gQ g 147 i = some (175 + 4 * i)) ∧ 205 ≤ gn g ∧ (gR g 157 4 = none ∨ ∃ m, gR g 157 4 = some m ∧ 205 ≤ m ∧ m < gn g ∧ gS g m = 33 ∧ gN g m = 10240)
section XFx
variable {g : Sk} {t : Tb}
theorem x_S (X : Fx g) {a : Nat} (s : Nat) (h : decide (69 ≤ a ∧ a < 205 ∧ S0 a = s) = true) : gS g a = s := by
  obtain ⟨h1, h2, h3⟩ := of_decide_eq_true h
  rw [(X.1 a h1 h2).1, h3]
theorem x_N (X : Fx g) {a : Nat} (s : Nat) (h : decide (69 ≤ a ∧ a < 205 ∧ N0 a = s) = true) : gN g a = s := by
  obtain ⟨h1, h2, h3⟩ := of_decide_eq_true h
  rw [(X.1 a h1 h2).2, h3]
theorem x_R (X : Fx g) {a k b : Nat} (h : decide (69 ≤ a ∧ a < 205 ∧ R0 a k = b ∧ b ≠ 0) = true) : gR g a k = some b := by
  obtain ⟨h1, h2, h3, h4⟩ := of_decide_eq_true h
  rw [X.2.1 a k h1 h2 (by rw [h3]; exact h4), h3]
/-- the rules by shape, for cells anywhere -/
theorem y_fI {a ci k : Nat} (hs : oc ci (gS g a)) (ha : 69 ≤ a) (hc : ci < 12) (hk : (lay ci)[k]? = some 0) : fI (Em g t) a ci k = some (tI t a k) := E_fI ha hc hk hs
theorem y_wI {a ci k : Nat} {x : Int32} (hs : oc ci (gS g a)) (ha : 69 ≤ a) (hc : ci < 12) (hk : (lay ci)[k]? = some 0) : wI (Em g t) a ci k x = some (Em g (wi t a k x)) := E_wI ha hc hk hs
theorem y_fR {a ci k b : Nat} (hs : oc ci (gS g a)) (hr : gR g a k = some b) (ha : 69 ≤ a) (hc : ci < 12) (hk : (lay ci)[k]? = some 1) : fR (Em g t) a ci k = some b := E_fR ha hc hk hs hr
theorem y_fQ {a ci k : Nat} {b : Option Nat} (hs : oc ci (gS g a)) (hr : gR g a k = b) (ha : 69 ≤ a) (hc : ci < 12) (hk : (lay ci)[k]? = some 1) : fQ (Em g t) a ci k = some b := by rw [← hr]; exact E_fQ ha hc hk hs
theorem y_rc {a ci : Nat} (hs : oc ci (gS g a)) (ha : 69 ≤ a) (hc : ci < 12) : rc (Em g t) a ci = some () := E_rc ha hc hs
theorem y_aI {a m k : Nat} (hs : ic (gS g a)) (hn : gN g a = m) (ha : 69 ≤ a) (hm : m < 2 ^ 31) (hk : k < m) : aI (Em g t) a (nI k) = some (tA t a k) := by
  have h := E_aI (sc := g.1) (n := gn g) (S := gS g) (N := gN g) (I := tI t) (A := tA t) (J := tJ t) (R := gR g) (Q := gQ g) (a := a) (i := nI k) ha hs (by rw [hn]; exact nI_in hk hm)
  rw [nI_clamp (by omega)] at h
  exact h
theorem y_sI {a m k : Nat} {x : Int32} (hs : ic (gS g a)) (hn : gN g a = m) (ha : 69 ≤ a) (hm : m < 2 ^ 31) (hk : k < m) : sI (Em g t) a (nI k) x = some (Em g (wa t a k x)) := by
  have h := E_sI (sc := g.1) (n := gn g) (S := gS g) (N := gN g) (I := tI t) (A := tA t) (J := tJ t) (R := gR g) (Q := gQ g) (a := a) (i := nI k) (x := x) ha hs (by rw [hn]; exact nI_in hk hm)
  rw [nI_clamp (by omega)] at h
  exact h
theorem y_aJ {a m k : Nat} (hs : gS g a = 21) (hn : gN g a = m) (ha : 69 ≤ a) (hm : m < 2 ^ 31) (hk : k < m) : aJ (Em g t) a (nI k) = some (tJ t a k) := by
  have h := E_aJ (sc := g.1) (n := gn g) (S := gS g) (N := gN g) (I := tI t) (A := tA t) (J := tJ t) (R := gR g) (Q := gQ g) (a := a) (i := nI k) ha hs (by rw [hn]; exact nI_in hk hm)
  rw [nI_clamp (by omega)] at h
  exact h
theorem y_sJ {a m k : Nat} {x : Int64} (hs : gS g a = 21) (hn : gN g a = m) (ha : 69 ≤ a) (hm : m < 2 ^ 31) (hk : k < m) : sJ (Em g t) a (nI k) x = some (Em g (wj t a k x)) := by
  have h := E_sJ (sc := g.1) (n := gn g) (S := gS g) (N := gN g) (I := tI t) (A := tA t) (J := tJ t) (R := gR g) (Q := gQ g) (a := a) (i := nI k) (x := x) ha hs (by rw [hn]; exact nI_in hk hm)
  rw [nI_clamp (by omega)] at h
  exact h
theorem y_aB {a m k : Nat} (hs : gS g a = 23 ∨ gS g a = 24) (hn : gN g a = m) (ha : 69 ≤ a) (hm : m < 2 ^ 31) (hk : k < m) : aB (Em g t) a (nI k) = some (tA t a k) := by
  have h := E_aB (sc := g.1) (n := gn g) (S := gS g) (N := gN g) (I := tI t) (A := tA t) (J := tJ t) (R := gR g) (Q := gQ g) (a := a) (i := nI k) ha hs (by rw [hn]; exact nI_in hk hm)
  rw [nI_clamp (by omega)] at h
  exact h
theorem y_sB {a m k : Nat} {x : Int32} (hs : gS g a = 23) (hn : gN g a = m) (ha : 69 ≤ a) (hm : m < 2 ^ 31) (hk : k < m) : sB (Em g t) a (nI k) x = some (Em g (wa t a k (vp_nar .byte x))) := by
  have h := E_sB (sc := g.1) (n := gn g) (S := gS g) (N := gN g) (I := tI t) (A := tA t) (J := tJ t) (R := gR g) (Q := gQ g) (a := a) (i := nI k) (x := x) ha hs (by rw [hn]; exact nI_in hk hm)
  rw [nI_clamp (by omega)] at h
  exact h
theorem y_sZ {a m k : Nat} {x : Int32} (hs : gS g a = 24) (hn : gN g a = m) (ha : 69 ≤ a) (hm : m < 2 ^ 31) (hk : k < m) : sB (Em g t) a (nI k) x = some (Em g (wa t a k (vp_nar .boolean x))) := by
  have h := E_sZ (sc := g.1) (n := gn g) (S := gS g) (N := gN g) (I := tI t) (A := tA t) (J := tJ t) (R := gR g) (Q := gQ g) (a := a) (i := nI k) (x := x) ha hs (by rw [hn]; exact nI_in hk hm)
  rw [nI_clamp (by omega)] at h
  exact h
theorem y_aC {a m k : Nat} (hs : gS g a = 22) (hn : gN g a = m) (ha : 69 ≤ a) (hm : m < 2 ^ 31) (hk : k < m) : aC (Em g t) a (nI k) = some (tA t a k) := by
  have h := E_aC (sc := g.1) (n := gn g) (S := gS g) (N := gN g) (I := tI t) (A := tA t) (J := tJ t) (R := gR g) (Q := gQ g) (a := a) (i := nI k) ha hs (by rw [hn]; exact nI_in hk hm)
  rw [nI_clamp (by omega)] at h
  exact h
theorem y_sC {a m k : Nat} {x : Int32} (hs : gS g a = 22) (hn : gN g a = m) (ha : 69 ≤ a) (hm : m < 2 ^ 31) (hk : k < m) : sC (Em g t) a (nI k) x = some (Em g (wa t a k (vp_nar .char x))) := by
  have h := E_sC (sc := g.1) (n := gn g) (S := gS g) (N := gN g) (I := tI t) (A := tA t) (J := tJ t) (R := gR g) (Q := gQ g) (a := a) (i := nI k) (x := x) ha hs (by rw [hn]; exact nI_in hk hm)
  rw [nI_clamp (by omega)] at h
  exact h
theorem y_aR {a m k b : Nat} (hs : gS g a = 25 ∨ gS g a = 26 ∨ gS g a = 27) (hn : gN g a = m) (hq : gQ g a k = some b) (ha : 69 ≤ a) (hm : m < 2 ^ 31) (hk : k < m) : aR (Em g t) a (nI k) = some b := by
  have h := E_aR (sc := g.1) (n := gn g) (S := gS g) (N := gN g) (I := tI t) (A := tA t) (J := tJ t) (R := gR g) (Q := gQ g) (a := a) (b := b) (i := nI k) ha hs (by rw [hn]; exact nI_in hk hm) (by rw [nI_clamp (by omega)]; exact hq)
  exact h
theorem y_aQ {a m k : Nat} (hs : gS g a = 25 ∨ gS g a = 26 ∨ gS g a = 27) (hn : gN g a = m) (ha : 69 ≤ a) (hm : m < 2 ^ 31) (hk : k < m) : aQ (Em g t) a (nI k) = some (gQ g a k) := by
  have h := E_aQ (sc := g.1) (n := gn g) (S := gS g) (N := gN g) (I := tI t) (A := tA t) (J := tJ t) (R := gR g) (Q := gQ g) (a := a) (i := nI k) ha hs (by rw [hn]; exact nI_in hk hm)
  rw [nI_clamp (by omega)] at h
  exact h
theorem x_rc69 (X : Fx g) : rc (Em g t) 69 10 = some () := y_rc (Or.inl (x_S X 11 rfl)) (by decide) (by decide)
theorem x_r69_0 (X : Fx g) : fR (Em g t) 69 10 0 = some 70 := y_fR (Or.inl (x_S X 11 rfl)) (x_R X rfl) (by decide) (by decide) rfl
theorem x_r69_2 (X : Fx g) : fR (Em g t) 69 10 2 = some 95 := y_fR (Or.inl (x_S X 11 rfl)) (x_R X rfl) (by decide) (by decide) rfl
theorem x_r69_3 (X : Fx g) : fR (Em g t) 69 10 3 = some 99 := y_fR (Or.inl (x_S X 11 rfl)) (x_R X rfl) (by decide) (by decide) rfl
theorem x_r69_4 (X : Fx g) : fR (Em g t) 69 10 4 = some 103 := y_fR (Or.inl (x_S X 11 rfl)) (x_R X rfl) (by decide) (by decide) rfl
theorem x_r69_5 (X : Fx g) : fR (Em g t) 69 10 5 = some 145 := y_fR (Or.inl (x_S X 11 rfl)) (x_R X rfl) (by decide) (by decide) rfl
theorem x_r69_6 (X : Fx g) : fR (Em g t) 69 10 6 = some 146 := y_fR (Or.inl (x_S X 11 rfl)) (x_R X rfl) (by decide) (by decide) rfl
theorem x_r69_7 (X : Fx g) : fR (Em g t) 69 10 7 = some 147 := y_fR (Or.inl (x_S X 11 rfl)) (x_R X rfl) (by decide) (by decide) rfl
theorem x_r69_8 (X : Fx g) : fR (Em g t) 69 10 8 = some 148 := y_fR (Or.inl (x_S X 11 rfl)) (x_R X rfl) (by decide) (by decide) rfl
theorem x_r69_9 (X : Fx g) : fR (Em g t) 69 10 9 = some 153 := y_fR (Or.inl (x_S X 11 rfl)) (x_R X rfl) (by decide) (by decide) rfl
theorem x_r69_10 (X : Fx g) : fR (Em g t) 69 10 10 = some 157 := y_fR (Or.inl (x_S X 11 rfl)) (x_R X rfl) (by decide) (by decide) rfl
theorem x_r69_11 (X : Fx g) : fR (Em g t) 69 10 11 = some 163 := y_fR (Or.inl (x_S X 11 rfl)) (x_R X rfl) (by decide) (by decide) rfl
theorem x_rc70 (X : Fx g) : rc (Em g t) 70 3 = some () := y_rc (Or.inl (x_S X 4 rfl)) (by decide) (by decide)
theorem x_r70_0 (X : Fx g) : fR (Em g t) 70 3 0 = some 71 := y_fR (Or.inl (x_S X 4 rfl)) (x_R X rfl) (by decide) (by decide) rfl
theorem x_i70_1 (X : Fx g) : fI (Em g t) 70 3 1 = some (tI t 70 1) := y_fI (Or.inl (x_S X 4 rfl)) (by decide) (by decide) rfl
theorem x_w70_1 (X : Fx g) {x : Int32} : wI (Em g t) 70 3 1 x = some (Em g (wi t 70 1 x)) := y_wI (Or.inl (x_S X 4 rfl)) (by decide) (by decide) rfl
theorem x_r70_2 (X : Fx g) : fR (Em g t) 70 3 2 = some 72 := y_fR (Or.inl (x_S X 4 rfl)) (x_R X rfl) (by decide) (by decide) rfl
theorem x_i70_3 (X : Fx g) : fI (Em g t) 70 3 3 = some (tI t 70 3) := y_fI (Or.inl (x_S X 4 rfl)) (by decide) (by decide) rfl
theorem x_w70_3 (X : Fx g) {x : Int32} : wI (Em g t) 70 3 3 x = some (Em g (wi t 70 3 x)) := y_wI (Or.inl (x_S X 4 rfl)) (by decide) (by decide) rfl
theorem x_i70_4 (X : Fx g) : fI (Em g t) 70 3 4 = some (tI t 70 4) := y_fI (Or.inl (x_S X 4 rfl)) (by decide) (by decide) rfl
theorem x_w70_4 (X : Fx g) {x : Int32} : wI (Em g t) 70 3 4 x = some (Em g (wi t 70 4 x)) := y_wI (Or.inl (x_S X 4 rfl)) (by decide) (by decide) rfl
theorem x_i70_5 (X : Fx g) : fI (Em g t) 70 3 5 = some (tI t 70 5) := y_fI (Or.inl (x_S X 4 rfl)) (by decide) (by decide) rfl
theorem x_w70_5 (X : Fx g) {x : Int32} : wI (Em g t) 70 3 5 x = some (Em g (wi t 70 5 x)) := y_wI (Or.inl (x_S X 4 rfl)) (by decide) (by decide) rfl
theorem x_i70_6 (X : Fx g) : fI (Em g t) 70 3 6 = some (tI t 70 6) := y_fI (Or.inl (x_S X 4 rfl)) (by decide) (by decide) rfl
theorem x_w70_6 (X : Fx g) {x : Int32} : wI (Em g t) 70 3 6 x = some (Em g (wi t 70 6 x)) := y_wI (Or.inl (x_S X 4 rfl)) (by decide) (by decide) rfl
theorem x_i70_7 (X : Fx g) : fI (Em g t) 70 3 7 = some (tI t 70 7) := y_fI (Or.inl (x_S X 4 rfl)) (by decide) (by decide) rfl
theorem x_w70_7 (X : Fx g) {x : Int32} : wI (Em g t) 70 3 7 x = some (Em g (wi t 70 7 x)) := y_wI (Or.inl (x_S X 4 rfl)) (by decide) (by decide) rfl
theorem x_i70_8 (X : Fx g) : fI (Em g t) 70 3 8 = some (tI t 70 8) := y_fI (Or.inl (x_S X 4 rfl)) (by decide) (by decide) rfl
theorem x_w70_8 (X : Fx g) {x : Int32} : wI (Em g t) 70 3 8 x = some (Em g (wi t 70 8 x)) := y_wI (Or.inl (x_S X 4 rfl)) (by decide) (by decide) rfl
theorem x_i70_9 (X : Fx g) : fI (Em g t) 70 3 9 = some (tI t 70 9) := y_fI (Or.inl (x_S X 4 rfl)) (by decide) (by decide) rfl
theorem x_w70_9 (X : Fx g) {x : Int32} : wI (Em g t) 70 3 9 x = some (Em g (wi t 70 9 x)) := y_wI (Or.inl (x_S X 4 rfl)) (by decide) (by decide) rfl
theorem x_i70_11 (X : Fx g) : fI (Em g t) 70 3 11 = some (tI t 70 11) := y_fI (Or.inl (x_S X 4 rfl)) (by decide) (by decide) rfl
theorem x_w70_11 (X : Fx g) {x : Int32} : wI (Em g t) 70 3 11 x = some (Em g (wi t 70 11 x)) := y_wI (Or.inl (x_S X 4 rfl)) (by decide) (by decide) rfl
theorem x_i70_12 (X : Fx g) : fI (Em g t) 70 3 12 = some (tI t 70 12) := y_fI (Or.inl (x_S X 4 rfl)) (by decide) (by decide) rfl
theorem x_w70_12 (X : Fx g) {x : Int32} : wI (Em g t) 70 3 12 x = some (Em g (wi t 70 12 x)) := y_wI (Or.inl (x_S X 4 rfl)) (by decide) (by decide) rfl
theorem x_rc95 (X : Fx g) : rc (Em g t) 95 5 = some () := y_rc (Or.inl (x_S X 6 rfl)) (by decide) (by decide)
theorem x_r95_0 (X : Fx g) : fR (Em g t) 95 5 0 = some 96 := y_fR (Or.inl (x_S X 6 rfl)) (x_R X rfl) (by decide) (by decide) rfl
theorem x_r95_1 (X : Fx g) : fR (Em g t) 95 5 1 = some 97 := y_fR (Or.inl (x_S X 6 rfl)) (x_R X rfl) (by decide) (by decide) rfl
theorem x_r95_2 (X : Fx g) : fR (Em g t) 95 5 2 = some 98 := y_fR (Or.inl (x_S X 6 rfl)) (x_R X rfl) (by decide) (by decide) rfl
theorem x_i95_3 (X : Fx g) : fI (Em g t) 95 5 3 = some (tI t 95 3) := y_fI (Or.inl (x_S X 6 rfl)) (by decide) (by decide) rfl
theorem x_w95_3 (X : Fx g) {x : Int32} : wI (Em g t) 95 5 3 x = some (Em g (wi t 95 3 x)) := y_wI (Or.inl (x_S X 6 rfl)) (by decide) (by decide) rfl
theorem x_i95_4 (X : Fx g) : fI (Em g t) 95 5 4 = some (tI t 95 4) := y_fI (Or.inl (x_S X 6 rfl)) (by decide) (by decide) rfl
theorem x_w95_4 (X : Fx g) {x : Int32} : wI (Em g t) 95 5 4 x = some (Em g (wi t 95 4 x)) := y_wI (Or.inl (x_S X 6 rfl)) (by decide) (by decide) rfl
theorem x_rc99 (X : Fx g) : rc (Em g t) 99 5 = some () := y_rc (Or.inl (x_S X 6 rfl)) (by decide) (by decide)
theorem x_r99_0 (X : Fx g) : fR (Em g t) 99 5 0 = some 100 := y_fR (Or.inl (x_S X 6 rfl)) (x_R X rfl) (by decide) (by decide) rfl
theorem x_r99_1 (X : Fx g) : fR (Em g t) 99 5 1 = some 101 := y_fR (Or.inl (x_S X 6 rfl)) (x_R X rfl) (by decide) (by decide) rfl
theorem x_r99_2 (X : Fx g) : fR (Em g t) 99 5 2 = some 102 := y_fR (Or.inl (x_S X 6 rfl)) (x_R X rfl) (by decide) (by decide) rfl
theorem x_i99_3 (X : Fx g) : fI (Em g t) 99 5 3 = some (tI t 99 3) := y_fI (Or.inl (x_S X 6 rfl)) (by decide) (by decide) rfl
theorem x_w99_3 (X : Fx g) {x : Int32} : wI (Em g t) 99 5 3 x = some (Em g (wi t 99 3 x)) := y_wI (Or.inl (x_S X 6 rfl)) (by decide) (by decide) rfl
theorem x_i99_4 (X : Fx g) : fI (Em g t) 99 5 4 = some (tI t 99 4) := y_fI (Or.inl (x_S X 6 rfl)) (by decide) (by decide) rfl
theorem x_w99_4 (X : Fx g) {x : Int32} : wI (Em g t) 99 5 4 x = some (Em g (wi t 99 4 x)) := y_wI (Or.inl (x_S X 6 rfl)) (by decide) (by decide) rfl
theorem x_rc103 (X : Fx g) : rc (Em g t) 103 1 = some () := y_rc (Or.inl (x_S X 2 rfl)) (by decide) (by decide)
theorem x_r103_0 (X : Fx g) : fR (Em g t) 103 1 0 = some 104 := y_fR (Or.inl (x_S X 2 rfl)) (x_R X rfl) (by decide) (by decide) rfl
theorem x_i103_1 (X : Fx g) : fI (Em g t) 103 1 1 = some (tI t 103 1) := y_fI (Or.inl (x_S X 2 rfl)) (by decide) (by decide) rfl
theorem x_w103_1 (X : Fx g) {x : Int32} : wI (Em g t) 103 1 1 x = some (Em g (wi t 103 1 x)) := y_wI (Or.inl (x_S X 2 rfl)) (by decide) (by decide) rfl
theorem x_i103_2 (X : Fx g) : fI (Em g t) 103 1 2 = some (tI t 103 2) := y_fI (Or.inl (x_S X 2 rfl)) (by decide) (by decide) rfl
theorem x_w103_2 (X : Fx g) {x : Int32} : wI (Em g t) 103 1 2 x = some (Em g (wi t 103 2 x)) := y_wI (Or.inl (x_S X 2 rfl)) (by decide) (by decide) rfl
theorem x_rc148 (X : Fx g) : rc (Em g t) 148 8 = some () := y_rc (Or.inl (x_S X 9 rfl)) (by decide) (by decide)
theorem x_i148_0 (X : Fx g) : fI (Em g t) 148 8 0 = some (tI t 148 0) := y_fI (Or.inl (x_S X 9 rfl)) (by decide) (by decide) rfl
theorem x_w148_0 (X : Fx g) {x : Int32} : wI (Em g t) 148 8 0 x = some (Em g (wi t 148 0 x)) := y_wI (Or.inl (x_S X 9 rfl)) (by decide) (by decide) rfl
theorem x_r148_1 (X : Fx g) : fR (Em g t) 148 8 1 = some 149 := y_fR (Or.inl (x_S X 9 rfl)) (x_R X rfl) (by decide) (by decide) rfl
theorem x_r148_2 (X : Fx g) : fR (Em g t) 148 8 2 = some 150 := y_fR (Or.inl (x_S X 9 rfl)) (x_R X rfl) (by decide) (by decide) rfl
theorem x_i148_3 (X : Fx g) : fI (Em g t) 148 8 3 = some (tI t 148 3) := y_fI (Or.inl (x_S X 9 rfl)) (by decide) (by decide) rfl
theorem x_w148_3 (X : Fx g) {x : Int32} : wI (Em g t) 148 8 3 x = some (Em g (wi t 148 3 x)) := y_wI (Or.inl (x_S X 9 rfl)) (by decide) (by decide) rfl
theorem x_r148_4 (X : Fx g) : fR (Em g t) 148 8 4 = some 151 := y_fR (Or.inl (x_S X 9 rfl)) (x_R X rfl) (by decide) (by decide) rfl
theorem x_r148_5 (X : Fx g) : fR (Em g t) 148 8 5 = some 152 := y_fR (Or.inl (x_S X 9 rfl)) (x_R X rfl) (by decide) (by decide) rfl
theorem x_rc153 (X : Fx g) : rc (Em g t) 153 6 = some () := y_rc (Or.inl (x_S X 7 rfl)) (by decide) (by decide)
theorem x_i153_0 (X : Fx g) : fI (Em g t) 153 6 0 = some (tI t 153 0) := y_fI (Or.inl (x_S X 7 rfl)) (by decide) (by decide) rfl
theorem x_w153_0 (X : Fx g) {x : Int32} : wI (Em g t) 153 6 0 x = some (Em g (wi t 153 0 x)) := y_wI (Or.inl (x_S X 7 rfl)) (by decide) (by decide) rfl
theorem x_i153_1 (X : Fx g) : fI (Em g t) 153 6 1 = some (tI t 153 1) := y_fI (Or.inl (x_S X 7 rfl)) (by decide) (by decide) rfl
theorem x_w153_1 (X : Fx g) {x : Int32} : wI (Em g t) 153 6 1 x = some (Em g (wi t 153 1 x)) := y_wI (Or.inl (x_S X 7 rfl)) (by decide) (by decide) rfl
theorem x_r153_2 (X : Fx g) : fR (Em g t) 153 6 2 = some 154 := y_fR (Or.inl (x_S X 7 rfl)) (x_R X rfl) (by decide) (by decide) rfl
theorem x_r153_3 (X : Fx g) : fR (Em g t) 153 6 3 = some 155 := y_fR (Or.inl (x_S X 7 rfl)) (x_R X rfl) (by decide) (by decide) rfl
theorem x_r153_4 (X : Fx g) : fR (Em g t) 153 6 4 = some 156 := y_fR (Or.inl (x_S X 7 rfl)) (x_R X rfl) (by decide) (by decide) rfl
theorem x_rc157 (X : Fx g) : rc (Em g t) 157 4 = some () := y_rc (Or.inl (x_S X 5 rfl)) (by decide) (by decide)
theorem x_r157_0 (X : Fx g) : fR (Em g t) 157 4 0 = some 158 := y_fR (Or.inl (x_S X 5 rfl)) (x_R X rfl) (by decide) (by decide) rfl
theorem x_i157_1 (X : Fx g) : fI (Em g t) 157 4 1 = some (tI t 157 1) := y_fI (Or.inl (x_S X 5 rfl)) (by decide) (by decide) rfl
theorem x_w157_1 (X : Fx g) {x : Int32} : wI (Em g t) 157 4 1 x = some (Em g (wi t 157 1 x)) := y_wI (Or.inl (x_S X 5 rfl)) (by decide) (by decide) rfl
theorem x_r157_2 (X : Fx g) : fR (Em g t) 157 4 2 = some 159 := y_fR (Or.inl (x_S X 5 rfl)) (x_R X rfl) (by decide) (by decide) rfl
theorem x_r157_3 (X : Fx g) : fR (Em g t) 157 4 3 = some 160 := y_fR (Or.inl (x_S X 5 rfl)) (x_R X rfl) (by decide) (by decide) rfl
theorem x_r157_5 (X : Fx g) : fR (Em g t) 157 4 5 = some 161 := y_fR (Or.inl (x_S X 5 rfl)) (x_R X rfl) (by decide) (by decide) rfl
theorem x_r157_6 (X : Fx g) : fR (Em g t) 157 4 6 = some 162 := y_fR (Or.inl (x_S X 5 rfl)) (x_R X rfl) (by decide) (by decide) rfl
theorem x_rc163 (X : Fx g) : rc (Em g t) 163 0 = some () := y_rc (Or.inl (x_S X 1 rfl)) (by decide) (by decide)
theorem x_r163_0 (X : Fx g) : fR (Em g t) 163 0 0 = some 164 := y_fR (Or.inl (x_S X 1 rfl)) (x_R X rfl) (by decide) (by decide) rfl
theorem x_r163_1 (X : Fx g) : fR (Em g t) 163 0 1 = some 165 := y_fR (Or.inl (x_S X 1 rfl)) (x_R X rfl) (by decide) (by decide) rfl
theorem x_r163_2 (X : Fx g) : fR (Em g t) 163 0 2 = some 166 := y_fR (Or.inl (x_S X 1 rfl)) (x_R X rfl) (by decide) (by decide) rfl
theorem x_rc167 (X : Fx g) : rc (Em g t) 167 7 = some () := y_rc (Or.inl (x_S X 8 rfl)) (by decide) (by decide)
theorem x_r167_0 (X : Fx g) : fR (Em g t) 167 7 0 = some 168 := y_fR (Or.inl (x_S X 8 rfl)) (x_R X rfl) (by decide) (by decide) rfl
theorem x_i167_1 (X : Fx g) : fI (Em g t) 167 7 1 = some (tI t 167 1) := y_fI (Or.inl (x_S X 8 rfl)) (by decide) (by decide) rfl
theorem x_w167_1 (X : Fx g) {x : Int32} : wI (Em g t) 167 7 1 x = some (Em g (wi t 167 1 x)) := y_wI (Or.inl (x_S X 8 rfl)) (by decide) (by decide) rfl
theorem x_i167_2 (X : Fx g) : fI (Em g t) 167 7 2 = some (tI t 167 2) := y_fI (Or.inl (x_S X 8 rfl)) (by decide) (by decide) rfl
theorem x_w167_2 (X : Fx g) {x : Int32} : wI (Em g t) 167 7 2 x = some (Em g (wi t 167 2 x)) := y_wI (Or.inl (x_S X 8 rfl)) (by decide) (by decide) rfl
theorem x_rc169 (X : Fx g) : rc (Em g t) 169 7 = some () := y_rc (Or.inl (x_S X 8 rfl)) (by decide) (by decide)
theorem x_r169_0 (X : Fx g) : fR (Em g t) 169 7 0 = some 170 := y_fR (Or.inl (x_S X 8 rfl)) (x_R X rfl) (by decide) (by decide) rfl
theorem x_i169_1 (X : Fx g) : fI (Em g t) 169 7 1 = some (tI t 169 1) := y_fI (Or.inl (x_S X 8 rfl)) (by decide) (by decide) rfl
theorem x_w169_1 (X : Fx g) {x : Int32} : wI (Em g t) 169 7 1 x = some (Em g (wi t 169 1 x)) := y_wI (Or.inl (x_S X 8 rfl)) (by decide) (by decide) rfl
theorem x_i169_2 (X : Fx g) : fI (Em g t) 169 7 2 = some (tI t 169 2) := y_fI (Or.inl (x_S X 8 rfl)) (by decide) (by decide) rfl
theorem x_w169_2 (X : Fx g) {x : Int32} : wI (Em g t) 169 7 2 x = some (Em g (wi t 169 2 x)) := y_wI (Or.inl (x_S X 8 rfl)) (by decide) (by decide) rfl
theorem x_rc171 (X : Fx g) : rc (Em g t) 171 7 = some () := y_rc (Or.inl (x_S X 8 rfl)) (by decide) (by decide)
theorem x_r171_0 (X : Fx g) : fR (Em g t) 171 7 0 = some 172 := y_fR (Or.inl (x_S X 8 rfl)) (x_R X rfl) (by decide) (by decide) rfl
theorem x_i171_1 (X : Fx g) : fI (Em g t) 171 7 1 = some (tI t 171 1) := y_fI (Or.inl (x_S X 8 rfl)) (by decide) (by decide) rfl
theorem x_w171_1 (X : Fx g) {x : Int32} : wI (Em g t) 171 7 1 x = some (Em g (wi t 171 1 x)) := y_wI (Or.inl (x_S X 8 rfl)) (by decide) (by decide) rfl
theorem x_i171_2 (X : Fx g) : fI (Em g t) 171 7 2 = some (tI t 171 2) := y_fI (Or.inl (x_S X 8 rfl)) (by decide) (by decide) rfl
theorem x_w171_2 (X : Fx g) {x : Int32} : wI (Em g t) 171 7 2 x = some (Em g (wi t 171 2 x)) := y_wI (Or.inl (x_S X 8 rfl)) (by decide) (by decide) rfl
theorem x_rc173 (X : Fx g) : rc (Em g t) 173 7 = some () := y_rc (Or.inl (x_S X 8 rfl)) (by decide) (by decide)
theorem x_r173_0 (X : Fx g) : fR (Em g t) 173 7 0 = some 174 := y_fR (Or.inl (x_S X 8 rfl)) (x_R X rfl) (by decide) (by decide) rfl
theorem x_i173_1 (X : Fx g) : fI (Em g t) 173 7 1 = some (tI t 173 1) := y_fI (Or.inl (x_S X 8 rfl)) (by decide) (by decide) rfl
theorem x_w173_1 (X : Fx g) {x : Int32} : wI (Em g t) 173 7 1 x = some (Em g (wi t 173 1 x)) := y_wI (Or.inl (x_S X 8 rfl)) (by decide) (by decide) rfl
theorem x_i173_2 (X : Fx g) : fI (Em g t) 173 7 2 = some (tI t 173 2) := y_fI (Or.inl (x_S X 8 rfl)) (by decide) (by decide) rfl
theorem x_w173_2 (X : Fx g) {x : Int32} : wI (Em g t) 173 7 2 x = some (Em g (wi t 173 2 x)) := y_wI (Or.inl (x_S X 8 rfl)) (by decide) (by decide) rfl
theorem x_rc175 (X : Fx g) : rc (Em g t) 175 5 = some () := y_rc (Or.inl (x_S X 6 rfl)) (by decide) (by decide)
theorem x_r175_0 (X : Fx g) : fR (Em g t) 175 5 0 = some 176 := y_fR (Or.inl (x_S X 6 rfl)) (x_R X rfl) (by decide) (by decide) rfl
theorem x_r175_1 (X : Fx g) : fR (Em g t) 175 5 1 = some 177 := y_fR (Or.inl (x_S X 6 rfl)) (x_R X rfl) (by decide) (by decide) rfl
theorem x_r175_2 (X : Fx g) : fR (Em g t) 175 5 2 = some 178 := y_fR (Or.inl (x_S X 6 rfl)) (x_R X rfl) (by decide) (by decide) rfl
theorem x_i175_3 (X : Fx g) : fI (Em g t) 175 5 3 = some (tI t 175 3) := y_fI (Or.inl (x_S X 6 rfl)) (by decide) (by decide) rfl
theorem x_w175_3 (X : Fx g) {x : Int32} : wI (Em g t) 175 5 3 x = some (Em g (wi t 175 3 x)) := y_wI (Or.inl (x_S X 6 rfl)) (by decide) (by decide) rfl
theorem x_i175_4 (X : Fx g) : fI (Em g t) 175 5 4 = some (tI t 175 4) := y_fI (Or.inl (x_S X 6 rfl)) (by decide) (by decide) rfl
theorem x_w175_4 (X : Fx g) {x : Int32} : wI (Em g t) 175 5 4 x = some (Em g (wi t 175 4 x)) := y_wI (Or.inl (x_S X 6 rfl)) (by decide) (by decide) rfl
theorem x_rc179 (X : Fx g) : rc (Em g t) 179 5 = some () := y_rc (Or.inl (x_S X 6 rfl)) (by decide) (by decide)
theorem x_r179_0 (X : Fx g) : fR (Em g t) 179 5 0 = some 180 := y_fR (Or.inl (x_S X 6 rfl)) (x_R X rfl) (by decide) (by decide) rfl
theorem x_r179_1 (X : Fx g) : fR (Em g t) 179 5 1 = some 181 := y_fR (Or.inl (x_S X 6 rfl)) (x_R X rfl) (by decide) (by decide) rfl
theorem x_r179_2 (X : Fx g) : fR (Em g t) 179 5 2 = some 182 := y_fR (Or.inl (x_S X 6 rfl)) (x_R X rfl) (by decide) (by decide) rfl
theorem x_i179_3 (X : Fx g) : fI (Em g t) 179 5 3 = some (tI t 179 3) := y_fI (Or.inl (x_S X 6 rfl)) (by decide) (by decide) rfl
theorem x_w179_3 (X : Fx g) {x : Int32} : wI (Em g t) 179 5 3 x = some (Em g (wi t 179 3 x)) := y_wI (Or.inl (x_S X 6 rfl)) (by decide) (by decide) rfl
theorem x_i179_4 (X : Fx g) : fI (Em g t) 179 5 4 = some (tI t 179 4) := y_fI (Or.inl (x_S X 6 rfl)) (by decide) (by decide) rfl
theorem x_w179_4 (X : Fx g) {x : Int32} : wI (Em g t) 179 5 4 x = some (Em g (wi t 179 4 x)) := y_wI (Or.inl (x_S X 6 rfl)) (by decide) (by decide) rfl
theorem x_rc183 (X : Fx g) : rc (Em g t) 183 11 = some () := y_rc (Or.inl (x_S X 12 rfl)) (by decide) (by decide)
theorem x_i183_0 (X : Fx g) : fI (Em g t) 183 11 0 = some (tI t 183 0) := y_fI (Or.inl (x_S X 12 rfl)) (by decide) (by decide) rfl
theorem x_w183_0 (X : Fx g) {x : Int32} : wI (Em g t) 183 11 0 x = some (Em g (wi t 183 0 x)) := y_wI (Or.inl (x_S X 12 rfl)) (by decide) (by decide) rfl
theorem x_r183_1 (X : Fx g) : fR (Em g t) 183 11 1 = some 184 := y_fR (Or.inl (x_S X 12 rfl)) (x_R X rfl) (by decide) (by decide) rfl
theorem x_r183_2 (X : Fx g) : fR (Em g t) 183 11 2 = some 185 := y_fR (Or.inl (x_S X 12 rfl)) (x_R X rfl) (by decide) (by decide) rfl
theorem x_r183_3 (X : Fx g) : fR (Em g t) 183 11 3 = some 186 := y_fR (Or.inl (x_S X 12 rfl)) (x_R X rfl) (by decide) (by decide) rfl
theorem x_r183_4 (X : Fx g) : fR (Em g t) 183 11 4 = some 187 := y_fR (Or.inl (x_S X 12 rfl)) (x_R X rfl) (by decide) (by decide) rfl
theorem x_i183_5 (X : Fx g) : fI (Em g t) 183 11 5 = some (tI t 183 5) := y_fI (Or.inl (x_S X 12 rfl)) (by decide) (by decide) rfl
theorem x_w183_5 (X : Fx g) {x : Int32} : wI (Em g t) 183 11 5 x = some (Em g (wi t 183 5 x)) := y_wI (Or.inl (x_S X 12 rfl)) (by decide) (by decide) rfl
theorem x_i183_6 (X : Fx g) : fI (Em g t) 183 11 6 = some (tI t 183 6) := y_fI (Or.inl (x_S X 12 rfl)) (by decide) (by decide) rfl
theorem x_w183_6 (X : Fx g) {x : Int32} : wI (Em g t) 183 11 6 x = some (Em g (wi t 183 6 x)) := y_wI (Or.inl (x_S X 12 rfl)) (by decide) (by decide) rfl
theorem x_i183_7 (X : Fx g) : fI (Em g t) 183 11 7 = some (tI t 183 7) := y_fI (Or.inl (x_S X 12 rfl)) (by decide) (by decide) rfl
theorem x_w183_7 (X : Fx g) {x : Int32} : wI (Em g t) 183 11 7 x = some (Em g (wi t 183 7 x)) := y_wI (Or.inl (x_S X 12 rfl)) (by decide) (by decide) rfl
theorem x_i183_8 (X : Fx g) : fI (Em g t) 183 11 8 = some (tI t 183 8) := y_fI (Or.inl (x_S X 12 rfl)) (by decide) (by decide) rfl
theorem x_w183_8 (X : Fx g) {x : Int32} : wI (Em g t) 183 11 8 x = some (Em g (wi t 183 8 x)) := y_wI (Or.inl (x_S X 12 rfl)) (by decide) (by decide) rfl
theorem x_i183_9 (X : Fx g) : fI (Em g t) 183 11 9 = some (tI t 183 9) := y_fI (Or.inl (x_S X 12 rfl)) (by decide) (by decide) rfl
theorem x_w183_9 (X : Fx g) {x : Int32} : wI (Em g t) 183 11 9 x = some (Em g (wi t 183 9 x)) := y_wI (Or.inl (x_S X 12 rfl)) (by decide) (by decide) rfl
theorem x_i183_10 (X : Fx g) : fI (Em g t) 183 11 10 = some (tI t 183 10) := y_fI (Or.inl (x_S X 12 rfl)) (by decide) (by decide) rfl
theorem x_w183_10 (X : Fx g) {x : Int32} : wI (Em g t) 183 11 10 x = some (Em g (wi t 183 10 x)) := y_wI (Or.inl (x_S X 12 rfl)) (by decide) (by decide) rfl
theorem x_i183_11 (X : Fx g) : fI (Em g t) 183 11 11 = some (tI t 183 11) := y_fI (Or.inl (x_S X 12 rfl)) (by decide) (by decide) rfl
theorem x_w183_11 (X : Fx g) {x : Int32} : wI (Em g t) 183 11 11 x = some (Em g (wi t 183 11 x)) := y_wI (Or.inl (x_S X 12 rfl)) (by decide) (by decide) rfl
theorem x_i183_12 (X : Fx g) : fI (Em g t) 183 11 12 = some (tI t 183 12) := y_fI (Or.inl (x_S X 12 rfl)) (by decide) (by decide) rfl
theorem x_w183_12 (X : Fx g) {x : Int32} : wI (Em g t) 183 11 12 x = some (Em g (wi t 183 12 x)) := y_wI (Or.inl (x_S X 12 rfl)) (by decide) (by decide) rfl
theorem x_i183_13 (X : Fx g) : fI (Em g t) 183 11 13 = some (tI t 183 13) := y_fI (Or.inl (x_S X 12 rfl)) (by decide) (by decide) rfl
theorem x_w183_13 (X : Fx g) {x : Int32} : wI (Em g t) 183 11 13 x = some (Em g (wi t 183 13 x)) := y_wI (Or.inl (x_S X 12 rfl)) (by decide) (by decide) rfl
theorem x_i183_14 (X : Fx g) : fI (Em g t) 183 11 14 = some (tI t 183 14) := y_fI (Or.inl (x_S X 12 rfl)) (by decide) (by decide) rfl
theorem x_w183_14 (X : Fx g) {x : Int32} : wI (Em g t) 183 11 14 x = some (Em g (wi t 183 14 x)) := y_wI (Or.inl (x_S X 12 rfl)) (by decide) (by decide) rfl
theorem x_i183_15 (X : Fx g) : fI (Em g t) 183 11 15 = some (tI t 183 15) := y_fI (Or.inl (x_S X 12 rfl)) (by decide) (by decide) rfl
theorem x_w183_15 (X : Fx g) {x : Int32} : wI (Em g t) 183 11 15 x = some (Em g (wi t 183 15 x)) := y_wI (Or.inl (x_S X 12 rfl)) (by decide) (by decide) rfl
theorem x_r183_16 (X : Fx g) : fR (Em g t) 183 11 16 = some 188 := y_fR (Or.inl (x_S X 12 rfl)) (x_R X rfl) (by decide) (by decide) rfl
theorem x_r183_17 (X : Fx g) : fR (Em g t) 183 11 17 = some 189 := y_fR (Or.inl (x_S X 12 rfl)) (x_R X rfl) (by decide) (by decide) rfl
theorem x_r183_18 (X : Fx g) : fR (Em g t) 183 11 18 = some 190 := y_fR (Or.inl (x_S X 12 rfl)) (x_R X rfl) (by decide) (by decide) rfl
theorem x_i183_19 (X : Fx g) : fI (Em g t) 183 11 19 = some (tI t 183 19) := y_fI (Or.inl (x_S X 12 rfl)) (by decide) (by decide) rfl
theorem x_w183_19 (X : Fx g) {x : Int32} : wI (Em g t) 183 11 19 x = some (Em g (wi t 183 19 x)) := y_wI (Or.inl (x_S X 12 rfl)) (by decide) (by decide) rfl
theorem x_i183_20 (X : Fx g) : fI (Em g t) 183 11 20 = some (tI t 183 20) := y_fI (Or.inl (x_S X 12 rfl)) (by decide) (by decide) rfl
theorem x_w183_20 (X : Fx g) {x : Int32} : wI (Em g t) 183 11 20 x = some (Em g (wi t 183 20 x)) := y_wI (Or.inl (x_S X 12 rfl)) (by decide) (by decide) rfl
theorem x_r183_21 (X : Fx g) : fR (Em g t) 183 11 21 = some 191 := y_fR (Or.inl (x_S X 12 rfl)) (x_R X rfl) (by decide) (by decide) rfl
theorem x_r183_22 (X : Fx g) : fR (Em g t) 183 11 22 = some 192 := y_fR (Or.inl (x_S X 12 rfl)) (x_R X rfl) (by decide) (by decide) rfl
theorem x_r183_23 (X : Fx g) : fR (Em g t) 183 11 23 = some 193 := y_fR (Or.inl (x_S X 12 rfl)) (x_R X rfl) (by decide) (by decide) rfl
theorem x_r183_24 (X : Fx g) : fR (Em g t) 183 11 24 = some 194 := y_fR (Or.inl (x_S X 12 rfl)) (x_R X rfl) (by decide) (by decide) rfl
theorem x_r183_25 (X : Fx g) : fR (Em g t) 183 11 25 = some 195 := y_fR (Or.inl (x_S X 12 rfl)) (x_R X rfl) (by decide) (by decide) rfl
theorem x_i183_26 (X : Fx g) : fI (Em g t) 183 11 26 = some (tI t 183 26) := y_fI (Or.inl (x_S X 12 rfl)) (by decide) (by decide) rfl
theorem x_w183_26 (X : Fx g) {x : Int32} : wI (Em g t) 183 11 26 x = some (Em g (wi t 183 26 x)) := y_wI (Or.inl (x_S X 12 rfl)) (by decide) (by decide) rfl
theorem x_r183_27 (X : Fx g) : fR (Em g t) 183 11 27 = some 196 := y_fR (Or.inl (x_S X 12 rfl)) (x_R X rfl) (by decide) (by decide) rfl
theorem x_r183_28 (X : Fx g) : fR (Em g t) 183 11 28 = some 197 := y_fR (Or.inl (x_S X 12 rfl)) (x_R X rfl) (by decide) (by decide) rfl
theorem x_r183_29 (X : Fx g) : fR (Em g t) 183 11 29 = some 198 := y_fR (Or.inl (x_S X 12 rfl)) (x_R X rfl) (by decide) (by decide) rfl
theorem x_i183_30 (X : Fx g) : fI (Em g t) 183 11 30 = some (tI t 183 30) := y_fI (Or.inl (x_S X 12 rfl)) (by decide) (by decide) rfl
theorem x_w183_30 (X : Fx g) {x : Int32} : wI (Em g t) 183 11 30 x = some (Em g (wi t 183 30 x)) := y_wI (Or.inl (x_S X 12 rfl)) (by decide) (by decide) rfl
theorem x_r183_31 (X : Fx g) : fR (Em g t) 183 11 31 = some 199 := y_fR (Or.inl (x_S X 12 rfl)) (x_R X rfl) (by decide) (by decide) rfl
theorem x_r183_32 (X : Fx g) : fR (Em g t) 183 11 32 = some 200 := y_fR (Or.inl (x_S X 12 rfl)) (x_R X rfl) (by decide) (by decide) rfl
theorem x_r183_33 (X : Fx g) : fR (Em g t) 183 11 33 = some 201 := y_fR (Or.inl (x_S X 12 rfl)) (x_R X rfl) (by decide) (by decide) rfl
theorem x_r183_34 (X : Fx g) : fR (Em g t) 183 11 34 = some 202 := y_fR (Or.inl (x_S X 12 rfl)) (x_R X rfl) (by decide) (by decide) rfl
theorem x_r183_35 (X : Fx g) : fR (Em g t) 183 11 35 = some 203 := y_fR (Or.inl (x_S X 12 rfl)) (x_R X rfl) (by decide) (by decide) rfl
theorem x_r183_36 (X : Fx g) : fR (Em g t) 183 11 36 = some 204 := y_fR (Or.inl (x_S X 12 rfl)) (x_R X rfl) (by decide) (by decide) rfl
theorem x_a71 (X : Fx g) {k : Nat} (hk : k < 900) : aC (Em g t) 71 (nI k) = some (tA t 71 k) := y_aC (x_S X 22 rfl) (x_N X 900 rfl) (by decide) (by decide) hk
theorem x_s71 (X : Fx g) {k : Nat} {x : Int32} (hk : k < 900) : sC (Em g t) 71 (nI k) x = some (Em g (wa t 71 k (vp_nar .char x))) := y_sC (x_S X 22 rfl) (x_N X 900 rfl) (by decide) (by decide) hk
theorem x_a72 (X : Fx g) {k : Nat} (hk : k < 900) : aI (Em g t) 72 (nI k) = some (tA t 72 k) := y_aI (Or.inl (x_S X 20 rfl)) (x_N X 900 rfl) (by decide) (by decide) hk
theorem x_s72 (X : Fx g) {k : Nat} {x : Int32} (hk : k < 900) : sI (Em g t) 72 (nI k) x = some (Em g (wa t 72 k x)) := y_sI (Or.inl (x_S X 20 rfl)) (x_N X 900 rfl) (by decide) (by decide) hk
theorem x_a96 (X : Fx g) {k : Nat} (hk : k < 6) : aI (Em g t) 96 (nI k) = some (tA t 96 k) := y_aI (Or.inl (x_S X 20 rfl)) (x_N X 6 rfl) (by decide) (by decide) hk
theorem x_s96 (X : Fx g) {k : Nat} {x : Int32} (hk : k < 6) : sI (Em g t) 96 (nI k) x = some (Em g (wa t 96 k x)) := y_sI (Or.inl (x_S X 20 rfl)) (x_N X 6 rfl) (by decide) (by decide) hk
theorem x_a97 (X : Fx g) {k : Nat} (hk : k < 6) : aI (Em g t) 97 (nI k) = some (tA t 97 k) := y_aI (Or.inl (x_S X 20 rfl)) (x_N X 6 rfl) (by decide) (by decide) hk
theorem x_s97 (X : Fx g) {k : Nat} {x : Int32} (hk : k < 6) : sI (Em g t) 97 (nI k) x = some (Em g (wa t 97 k x)) := y_sI (Or.inl (x_S X 20 rfl)) (x_N X 6 rfl) (by decide) (by decide) hk
theorem x_a98 (X : Fx g) {k : Nat} (hk : k < 6) : aI (Em g t) 98 (nI k) = some (tA t 98 k) := y_aI (Or.inl (x_S X 20 rfl)) (x_N X 6 rfl) (by decide) (by decide) hk
theorem x_s98 (X : Fx g) {k : Nat} {x : Int32} (hk : k < 6) : sI (Em g t) 98 (nI k) x = some (Em g (wa t 98 k x)) := y_sI (Or.inl (x_S X 20 rfl)) (x_N X 6 rfl) (by decide) (by decide) hk
theorem x_a100 (X : Fx g) {k : Nat} (hk : k < 6) : aI (Em g t) 100 (nI k) = some (tA t 100 k) := y_aI (Or.inl (x_S X 20 rfl)) (x_N X 6 rfl) (by decide) (by decide) hk
theorem x_s100 (X : Fx g) {k : Nat} {x : Int32} (hk : k < 6) : sI (Em g t) 100 (nI k) x = some (Em g (wa t 100 k x)) := y_sI (Or.inl (x_S X 20 rfl)) (x_N X 6 rfl) (by decide) (by decide) hk
theorem x_a101 (X : Fx g) {k : Nat} (hk : k < 6) : aI (Em g t) 101 (nI k) = some (tA t 101 k) := y_aI (Or.inl (x_S X 20 rfl)) (x_N X 6 rfl) (by decide) (by decide) hk
theorem x_s101 (X : Fx g) {k : Nat} {x : Int32} (hk : k < 6) : sI (Em g t) 101 (nI k) x = some (Em g (wa t 101 k x)) := y_sI (Or.inl (x_S X 20 rfl)) (x_N X 6 rfl) (by decide) (by decide) hk
theorem x_a102 (X : Fx g) {k : Nat} (hk : k < 6) : aI (Em g t) 102 (nI k) = some (tA t 102 k) := y_aI (Or.inl (x_S X 20 rfl)) (x_N X 6 rfl) (by decide) (by decide) hk
theorem x_s102 (X : Fx g) {k : Nat} {x : Int32} (hk : k < 6) : sI (Em g t) 102 (nI k) x = some (Em g (wa t 102 k x)) := y_sI (Or.inl (x_S X 20 rfl)) (x_N X 6 rfl) (by decide) (by decide) hk
theorem x_a149 (X : Fx g) {k : Nat} (hk : k < 11) : aI (Em g t) 149 (nI k) = some (tA t 149 k) := y_aI (Or.inl (x_S X 20 rfl)) (x_N X 11 rfl) (by decide) (by decide) hk
theorem x_s149 (X : Fx g) {k : Nat} {x : Int32} (hk : k < 11) : sI (Em g t) 149 (nI k) x = some (Em g (wa t 149 k x)) := y_sI (Or.inl (x_S X 20 rfl)) (x_N X 11 rfl) (by decide) (by decide) hk
theorem x_a150 (X : Fx g) {k : Nat} (hk : k < 11) : aI (Em g t) 150 (nI k) = some (tA t 150 k) := y_aI (Or.inl (x_S X 20 rfl)) (x_N X 11 rfl) (by decide) (by decide) hk
theorem x_s150 (X : Fx g) {k : Nat} {x : Int32} (hk : k < 11) : sI (Em g t) 150 (nI k) x = some (Em g (wa t 150 k x)) := y_sI (Or.inl (x_S X 20 rfl)) (x_N X 11 rfl) (by decide) (by decide) hk
theorem x_a151 (X : Fx g) {k : Nat} (hk : k < 10) : aI (Em g t) 151 (nI k) = some (tA t 151 k) := y_aI (Or.inl (x_S X 20 rfl)) (x_N X 10 rfl) (by decide) (by decide) hk
theorem x_s151 (X : Fx g) {k : Nat} {x : Int32} (hk : k < 10) : sI (Em g t) 151 (nI k) x = some (Em g (wa t 151 k x)) := y_sI (Or.inl (x_S X 20 rfl)) (x_N X 10 rfl) (by decide) (by decide) hk
theorem x_a152 (X : Fx g) {k : Nat} (hk : k < 2048) : aB (Em g t) 152 (nI k) = some (tA t 152 k) := y_aB (Or.inl (x_S X 23 rfl)) (x_N X 2048 rfl) (by decide) (by decide) hk
theorem x_s152 (X : Fx g) {k : Nat} {x : Int32} (hk : k < 2048) : sB (Em g t) 152 (nI k) x = some (Em g (wa t 152 k (vp_nar .byte x))) := y_sB (x_S X 23 rfl) (x_N X 2048 rfl) (by decide) (by decide) hk
theorem x_a154 (X : Fx g) {k : Nat} (hk : k < 6) : aI (Em g t) 154 (nI k) = some (tA t 154 k) := y_aI (Or.inl (x_S X 20 rfl)) (x_N X 6 rfl) (by decide) (by decide) hk
theorem x_s154 (X : Fx g) {k : Nat} {x : Int32} (hk : k < 6) : sI (Em g t) 154 (nI k) x = some (Em g (wa t 154 k x)) := y_sI (Or.inl (x_S X 20 rfl)) (x_N X 6 rfl) (by decide) (by decide) hk
theorem x_a155 (X : Fx g) {k : Nat} (hk : k < 384) : aI (Em g t) 155 (nI k) = some (tA t 155 k) := y_aI (Or.inl (x_S X 20 rfl)) (x_N X 384 rfl) (by decide) (by decide) hk
theorem x_s155 (X : Fx g) {k : Nat} {x : Int32} (hk : k < 384) : sI (Em g t) 155 (nI k) x = some (Em g (wa t 155 k x)) := y_sI (Or.inl (x_S X 20 rfl)) (x_N X 384 rfl) (by decide) (by decide) hk
theorem x_a156 (X : Fx g) {k : Nat} (hk : k < 64) : aI (Em g t) 156 (nI k) = some (tA t 156 k) := y_aI (Or.inl (x_S X 20 rfl)) (x_N X 64 rfl) (by decide) (by decide) hk
theorem x_s156 (X : Fx g) {k : Nat} {x : Int32} (hk : k < 64) : sI (Em g t) 156 (nI k) x = some (Em g (wa t 156 k x)) := y_sI (Or.inl (x_S X 20 rfl)) (x_N X 64 rfl) (by decide) (by decide) hk
theorem x_a158 (X : Fx g) {k : Nat} (hk : k < 82) : aI (Em g t) 158 (nI k) = some (tA t 158 k) := y_aI (Or.inl (x_S X 20 rfl)) (x_N X 82 rfl) (by decide) (by decide) hk
theorem x_s158 (X : Fx g) {k : Nat} {x : Int32} (hk : k < 82) : sI (Em g t) 158 (nI k) x = some (Em g (wa t 158 k x)) := y_sI (Or.inl (x_S X 20 rfl)) (x_N X 82 rfl) (by decide) (by decide) hk
theorem x_a159 (X : Fx g) {k : Nat} (hk : k < 1024) : aI (Em g t) 159 (nI k) = some (tA t 159 k) := y_aI (Or.inl (x_S X 20 rfl)) (x_N X 1024 rfl) (by decide) (by decide) hk
theorem x_s159 (X : Fx g) {k : Nat} {x : Int32} (hk : k < 1024) : sI (Em g t) 159 (nI k) x = some (Em g (wa t 159 k x)) := y_sI (Or.inl (x_S X 20 rfl)) (x_N X 1024 rfl) (by decide) (by decide) hk
theorem x_a160 (X : Fx g) {k : Nat} (hk : k < 100) : aI (Em g t) 160 (nI k) = some (tA t 160 k) := y_aI (Or.inl (x_S X 20 rfl)) (x_N X 100 rfl) (by decide) (by decide) hk
theorem x_s160 (X : Fx g) {k : Nat} {x : Int32} (hk : k < 100) : sI (Em g t) 160 (nI k) x = some (Em g (wa t 160 k x)) := y_sI (Or.inl (x_S X 20 rfl)) (x_N X 100 rfl) (by decide) (by decide) hk
theorem x_a161 (X : Fx g) {k : Nat} (hk : k < 10) : aJ (Em g t) 161 (nI k) = some (tJ t 161 k) := y_aJ (x_S X 21 rfl) (x_N X 10 rfl) (by decide) (by decide) hk
theorem x_s161 (X : Fx g) {k : Nat} {x : Int64} (hk : k < 10) : sJ (Em g t) 161 (nI k) x = some (Em g (wj t 161 k x)) := y_sJ (x_S X 21 rfl) (x_N X 10 rfl) (by decide) (by decide) hk
theorem x_a162 (X : Fx g) {k : Nat} (hk : k < 10) : aJ (Em g t) 162 (nI k) = some (tJ t 162 k) := y_aJ (x_S X 21 rfl) (x_N X 10 rfl) (by decide) (by decide) hk
theorem x_s162 (X : Fx g) {k : Nat} {x : Int64} (hk : k < 10) : sJ (Em g t) 162 (nI k) x = some (Em g (wj t 162 k x)) := y_sJ (x_S X 21 rfl) (x_N X 10 rfl) (by decide) (by decide) hk
theorem x_a164 (X : Fx g) {k : Nat} (hk : k < 18) : aI (Em g t) 164 (nI k) = some (tA t 164 k) := y_aI (Or.inl (x_S X 20 rfl)) (x_N X 18 rfl) (by decide) (by decide) hk
theorem x_s164 (X : Fx g) {k : Nat} {x : Int32} (hk : k < 18) : sI (Em g t) 164 (nI k) x = some (Em g (wa t 164 k x)) := y_sI (Or.inl (x_S X 20 rfl)) (x_N X 18 rfl) (by decide) (by decide) hk
theorem x_a165 (X : Fx g) {k : Nat} (hk : k < 6) : aJ (Em g t) 165 (nI k) = some (tJ t 165 k) := y_aJ (x_S X 21 rfl) (x_N X 6 rfl) (by decide) (by decide) hk
theorem x_s165 (X : Fx g) {k : Nat} {x : Int64} (hk : k < 6) : sJ (Em g t) 165 (nI k) x = some (Em g (wj t 165 k x)) := y_sJ (x_S X 21 rfl) (x_N X 6 rfl) (by decide) (by decide) hk
theorem x_a166 (X : Fx g) {k : Nat} (hk : k < 6) : aJ (Em g t) 166 (nI k) = some (tJ t 166 k) := y_aJ (x_S X 21 rfl) (x_N X 6 rfl) (by decide) (by decide) hk
theorem x_s166 (X : Fx g) {k : Nat} {x : Int64} (hk : k < 6) : sJ (Em g t) 166 (nI k) x = some (Em g (wj t 166 k x)) := y_sJ (x_S X 21 rfl) (x_N X 6 rfl) (by decide) (by decide) hk
theorem x_a168 (X : Fx g) {k : Nat} (hk : k < 40) : aJ (Em g t) 168 (nI k) = some (tJ t 168 k) := y_aJ (x_S X 21 rfl) (x_N X 40 rfl) (by decide) (by decide) hk
theorem x_s168 (X : Fx g) {k : Nat} {x : Int64} (hk : k < 40) : sJ (Em g t) 168 (nI k) x = some (Em g (wj t 168 k x)) := y_sJ (x_S X 21 rfl) (x_N X 40 rfl) (by decide) (by decide) hk
theorem x_a170 (X : Fx g) {k : Nat} (hk : k < 40) : aJ (Em g t) 170 (nI k) = some (tJ t 170 k) := y_aJ (x_S X 21 rfl) (x_N X 40 rfl) (by decide) (by decide) hk
theorem x_s170 (X : Fx g) {k : Nat} {x : Int64} (hk : k < 40) : sJ (Em g t) 170 (nI k) x = some (Em g (wj t 170 k x)) := y_sJ (x_S X 21 rfl) (x_N X 40 rfl) (by decide) (by decide) hk
theorem x_a172 (X : Fx g) {k : Nat} (hk : k < 40) : aJ (Em g t) 172 (nI k) = some (tJ t 172 k) := y_aJ (x_S X 21 rfl) (x_N X 40 rfl) (by decide) (by decide) hk
theorem x_s172 (X : Fx g) {k : Nat} {x : Int64} (hk : k < 40) : sJ (Em g t) 172 (nI k) x = some (Em g (wj t 172 k x)) := y_sJ (x_S X 21 rfl) (x_N X 40 rfl) (by decide) (by decide) hk
theorem x_a174 (X : Fx g) {k : Nat} (hk : k < 40) : aJ (Em g t) 174 (nI k) = some (tJ t 174 k) := y_aJ (x_S X 21 rfl) (x_N X 40 rfl) (by decide) (by decide) hk
theorem x_s174 (X : Fx g) {k : Nat} {x : Int64} (hk : k < 40) : sJ (Em g t) 174 (nI k) x = some (Em g (wj t 174 k x)) := y_sJ (x_S X 21 rfl) (x_N X 40 rfl) (by decide) (by decide) hk
theorem x_a176 (X : Fx g) {k : Nat} (hk : k < 6) : aI (Em g t) 176 (nI k) = some (tA t 176 k) := y_aI (Or.inl (x_S X 20 rfl)) (x_N X 6 rfl) (by decide) (by decide) hk
theorem x_s176 (X : Fx g) {k : Nat} {x : Int32} (hk : k < 6) : sI (Em g t) 176 (nI k) x = some (Em g (wa t 176 k x)) := y_sI (Or.inl (x_S X 20 rfl)) (x_N X 6 rfl) (by decide) (by decide) hk
theorem x_a177 (X : Fx g) {k : Nat} (hk : k < 6) : aI (Em g t) 177 (nI k) = some (tA t 177 k) := y_aI (Or.inl (x_S X 20 rfl)) (x_N X 6 rfl) (by decide) (by decide) hk
theorem x_s177 (X : Fx g) {k : Nat} {x : Int32} (hk : k < 6) : sI (Em g t) 177 (nI k) x = some (Em g (wa t 177 k x)) := y_sI (Or.inl (x_S X 20 rfl)) (x_N X 6 rfl) (by decide) (by decide) hk
theorem x_a178 (X : Fx g) {k : Nat} (hk : k < 6) : aI (Em g t) 178 (nI k) = some (tA t 178 k) := y_aI (Or.inl (x_S X 20 rfl)) (x_N X 6 rfl) (by decide) (by decide) hk
theorem x_s178 (X : Fx g) {k : Nat} {x : Int32} (hk : k < 6) : sI (Em g t) 178 (nI k) x = some (Em g (wa t 178 k x)) := y_sI (Or.inl (x_S X 20 rfl)) (x_N X 6 rfl) (by decide) (by decide) hk
theorem x_a180 (X : Fx g) {k : Nat} (hk : k < 6) : aI (Em g t) 180 (nI k) = some (tA t 180 k) := y_aI (Or.inl (x_S X 20 rfl)) (x_N X 6 rfl) (by decide) (by decide) hk
theorem x_s180 (X : Fx g) {k : Nat} {x : Int32} (hk : k < 6) : sI (Em g t) 180 (nI k) x = some (Em g (wa t 180 k x)) := y_sI (Or.inl (x_S X 20 rfl)) (x_N X 6 rfl) (by decide) (by decide) hk
theorem x_a181 (X : Fx g) {k : Nat} (hk : k < 6) : aI (Em g t) 181 (nI k) = some (tA t 181 k) := y_aI (Or.inl (x_S X 20 rfl)) (x_N X 6 rfl) (by decide) (by decide) hk
theorem x_s181 (X : Fx g) {k : Nat} {x : Int32} (hk : k < 6) : sI (Em g t) 181 (nI k) x = some (Em g (wa t 181 k x)) := y_sI (Or.inl (x_S X 20 rfl)) (x_N X 6 rfl) (by decide) (by decide) hk
theorem x_a182 (X : Fx g) {k : Nat} (hk : k < 6) : aI (Em g t) 182 (nI k) = some (tA t 182 k) := y_aI (Or.inl (x_S X 20 rfl)) (x_N X 6 rfl) (by decide) (by decide) hk
theorem x_s182 (X : Fx g) {k : Nat} {x : Int32} (hk : k < 6) : sI (Em g t) 182 (nI k) x = some (Em g (wa t 182 k x)) := y_sI (Or.inl (x_S X 20 rfl)) (x_N X 6 rfl) (by decide) (by decide) hk
theorem x_a184 (X : Fx g) {k : Nat} (hk : k < 3687) : aI (Em g t) 184 (nI k) = some (tA t 184 k) := y_aI (Or.inl (x_S X 20 rfl)) (x_N X 3687 rfl) (by decide) (by decide) hk
theorem x_s184 (X : Fx g) {k : Nat} {x : Int32} (hk : k < 3687) : sI (Em g t) 184 (nI k) x = some (Em g (wa t 184 k x)) := y_sI (Or.inl (x_S X 20 rfl)) (x_N X 3687 rfl) (by decide) (by decide) hk
theorem x_a185 (X : Fx g) {k : Nat} (hk : k < 2) : aB (Em g t) 185 (nI k) = some (tA t 185 k) := y_aB (Or.inr (x_S X 24 rfl)) (x_N X 2 rfl) (by decide) (by decide) hk
theorem x_s185 (X : Fx g) {k : Nat} {x : Int32} (hk : k < 2) : sB (Em g t) 185 (nI k) x = some (Em g (wa t 185 k (vp_nar .boolean x))) := y_sZ (x_S X 24 rfl) (x_N X 2 rfl) (by decide) (by decide) hk
theorem x_a186 (X : Fx g) {k : Nat} (hk : k < 900) : aI (Em g t) 186 (nI k) = some (tA t 186 k) := y_aI (Or.inl (x_S X 20 rfl)) (x_N X 900 rfl) (by decide) (by decide) hk
theorem x_s186 (X : Fx g) {k : Nat} {x : Int32} (hk : k < 900) : sI (Em g t) 186 (nI k) x = some (Em g (wa t 186 k x)) := y_sI (Or.inl (x_S X 20 rfl)) (x_N X 900 rfl) (by decide) (by decide) hk
theorem x_a187 (X : Fx g) {k : Nat} (hk : k < 1229) : aI (Em g t) 187 (nI k) = some (tA t 187 k) := y_aI (Or.inl (x_S X 20 rfl)) (x_N X 1229 rfl) (by decide) (by decide) hk
theorem x_s187 (X : Fx g) {k : Nat} {x : Int32} (hk : k < 1229) : sI (Em g t) 187 (nI k) x = some (Em g (wa t 187 k x)) := y_sI (Or.inl (x_S X 20 rfl)) (x_N X 1229 rfl) (by decide) (by decide) hk
theorem x_a188 (X : Fx g) {k : Nat} (hk : k < 900) : aI (Em g t) 188 (nI k) = some (tA t 188 k) := y_aI (Or.inl (x_S X 20 rfl)) (x_N X 900 rfl) (by decide) (by decide) hk
theorem x_s188 (X : Fx g) {k : Nat} {x : Int32} (hk : k < 900) : sI (Em g t) 188 (nI k) x = some (Em g (wa t 188 k x)) := y_sI (Or.inl (x_S X 20 rfl)) (x_N X 900 rfl) (by decide) (by decide) hk
theorem x_a189 (X : Fx g) {k : Nat} (hk : k < 8) : aI (Em g t) 189 (nI k) = some (tA t 189 k) := y_aI (Or.inl (x_S X 20 rfl)) (x_N X 8 rfl) (by decide) (by decide) hk
theorem x_s189 (X : Fx g) {k : Nat} {x : Int32} (hk : k < 8) : sI (Em g t) 189 (nI k) x = some (Em g (wa t 189 k x)) := y_sI (Or.inl (x_S X 20 rfl)) (x_N X 8 rfl) (by decide) (by decide) hk
theorem x_a190 (X : Fx g) {k : Nat} (hk : k < 20) : aI (Em g t) 190 (nI k) = some (tA t 190 k) := y_aI (Or.inl (x_S X 20 rfl)) (x_N X 20 rfl) (by decide) (by decide) hk
theorem x_s190 (X : Fx g) {k : Nat} {x : Int32} (hk : k < 20) : sI (Em g t) 190 (nI k) x = some (Em g (wa t 190 k x)) := y_sI (Or.inl (x_S X 20 rfl)) (x_N X 20 rfl) (by decide) (by decide) hk
theorem x_a191 (X : Fx g) {k : Nat} (hk : k < 10) : aI (Em g t) 191 (nI k) = some (tA t 191 k) := y_aI (Or.inl (x_S X 20 rfl)) (x_N X 10 rfl) (by decide) (by decide) hk
theorem x_s191 (X : Fx g) {k : Nat} {x : Int32} (hk : k < 10) : sI (Em g t) 191 (nI k) x = some (Em g (wa t 191 k x)) := y_sI (Or.inl (x_S X 20 rfl)) (x_N X 10 rfl) (by decide) (by decide) hk
theorem x_a192 (X : Fx g) {k : Nat} (hk : k < 2048) : aI (Em g t) 192 (nI k) = some (tA t 192 k) := y_aI (Or.inl (x_S X 20 rfl)) (x_N X 2048 rfl) (by decide) (by decide) hk
theorem x_s192 (X : Fx g) {k : Nat} {x : Int32} (hk : k < 2048) : sI (Em g t) 192 (nI k) x = some (Em g (wa t 192 k x)) := y_sI (Or.inl (x_S X 20 rfl)) (x_N X 2048 rfl) (by decide) (by decide) hk
theorem x_a193 (X : Fx g) {k : Nat} (hk : k < 6) : aI (Em g t) 193 (nI k) = some (tA t 193 k) := y_aI (Or.inl (x_S X 20 rfl)) (x_N X 6 rfl) (by decide) (by decide) hk
theorem x_s193 (X : Fx g) {k : Nat} {x : Int32} (hk : k < 6) : sI (Em g t) 193 (nI k) x = some (Em g (wa t 193 k x)) := y_sI (Or.inl (x_S X 20 rfl)) (x_N X 6 rfl) (by decide) (by decide) hk
theorem x_a194 (X : Fx g) {k : Nat} (hk : k < 6) : aI (Em g t) 194 (nI k) = some (tA t 194 k) := y_aI (Or.inl (x_S X 20 rfl)) (x_N X 6 rfl) (by decide) (by decide) hk
theorem x_s194 (X : Fx g) {k : Nat} {x : Int32} (hk : k < 6) : sI (Em g t) 194 (nI k) x = some (Em g (wa t 194 k x)) := y_sI (Or.inl (x_S X 20 rfl)) (x_N X 6 rfl) (by decide) (by decide) hk
theorem x_a195 (X : Fx g) {k : Nat} (hk : k < 6) : aI (Em g t) 195 (nI k) = some (tA t 195 k) := y_aI (Or.inl (x_S X 20 rfl)) (x_N X 6 rfl) (by decide) (by decide) hk
theorem x_s195 (X : Fx g) {k : Nat} {x : Int32} (hk : k < 6) : sI (Em g t) 195 (nI k) x = some (Em g (wa t 195 k x)) := y_sI (Or.inl (x_S X 20 rfl)) (x_N X 6 rfl) (by decide) (by decide) hk
theorem x_a196 (X : Fx g) {k : Nat} (hk : k < 64) : aI (Em g t) 196 (nI k) = some (tA t 196 k) := y_aI (Or.inl (x_S X 20 rfl)) (x_N X 64 rfl) (by decide) (by decide) hk
theorem x_s196 (X : Fx g) {k : Nat} {x : Int32} (hk : k < 64) : sI (Em g t) 196 (nI k) x = some (Em g (wa t 196 k x)) := y_sI (Or.inl (x_S X 20 rfl)) (x_N X 64 rfl) (by decide) (by decide) hk
theorem x_a197 (X : Fx g) {k : Nat} (hk : k < 11264) : aI (Em g t) 197 (nI k) = some (tA t 197 k) := y_aI (Or.inl (x_S X 20 rfl)) (x_N X 11264 rfl) (by decide) (by decide) hk
theorem x_s197 (X : Fx g) {k : Nat} {x : Int32} (hk : k < 11264) : sI (Em g t) 197 (nI k) x = some (Em g (wa t 197 k x)) := y_sI (Or.inl (x_S X 20 rfl)) (x_N X 11264 rfl) (by decide) (by decide) hk
theorem x_a198 (X : Fx g) {k : Nat} (hk : k < 64) : aI (Em g t) 198 (nI k) = some (tA t 198 k) := y_aI (Or.inl (x_S X 20 rfl)) (x_N X 64 rfl) (by decide) (by decide) hk
theorem x_s198 (X : Fx g) {k : Nat} {x : Int32} (hk : k < 64) : sI (Em g t) 198 (nI k) x = some (Em g (wa t 198 k x)) := y_sI (Or.inl (x_S X 20 rfl)) (x_N X 64 rfl) (by decide) (by decide) hk
theorem x_a199 (X : Fx g) {k : Nat} (hk : k < 12) : aJ (Em g t) 199 (nI k) = some (tJ t 199 k) := y_aJ (x_S X 21 rfl) (x_N X 12 rfl) (by decide) (by decide) hk
theorem x_s199 (X : Fx g) {k : Nat} {x : Int64} (hk : k < 12) : sJ (Em g t) 199 (nI k) x = some (Em g (wj t 199 k x)) := y_sJ (x_S X 21 rfl) (x_N X 12 rfl) (by decide) (by decide) hk
theorem x_a200 (X : Fx g) {k : Nat} (hk : k < 12) : aJ (Em g t) 200 (nI k) = some (tJ t 200 k) := y_aJ (x_S X 21 rfl) (x_N X 12 rfl) (by decide) (by decide) hk
theorem x_s200 (X : Fx g) {k : Nat} {x : Int64} (hk : k < 12) : sJ (Em g t) 200 (nI k) x = some (Em g (wj t 200 k x)) := y_sJ (x_S X 21 rfl) (x_N X 12 rfl) (by decide) (by decide) hk
theorem x_a201 (X : Fx g) {k : Nat} (hk : k < 72) : aI (Em g t) 201 (nI k) = some (tA t 201 k) := y_aI (Or.inl (x_S X 20 rfl)) (x_N X 72 rfl) (by decide) (by decide) hk
theorem x_s201 (X : Fx g) {k : Nat} {x : Int32} (hk : k < 72) : sI (Em g t) 201 (nI k) x = some (Em g (wa t 201 k x)) := y_sI (Or.inl (x_S X 20 rfl)) (x_N X 72 rfl) (by decide) (by decide) hk
theorem x_a202 (X : Fx g) {k : Nat} (hk : k < 4) : aI (Em g t) 202 (nI k) = some (tA t 202 k) := y_aI (Or.inl (x_S X 20 rfl)) (x_N X 4 rfl) (by decide) (by decide) hk
theorem x_s202 (X : Fx g) {k : Nat} {x : Int32} (hk : k < 4) : sI (Em g t) 202 (nI k) x = some (Em g (wa t 202 k x)) := y_sI (Or.inl (x_S X 20 rfl)) (x_N X 4 rfl) (by decide) (by decide) hk
theorem x_a203 (X : Fx g) {k : Nat} (hk : k < 4) : aI (Em g t) 203 (nI k) = some (tA t 203 k) := y_aI (Or.inl (x_S X 20 rfl)) (x_N X 4 rfl) (by decide) (by decide) hk
theorem x_s203 (X : Fx g) {k : Nat} {x : Int32} (hk : k < 4) : sI (Em g t) 203 (nI k) x = some (Em g (wa t 203 k x)) := y_sI (Or.inl (x_S X 20 rfl)) (x_N X 4 rfl) (by decide) (by decide) hk
theorem x_a204 (X : Fx g) {k : Nat} (hk : k < 160) : aJ (Em g t) 204 (nI k) = some (tJ t 204 k) := y_aJ (x_S X 21 rfl) (x_N X 160 rfl) (by decide) (by decide) hk
theorem x_s204 (X : Fx g) {k : Nat} {x : Int64} (hk : k < 160) : sJ (Em g t) 204 (nI k) x = some (Em g (wj t 204 k x)) := y_sJ (x_S X 21 rfl) (x_N X 160 rfl) (by decide) (by decide) hk
end XFx
/-! what a call may leave otherwise without being seen -/
def scF (b : Nat) : Bool := ([72, 100, 101, 102, 149, 150, 151, 152, 154, 155, 156, 158, 159, 160, 164, 187, 188, 189, 190, 191, 192, 193, 194, 195, 197, 198, 201] : List Nat).contains b
def scJ (b : Nat) : Bool := ([161, 162, 165, 166, 199, 200] : List Nat).contains b
def scA (g : Sk) (b : Nat) : Bool := gS g b == 30 || gS g b == 33 || scF b
def scI (a k : Nat) : Bool := a == 99 || a == 148 || a == 153 || a == 157 || (a == 70 && !(k == 1 || k == 11 || k == 12)) || (a == 183 && !(k == 5 || k == 13 || k == 14))
def Sm (g : Sk) (t t' : Tb) : Prop := (∀ a k, scI a k = false → tI t' a k = tI t a k) ∧ (∀ b, scA g b = false → tA t' b = tA t b) ∧ (∀ b, scJ b = false → tJ t' b = tJ t b)
section XSm
variable {g : Sk} {t t' t'' : Tb}
theorem Sm_r : Sm g t t := ⟨fun _ _ _ => rfl, fun _ _ => rfl, fun _ _ => rfl⟩
theorem Sm_t (h : Sm g t t') (h2 : Sm g t' t'') : Sm g t t'' := ⟨fun a k q => (h2.1 a k q).trans (h.1 a k q), fun b q => (h2.2.1 b q).trans (h.2.1 b q), fun b q => (h2.2.2 b q).trans (h.2.2 b q)⟩
theorem Sm_wi {a k : Nat} {x : Int32} (hs : scI a k = true) (h : Sm g t t') : Sm g t (wi t' a k x) := by
  refine ⟨fun b j q => ?_, h.2.1, h.2.2⟩
  by_cases e : b = a ∧ j = k
  · rw [e.1, e.2, hs] at q
    cases q
  · have : tI (wi t' a k x) b j = tI t' b j := by simp [tI, wi, up2, e]
    rw [this]
    exact h.1 b j q
theorem Sm_wa {b k : Nat} {x : Int32} (hs : scA g b = true) (h : Sm g t t') : Sm g t (wa t' b k x) := by
  refine ⟨h.1, fun c q => ?_, h.2.2⟩
  by_cases e : c = b
  · rw [e, hs] at q
    cases q
  · rw [tA_an e]
    exact h.2.1 c q
theorem Sm_wr {b : Nat} {f : Nat → Int32} (hs : scA g b = true) (h : Sm g t t') : Sm g t (wr t' b f) := by
  refine ⟨h.1, fun c q => ?_, h.2.2⟩
  by_cases e : c = b
  · rw [e, hs] at q
    cases q
  · rw [tA_rn e]
    exact h.2.1 c q
theorem Sm_wj {b k : Nat} {x : Int64} (hs : scJ b = true) (h : Sm g t t') : Sm g t (wj t' b k x) := by
  refine ⟨h.1, h.2.1, fun c q => ?_⟩
  by_cases e : c = b
  · rw [e, hs] at q
    cases q
  · rw [tJ_jn e]
    exact h.2.2 c q
theorem Sm_wq {b : Nat} {f : Nat → Int64} (hs : scJ b = true) (h : Sm g t t') : Sm g t (wq t' b f) := by
  refine ⟨h.1, h.2.1, fun c q => ?_⟩
  by_cases e : c = b
  · rw [e, hs] at q
    cases q
  · rw [tJ_ln e]
    exact h.2.2 c q
theorem sc_f {b : Nat} (h : scF b = true) : scA g b = true := by simp [scA, h]
theorem sc_30 {b : Nat} (h : gS g b = 30) : scA g b = true := by simp [scA, h]
theorem sc_33 {b : Nat} (h : gS g b = 33) : scA g b = true := by simp [scA, h]
theorem sc_n {b : Nat} (h : gS g b ≠ 30) (h3 : gS g b ≠ 33) (h2 : scF b = false) : scA g b = false := by simp [scA, h, h2, h3]
theorem sc_x (X : Fx g) {b : Nat} (h : decide (69 ≤ b ∧ b < 205 ∧ S0 b ≠ 30 ∧ S0 b ≠ 33 ∧ scF b = false) = true) : scA g b = false := by
  obtain ⟨h1, h2, h3, h4, h5⟩ := of_decide_eq_true h
  have e := (X.1 b h1 h2).1
  exact sc_n (by rw [e]; exact h3) (by rw [e]; exact h4) h5
theorem Sm_a (X : Fx g) (h : Sm g t t') : tA t' 184 = tA t 184 := h.2.1 184 (sc_x X rfl)
end XSm
