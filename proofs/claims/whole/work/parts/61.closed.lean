/-! ===== the store with closed shapes: each side condition one decide ===== -/
section XC0
variable {sc : Nat × (Nat → Int32)} {n : Nat} {S N : Nat → Nat} {I A : Nat → Nat → Int32} {J : Nat → Nat → Int64} {R Q : Nat → Nat → Option Nat}
theorem k_nO {ci : Nat} {fs : List Value} (hc : decide (ci < 12) = true) (hf : decide (fs = dfl ci) = true) (hn : decide (69 ≤ n) = true) : nO (E sc n S N I A J R Q) ci fs = E sc (n + 1) (up1 S n (ci + 1)) N (up1 I n (fun _ => 0)) A J (up1 R n (fun _ => none)) Q := E_nO (ci + 1) (of_decide_eq_true hc) (Or.inl rfl) (of_decide_eq_true hf) (of_decide_eq_true hn)
theorem k_nW0 {m : Nat} (hn : decide (69 ≤ n) = true) : nW (E sc n S N I A J R Q) 0 m = E sc (n + 1) (up1 S n 20) (up1 N n m) I (up1 A n (fun _ => 0)) J R Q := E_nW0 20 (Or.inl rfl) (of_decide_eq_true hn)
theorem k_nW2 {m : Nat} (hn : decide (69 ≤ n) = true) : nW (E sc n S N I A J R Q) 2 m = E sc (n + 1) (up1 S n 22) (up1 N n m) I (up1 A n (fun _ => 0)) J R Q := E_nWt (Or.inl rfl) (of_decide_eq_true hn)
theorem k_nW3 {m : Nat} (hn : decide (69 ≤ n) = true) : nW (E sc n S N I A J R Q) 3 m = E sc (n + 1) (up1 S n 23) (up1 N n m) I (up1 A n (fun _ => 0)) J R Q := E_nWt (Or.inr (Or.inl rfl)) (of_decide_eq_true hn)
theorem k_nW4 {m : Nat} (hn : decide (69 ≤ n) = true) : nW (E sc n S N I A J R Q) 4 m = E sc (n + 1) (up1 S n 24) (up1 N n m) I (up1 A n (fun _ => 0)) J R Q := E_nWt (Or.inr (Or.inr rfl)) (of_decide_eq_true hn)
theorem k_nL {m : Nat} (hn : decide (69 ≤ n) = true) : nL (E sc n S N I A J R Q) m = E sc (n + 1) (up1 S n 21) (up1 N n m) I A (up1 J n (fun _ => 0)) R Q := E_nL (of_decide_eq_true hn)
theorem k_nQ {t m : Nat} (ht : decide (t = 5 ∨ t = 6 ∨ t = 7) = true) (hn : decide (69 ≤ n) = true) : nQ (E sc n S N I A J R Q) t m = E sc (n + 1) (up1 S n (20 + t)) (up1 N n m) I A J R (up1 Q n (fun _ => none)) := E_nQ (of_decide_eq_true ht) (of_decide_eq_true hn)
theorem k_wI {a ci k : Nat} {x : Int32} (h : decide (69 ≤ a ∧ ci < 12 ∧ (lay ci)[k]? = some 0 ∧ S a = ci + 1) = true) : wI (E sc n S N I A J R Q) a ci k x = some (E sc n S N (up2 I a k x) A J R Q) := by
  obtain ⟨h1, h2, h3, h4⟩ := of_decide_eq_true h
  exact E_wI h1 h2 h3 (Or.inl h4)
theorem k_wQ {a ci k : Nat} {x : Option Nat} (h : decide (69 ≤ a ∧ ci < 12 ∧ (lay ci)[k]? = some 1 ∧ S a = ci + 1) = true) : wQ (E sc n S N I A J R Q) a ci k x = some (E sc n S N I A J (up2 R a k x) Q) := by
  obtain ⟨h1, h2, h3, h4⟩ := of_decide_eq_true h
  exact E_wQ h1 h2 h3 (Or.inl h4)
theorem k_fR {a ci k b : Nat} (h : decide (69 ≤ a ∧ ci < 12 ∧ (lay ci)[k]? = some 1 ∧ S a = ci + 1 ∧ R a k = some b) = true) : fR (E sc n S N I A J R Q) a ci k = some b := by
  obtain ⟨h1, h2, h3, h4, h5⟩ := of_decide_eq_true h
  exact E_fR h1 h2 h3 (Or.inl h4) h5
theorem k_ifp {α : Sort _} {c : Prop} [Decidable c] {a b : α} (h : decide c = true) : (if c then a else b) = a := if_pos (of_decide_eq_true h)
theorem k_ifn {α : Sort _} {c : Prop} [Decidable c] {a b : α} (h : decide c = false) : (if c then a else b) = b := if_neg (of_decide_eq_false h)
theorem k_fQ {a ci k : Nat} (h : decide (69 ≤ a ∧ ci < 12 ∧ (lay ci)[k]? = some 1 ∧ S a = ci + 1) = true) : fQ (E sc n S N I A J R Q) a ci k = some (R a k) := by
  obtain ⟨h1, h2, h3, h4⟩ := of_decide_eq_true h
  exact E_fQ h1 h2 h3 (Or.inl h4)
theorem k_fI {a ci k : Nat} (h : decide (69 ≤ a ∧ ci < 12 ∧ (lay ci)[k]? = some 0 ∧ S a = ci + 1) = true) : fI (E sc n S N I A J R Q) a ci k = some (I a k) := by
  obtain ⟨h1, h2, h3, h4⟩ := of_decide_eq_true h
  exact E_fI h1 h2 h3 (Or.inl h4)
theorem k_rc {a ci : Nat} (h : decide (69 ≤ a ∧ ci < 12 ∧ S a = ci + 1) = true) : rc (E sc n S N I A J R Q) a ci = some () := by
  obtain ⟨h1, h2, h4⟩ := of_decide_eq_true h
  exact E_rc h1 h2 (Or.inl h4)
theorem k_aI {a : Nat} {i : Int32} (h : decide (69 ≤ a ∧ S a = 20 ∧ ¬ (i < 0 ∨ N a ≤ i.toNatClampNeg)) = true) : aI (E sc n S N I A J R Q) a i = some (A a i.toNatClampNeg) := by
  obtain ⟨h1, h2, h3⟩ := of_decide_eq_true h
  exact E_aI h1 (Or.inl h2) h3
theorem k_sI {a : Nat} {i x : Int32} (h : decide (69 ≤ a ∧ S a = 20 ∧ ¬ (i < 0 ∨ N a ≤ i.toNatClampNeg)) = true) : sI (E sc n S N I A J R Q) a i x = some (E sc n S N I (up1 A a (upd (A a) i.toNatClampNeg x)) J R Q) := by
  obtain ⟨h1, h2, h3⟩ := of_decide_eq_true h
  exact E_sI h1 (Or.inl h2) h3
theorem k_sR5 {a v : Nat} {i : Int32} (h : decide (69 ≤ a ∧ 69 ≤ v ∧ S a = 25 ∧ S v = 6 ∧ ¬ (i < 0 ∨ N a ≤ i.toNatClampNeg)) = true) : sR (E sc n S N I A J R Q) a i v = some (E sc n S N I A J R (up1 Q a (va_up (Q a) i.toNatClampNeg (some v)))) := by
  obtain ⟨h1, h2, h3, h4, h5⟩ := of_decide_eq_true h
  exact E_sR (t := 5) (ci := 5) h1 h2 (by decide) h3 (Or.inl h4) h5
theorem k_sR6 {a v : Nat} {i : Int32} (h : decide (69 ≤ a ∧ 69 ≤ v ∧ S a = 26 ∧ S v = 8 ∧ ¬ (i < 0 ∨ N a ≤ i.toNatClampNeg)) = true) : sR (E sc n S N I A J R Q) a i v = some (E sc n S N I A J R (up1 Q a (va_up (Q a) i.toNatClampNeg (some v)))) := by
  obtain ⟨h1, h2, h3, h4, h5⟩ := of_decide_eq_true h
  exact E_sR (t := 6) (ci := 7) h1 h2 (by decide) h3 (Or.inl h4) h5
theorem k_wZ0 {a ci k : Nat} (h : decide (69 ≤ a ∧ ci < 12 ∧ (lay ci)[k]? = some 0 ∧ S a = ci + 1) = true) : wZ (E sc n S N I A J R Q) a ci k 0 = some (E sc n S N (up2 I a k 0) A J R Q) := by
  unfold wZ
  rw [if_pos (Or.inl rfl)]
  exact k_wI h
theorem k_fRe {a ci k b : Nat} (hb : R a k = some b) (h : decide (69 ≤ a ∧ ci < 12 ∧ (lay ci)[k]? = some 1 ∧ S a = ci + 1) = true) : fR (E sc n S N I A J R Q) a ci k = some b := by
  obtain ⟨h1, h2, h3, h4⟩ := of_decide_eq_true h
  exact E_fR h1 h2 h3 (Or.inl h4) hb
theorem k_map {α : Type} {c s c' s' : Nat} {r : α} {h : xH} : (some (r, h, c', s')).map (ac α c s) = some (r, h, c' + c, s' + s) := rfl
theorem k_fRo {a ci k : Nat} (h : decide (69 ≤ a ∧ ci < 12 ∧ (lay ci)[k]? = some 1 ∧ S a = ci + 1) = true) : fR (E sc n S N I A J R Q) a ci k = R a k := by
  obtain ⟨h1, h2, h3, h4⟩ := of_decide_eq_true h
  unfold fR
  rw [E_at h1, xcell_obj h2 (Or.inl h4)]
  have e := lay_get ci k (fun j => .int (I a j)) (fun j => va_rf (R a j)) h3
  dsimp only
  rw [if_pos rfl, e, if_neg (by decide)]
  cases hr : R a k <;> rfl
theorem k_u2h {α : Type} {f : Nat → Nat → α} {a k b j : Nat} {x : α} (h : decide (b = a ∧ j = k) = true) : up2 f a k x b j = x := by
  obtain ⟨rfl, rfl⟩ := of_decide_eq_true h
  exact up2_s
theorem k_u2m {α : Type} {f : Nat → Nat → α} {a k b j : Nat} {x : α} (h : decide (b = a ∧ j = k) = false) : up2 f a k x b j = f b j := by
  have := of_decide_eq_false h
  simp [up2, this]
theorem k_u1h {α : Type} {f : Nat → α} {a b : Nat} {x : α} (h : decide (b = a) = true) : up1 f a x b = x := by
  have := of_decide_eq_true h
  subst this
  exact up1_s
theorem k_u1m {α : Type} {f : Nat → α} {a b : Nat} {x : α} (h : decide (b = a) = false) : up1 f a x b = f b := up1_n (of_decide_eq_false h)
theorem k_uh {f : Nat → Int32} {a b : Nat} {x : Int32} (h : decide (b = a) = true) : upd f a x b = x := by
  have := of_decide_eq_true h
  subst this
  exact pk_us
theorem k_um {f : Nat → Int32} {a b : Nat} {x : Int32} (h : decide (b = a) = false) : upd f a x b = f b := pk_un (of_decide_eq_false h)
end XC0
