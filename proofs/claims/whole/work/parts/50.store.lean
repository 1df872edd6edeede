/-! ===== the typed store: int fields, int arrays, long arrays, reference fields, reference arrays, by address; shapes by address ===== -/
abbrev xS : Type := (Nat → Nat → Int32) × (Nat → Nat → Int32) × (Nat → Nat → Int64) × (Nat → Nat → Option Nat) × (Nat → Nat → Option Nat)
/-- a class's fields: 0 an int, 1 a reference -/
def lay : Nat → List Nat
  | 0 => [1, 1, 1]
  | 1 => [1, 0, 0]
  | 2 => [1, 1, 1]
  | 3 => [1, 0, 1, 0, 0, 0, 0, 0, 0, 0, 1, 0, 0]
  | 4 => [1, 0, 1, 1, 1, 1, 1]
  | 5 => [1, 1, 1, 0, 0]
  | 6 => [0, 0, 1, 1, 1]
  | 7 => [1, 0, 0]
  | 8 => [0, 1, 1, 0, 1, 1]
  | 9 => [0, 0, 0, 0, 0, 1, 1, 1, 1, 1, 1, 1, 1, 1]
  | 10 => [1, 1, 1, 1, 1, 1, 1, 1, 1, 1, 1, 1]
  | 11 => [0, 1, 1, 1, 1, 0, 0, 0, 0, 0, 0, 0, 0, 0, 0, 0, 1, 1, 1, 0, 0, 1, 1, 1, 1, 1, 0, 1, 1, 1, 0, 1, 1, 1, 1, 1, 1]
  | _ => []
/-- what a shape's number says: ci + 1 an object of class ci that is made at the start, ci + 61 one that is made later (or is a valley's); 20 + t an array of type t, 30 to 59 an int array by its part (30 a law's own rows, 31 a valley's rows, 32 a law's steps) -/
def oc (ci s : Nat) : Prop := s = ci + 1 ∨ s = ci + 61
def ic (s : Nat) : Prop := s = 20 ∨ (30 ≤ s ∧ s ≤ 59)
def xcell (S N : Nat → Nat) (I A : Nat → Nat → Int32) (J : Nat → Nat → Int64) (R Q : Nat → Nat → Option Nat) (a : Nat) : xC :=
  if S a = 21 then .inl (1, N a, .inr (.inl (J a)))
  else if S a = 20 ∨ S a = 22 ∨ S a = 23 ∨ S a = 24 then .inl (S a - 20, N a, .inl (A a))
  else if S a = 25 ∨ S a = 26 ∨ S a = 27 then .inl (S a - 20, N a, .inr (.inr (.inr (.inr (Q a)))))
  else if 30 ≤ S a ∧ S a ≤ 59 then .inl (0, N a, .inl (A a))
  else if 1 ≤ S a ∧ S a ≤ 12 then .inr (S a - 1, ((lay (S a - 1)).zipIdx).map (fun q => if q.1 = 0 then .int (I a q.2) else va_rf (R a q.2)))
  else if 61 ≤ S a ∧ S a ≤ 72 then .inr (S a - 61, ((lay (S a - 61)).zipIdx).map (fun q => if q.1 = 0 then .int (I a q.2) else va_rf (R a q.2)))
  else xnil
def E (sc : Nat × (Nat → Int32)) (n : Nat) (S N : Nat → Nat) (I A : Nat → Nat → Int32) (J : Nat → Nat → Int64) (R Q : Nat → Nat → Option Nat) : xH := (n, fun a => if a < 69 then xkc sc a else xcell S N I A J R Q a)
/-- one place of a table of rows -/
def up2 {α : Type} (f : Nat → Nat → α) (a k : Nat) (x : α) : Nat → Nat → α := fun b j => if b = a ∧ j = k then x else f b j
/-- one row of such a table -/
def up1 {α : Type} (f : Nat → α) (a : Nat) (x : α) : Nat → α := fun b => if b = a then x else f b
theorem up2_s {α : Type} {f : Nat → Nat → α} {a k : Nat} {x : α} : up2 f a k x a k = x := by simp [up2]
theorem up2_a {α : Type} {f : Nat → Nat → α} {a b k j : Nat} {x : α} (h : b ≠ a) : up2 f a k x b j = f b j := by simp [up2, h]
theorem up2_k {α : Type} {f : Nat → Nat → α} {a b k j : Nat} {x : α} (h : j ≠ k) : up2 f a k x b j = f b j := by simp [up2, h]
theorem up2_r {α : Type} {f : Nat → Nat → α} {a b k : Nat} {x : α} (h : b ≠ a) : up2 f a k x b = f b := by funext j; simp [up2, h]
theorem up1_s {α : Type} {f : Nat → α} {a : Nat} {x : α} : up1 f a x a = x := by simp [up1]
theorem up1_n {α : Type} {f : Nat → α} {a b : Nat} {x : α} (h : b ≠ a) : up1 f a x b = f b := by simp [up1, h]
section XE
variable {sc : Nat × (Nat → Int32)} {n : Nat} {S N : Nat → Nat} {I A : Nat → Nat → Int32} {J : Nat → Nat → Int64} {R Q : Nat → Nat → Option Nat}
theorem E_at {a : Nat} (ha : 69 ≤ a) : (E sc n S N I A J R Q).2 a = xcell S N I A J R Q a := by
  show (if a < 69 then _ else _) = _
  rw [if_neg (by omega)]
theorem xcell_obj {a ci : Nat} (hc : ci < 12) (hs : oc ci (S a)) : xcell S N I A J R Q a = .inr (ci, ((lay ci).zipIdx).map (fun q => if q.1 = 0 then .int (I a q.2) else va_rf (R a q.2))) := by
  unfold xcell
  rcases hs with hs | hs
  · rw [if_neg (by omega), if_neg (by omega), if_neg (by omega), if_neg (by omega), if_pos (by omega), hs]
    rfl
  · rw [if_neg (by omega), if_neg (by omega), if_neg (by omega), if_neg (by omega), if_neg (by omega), if_pos (by omega), hs, show ci + 61 - 61 = ci by omega]
theorem xcell_ic {a : Nat} (hs : ic (S a)) : xcell S N I A J R Q a = .inl (0, N a, .inl (A a)) := by
  unfold xcell
  rcases hs with hs | hs
  · rw [if_neg (by omega), if_pos (by omega), hs]
  · rw [if_neg (by omega), if_neg (by omega), if_neg (by omega), if_pos (by omega)]
theorem xcell_int {a t : Nat} (ht : t = 0 ∨ t = 2 ∨ t = 3 ∨ t = 4) (hs : S a = 20 + t) : xcell S N I A J R Q a = .inl (t, N a, .inl (A a)) := by
  unfold xcell
  rw [if_neg (by omega), if_pos (by omega), hs, show 20 + t - 20 = t by omega]
theorem xcell_long {a : Nat} (hs : S a = 21) : xcell S N I A J R Q a = .inl (1, N a, .inr (.inl (J a))) := by
  unfold xcell
  rw [if_pos hs]
theorem xcell_ref {a t : Nat} (ht : t = 5 ∨ t = 6 ∨ t = 7) (hs : S a = 20 + t) : xcell S N I A J R Q a = .inl (t, N a, .inr (.inr (.inr (.inr (Q a))))) := by
  unfold xcell
  rw [if_neg (by omega), if_neg (by omega), if_pos (by omega), hs, show 20 + t - 20 = t by omega]
/-- a cell is written: the store with that cell anew -/
theorem E_up {a : Nat} {c : xC} {I' A' : Nat → Nat → Int32} {J' : Nat → Nat → Int64} {R' Q' : Nat → Nat → Option Nat} (ha : 69 ≤ a) (hc : xcell S N I' A' J' R' Q' a = c) (ho : ∀ b, b ≠ a → xcell S N I' A' J' R' Q' b = xcell S N I A J R Q b) : ((E sc n S N I A J R Q).1, va_up (E sc n S N I A J R Q).2 a c) = E sc n S N I' A' J' R' Q' := by
  refine Prod.ext rfl ?_
  funext b
  show va_up _ a c b = (if b < 69 then xkc sc b else xcell S N I' A' J' R' Q' b)
  by_cases hb : b = a
  · subst hb
    rw [if_neg (by omega), hc]
    simp [va_up]
  · rw [ho b hb]
    simp only [va_up, hb, if_false]
    rfl
theorem xcell_I {a b k : Nat} {x : Int32} (hb : b ≠ a) : xcell S N (up2 I a k x) A J R Q b = xcell S N I A J R Q b := by
  have e : up2 I a k x b = I b := up2_r hb
  unfold xcell
  rw [e]
theorem xcell_R {a b k : Nat} {x : Option Nat} (hb : b ≠ a) : xcell S N I A J (up2 R a k x) Q b = xcell S N I A J R Q b := by
  have e : up2 R a k x b = R b := up2_r hb
  unfold xcell
  rw [e]
theorem xcell_A {a b : Nat} {f : Nat → Int32} (hb : b ≠ a) : xcell S N I (up1 A a f) J R Q b = xcell S N I A J R Q b := by
  unfold xcell
  rw [up1_n hb]
theorem xcell_J {a b : Nat} {f : Nat → Int64} (hb : b ≠ a) : xcell S N I A (up1 J a f) R Q b = xcell S N I A J R Q b := by
  unfold xcell
  rw [up1_n hb]
theorem xcell_Q {a b : Nat} {f : Nat → Option Nat} (hb : b ≠ a) : xcell S N I A J R (up1 Q a f) b = xcell S N I A J R Q b := by
  unfold xcell
  rw [up1_n hb]
theorem lay_get (ci k : Nat) (fI' : Nat → Value) (fR' : Nat → Value) {kd : Nat} (hk : (lay ci)[k]? = some kd) : (((lay ci).zipIdx).map (fun q => if q.1 = 0 then fI' q.2 else fR' q.2))[k]? = some (if kd = 0 then fI' k else fR' k) := by
  rw [List.getElem?_map, List.getElem?_zipIdx, hk]
  simp
theorem E_fI {a ci k : Nat} (ha : 69 ≤ a) (hc : ci < 12) (hk : (lay ci)[k]? = some 0) (hs : oc ci (S a)) : fI (E sc n S N I A J R Q) a ci k = some (I a k) := by
  unfold fI
  rw [E_at ha, xcell_obj hc hs]
  simp [lay_get ci k (fun j => .int (I a j)) (fun j => va_rf (R a j)) hk]
theorem E_fR {a ci k b : Nat} (ha : 69 ≤ a) (hc : ci < 12) (hk : (lay ci)[k]? = some 1) (hs : oc ci (S a)) (hr : R a k = some b) : fR (E sc n S N I A J R Q) a ci k = some b := by
  unfold fR
  rw [E_at ha, xcell_obj hc hs]
  have e := lay_get ci k (fun j => .int (I a j)) (fun j => va_rf (R a j)) hk
  dsimp only
  rw [if_pos rfl, e, if_neg (by decide), hr]
  rfl
theorem E_fQ {a ci k : Nat} (ha : 69 ≤ a) (hc : ci < 12) (hk : (lay ci)[k]? = some 1) (hs : oc ci (S a)) : fQ (E sc n S N I A J R Q) a ci k = some (R a k) := by
  unfold fQ
  rw [E_at ha, xcell_obj hc hs]
  have e := lay_get ci k (fun j => .int (I a j)) (fun j => va_rf (R a j)) hk
  dsimp only
  rw [if_pos rfl, e, if_neg (by decide)]
  cases hr : R a k <;> rfl
theorem E_rc {a ci : Nat} (ha : 69 ≤ a) (hc : ci < 12) (hs : oc ci (S a)) : rc (E sc n S N I A J R Q) a ci = some () := by
  unfold rc
  rw [E_at ha, xcell_obj hc hs]
  simp
theorem lay_set (ci k : Nat) (I' : Nat → Int32) (R' : Nat → Option Nat) (x : Int32) (hk : (lay ci)[k]? = some 0) : (((lay ci).zipIdx).map (fun q => if q.1 = 0 then Value.int (I' q.2) else va_rf (R' q.2))).set k (.int x) = ((lay ci).zipIdx).map (fun q => if q.1 = 0 then Value.int (if q.2 = k then x else I' q.2) else va_rf (R' q.2)) := by
  apply List.ext_getElem?
  intro j
  rw [List.getElem?_set, List.getElem?_map, List.getElem?_map, List.getElem?_zipIdx]
  by_cases hj : k = j
  · subst hj
    obtain ⟨hl, hk2⟩ := List.getElem?_eq_some_iff.mp hk
    simp [hl, hk2]
  · rw [if_neg hj]
    cases hq : (lay ci)[j]? with
    | none => simp
    | some kd => simp [Ne.symm hj]
theorem lay_setR (ci k : Nat) (I' : Nat → Int32) (R' : Nat → Option Nat) (x : Option Nat) (hk : (lay ci)[k]? = some 1) : (((lay ci).zipIdx).map (fun q => if q.1 = 0 then Value.int (I' q.2) else va_rf (R' q.2))).set k (va_rf x) = ((lay ci).zipIdx).map (fun q => if q.1 = 0 then Value.int (I' q.2) else va_rf (if q.2 = k then x else R' q.2)) := by
  apply List.ext_getElem?
  intro j
  rw [List.getElem?_set, List.getElem?_map, List.getElem?_map, List.getElem?_zipIdx]
  by_cases hj : k = j
  · subst hj
    obtain ⟨hl, hk2⟩ := List.getElem?_eq_some_iff.mp hk
    simp [hl, hk2]
  · rw [if_neg hj]
    cases hq : (lay ci)[j]? with
    | none => simp
    | some kd => simp [Ne.symm hj]
theorem E_wI {a ci k : Nat} {x : Int32} (ha : 69 ≤ a) (hc : ci < 12) (hk : (lay ci)[k]? = some 0) (hs : oc ci (S a)) : wI (E sc n S N I A J R Q) a ci k x = some (E sc n S N (up2 I a k x) A J R Q) := by
  unfold wI
  rw [E_at ha, xcell_obj hc hs]
  have hl : k < (((lay ci).zipIdx).map (fun q => if q.1 = 0 then Value.int (I a q.2) else va_rf (R a q.2))).length := by
    have := (List.getElem?_eq_some_iff.mp hk).1
    simp [this]
  simp only [true_and, hl, if_true]
  rw [E_up ha (A' := A) (J' := J) (R' := R) (Q' := Q) (I' := up2 I a k x) ?_ (fun b hb => xcell_I hb)]
  rw [xcell_obj hc hs, lay_set ci k (I a) (R a) x hk]
  refine congrArg (fun z => Sum.inr (ci, z)) (List.map_congr_left fun q _ => ?_)
  by_cases hq : q.2 = k
  · simp [up2, hq]
  · simp [up2, hq]
theorem E_wQ {a ci k : Nat} {x : Option Nat} (ha : 69 ≤ a) (hc : ci < 12) (hk : (lay ci)[k]? = some 1) (hs : oc ci (S a)) : wQ (E sc n S N I A J R Q) a ci k x = some (E sc n S N I A J (up2 R a k x) Q) := by
  unfold wQ
  rw [E_at ha, xcell_obj hc hs]
  have hl : k < (((lay ci).zipIdx).map (fun q => if q.1 = 0 then Value.int (I a q.2) else va_rf (R a q.2))).length := by
    have := (List.getElem?_eq_some_iff.mp hk).1
    simp [this]
  simp only [true_and, hl, if_true]
  rw [E_up ha (A' := A) (J' := J) (I' := I) (Q' := Q) (R' := up2 R a k x) ?_ (fun b hb => xcell_R hb)]
  rw [xcell_obj hc hs, lay_setR ci k (I a) (R a) x hk]
  refine congrArg (fun z => Sum.inr (ci, z)) (List.map_congr_left fun q _ => ?_)
  by_cases hq : q.2 = k
  · simp [up2, hq]
  · simp [up2, hq]
theorem E_aI {a : Nat} {i : Int32} (ha : 69 ≤ a) (hs : ic (S a)) (hi : ¬ (i < 0 ∨ N a ≤ i.toNatClampNeg)) : aI (E sc n S N I A J R Q) a i = some (A a i.toNatClampNeg) := by
  unfold aI
  rw [E_at ha, xcell_ic hs]
  simp only [hi, if_false]
theorem E_aC {a : Nat} {i : Int32} (ha : 69 ≤ a) (hs : S a = 22) (hi : ¬ (i < 0 ∨ N a ≤ i.toNatClampNeg)) : aC (E sc n S N I A J R Q) a i = some (A a i.toNatClampNeg) := by
  unfold aC
  rw [E_at ha, xcell_int (t := 2) (Or.inr (Or.inl rfl)) hs]
  simp only [hi, if_false]
theorem E_aB {a : Nat} {i : Int32} (ha : 69 ≤ a) (hs : S a = 23 ∨ S a = 24) (hi : ¬ (i < 0 ∨ N a ≤ i.toNatClampNeg)) : aB (E sc n S N I A J R Q) a i = some (A a i.toNatClampNeg) := by
  unfold aB
  rcases hs with hs | hs
  · rw [E_at ha, xcell_int (t := 3) (Or.inr (Or.inr (Or.inl rfl))) hs]
    simp only [hi, if_false]
  · rw [E_at ha, xcell_int (t := 4) (Or.inr (Or.inr (Or.inr rfl))) hs]
    simp only [hi, if_false]
theorem E_aJ {a : Nat} {i : Int32} (ha : 69 ≤ a) (hs : S a = 21) (hi : ¬ (i < 0 ∨ N a ≤ i.toNatClampNeg)) : aJ (E sc n S N I A J R Q) a i = some (J a i.toNatClampNeg) := by
  unfold aJ
  rw [E_at ha, xcell_long hs]
  simp only [hi, if_false]
theorem E_aQ {a : Nat} {i : Int32} (ha : 69 ≤ a) (hs : S a = 25 ∨ S a = 26 ∨ S a = 27) (hi : ¬ (i < 0 ∨ N a ≤ i.toNatClampNeg)) : aQ (E sc n S N I A J R Q) a i = some (Q a i.toNatClampNeg) := by
  unfold aQ
  rcases hs with hs | hs | hs
  · rw [E_at ha, xcell_ref (t := 5) (Or.inl rfl) hs]
    simp only [hi, if_false]
  · rw [E_at ha, xcell_ref (t := 6) (Or.inr (Or.inl rfl)) hs]
    simp only [hi, if_false]
  · rw [E_at ha, xcell_ref (t := 7) (Or.inr (Or.inr rfl)) hs]
    simp only [hi, if_false]
theorem E_aR {a b : Nat} {i : Int32} (ha : 69 ≤ a) (hs : S a = 25 ∨ S a = 26 ∨ S a = 27) (hi : ¬ (i < 0 ∨ N a ≤ i.toNatClampNeg)) (hq : Q a i.toNatClampNeg = some b) : aR (E sc n S N I A J R Q) a i = some b := by
  unfold aR
  rw [E_aQ ha hs hi, hq]
  rfl
theorem E_sI {a : Nat} {i x : Int32} (ha : 69 ≤ a) (hs : ic (S a)) (hi : ¬ (i < 0 ∨ N a ≤ i.toNatClampNeg)) : sI (E sc n S N I A J R Q) a i x = some (E sc n S N I (up1 A a (upd (A a) i.toNatClampNeg x)) J R Q) := by
  unfold sI
  rw [E_at ha, xcell_ic hs]
  have h2 : ¬ (a < 69 ∨ i < 0 ∨ N a ≤ i.toNatClampNeg) := by
    intro q
    rcases q with q | q
    · omega
    · exact hi q
  simp only [h2, if_false]
  rw [E_up ha (A' := up1 A a (upd (A a) i.toNatClampNeg x)) (J' := J) (I' := I) (Q' := Q) (R' := R) ?_ (fun b hb => xcell_A hb)]
  rw [xcell_ic hs, up1_s]
theorem E_sC {a : Nat} {i x : Int32} (ha : 69 ≤ a) (hs : S a = 22) (hi : ¬ (i < 0 ∨ N a ≤ i.toNatClampNeg)) : sC (E sc n S N I A J R Q) a i x = some (E sc n S N I (up1 A a (upd (A a) i.toNatClampNeg (vp_nar .char x))) J R Q) := by
  unfold sC
  rw [E_at ha, xcell_int (t := 2) (Or.inr (Or.inl rfl)) hs]
  have h2 : ¬ (a < 69 ∨ i < 0 ∨ N a ≤ i.toNatClampNeg) := by
    intro q
    rcases q with q | q
    · omega
    · exact hi q
  simp only [h2, if_false]
  rw [E_up ha (A' := up1 A a (upd (A a) i.toNatClampNeg (vp_nar .char x))) (J' := J) (I' := I) (Q' := Q) (R' := R) ?_ (fun b hb => xcell_A hb)]
  rw [xcell_int (t := 2) (Or.inr (Or.inl rfl)) hs, up1_s]
theorem E_sB {a : Nat} {i x : Int32} (ha : 69 ≤ a) (hs : S a = 23) (hi : ¬ (i < 0 ∨ N a ≤ i.toNatClampNeg)) : sB (E sc n S N I A J R Q) a i x = some (E sc n S N I (up1 A a (upd (A a) i.toNatClampNeg (vp_nar .byte x))) J R Q) := by
  unfold sB
  rw [E_at ha, xcell_int (t := 3) (Or.inr (Or.inr (Or.inl rfl))) hs]
  have h2 : ¬ (a < 69 ∨ i < 0 ∨ N a ≤ i.toNatClampNeg) := by
    intro q
    rcases q with q | q
    · omega
    · exact hi q
  simp only [h2, if_false]
  rw [E_up ha (A' := up1 A a (upd (A a) i.toNatClampNeg (vp_nar .byte x))) (J' := J) (I' := I) (Q' := Q) (R' := R) ?_ (fun b hb => xcell_A hb)]
  rw [xcell_int (t := 3) (Or.inr (Or.inr (Or.inl rfl))) hs, up1_s]
theorem E_sZ {a : Nat} {i x : Int32} (ha : 69 ≤ a) (hs : S a = 24) (hi : ¬ (i < 0 ∨ N a ≤ i.toNatClampNeg)) : sB (E sc n S N I A J R Q) a i x = some (E sc n S N I (up1 A a (upd (A a) i.toNatClampNeg (vp_nar .boolean x))) J R Q) := by
  unfold sB
  rw [E_at ha, xcell_int (t := 4) (Or.inr (Or.inr (Or.inr rfl))) hs]
  have h2 : ¬ (a < 69 ∨ i < 0 ∨ N a ≤ i.toNatClampNeg) := by
    intro q
    rcases q with q | q
    · omega
    · exact hi q
  simp only [h2, if_false]
  rw [E_up ha (A' := up1 A a (upd (A a) i.toNatClampNeg (vp_nar .boolean x))) (J' := J) (I' := I) (Q' := Q) (R' := R) ?_ (fun b hb => xcell_A hb)]
  rw [xcell_int (t := 4) (Or.inr (Or.inr (Or.inr rfl))) hs, up1_s]
theorem E_sJ {a : Nat} {i : Int32} {x : Int64} (ha : 69 ≤ a) (hs : S a = 21) (hi : ¬ (i < 0 ∨ N a ≤ i.toNatClampNeg)) : sJ (E sc n S N I A J R Q) a i x = some (E sc n S N I A (up1 J a (vp_updL (J a) i.toNatClampNeg x)) R Q) := by
  unfold sJ
  rw [E_at ha, xcell_long hs]
  have h2 : ¬ (a < 69 ∨ i < 0 ∨ N a ≤ i.toNatClampNeg) := by
    intro q
    rcases q with q | q
    · omega
    · exact hi q
  simp only [h2, if_false]
  rw [E_up ha (A' := A) (J' := up1 J a (vp_updL (J a) i.toNatClampNeg x)) (I' := I) (Q' := Q) (R' := R) ?_ (fun b hb => xcell_J hb)]
  rw [xcell_long hs, up1_s]
theorem E_al {a : Nat} (ha : 69 ≤ a) (hs : 20 ≤ S a ∧ S a ≤ 59 ∧ ¬ (S a = 28 ∨ S a = 29)) : al (E sc n S N I A J R Q) a = some (nI (N a)) := by
  unfold al
  rw [E_at ha]
  rcases (show S a = 20 ∨ S a = 21 ∨ S a = 22 ∨ S a = 23 ∨ S a = 24 ∨ S a = 25 ∨ S a = 26 ∨ S a = 27 ∨ (30 ≤ S a ∧ S a ≤ 59) by omega) with h | h | h | h | h | h | h | h | h
  · rw [xcell_int (t := 0) (by simp) h]; simp
  · rw [xcell_long h]; simp
  · rw [xcell_int (t := 2) (by simp) h]; simp
  · rw [xcell_int (t := 3) (by simp) h]; simp
  · rw [xcell_int (t := 4) (by simp) h]; simp
  · rw [xcell_ref (t := 5) (by simp) h]; simp
  · rw [xcell_ref (t := 6) (by simp) h]; simp
  · rw [xcell_ref (t := 7) (by simp) h]; simp
  · rw [xcell_ic (Or.inr h)]; simp
theorem E_cpI {a b : Nat} {sp dp m : Int32} (ha : 69 ≤ a) (hb : 69 ≤ b) (hs : ic (S a)) (hsb : ic (S b)) (h1 : ¬ sp < 0) (h2 : ¬ dp < 0) (h3 : ¬ m < 0) (h4 : sp.toNatClampNeg + m.toNatClampNeg ≤ N a) (h5 : dp.toNatClampNeg + m.toNatClampNeg ≤ N b) : cpI (E sc n S N I A J R Q) a sp b dp m = some (E sc n S N I (up1 A b (va_cpy (A a) (A b) sp.toNatClampNeg dp.toNatClampNeg m.toNatClampNeg)) J R Q) := by
  unfold cpI
  rw [E_at ha, E_at hb, xcell_ic hs, xcell_ic hsb]
  have hn : ¬ (a < 69 ∨ b < 69 ∨ sp < 0 ∨ dp < 0 ∨ m < 0 ∨ N a < sp.toNatClampNeg + m.toNatClampNeg ∨ N b < dp.toNatClampNeg + m.toNatClampNeg) := by
    rintro (q | q | q | q | q | q | q)
    · omega
    · omega
    · exact h1 q
    · exact h2 q
    · exact h3 q
    · omega
    · omega
  simp only [hn, if_false]
  rw [E_up hb (A' := up1 A b (va_cpy (A a) (A b) sp.toNatClampNeg dp.toNatClampNeg m.toNatClampNeg)) (J' := J) (I' := I) (Q' := Q) (R' := R) ?_ (fun c hc => xcell_A hc)]
  rw [xcell_ic hsb, up1_s]
theorem E_cpJ {a b : Nat} {sp dp m : Int32} (ha : 69 ≤ a) (hb : 69 ≤ b) (hs : S a = 21) (hsb : S b = 21) (h1 : ¬ sp < 0) (h2 : ¬ dp < 0) (h3 : ¬ m < 0) (h4 : sp.toNatClampNeg + m.toNatClampNeg ≤ N a) (h5 : dp.toNatClampNeg + m.toNatClampNeg ≤ N b) : cpI (E sc n S N I A J R Q) a sp b dp m = some (E sc n S N I A (up1 J b (va_cpy (J a) (J b) sp.toNatClampNeg dp.toNatClampNeg m.toNatClampNeg)) R Q) := by
  unfold cpI
  rw [E_at ha, E_at hb, xcell_long hs, xcell_long hsb]
  have hn : ¬ (a < 69 ∨ b < 69 ∨ sp < 0 ∨ dp < 0 ∨ m < 0 ∨ N a < sp.toNatClampNeg + m.toNatClampNeg ∨ N b < dp.toNatClampNeg + m.toNatClampNeg) := by
    rintro (q | q | q | q | q | q | q)
    · omega
    · omega
    · exact h1 q
    · exact h2 q
    · exact h3 q
    · omega
    · omega
  simp only [hn, if_false]
  rw [E_up hb (A' := A) (J' := up1 J b (va_cpy (J a) (J b) sp.toNatClampNeg dp.toNatClampNeg m.toNatClampNeg)) (I' := I) (Q' := Q) (R' := R) ?_ (fun c hc => xcell_J hc)]
  rw [xcell_long hsb, up1_s]
theorem E_sR {a v t ci : Nat} {i : Int32} (ha : 69 ≤ a) (hv : 69 ≤ v) (ht : (t = 5 ∧ ci = 5) ∨ (t = 6 ∧ ci = 7) ∨ (t = 7 ∧ ci = 9)) (hs : S a = 20 + t) (hsv : oc ci (S v)) (hi : ¬ (i < 0 ∨ N a ≤ i.toNatClampNeg)) : sR (E sc n S N I A J R Q) a i v = some (E sc n S N I A J R (up1 Q a (va_up (Q a) i.toNatClampNeg (some v)))) := by
  unfold sR
  rw [E_at ha, E_at hv, xcell_ref (t := t) (by omega) hs, xcell_obj (ci := ci) (by omega) hsv]
  have hn : ¬ (a < 69 ∨ i < 0 ∨ N a ≤ i.toNatClampNeg ∨ ¬ ((t = 5 ∧ ci = 5) ∨ (t = 6 ∧ ci = 7) ∨ (t = 7 ∧ ci = 9))) := by
    rintro (q | q | q | q)
    · omega
    · exact hi (Or.inl q)
    · exact hi (Or.inr q)
    · exact q ht
  simp only [hn, if_false]
  rw [E_up ha (A' := A) (J' := J) (I' := I) (R' := R) (Q' := up1 Q a (va_up (Q a) i.toNatClampNeg (some v))) ?_ (fun c hc => xcell_Q hc)]
  rw [xcell_ref (t := t) (by omega) hs, up1_s]
end XE
