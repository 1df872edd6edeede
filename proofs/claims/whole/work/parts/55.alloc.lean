/-! ===== making cells in the typed store ===== -/
def x_h0' (sc : Nat × (Nat → Int32)) : xH := (69, fun k => if k < 69 then xkc sc k else xnil)
section XAl
variable {sc : Nat × (Nat → Int32)} {n : Nat} {S N : Nat → Nat} {I A : Nat → Nat → Int32} {J : Nat → Nat → Int64} {R Q : Nat → Nat → Option Nat}
theorem E_push {c : xC} {S' N' : Nat → Nat} {I' A' : Nat → Nat → Int32} {J' : Nat → Nat → Int64} {R' Q' : Nat → Nat → Option Nat} (hn : 69 ≤ n) (hc : xcell S' N' I' A' J' R' Q' n = c) (ho : ∀ b, b ≠ n → xcell S' N' I' A' J' R' Q' b = xcell S N I A J R Q b) : ((E sc n S N I A J R Q).1 + 1, va_up (E sc n S N I A J R Q).2 (E sc n S N I A J R Q).1 c) = E sc (n + 1) S' N' I' A' J' R' Q' := by
  refine Prod.ext rfl ?_
  funext b
  show va_up _ n c b = (if b < 69 then xkc sc b else xcell S' N' I' A' J' R' Q' b)
  by_cases hb : b = n
  · subst hb
    rw [if_neg (by omega), hc]
    simp [va_up]
  · rw [ho b hb]
    simp only [va_up, hb, if_false]
    rfl
theorem xcell_eq {S' N' : Nat → Nat} {I' A' : Nat → Nat → Int32} {J' : Nat → Nat → Int64} {R' Q' : Nat → Nat → Option Nat} {b : Nat} (h1 : S' b = S b) (h2 : N' b = N b) (h3 : I' b = I b) (h4 : A' b = A b) (h5 : J' b = J b) (h6 : R' b = R b) (h7 : Q' b = Q b) : xcell S' N' I' A' J' R' Q' b = xcell S N I A J R Q b := by
  unfold xcell
  rw [h1, h2, h3, h4, h5, h6, h7]
/-- the fields of a new object -/
def dfl (ci : Nat) : List Value := (lay ci).map (fun q => if q = 0 then .int 0 else .null)
theorem dfl_eq (ci : Nat) : ((lay ci).zipIdx).map (fun q : Nat × Nat => if q.1 = 0 then Value.int ((fun _ : Nat => (0 : Int32)) q.2) else va_rf ((fun _ : Nat => (none : Option Nat)) q.2)) = dfl ci := by
  unfold dfl
  apply List.ext_getElem?
  intro j
  rw [List.getElem?_map, List.getElem?_map, List.getElem?_zipIdx]
  cases (lay ci)[j]? with
  | none => rfl
  | some kd => simp [va_rf]
theorem E_nO {ci : Nat} {fs : List Value} (c : Nat) (hc : ci < 12) (ho : oc ci c) (hf : fs = dfl ci) (hn : 69 ≤ n) : nO (E sc n S N I A J R Q) ci fs = E sc (n + 1) (up1 S n c) N (up1 I n (fun _ => 0)) A J (up1 R n (fun _ => none)) Q := by
  unfold nO
  refine E_push hn ?_ (fun b hb => xcell_eq (up1_n hb) rfl (up1_n hb) rfl rfl (up1_n hb) rfl)
  rw [xcell_obj (ci := ci) hc (by rw [up1_s]; exact ho), hf, ← dfl_eq ci, up1_s, up1_s]
theorem E_nW0 {m : Nat} (c : Nat) (ho : ic c) (hn : 69 ≤ n) : nW (E sc n S N I A J R Q) 0 m = E sc (n + 1) (up1 S n c) (up1 N n m) I (up1 A n (fun _ => 0)) J R Q := by
  unfold nW
  refine E_push hn ?_ (fun b hb => xcell_eq (up1_n hb) (up1_n hb) rfl (up1_n hb) rfl rfl rfl)
  rw [xcell_ic (by rw [up1_s]; exact ho), up1_s, up1_s]
theorem E_nWt {t m : Nat} (ht : t = 2 ∨ t = 3 ∨ t = 4) (hn : 69 ≤ n) : nW (E sc n S N I A J R Q) t m = E sc (n + 1) (up1 S n (20 + t)) (up1 N n m) I (up1 A n (fun _ => 0)) J R Q := by
  unfold nW
  refine E_push hn ?_ (fun b hb => xcell_eq (up1_n hb) (up1_n hb) rfl (up1_n hb) rfl rfl rfl)
  rw [xcell_int (t := t) (by omega) up1_s, up1_s, up1_s]
theorem E_nL {m : Nat} (hn : 69 ≤ n) : nL (E sc n S N I A J R Q) m = E sc (n + 1) (up1 S n 21) (up1 N n m) I A (up1 J n (fun _ => 0)) R Q := by
  unfold nL
  refine E_push hn ?_ (fun b hb => xcell_eq (up1_n hb) (up1_n hb) rfl rfl (up1_n hb) rfl rfl)
  rw [xcell_long up1_s, up1_s, up1_s]
theorem E_nQ {t m : Nat} (ht : t = 5 ∨ t = 6 ∨ t = 7) (hn : 69 ≤ n) : nQ (E sc n S N I A J R Q) t m = E sc (n + 1) (up1 S n (20 + t)) (up1 N n m) I A J R (up1 Q n (fun _ => none)) := by
  unfold nQ
  refine E_push hn ?_ (fun b hb => xcell_eq (up1_n hb) (up1_n hb) rfl rfl rfl rfl (up1_n hb))
  rw [xcell_ref (t := t) ht up1_s, up1_s, up1_s]
theorem E_1 : (E sc n S N I A J R Q).1 = n := rfl
theorem x_h0_E : x_h0' sc = E sc 69 (fun _ => 0) (fun _ => 0) (fun _ _ => 0) (fun _ _ => 0) (fun _ _ => 0) (fun _ _ => none) (fun _ _ => none) := by
  refine Prod.ext rfl ?_
  funext a
  show (if a < 69 then xkc sc a else xnil) = (if a < 69 then xkc sc a else xcell _ _ _ _ _ _ _ a)
  by_cases h : a < 69
  · rw [if_pos h, if_pos h]
  · rw [if_neg h, if_neg h]
    rfl
end XAl
