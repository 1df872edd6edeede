/-! ===== the constructors on the typed store ===== -/
/-- k places from n on -/
def upr {α : Type} (f : Nat → α) (n k : Nat) (x : α) : Nat → α := fun b => if n ≤ b ∧ b < n + k then x else f b
theorem upr_in {α : Type} {f : Nat → α} {n k b : Nat} {x : α} (h1 : n ≤ b) (h2 : b < n + k) : upr f n k x b = x := by simp [upr, h1, h2]
theorem upr_out {α : Type} {f : Nat → α} {n k b : Nat} {x : α} (h : b < n ∨ n + k ≤ b) : upr f n k x b = f b := by
  unfold upr
  rw [if_neg (by omega)]
theorem upr_3 {α : Type} (f : Nat → α) (n : Nat) (x : α) : up1 (up1 (up1 f n x) (n + 1) x) (n + 1 + 1) x = upr f n 3 x := by
  funext b
  simp only [up1, upr]
  by_cases h : n ≤ b ∧ b < n + 3
  · rw [if_pos h]
    rcases (show b = n ∨ b = n + 1 ∨ b = n + 1 + 1 by omega) with h | h | h <;> simp [h]
  · rw [if_neg h, if_neg (by omega), if_neg (by omega), if_neg (by omega)]
section XCt
variable {sc : Nat × (Nat → Int32)} {n : Nat} {S N : Nat → Nat} {I A : Nat → Nat → Int32} {J : Nat → Nat → Int64} {R Q : Nat → Nat → Option Nat}
theorem e_len {k : Int32} {m : Nat} (h : k = nI m) (hm : m ≤ 60000) : (k < 0 ∨ 60000000 < k.toNatClampNeg) = False := by
  rw [h, nI_clamp (by omega)]
  apply propext
  constructor
  · rintro (q | q)
    · exact nI_pos (by omega) q
    · omega
  · exact False.elim
theorem e_if {α : Type} {X : Option α} {k : Int32} {m : Nat} (h : k = nI m) (hm : m ≤ 60000) : (if k < 0 ∨ 60000000 < k.toNatClampNeg then none else X) = X := if_neg (fun q => by rw [← e_len h hm]; exact q)
theorem e_cl {k : Int32} {m : Nat} (h : k = nI m) (hm : m ≤ 60000) : k.toNatClampNeg = m := by rw [h, nI_clamp (by omega)]
theorem oc_up {ci a c : Nat} (hS : oc ci (S a)) (h : a < n) : oc ci (up1 S n c a) := by rw [up1_n (by omega)]; exact hS
theorem i_X6 {a c : Nat} (hc : ic c) (ha : 69 ≤ a) (han : a < n) (hS : oc 5 (S a)) : F_X6_init a (E sc n S N I A J R Q) = some ((), E sc (n + 3) (upr S n 3 c) (upr N n 3 6) (up2 (up2 I a 3 0) a 4 0) (upr A n 3 (fun _ => 0)) J (up2 (up2 (up2 R a 0 (some n)) a 1 (some (n + 1))) a 2 (some (n + 1 + 1))) Q, 3, 18) := by
  unfold F_X6_init
  have s1 : oc 5 (up1 S n c a) := oc_up hS han
  have s2 : oc 5 (up1 (up1 S n c) (n + 1) c a) := oc_up s1 (by omega)
  have s3 : oc 5 (up1 (up1 (up1 S n c) (n + 1) c) (n + 1 + 1) c a) := oc_up s2 (by omega)
  simp only [↓e_if (k := 6) (m := 6) rfl (by decide), e_cl (k := 6) (m := 6) rfl (by decide), Option.bind_some, E_1, E_nW0 c hc (show 69 ≤ n by omega), E_nW0 c hc (show 69 ≤ n + 1 by omega), E_nW0 c hc (show 69 ≤ n + 1 + 1 by omega), E_wQ ha (show 5 < 12 by decide) (show (lay 5)[0]? = some 1 from rfl) s1, E_wQ ha (show 5 < 12 by decide) (show (lay 5)[1]? = some 1 from rfl) s2, E_wQ ha (show 5 < 12 by decide) (show (lay 5)[2]? = some 1 from rfl) s3, E_wI ha (show 5 < 12 by decide) (show (lay 5)[3]? = some 0 from rfl) s3, E_wI ha (show 5 < 12 by decide) (show (lay 5)[4]? = some 0 from rfl) s3]
  rw [upr_3, upr_3, upr_3]
  rfl
end XCt
