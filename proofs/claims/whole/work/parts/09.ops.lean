/-! ===== partial operations on the abstract heap, and the instructions by them ===== -/
def fI (h : xH) (a ci k : Nat) : Option Int32 := match h.2 a with
  | .inr (c, fs) => if c = ci then (match fs[k]? with
    | some (.int x) => some x
    | _ => none) else none
  | _ => none
def fR (h : xH) (a ci k : Nat) : Option Nat := match h.2 a with
  | .inr (c, fs) => if c = ci then (match fs[k]? with
    | some (.ref x) => some x
    | _ => none) else none
  | _ => none
def fQ (h : xH) (a ci k : Nat) : Option (Option Nat) := match h.2 a with
  | .inr (c, fs) => if c = ci then (match fs[k]? with
    | some (.ref x) => some (some x)
    | some .null => some none
    | _ => none) else none
  | _ => none
def wI (h : xH) (a ci k : Nat) (x : Int32) : Option xH := match h.2 a with
  | .inr (c, fs) => if c = ci ∧ k < fs.length then some (h.1, va_up h.2 a (.inr (ci, fs.set k (.int x)))) else none
  | _ => none
def wZ (h : xH) (a ci k : Nat) (x : Int32) : Option xH := if x = 0 ∨ x = 1 then wI h a ci k x else none
def wQ (h : xH) (a ci k : Nat) (x : Option Nat) : Option xH := match h.2 a with
  | .inr (c, fs) => if c = ci ∧ k < fs.length then some (h.1, va_up h.2 a (.inr (ci, fs.set k (va_rf x)))) else none
  | _ => none
def aI (h : xH) (a : Nat) (i : Int32) : Option Int32 := match h.2 a with
  | .inl (0, n, .inl f) => if i < 0 ∨ n ≤ i.toNatClampNeg then none else some (f i.toNatClampNeg)
  | _ => none
def aC (h : xH) (a : Nat) (i : Int32) : Option Int32 := match h.2 a with
  | .inl (2, n, .inl f) => if i < 0 ∨ n ≤ i.toNatClampNeg then none else some (f i.toNatClampNeg)
  | _ => none
def aB (h : xH) (a : Nat) (i : Int32) : Option Int32 := match h.2 a with
  | .inl (3, n, .inl f) => if i < 0 ∨ n ≤ i.toNatClampNeg then none else some (f i.toNatClampNeg)
  | .inl (4, n, .inl f) => if i < 0 ∨ n ≤ i.toNatClampNeg then none else some (f i.toNatClampNeg)
  | _ => none
def aJ (h : xH) (a : Nat) (i : Int32) : Option Int64 := match h.2 a with
  | .inl (1, n, .inr (.inl f)) => if i < 0 ∨ n ≤ i.toNatClampNeg then none else some (f i.toNatClampNeg)
  | _ => none
def aQ (h : xH) (a : Nat) (i : Int32) : Option (Option Nat) := match h.2 a with
  | .inl (5, n, .inr (.inr (.inr (.inr f)))) => if i < 0 ∨ n ≤ i.toNatClampNeg then none else some (f i.toNatClampNeg)
  | .inl (6, n, .inr (.inr (.inr (.inr f)))) => if i < 0 ∨ n ≤ i.toNatClampNeg then none else some (f i.toNatClampNeg)
  | .inl (7, n, .inr (.inr (.inr (.inr f)))) => if i < 0 ∨ n ≤ i.toNatClampNeg then none else some (f i.toNatClampNeg)
  | _ => none
def aR (h : xH) (a : Nat) (i : Int32) : Option Nat := (aQ h a i).bind id
def sI (h : xH) (a : Nat) (i x : Int32) : Option xH := match h.2 a with
  | .inl (0, n, .inl f) => if a < 69 ∨ i < 0 ∨ n ≤ i.toNatClampNeg then none else some (h.1, va_up h.2 a (.inl (0, n, .inl (upd f i.toNatClampNeg x))))
  | _ => none
def sC (h : xH) (a : Nat) (i x : Int32) : Option xH := match h.2 a with
  | .inl (2, n, .inl f) => if a < 69 ∨ i < 0 ∨ n ≤ i.toNatClampNeg then none else some (h.1, va_up h.2 a (.inl (2, n, .inl (upd f i.toNatClampNeg (vp_nar .char x)))))
  | _ => none
def sB (h : xH) (a : Nat) (i x : Int32) : Option xH := match h.2 a with
  | .inl (3, n, .inl f) => if a < 69 ∨ i < 0 ∨ n ≤ i.toNatClampNeg then none else some (h.1, va_up h.2 a (.inl (3, n, .inl (upd f i.toNatClampNeg (vp_nar .byte x)))))
  | .inl (4, n, .inl f) => if a < 69 ∨ i < 0 ∨ n ≤ i.toNatClampNeg then none else some (h.1, va_up h.2 a (.inl (4, n, .inl (upd f i.toNatClampNeg (vp_nar .boolean x)))))
  | _ => none
def sJ (h : xH) (a : Nat) (i : Int32) (x : Int64) : Option xH := match h.2 a with
  | .inl (1, n, .inr (.inl f)) => if a < 69 ∨ i < 0 ∨ n ≤ i.toNatClampNeg then none else some (h.1, va_up h.2 a (.inl (1, n, .inr (.inl (vp_updL f i.toNatClampNeg x)))))
  | _ => none
/-- an object of class ci into an array of such -/
def sR (h : xH) (a : Nat) (i : Int32) (v : Nat) : Option xH := match h.2 a, h.2 v with
  | .inl (t, n, .inr (.inr (.inr (.inr f)))), .inr (ci, _) => if a < 69 ∨ i < 0 ∨ n ≤ i.toNatClampNeg ∨ ¬ ((t = 5 ∧ ci = 5) ∨ (t = 6 ∧ ci = 7) ∨ (t = 7 ∧ ci = 9)) then none else some (h.1, va_up h.2 a (.inl (t, n, .inr (.inr (.inr (.inr (va_up f i.toNatClampNeg (some v))))))))
  | _, _ => none
def al (h : xH) (a : Nat) : Option Int32 := match h.2 a with
  | .inl (t, x) => if t < 8 then some (nI x.1) else none
  | _ => none
def rc (h : xH) (a ci : Nat) : Option Unit := match h.2 a with
  | .inr (c, _) => if c = ci then some () else none
  | _ => none
/-- a String constant -/
def rcS (h : xH) (a : Nat) : Option Unit := if a % 2 = 0 ∧ a < 68 then some () else none
def fSV (h : xH) (a : Nat) : Option Nat := if a % 2 = 0 ∧ a < 68 then some (a + 1) else none
def fSC (h : xH) (a : Nat) : Option Int32 := if a % 2 = 0 ∧ a < 68 then some 0 else none
/-- System.arraycopy of ints, of longs -/
def cpI (h : xH) (a : Nat) (sp : Int32) (b : Nat) (dp n : Int32) : Option xH := match h.2 a, h.2 b with
  | .inl (0, n0, .inl f), .inl (0, n1, .inl g) => if a < 69 ∨ b < 69 ∨ sp < 0 ∨ dp < 0 ∨ n < 0 ∨ n0 < sp.toNatClampNeg + n.toNatClampNeg ∨ n1 < dp.toNatClampNeg + n.toNatClampNeg then none else some (h.1, va_up h.2 b (.inl (0, n1, .inl (va_cpy f g sp.toNatClampNeg dp.toNatClampNeg n.toNatClampNeg))))
  | .inl (1, n0, .inr (.inl f)), .inl (1, n1, .inr (.inl g)) => if a < 69 ∨ b < 69 ∨ sp < 0 ∨ dp < 0 ∨ n < 0 ∨ n0 < sp.toNatClampNeg + n.toNatClampNeg ∨ n1 < dp.toNatClampNeg + n.toNatClampNeg then none else some (h.1, va_up h.2 b (.inl (1, n1, .inr (.inl (va_cpy f g sp.toNatClampNeg dp.toNatClampNeg n.toNatClampNeg)))))
  | _, _ => none
/-- what a method of a small type returns -/
def rz (ty : FieldType) (v : Int32) (h : xH) : Option (Int32 × xH) := if vp_nar ty v = v then some (v, h) else none
section XO
variable {Γ : xG} {l : Launch} {d pc bc bs : Nat} {M : xMeth} {L st : List Value} {h h1 : xH} {Q : Option Value → xH → Prop}
theorem vp_in_of' {i : Int32} {n : Nat} (q : ¬ (i < 0 ∨ n ≤ i.toNatClampNeg)) : vp_in i n := q
theorem fI_eq {a ci k : Nat} {x : Int32} (e : fI h a ci k = some x) : ∃ fs, h.2 a = .inr (ci, fs) ∧ fs[k]? = some (.int x) := by
  unfold fI at e
  split at e
  · rename_i c fs hc
    split at e
    · rename_i h2
      subst h2
      split at e
      · rename_i y hy
        cases e
        exact ⟨fs, hc, hy⟩
      · cases e
    · cases e
  · cases e
theorem q_fI {a idx ci k : Nat} {ty : FieldType} {x : Int32} (hd : decode M.2.1 pc = .ok (.getfield idx, 3)) (hF : xFl M.1.cls idx ci k ty) (e : fI h a ci k = some x) (kk : Gd Γ l d M (pc + 3) L (.int x :: st) h bc bs Q) : Gd Γ l d M pc L (.ref a :: st) h bc bs Q := by
  obtain ⟨fs, h1, h2⟩ := fI_eq e
  exact g_get hd hF h1 h2 kk
theorem fR_eq {a ci k : Nat} {x : Nat} (e : fR h a ci k = some x) : ∃ fs, h.2 a = .inr (ci, fs) ∧ fs[k]? = some (.ref x) := by
  unfold fR at e
  split at e
  · rename_i c fs hc
    split at e
    · rename_i h2
      subst h2
      split at e
      · rename_i y hy
        cases e
        exact ⟨fs, hc, hy⟩
      · cases e
    · cases e
  · cases e
theorem q_fR {a idx ci k : Nat} {ty : FieldType} {x : Nat} (hd : decode M.2.1 pc = .ok (.getfield idx, 3)) (hF : xFl M.1.cls idx ci k ty) (e : fR h a ci k = some x) (kk : Gd Γ l d M (pc + 3) L (.ref x :: st) h bc bs Q) : Gd Γ l d M pc L (.ref a :: st) h bc bs Q := by
  obtain ⟨fs, h1, h2⟩ := fR_eq e
  exact g_get hd hF h1 h2 kk
theorem fQ_eq {a ci k : Nat} {x : Option Nat} (e : fQ h a ci k = some x) : ∃ fs, h.2 a = .inr (ci, fs) ∧ fs[k]? = some (va_rf x) := by
  unfold fQ at e
  split at e
  · rename_i c fs hc
    split at e
    · rename_i h2
      subst h2
      split at e
      · rename_i y hy
        cases e
        exact ⟨fs, hc, hy⟩
      · rename_i hy
        cases e
        exact ⟨fs, hc, hy⟩
      · cases e
    · cases e
  · cases e
theorem q_fQ {a idx ci k : Nat} {ty : FieldType} {x : Option Nat} (hd : decode M.2.1 pc = .ok (.getfield idx, 3)) (hF : xFl M.1.cls idx ci k ty) (e : fQ h a ci k = some x) (kk : Gd Γ l d M (pc + 3) L (va_rf x :: st) h bc bs Q) : Gd Γ l d M pc L (.ref a :: st) h bc bs Q := by
  obtain ⟨fs, h1, h2⟩ := fQ_eq e
  exact g_get hd hF h1 h2 kk
theorem wI_eq {a ci k : Nat} {x : Int32} (e : wI h a ci k x = some h1) : ∃ fs, h.2 a = .inr (ci, fs) ∧ k < fs.length ∧ h1 = (h.1, va_up h.2 a (.inr (ci, fs.set k (.int x)))) := by
  unfold wI at e
  split at e
  · rename_i c fs hc
    split at e
    · rename_i h2
      obtain ⟨rfl, h3⟩ := h2
      cases e
      exact ⟨fs, hc, h3, rfl⟩
    · cases e
  · cases e
theorem q_wI {a idx ci k : Nat} {x : Int32} (hd : decode M.2.1 pc = .ok (.putfield idx, 3)) (hF : xFw M.1.cls M.1.name idx ci k .int) (e : wI h a ci k x = some h1) (kk : Gd Γ l d M (pc + 3) L st h1 bc bs Q) : Gd Γ l d M pc L (.int x :: .ref a :: st) h bc bs Q := by
  obtain ⟨fs, e1, e2, rfl⟩ := wI_eq e
  exact g_putI hd hF e1 e2 kk
theorem q_wZ {a idx ci k : Nat} {x : Int32} (hd : decode M.2.1 pc = .ok (.putfield idx, 3)) (hF : xFw M.1.cls M.1.name idx ci k .boolean) (e : wZ h a ci k x = some h1) (kk : Gd Γ l d M (pc + 3) L st h1 bc bs Q) : Gd Γ l d M pc L (.int x :: .ref a :: st) h bc bs Q := by
  unfold wZ at e
  split at e
  · rename_i hx
    obtain ⟨fs, e1, e2, rfl⟩ := wI_eq e
    exact g_putZ hd hF e1 e2 hx kk
  · cases e
theorem wQ_eq {a ci k : Nat} {x : Option Nat} (e : wQ h a ci k x = some h1) : ∃ fs, h.2 a = .inr (ci, fs) ∧ k < fs.length ∧ h1 = (h.1, va_up h.2 a (.inr (ci, fs.set k (va_rf x)))) := by
  unfold wQ at e
  split at e
  · rename_i c fs hc
    split at e
    · rename_i h2
      obtain ⟨rfl, h3⟩ := h2
      cases e
      exact ⟨fs, hc, h3, rfl⟩
    · cases e
  · cases e
theorem q_wQ {a idx ci k : Nat} {ty : FieldType} {x : Option Nat} (hd : decode M.2.1 pc = .ok (.putfield idx, 3)) (hF : xFw M.1.cls M.1.name idx ci k ty) (hty : (∃ n, ty = .object n) ∨ ∃ t, ty = .array t) (e : wQ h a ci k x = some h1) (kk : Gd Γ l d M (pc + 3) L st h1 bc bs Q) : Gd Γ l d M pc L (va_rf x :: .ref a :: st) h bc bs Q := by
  obtain ⟨fs, e1, e2, rfl⟩ := wQ_eq e
  cases x with
  | none => exact g_putN hd hF hty e1 e2 kk
  | some b => exact g_putA hd hF hty e1 e2 kk
theorem q_wR {a b idx ci k : Nat} {ty : FieldType} (hd : decode M.2.1 pc = .ok (.putfield idx, 3)) (hF : xFw M.1.cls M.1.name idx ci k ty) (hty : (∃ n, ty = .object n) ∨ ∃ t, ty = .array t) (e : wQ h a ci k (some b) = some h1) (kk : Gd Γ l d M (pc + 3) L st h1 bc bs Q) : Gd Γ l d M pc L (.ref b :: .ref a :: st) h bc bs Q := q_wQ hd hF hty e kk
theorem q_wN {a idx ci k : Nat} {ty : FieldType} (hd : decode M.2.1 pc = .ok (.putfield idx, 3)) (hF : xFw M.1.cls M.1.name idx ci k ty) (hty : (∃ n, ty = .object n) ∨ ∃ t, ty = .array t) (e : wQ h a ci k none = some h1) (kk : Gd Γ l d M (pc + 3) L st h1 bc bs Q) : Gd Γ l d M pc L (.null :: .ref a :: st) h bc bs Q := q_wQ hd hF hty e kk
theorem aI_eq {a : Nat} {i : Int32} {x : Int32} (e : aI h a i = some x) : ∃ n f, h.2 a = .inl (0, n, .inl f) ∧ ¬ (i < 0 ∨ n ≤ i.toNatClampNeg) ∧ x = f i.toNatClampNeg := by
  unfold aI at e
  split at e
  · rename_i n f hc
    split at e
    · cases e
    · rename_i h2
      cases e
      exact ⟨n, f, hc, h2, rfl⟩
  · cases e
theorem q_aI {a : Nat} {i : Int32} {x : Int32} (hd : decode M.2.1 pc = .ok (.iaload, 1)) (e : aI h a i = some x) (kk : Gd Γ l d M (pc + 1) L (.int x :: st) h bc bs Q) : Gd Γ l d M pc L (.int i :: .ref a :: st) h bc bs Q := by
  obtain ⟨n, f, e1, e2, rfl⟩ := aI_eq e
  exact g_iald hd e1 e2 kk
theorem aC_eq {a : Nat} {i : Int32} {x : Int32} (e : aC h a i = some x) : ∃ n f, h.2 a = .inl (2, n, .inl f) ∧ ¬ (i < 0 ∨ n ≤ i.toNatClampNeg) ∧ x = f i.toNatClampNeg := by
  unfold aC at e
  split at e
  · rename_i n f hc
    split at e
    · cases e
    · rename_i h2
      cases e
      exact ⟨n, f, hc, h2, rfl⟩
  · cases e
theorem q_aC {a : Nat} {i : Int32} {x : Int32} (hd : decode M.2.1 pc = .ok (.caload, 1)) (e : aC h a i = some x) (kk : Gd Γ l d M (pc + 1) L (.int x :: st) h bc bs Q) : Gd Γ l d M pc L (.int i :: .ref a :: st) h bc bs Q := by
  obtain ⟨n, f, e1, e2, rfl⟩ := aC_eq e
  exact g_cald hd e1 e2 kk
theorem aJ_eq {a : Nat} {i : Int32} {x : Int64} (e : aJ h a i = some x) : ∃ n f, h.2 a = .inl (1, n, .inr (.inl f)) ∧ ¬ (i < 0 ∨ n ≤ i.toNatClampNeg) ∧ x = f i.toNatClampNeg := by
  unfold aJ at e
  split at e
  · rename_i n f hc
    split at e
    · cases e
    · rename_i h2
      cases e
      exact ⟨n, f, hc, h2, rfl⟩
  · cases e
theorem q_aJ {a : Nat} {i : Int32} {x : Int64} (hd : decode M.2.1 pc = .ok (.laload, 1)) (e : aJ h a i = some x) (kk : Gd Γ l d M (pc + 1) L (.long x :: st) h bc bs Q) : Gd Γ l d M pc L (.int i :: .ref a :: st) h bc bs Q := by
  obtain ⟨n, f, e1, e2, rfl⟩ := aJ_eq e
  exact g_lald hd e1 e2 kk
theorem q_aB {a : Nat} {i x : Int32} (hd : decode M.2.1 pc = .ok (.baload, 1)) (e : aB h a i = some x) (kk : Gd Γ l d M (pc + 1) L (.int x :: st) h bc bs Q) : Gd Γ l d M pc L (.int i :: .ref a :: st) h bc bs Q := by
  unfold aB at e
  split at e
  · rename_i n f hc
    split at e
    · cases e
    · rename_i h2
      cases e
      exact g_bald hd hc h2 kk
  · rename_i n f hc
    split at e
    · cases e
    · rename_i h2
      cases e
      exact g_zald hd hc h2 kk
  · cases e
theorem q_aQ {a : Nat} {i : Int32} {x : Option Nat} (hd : decode M.2.1 pc = .ok (.aaload, 1)) (e : aQ h a i = some x) (kk : Gd Γ l d M (pc + 1) L (va_rf x :: st) h bc bs Q) : Gd Γ l d M pc L (.int i :: .ref a :: st) h bc bs Q := by
  unfold aQ at e
  split at e
  · rename_i n f hc
    split at e
    · cases e
    · rename_i h2
      cases e
      exact g_aald hd (Or.inl rfl) hc h2 kk
  · rename_i n f hc
    split at e
    · cases e
    · rename_i h2
      cases e
      exact g_aald hd (Or.inr (Or.inl rfl)) hc h2 kk
  · rename_i n f hc
    split at e
    · cases e
    · rename_i h2
      cases e
      exact g_aald hd (Or.inr (Or.inr rfl)) hc h2 kk
  · cases e
theorem q_aR {a x : Nat} {i : Int32} (hd : decode M.2.1 pc = .ok (.aaload, 1)) (e : aR h a i = some x) (kk : Gd Γ l d M (pc + 1) L (.ref x :: st) h bc bs Q) : Gd Γ l d M pc L (.int i :: .ref a :: st) h bc bs Q := by
  unfold aR at e
  obtain ⟨y, e1, e2⟩ := Option.bind_eq_some_iff.mp e
  have : y = some x := e2
  subst this
  exact q_aQ (x := some x) hd e1 kk
theorem q_sI {a : Nat} {i : Int32} {x : Int32} (hd : decode M.2.1 pc = .ok (.iastore, 1)) (e : sI h a i x = some h1) (kk : Gd Γ l d M (pc + 1) L st h1 bc bs Q) : Gd Γ l d M pc L (.int x :: .int i :: .ref a :: st) h bc bs Q := by
  unfold sI at e
  split at e
  · rename_i n f hc
    split at e
    · cases e
    · rename_i h2
      cases e
      exact g_iast hd (by omega) hc (fun q => h2 (Or.inr q)) kk
  · cases e
theorem q_sC {a : Nat} {i : Int32} {x : Int32} (hd : decode M.2.1 pc = .ok (.castore, 1)) (e : sC h a i x = some h1) (kk : Gd Γ l d M (pc + 1) L st h1 bc bs Q) : Gd Γ l d M pc L (.int x :: .int i :: .ref a :: st) h bc bs Q := by
  unfold sC at e
  split at e
  · rename_i n f hc
    split at e
    · cases e
    · rename_i h2
      cases e
      exact g_cast hd (by omega) hc (fun q => h2 (Or.inr q)) kk
  · cases e
theorem q_sJ {a : Nat} {i : Int32} {x : Int64} (hd : decode M.2.1 pc = .ok (.lastore, 1)) (e : sJ h a i x = some h1) (kk : Gd Γ l d M (pc + 1) L st h1 bc bs Q) : Gd Γ l d M pc L (.long x :: .int i :: .ref a :: st) h bc bs Q := by
  unfold sJ at e
  split at e
  · rename_i n f hc
    split at e
    · cases e
    · rename_i h2
      cases e
      exact g_last hd (by omega) hc (fun q => h2 (Or.inr q)) kk
  · cases e
theorem q_sB {a : Nat} {i x : Int32} (hd : decode M.2.1 pc = .ok (.bastore, 1)) (e : sB h a i x = some h1) (kk : Gd Γ l d M (pc + 1) L st h1 bc bs Q) : Gd Γ l d M pc L (.int x :: .int i :: .ref a :: st) h bc bs Q := by
  unfold sB at e
  split at e
  · rename_i n f hc
    split at e
    · cases e
    · rename_i h2
      cases e
      exact g_bast hd (by omega) hc (fun q => h2 (Or.inr q)) kk
  · rename_i n f hc
    split at e
    · cases e
    · rename_i h2
      cases e
      exact g_zast hd (by omega) hc (fun q => h2 (Or.inr q)) kk
  · cases e
theorem q_sR {a v : Nat} {i : Int32} (hd : decode M.2.1 pc = .ok (.aastore, 1)) (e : sR h a i v = some h1) (kk : Gd Γ l d M (pc + 1) L st h1 bc bs Q) : Gd Γ l d M pc L (.ref v :: .int i :: .ref a :: st) h bc bs Q := by
  unfold sR at e
  split at e
  · rename_i t n f ci vs hc hv
    split at e
    · cases e
    · rename_i h2
      cases e
      have ht : (t = 5 ∧ ci = 5) ∨ (t = 6 ∧ ci = 7) ∨ (t = 7 ∧ ci = 9) := Classical.byContradiction fun q => h2 (Or.inr (Or.inr (Or.inr q)))
      exact g_aast hd ht (by omega) hc hv (fun q => h2 (by rcases q with q | q <;> simp [q])) kk
  · cases e
theorem q_al {a : Nat} {x : Int32} (hd : decode M.2.1 pc = .ok (.arraylength, 1)) (e : al h a = some x) (kk : Gd Γ l d M (pc + 1) L (.int x :: st) h bc bs Q) : Gd Γ l d M pc L (.ref a :: st) h bc bs Q := by
  unfold al at e
  split at e
  · rename_i t y hc
    split at e
    · rename_i ht
      cases e
      exact g_alen hd hc ht kk
    · cases e
  · cases e
theorem rc_eq {a ci : Nat} {u : Unit} (e : rc h a ci = some u) : ∃ fs, h.2 a = .inr (ci, fs) := by
  unfold rc at e
  split at e
  · rename_i c fs hc
    split at e
    · rename_i h2
      subst h2
      exact ⟨fs, hc⟩
    · cases e
  · cases e
theorem rc_rc {a ci : Nat} {u : Unit} {r : vw_C} (e : rc h a ci = some u) (hi : ci < 12) (hr : xcl[ci]? = some r) : xRc h a r.1 := by
  obtain ⟨fs, h1⟩ := rc_eq e
  exact Or.inl ⟨ci, fs, r, h1, hi, hr, rfl⟩
theorem rcS_rc {a : Nat} {u : Unit} (e : rcS h a = some u) : xRc h a "java/lang/String" := by
  unfold rcS at e
  split at e
  · rename_i q
    exact Or.inr ⟨a / 2, by omega, by omega, rfl⟩
  · cases e
theorem q_fSV {a b idx : Nat} (hd : decode M.2.1 pc = .ok (.getfield idx, 3)) (hF : Cond.fieldLink M.1.cls idx "java/lang/String" "value" "[B" ∈ xtbl) (e : fSV h a = some b) (kk : Gd Γ l d M (pc + 3) L (.ref b :: st) h bc bs Q) : Gd Γ l d M pc L (.ref a :: st) h bc bs Q := by
  unfold fSV at e
  split at e
  · rename_i q
    cases e
    have ea : a = 2 * (a / 2) := by omega
    rw [ea] at kk ⊢
    exact g_getS (i := a / 2) (k := 0) hd (by omega) hF (Or.inl ⟨rfl, rfl, rfl⟩) kk
  · cases e
theorem q_fSC {a idx : Nat} {x : Int32} (hd : decode M.2.1 pc = .ok (.getfield idx, 3)) (hF : Cond.fieldLink M.1.cls idx "java/lang/String" "coder" "B" ∈ xtbl) (e : fSC h a = some x) (kk : Gd Γ l d M (pc + 3) L (.int x :: st) h bc bs Q) : Gd Γ l d M pc L (.ref a :: st) h bc bs Q := by
  unfold fSC at e
  split at e
  · rename_i q
    cases e
    have ea : a = 2 * (a / 2) := by omega
    rw [ea]
    exact g_getS (i := a / 2) (k := 0) hd (by omega) hF (Or.inr ⟨rfl, rfl, rfl⟩) kk
  · cases e
/-- a narrow return -/
theorem vp_nar_eq {ty : FieldType} {v : Int32} (hv : vp_nar ty v = v) (hty : ty = .boolean ∨ ty = .char ∨ ty = .byte) : narrow ty (.int v) = .int v := by
  rcases hty with rfl | rfl | rfl <;> exact congrArg Value.int hv
theorem q_rz {v r : Int32} {ty : FieldType} (hd : decode M.2.1 pc = .ok (.ireturn, 1)) (hr : M.2.2.2 = some ty) (hty : ty = .boolean ∨ ty = .char ∨ ty = .byte) (e : rz ty v h = some (r, h1)) (hq : Q (some (.int r)) h1) : Gd Γ l d M pc L [.int v] h bc bs Q := by
  unfold rz at e
  split at e
  · rename_i hv
    cases e
    exact g_zret hd hr (vp_nar_eq hv hty) hq
  · cases e
/-- calls that make nothing -/
theorem q_callV {idx n b : Nat} {M' : xMeth} {st0 : List Value} (As : List Value) (st : List Value) (hst : st0 = As.reverse ++ .ref b :: st) {r : Option Value} (hd : decode M.2.1 pc = .ok (.invokevirtual idx, 3)) (hw : xVl M.1.cls idx M' n) (hdp : 1 ≤ d) (hn : As.length = n) (h8 : (st.map fun v => v.category).sum ≤ 8) (hr : xRc h b M'.1.cls) (hM : Gm Γ l (d - 1) 0 0 M' (.ref b :: As) h (fun a u => a = r ∧ u = h1)) (kk : Gd Γ l d M (pc + 3) L (r.toList ++ st) h1 bc bs Q) : Gd Γ l d M pc L st0 h bc bs Q := by
  subst hst
  exact g_callV (mc := 0) (ms := 0) hd hw hdp hn h8 hr hM (by rintro _ _ ⟨rfl, rfl⟩; exact kk)
theorem q_callS {idx n : Nat} {M' : xMeth} {st0 : List Value} (As : List Value) (st : List Value) (hst : st0 = As.reverse ++ st) {r : Option Value} (hd : decode M.2.1 pc = .ok (.invokestatic idx, 3)) (hw : xSl M.1.cls idx M' n) (hdp : 1 ≤ d) (hn : As.length = n) (h8 : (st.map fun v => v.category).sum ≤ 8) (hM : Gm Γ l (d - 1) 0 0 M' As h (fun a u => a = r ∧ u = h1)) (kk : Gd Γ l d M (pc + 3) L (r.toList ++ st) h1 bc bs Q) : Gd Γ l d M pc L st0 h bc bs Q := by
  subst hst
  exact g_callS (mc := 0) (ms := 0) hd hw hdp hn h8 hM (by rintro _ _ ⟨rfl, rfl⟩; exact kk)
/-- the locals at a block's head -/
def xsub : List Value → List Value → Prop
  | [], _ => True
  | v :: L', [] => v = xhole ∧ xsub L' []
  | v :: L', w :: L => (v = xhole ∨ v = w) ∧ xsub L' L
theorem xsub_spec : ∀ {L' L : List Value}, xsub L' L → ∀ i, i < L'.length → L'.getD i xhole = xhole ∨ L[i]? = L'[i]?
  | [], _, _, i, hi => absurd hi (Nat.not_lt_zero i)
  | v :: L', [], hx, 0, _ => Or.inl hx.1
  | v :: L', [], hx, i + 1, hi => by
    rcases xsub_spec hx.2 i (by simpa using hi) with q | q
    · exact Or.inl q
    · simp at q
      exact absurd hi (by simp; omega)
  | v :: L', w :: L, hx, 0, _ => by
    rcases hx.1 with rfl | rfl
    · exact Or.inl rfl
    · exact Or.inr rfl
  | v :: L', w :: L, hx, i + 1, hi => xsub_spec hx.2 i (by simpa using hi)
theorem q_to {L' : List Value} (hx : xsub L' L) (k : Gd Γ l d M pc L' st h bc bs Q) : Gd Γ l d M pc L st h bc bs Q := g_weak (xsub_spec hx) k
end XO
