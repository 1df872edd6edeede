/-! ===== making cells: how many, of how many slots ===== -/
def ac (α : Type) (c s : Nat) (q : α × xH × Nat × Nat) : α × xH × Nat × Nat := (q.1, q.2.1, q.2.2.1 + c, q.2.2.2 + s)
def nO (h : xH) (ci : Nat) (fs : List Value) : xH := (h.1 + 1, va_up h.2 h.1 (.inr (ci, fs)))
def nW (h : xH) (t n : Nat) : xH := (h.1 + 1, va_up h.2 h.1 (.inl (t, n, .inl (fun _ => 0))))
def nL (h : xH) (n : Nat) : xH := (h.1 + 1, va_up h.2 h.1 (.inl (1, n, .inr (.inl (fun _ => 0)))))
def nQ (h : xH) (t n : Nat) : xH := (h.1 + 1, va_up h.2 h.1 (.inl (t, n, .inr (.inr (.inr (.inr (fun _ => none)))))))
theorem x_map {α : Type} {c s mc ms : Nat} {r : α} {h' : xH} {X : Option (α × xH × Nat × Nat)} (hF : X.map (ac α c s) = some (r, h', mc, ms)) : ∃ c' s', mc = c' + c ∧ ms = s' + s ∧ X = some (r, h', c', s') := by
  obtain ⟨⟨r', u, c', s'⟩, e1, e2⟩ := Option.map_eq_some_iff.mp hF
  cases e2
  exact ⟨c', s', rfl, rfl, e1⟩
theorem x_inj4 {α : Type} {a c : α} {b d : xH} {m n m' n' : Nat} (h : some (a, b, m, n) = some (c, d, m', n')) : a = c ∧ b = d ∧ m = m' ∧ n = n' := by cases h; exact ⟨rfl, rfl, rfl, rfl⟩
section XN
variable {Γ : xG} {l : Launch} {d pc bc bs mc ms : Nat} {M : xMeth} {L st : List Value} {h h1 : xH} {Q : Option Value → xH → Prop}
theorem q_new {idx ci N : Nat} {fs : List Value} (hd : decode M.2.1 pc = .ok (.new idx, 3)) (hN : xNw M.1.cls idx ci N fs) (kk : Gd Γ l d M (pc + 3) L (.ref h.1 :: st) (nO h ci fs) bc bs Q) : Gd Γ l d M pc L st h (bc + 1) (bs + N) Q := g_new hd hN kk
theorem q_newaI {n : Int32} (hd : decode M.2.1 pc = .ok (.newarray .int, 2)) (hn : ¬ (n < 0 ∨ 60000000 < n.toNatClampNeg)) (kk : Gd Γ l d M (pc + 2) L (.ref h.1 :: st) (nW h 0 n.toNatClampNeg) bc bs Q) : Gd Γ l d M pc L (.int n :: st) h (bc + 1) (bs + n.toNatClampNeg) Q := g_newaI hd ac_int (fun q => hn (Or.inl q)) rfl (by omega) kk
theorem q_newaC {n : Int32} (hd : decode M.2.1 pc = .ok (.newarray .char, 2)) (hn : ¬ (n < 0 ∨ 60000000 < n.toNatClampNeg)) (kk : Gd Γ l d M (pc + 2) L (.ref h.1 :: st) (nW h 2 n.toNatClampNeg) bc bs Q) : Gd Γ l d M pc L (.int n :: st) h (bc + 1) (bs + n.toNatClampNeg) Q := g_newaC hd ac_char (fun q => hn (Or.inl q)) rfl (by omega) kk
theorem q_newaB {n : Int32} (hd : decode M.2.1 pc = .ok (.newarray .byte, 2)) (hn : ¬ (n < 0 ∨ 60000000 < n.toNatClampNeg)) (kk : Gd Γ l d M (pc + 2) L (.ref h.1 :: st) (nW h 3 n.toNatClampNeg) bc bs Q) : Gd Γ l d M pc L (.int n :: st) h (bc + 1) (bs + n.toNatClampNeg) Q := g_newaB hd ac_byte (fun q => hn (Or.inl q)) rfl (by omega) kk
theorem q_newaZ {n : Int32} (hd : decode M.2.1 pc = .ok (.newarray .boolean, 2)) (hn : ¬ (n < 0 ∨ 60000000 < n.toNatClampNeg)) (kk : Gd Γ l d M (pc + 2) L (.ref h.1 :: st) (nW h 4 n.toNatClampNeg) bc bs Q) : Gd Γ l d M pc L (.int n :: st) h (bc + 1) (bs + n.toNatClampNeg) Q := g_newaZ hd ac_boolean (fun q => hn (Or.inl q)) rfl (by omega) kk
theorem q_newaJ {n : Int32} (hd : decode M.2.1 pc = .ok (.newarray .long, 2)) (hn : ¬ (n < 0 ∨ 60000000 < n.toNatClampNeg)) (kk : Gd Γ l d M (pc + 2) L (.ref h.1 :: st) (nL h n.toNatClampNeg) bc bs Q) : Gd Γ l d M pc L (.int n :: st) h (bc + 1) (bs + n.toNatClampNeg) Q := g_newaJ hd ac_long (fun q => hn (Or.inl q)) rfl (by omega) kk
theorem q_newq {n : Int32} {idx t : Nat} {Cn : String} (hd : decode M.2.1 pc = .ok (.anewarray idx, 3)) (hw : Cond.classLink M.1.cls idx Cn ∈ xtbl) (ht : (t = 5 ∧ Cn = RX6) ∨ (t = 6 ∧ Cn = RX8) ∨ (t = 7 ∧ Cn = RX10)) (hn : ¬ (n < 0 ∨ 60000000 < n.toNatClampNeg)) (kk : Gd Γ l d M (pc + 3) L (.ref h.1 :: st) (nQ h t n.toNatClampNeg) bc bs Q) : Gd Γ l d M pc L (.int n :: st) h (bc + 1) (bs + n.toNatClampNeg) Q := g_newq hd hw ht (fun q => hn (Or.inl q)) rfl (by omega) kk
theorem q_oi {idx a : Nat} (hd : decode M.2.1 pc = .ok (.invokespecial idx, 3)) (hw : Cond.methodLink M.1.cls idx Lib.objectInit ∈ xtbl) (hdp : 1 ≤ d) (hst : (st.map fun v => v.category).sum ≤ 8) (kk : Gd Γ l d M (pc + 3) L st h bc bs Q) : Gd Γ l d M pc L (.ref a :: st) h bc bs Q := g_objInit hd hw hdp hst oi_1 oi_2 kk
theorem q_callVa {idx n b : Nat} {M' : xMeth} {st0 : List Value} (As : List Value) (st : List Value) (hst : st0 = As.reverse ++ .ref b :: st) {r : Option Value} (hd : decode M.2.1 pc = .ok (.invokevirtual idx, 3)) (hw : xVl M.1.cls idx M' n) (hdp : 1 ≤ d) (hn : As.length = n) (h8 : (st.map fun v => v.category).sum ≤ 8) (hr : xRc h b M'.1.cls) (hM : Gm Γ l (d - 1) mc ms M' (.ref b :: As) h (fun a u => a = r ∧ u = h1)) (kk : Gd Γ l d M (pc + 3) L (r.toList ++ st) h1 bc bs Q) : Gd Γ l d M pc L st0 h (bc + mc) (bs + ms) Q := by
  subst hst
  exact g_callV hd hw hdp hn h8 hr hM (by rintro _ _ ⟨rfl, rfl⟩; exact kk)
theorem q_callSa {idx n : Nat} {M' : xMeth} {st0 : List Value} (As : List Value) (st : List Value) (hst : st0 = As.reverse ++ st) {r : Option Value} (hd : decode M.2.1 pc = .ok (.invokestatic idx, 3)) (hw : xSl M.1.cls idx M' n) (hdp : 1 ≤ d) (hn : As.length = n) (h8 : (st.map fun v => v.category).sum ≤ 8) (hM : Gm Γ l (d - 1) mc ms M' As h (fun a u => a = r ∧ u = h1)) (kk : Gd Γ l d M (pc + 3) L (r.toList ++ st) h1 bc bs Q) : Gd Γ l d M pc L st0 h (bc + mc) (bs + ms) Q := by
  subst hst
  exact g_callS hd hw hdp hn h8 hM (by rintro _ _ ⟨rfl, rfl⟩; exact kk)
theorem q_callIa {idx n b : Nat} {M' : xMeth} {st0 : List Value} (As : List Value) (st : List Value) (hst : st0 = As.reverse ++ .ref b :: st) {r : Option Value} (hd : decode M.2.1 pc = .ok (.invokespecial idx, 3)) (hw : xIl M.1.cls idx M' n) (hdp : 1 ≤ d) (hn : As.length = n) (h8 : (st.map fun v => v.category).sum ≤ 8) (hM : Gm Γ l (d - 1) mc ms M' (.ref b :: As) h (fun a u => a = r ∧ u = h1)) (kk : Gd Γ l d M (pc + 3) L (r.toList ++ st) h1 bc bs Q) : Gd Γ l d M pc L st0 h (bc + mc) (bs + ms) Q := by
  subst hst
  exact g_callI hd hw hdp hn h8 hM (by rintro _ _ ⟨rfl, rfl⟩; exact kk)
end XN
abbrev m_L_law : xMeth := (yL_law, cL_law, 4, some .boolean)
