/-! ===== the judgement: the machine at a place of a method, over the abstract heap ===== -/
def xLoc (Γ : xG) (M : xMeth) (L : List Value) (ls : Array Slot) : Prop := ls.size = M.2.2.1 ∧ lv_wf ls ∧ ∀ (i : Nat) (v : Value), L[i]? = some v → v ≠ xhole → ls[i]? = some (.val (xv Γ v))
def xCtx (Γ : xG) (d : Nat) (M : xMeth) (p : Program) (R : Room) (s : State) (m : MethodId) (args : Array Value) (meth : Method) (c : Code) : Prop :=
  p.tables.exec = Jvm.exec ∧ c.code = M.2.1 ∧ c.maxLocals = M.2.2.1 ∧ s.vm.findClass M.1.cls = some m.cls ∧ (∀ w ∈ xtbl, w.before args s = true) ∧ (M.1.name = "<init>" → meth.name = "<init>") ∧ d ≤ R.frames ∧ 41 * d ≤ R.locals ∧ va_K (gD Γ) xcl (xtys Γ) s ∧ xKon Γ s s.heap ∧ gb Γ ≤ s.heap.size
/-- which return this is -/
def xRet (M : xMeth) (pc : Nat) : Option Value → Prop
  | none => decode M.2.1 pc = .ok (.return_, 1) ∧ M.2.2.2 = none
  | some (.int v) => decode M.2.1 pc = .ok (.ireturn, 1) ∧ ∃ ty, M.2.2.2 = some ty ∧ narrow ty (.int v) = .int v
  | some (.long _) => decode M.2.1 pc = .ok (.lreturn, 1) ∧ M.2.2.2 = some .long
  | some (.ref _) => decode M.2.1 pc = .ok (.areturn, 1) ∧ ∃ rt, M.2.2.2 = some rt ∧ ((∃ n, rt = .object n) ∨ ∃ t, rt = .array t)
  | some .null => decode M.2.1 pc = .ok (.areturn, 1) ∧ ∃ rt, M.2.2.2 = some rt ∧ ((∃ n, rt = .object n) ∨ ∃ t, rt = .array t)
  | _ => False
def xEnd (Γ : xG) (l : Launch) (M : xMeth) (Q : Option Value → xH → Prop) (p : Program) (e : Env) (R : Room) (s : State) (m : MethodId) (args : Array Value) (below : List Frame) (meth : Method) (c : Code) (Z : State → Prop) : Prop :=
  ∀ (r : Option Value) (h : xH) (H : Heap) (locs : List Loc) (cells slots pc : Nat) (ls : Array Slot), Q r h → xWd Γ h H → va_S (xA Γ) s.heap H locs → cells ≤ R.cells → slots ≤ R.slots → xRet M pc r →
    W p l e R s m args below meth c H locs cells slots Z (F0 m pc ls (r.toList.map (xv Γ)))
def Gd (Γ : xG) (l : Launch) (d : Nat) (M : xMeth) (pc : Nat) (L st : List Value) (h : xH) (bc bs : Nat) (Q : Option Value → xH → Prop) : Prop :=
  ∀ (p : Program) (e : Env) (R : Room) (s : State) (m : MethodId) (args : Array Value) (below : List Frame) (meth : Method) (c : Code) (H : Heap) (locs : List Loc) (cells slots : Nat) (ls : Array Slot) (Z : State → Prop),
    xCtx Γ d M p R s m args meth c → xWd Γ h H → va_S (xA Γ) s.heap H locs → cells + bc ≤ R.cells → slots + bs ≤ R.slots → xLoc Γ M L ls → xEnd Γ l M Q p e R s m args below meth c Z →
    W p l e R s m args below meth c H locs cells slots Z (F0 m pc ls (st.map (xv Γ)))
/-- storing into the locals: a long takes two places; half of a long that is overwritten is gone -/
def xcut (L : List Value) (i : Nat) : List Value := match i with
  | 0 => L
  | j + 1 => match L[j]? with
    | some (.long _) => L.set j xhole
    | some (.double _) => L.set j xhole
    | _ => L
def xst (L : List Value) (i : Nat) (v : Value) : List Value := (xcut L i).set i v
def xst2 (L : List Value) (i : Nat) (v : Value) : List Value := ((xcut L i).set (i + 1) xhole).set i v
theorem xcut_in {L : List Value} {i j : Nat} {w : Value} (hw : w ≠ xhole) (h : (xcut L i)[j]? = some w) : L[j]? = some w ∧ ¬ (j + 1 = i ∧ w.category = 2) := by
  unfold xcut at h
  cases i with
  | zero => exact ⟨h, by omega⟩
  | succ k =>
    have key : (L.set k xhole)[j]? = some w → L[j]? = some w ∧ ¬ (j + 1 = k + 1 ∧ w.category = 2) := by
      intro h
      by_cases hjk : j = k
      · subst hjk
        rw [List.getElem?_set] at h
        split at h
        · split at h
          · exact absurd (Option.some.inj h).symm hw
          · cases h
        · omega
      · rw [List.getElem?_set_ne (Ne.symm hjk)] at h
        exact ⟨h, by omega⟩
    dsimp only at h
    split at h
    · exact key h
    · exact key h
    · rename_i h1 h2
      refine ⟨h, fun q => ?_⟩
      have hjk : j = k := by omega
      subst hjk
      cases w with
      | long x => exact h1 x h
      | double x => exact h2 x h
      | _ => simp [Value.category] at q
theorem xst_in {L : List Value} {i j : Nat} {v w : Value} (hw : w ≠ xhole) (h : (xst L i v)[j]? = some w) : (j = i ∧ w = v) ∨ (j ≠ i ∧ L[j]? = some w ∧ ¬ (j + 1 = i ∧ w.category = 2)) := by
  unfold xst at h
  by_cases hji : j = i
  · subst hji
    rw [List.getElem?_set] at h
    split at h
    · split at h
      · exact Or.inl ⟨rfl, (Option.some.inj h).symm⟩
      · cases h
    · omega
  · rw [List.getElem?_set_ne (Ne.symm hji)] at h
    exact Or.inr ⟨hji, xcut_in hw h⟩
theorem xst2_in {L : List Value} {i j : Nat} {v w : Value} (hw : w ≠ xhole) (h : (xst2 L i v)[j]? = some w) : (j = i ∧ w = v) ∨ (j ≠ i ∧ j ≠ i + 1 ∧ L[j]? = some w ∧ ¬ (j + 1 = i ∧ w.category = 2)) := by
  unfold xst2 at h
  by_cases hji : j = i
  · subst hji
    rw [List.getElem?_set] at h
    split at h
    · split at h
      · exact Or.inl ⟨rfl, (Option.some.inj h).symm⟩
      · cases h
    · omega
  · rw [List.getElem?_set_ne (Ne.symm hji)] at h
    by_cases hj1 : j = i + 1
    · subst hj1
      rw [List.getElem?_set] at h
      split at h
      · split at h
        · exact absurd (Option.some.inj h).symm hw
        · cases h
      · omega
    · rw [List.getElem?_set_ne (Ne.symm hj1)] at h
      exact Or.inr ⟨hji, hj1, xcut_in hw h⟩
theorem xv_cat (Γ : xG) (v : Value) : (xv Γ v).category = v.category := by cases v <;> rfl
theorem xv_hole (Γ : xG) {v : Value} (h : v ≠ xhole) : xv Γ v ≠ xhole := by cases v <;> first | exact h | (unfold xv xhole; exact fun e => by cases e)
/-- the listed values, as the kit lists them -/
def xpl (Γ : xG) (L : List Value) : List (Nat × Value) := (List.range L.length).filterMap (fun i => match L[i]? with
  | some v => if v = xhole then none else some (i, xv Γ v)
  | none => none)
theorem xpl_mem {Γ : xG} {L : List Value} {i : Nat} {v : Value} (h : L[i]? = some v) (hv : v ≠ xhole) : (i, xv Γ v) ∈ xpl Γ L := by
  refine List.mem_filterMap.mpr ⟨i, List.mem_range.mpr (List.getElem?_eq_some_iff.mp h).1, ?_⟩
  simp [h, hv]
theorem xLoc.has {Γ : xG} {M : xMeth} {L : List Value} {ls : Array Slot} (h : xLoc Γ M L ls) : lv_has ls M.2.2.1 (xpl Γ L) := by
  refine ⟨h.1, h.2.1, fun q hq => ?_⟩
  obtain ⟨i, -, hi⟩ := List.mem_filterMap.mp hq
  cases hL : L[i]? with
  | none => rw [hL] at hi; cases hi
  | some v =>
    rw [hL] at hi
    dsimp only at hi
    split at hi
    · cases hi
    · rename_i hv
      cases hi
      exact h.2.2 i v hL hv
theorem xLoc.st {Γ : xG} {M : xMeth} {L : List Value} {ls : Array Slot} {i : Nat} {v : Value} (h : lv_has ls M.2.2.1 ((i, xv Γ v) :: (xpl Γ L).filter (fun q => !(q.1 == i) && !(q.1 + 1 == i && q.2.category == 2)))) : xLoc Γ M (xst L i v) ls := by
  refine ⟨h.1, h.2.1, fun j w hj hw => ?_⟩
  rcases xst_in hw hj with ⟨rfl, rfl⟩ | ⟨h1, h2, h3⟩
  · exact h.2.2 _ List.mem_cons_self
  · refine h.2.2 (j, xv Γ w) (List.mem_cons_of_mem _ (List.mem_filter.mpr ⟨xpl_mem h2 hw, ?_⟩))
    rw [← xv_cat Γ w] at h3
    by_cases e : j + 1 = i
    · have : ¬ (xv Γ w).category = 2 := fun z => h3 ⟨e, z⟩
      simp [h1, this]
    · simp [h1, e]
theorem xLoc.st2 {Γ : xG} {M : xMeth} {L : List Value} {ls : Array Slot} {i : Nat} {v : Value} (h : lv_has ls M.2.2.1 ((i, xv Γ v) :: (xpl Γ L).filter (fun q => !(q.1 == i) && (!(q.1 == i + 1) && !(q.1 + 1 == i && q.2.category == 2))))) : xLoc Γ M (xst2 L i v) ls := by
  refine ⟨h.1, h.2.1, fun j w hj hw => ?_⟩
  rcases xst2_in hw hj with ⟨rfl, rfl⟩ | ⟨h1, h1', h2, h3⟩
  · exact h.2.2 _ List.mem_cons_self
  · refine h.2.2 (j, xv Γ w) (List.mem_cons_of_mem _ (List.mem_filter.mpr ⟨xpl_mem h2 hw, ?_⟩))
    rw [← xv_cat Γ w] at h3
    by_cases e : j + 1 = i
    · have : ¬ (xv Γ w).category = 2 := fun z => h3 ⟨e, z⟩
      simp [h1, h1', this]
    · simp [h1, h1', e]
section XI
variable {Γ : xG} {l : Launch} {d pc bc bs : Nat} {M : xMeth} {L st : List Value} {h : xH} {Q : Option Value → xH → Prop}
/-- fewer known locals -/
theorem g_weak {L' : List Value} (hL : ∀ i, i < L'.length → L'.getD i xhole = xhole ∨ L[i]? = L'[i]?) (k : Gd Γ l d M pc L' st h bc bs Q) : Gd Γ l d M pc L st h bc bs Q := by
  intro p e R s m args below meth c H locs cells slots ls Z C hW hS hc hs hl hE
  refine k p e R s m args below meth c H locs cells slots ls Z C hW hS hc hs ⟨hl.1, hl.2.1, fun i v hi hv => ?_⟩ hE
  have hlt := (List.getElem?_eq_some_iff.mp hi).1
  rcases hL i hlt with q | q
  · rw [List.getD_eq_getElem?_getD, hi] at q
    exact absurd q hv
  · exact hl.2.2 i v (q.trans hi) hv
/-- less room -/
theorem g_less {bc' bs' : Nat} (h1 : bc' ≤ bc) (h2 : bs' ≤ bs) (k : Gd Γ l d M pc L st h bc' bs' Q) : Gd Γ l d M pc L st h bc bs Q := by
  intro p e R s m args below meth c H locs cells slots ls Z C hW hS hc hs hl hE
  exact k p e R s m args below meth c H locs cells slots ls Z C hW hS (by omega) (by omega) hl hE
/-- a weaker end -/
theorem g_post {Q' : Option Value → xH → Prop} (hQ : ∀ r u, Q' r u → Q r u) (k : Gd Γ l d M pc L st h bc bs Q') : Gd Γ l d M pc L st h bc bs Q := by
  intro p e R s m args below meth c H locs cells slots ls Z C hW hS hc hs hl hE
  exact k p e R s m args below meth c H locs cells slots ls Z C hW hS hc hs hl (fun r u H' locs' cells' slots' pc' ls' q => hE r u H' locs' cells' slots' pc' ls' (hQ r u q))
theorem g_iconst {n : Int} (hd : decode M.2.1 pc = .ok (.iconst n, 1)) (k : Gd Γ l d M (pc + 1) L (.int (Int32.ofInt n) :: st) h bc bs Q) : Gd Γ l d M pc L (st) h bc bs Q := by
  intro p e R s m args below meth c H locs cells slots ls Z C hW hS hc hs hl hE
  exact lv_iconst C.1 C.2.1 hd rfl (k p e R s m args below meth c H locs cells slots ls Z C hW hS hc hs hl hE)
theorem g_bipush {n : Int} (hd : decode M.2.1 pc = .ok (.bipush n, 2)) (k : Gd Γ l d M (pc + 2) L (.int (Int8.ofInt n).toInt32 :: st) h bc bs Q) : Gd Γ l d M pc L (st) h bc bs Q := by
  intro p e R s m args below meth c H locs cells slots ls Z C hW hS hc hs hl hE
  exact lv_bipush C.1 C.2.1 hd rfl (k p e R s m args below meth c H locs cells slots ls Z C hW hS hc hs hl hE)
theorem g_sipush {n : Int} (hd : decode M.2.1 pc = .ok (.sipush n, 3)) (k : Gd Γ l d M (pc + 3) L (.int (Int16.ofInt n).toInt32 :: st) h bc bs Q) : Gd Γ l d M pc L (st) h bc bs Q := by
  intro p e R s m args below meth c H locs cells slots ls Z C hW hS hc hs hl hE
  exact lv_sipush C.1 C.2.1 hd rfl (k p e R s m args below meth c H locs cells slots ls Z C hW hS hc hs hl hE)
theorem g_ic {n : Int} (v : Int32) (hd : decode M.2.1 pc = .ok (.iconst n, 1)) (hv : Int32.ofInt n = v) (k : Gd Γ l d M (pc + 1) L (.int v :: st) h bc bs Q) : Gd Γ l d M pc L (st) h bc bs Q := by
  intro p e R s m args below meth c H locs cells slots ls Z C hW hS hc hs hl hE
  exact lv_iconst C.1 C.2.1 hd hv (k p e R s m args below meth c H locs cells slots ls Z C hW hS hc hs hl hE)
theorem g_bi {n : Int} (v : Int32) (hd : decode M.2.1 pc = .ok (.bipush n, 2)) (hv : (Int8.ofInt n).toInt32 = v) (k : Gd Γ l d M (pc + 2) L (.int v :: st) h bc bs Q) : Gd Γ l d M pc L (st) h bc bs Q := by
  intro p e R s m args below meth c H locs cells slots ls Z C hW hS hc hs hl hE
  exact lv_bipush C.1 C.2.1 hd hv (k p e R s m args below meth c H locs cells slots ls Z C hW hS hc hs hl hE)
theorem g_si {n : Int} (v : Int32) (hd : decode M.2.1 pc = .ok (.sipush n, 3)) (hv : (Int16.ofInt n).toInt32 = v) (k : Gd Γ l d M (pc + 3) L (.int v :: st) h bc bs Q) : Gd Γ l d M pc L (st) h bc bs Q := by
  intro p e R s m args below meth c H locs cells slots ls Z C hW hS hc hs hl hE
  exact lv_sipush C.1 C.2.1 hd hv (k p e R s m args below meth c H locs cells slots ls Z C hW hS hc hs hl hE)
theorem g_lc {n : Fin 2} (v : Int64) (hd : decode M.2.1 pc = .ok (.lconst n, 1)) (hv : Int64.ofNat (n : Nat) = v) (k : Gd Γ l d M (pc + 1) L (.long v :: st) h bc bs Q) : Gd Γ l d M pc L (st) h bc bs Q := by
  intro p e R s m args below meth c H locs cells slots ls Z C hW hS hc hs hl hE
  exact lv_lconst C.1 C.2.1 hd hv (k p e R s m args below meth c H locs cells slots ls Z C hW hS hc hs hl hE)
theorem g_null  (hd : decode M.2.1 pc = .ok (.aconst_null, 1)) (k : Gd Γ l d M (pc + 1) L (.null :: st) h bc bs Q) : Gd Γ l d M pc L (st) h bc bs Q := by
  intro p e R s m args below meth c H locs cells slots ls Z C hW hS hc hs hl hE
  exact lv_null C.1 C.2.1 hd (k p e R s m args below meth c H locs cells slots ls Z C hW hS hc hs hl hE)
theorem g_iload {i : Nat} {x : Int32} (hd : decode M.2.1 pc = .ok (.iload i, 2)) (hv : L[i]? = some (.int x)) (k : Gd Γ l d M (pc + 2) L (.int x :: st) h bc bs Q) : Gd Γ l d M pc L (st) h bc bs Q := by
  intro p e R s m args below meth c H locs cells slots ls Z C hW hS hc hs hl hE
  exact lv_iload C.1 C.2.1 hd (hl.2.2 i _ hv (fun e => by unfold xhole at e; cases e)) (k p e R s m args below meth c H locs cells slots ls Z C hW hS hc hs hl hE)
theorem g_iloadn {i : Fin 4} {x : Int32} (hd : decode M.2.1 pc = .ok (.iload_n i, 1)) (hv : L[i.val]? = some (.int x)) (k : Gd Γ l d M (pc + 1) L (.int x :: st) h bc bs Q) : Gd Γ l d M pc L (st) h bc bs Q := by
  intro p e R s m args below meth c H locs cells slots ls Z C hW hS hc hs hl hE
  exact lv_iload_n C.1 C.2.1 hd rfl (hl.2.2 i.val _ hv (fun e => by unfold xhole at e; cases e)) (k p e R s m args below meth c H locs cells slots ls Z C hW hS hc hs hl hE)
theorem g_lload {i : Nat} {x : Int64} (hd : decode M.2.1 pc = .ok (.lload i, 2)) (hv : L[i]? = some (.long x)) (k : Gd Γ l d M (pc + 2) L (.long x :: st) h bc bs Q) : Gd Γ l d M pc L (st) h bc bs Q := by
  intro p e R s m args below meth c H locs cells slots ls Z C hW hS hc hs hl hE
  exact lv_lload C.1 C.2.1 hd (hl.2.2 i _ hv (fun e => by unfold xhole at e; cases e)) (k p e R s m args below meth c H locs cells slots ls Z C hW hS hc hs hl hE)
theorem g_lloadn {i : Fin 4} {x : Int64} (hd : decode M.2.1 pc = .ok (.lload_n i, 1)) (hv : L[i.val]? = some (.long x)) (k : Gd Γ l d M (pc + 1) L (.long x :: st) h bc bs Q) : Gd Γ l d M pc L (st) h bc bs Q := by
  intro p e R s m args below meth c H locs cells slots ls Z C hW hS hc hs hl hE
  exact lv_lload_n C.1 C.2.1 hd rfl (hl.2.2 i.val _ hv (fun e => by unfold xhole at e; cases e)) (k p e R s m args below meth c H locs cells slots ls Z C hW hS hc hs hl hE)
theorem g_aload {i x : Nat} (hd : decode M.2.1 pc = .ok (.aload i, 2)) (hv : L[i]? = some (.ref x)) (k : Gd Γ l d M (pc + 2) L (.ref x :: st) h bc bs Q) : Gd Γ l d M pc L (st) h bc bs Q := by
  intro p e R s m args below meth c H locs cells slots ls Z C hW hS hc hs hl hE
  exact lv_aload C.1 C.2.1 hd (hl.2.2 i _ hv (fun e => by unfold xhole at e; cases e)) (k p e R s m args below meth c H locs cells slots ls Z C hW hS hc hs hl hE)
theorem g_aloadn {i : Fin 4} {x : Nat} (hd : decode M.2.1 pc = .ok (.aload_n i, 1)) (hv : L[i.val]? = some (.ref x)) (k : Gd Γ l d M (pc + 1) L (.ref x :: st) h bc bs Q) : Gd Γ l d M pc L (st) h bc bs Q := by
  intro p e R s m args below meth c H locs cells slots ls Z C hW hS hc hs hl hE
  exact lv_aload_n C.1 C.2.1 hd rfl (hl.2.2 i.val _ hv (fun e => by unfold xhole at e; cases e)) (k p e R s m args below meth c H locs cells slots ls Z C hW hS hc hs hl hE)
theorem g_aloadN {i : Nat} (hd : decode M.2.1 pc = .ok (.aload i, 2)) (hv : L[i]? = some .null) (k : Gd Γ l d M (pc + 2) L (.null :: st) h bc bs Q) : Gd Γ l d M pc L (st) h bc bs Q := by
  intro p e R s m args below meth c H locs cells slots ls Z C hW hS hc hs hl hE
  exact lv_aloadN C.1 C.2.1 hd (hl.2.2 i _ hv (fun e => by unfold xhole at e; cases e)) (k p e R s m args below meth c H locs cells slots ls Z C hW hS hc hs hl hE)
theorem g_aloadnN {i : Fin 4} (hd : decode M.2.1 pc = .ok (.aload_n i, 1)) (hv : L[i.val]? = some .null) (k : Gd Γ l d M (pc + 1) L (.null :: st) h bc bs Q) : Gd Γ l d M pc L (st) h bc bs Q := by
  intro p e R s m args below meth c H locs cells slots ls Z C hW hS hc hs hl hE
  exact lv_aload_nN C.1 C.2.1 hd rfl (hl.2.2 i.val _ hv (fun e => by unfold xhole at e; cases e)) (k p e R s m args below meth c H locs cells slots ls Z C hW hS hc hs hl hE)
theorem g_istore {i : Nat} {x : Int32} (hd : decode M.2.1 pc = .ok (.istore i, 2)) (hn : i < M.2.2.1) (k : Gd Γ l d M (pc + 2) (xst L (i) (.int x)) st h bc bs Q) : Gd Γ l d M pc L (.int x :: st) h bc bs Q := by
  intro p e R s m args below meth c H locs cells slots ls Z C hW hS hc hs hl hE
  refine lv_istore C.1 C.2.1 hd hl.has hn rfl (fun ls' hl' => ?_)
  exact k p e R s m args below meth c H locs cells slots ls' Z C hW hS hc hs (xLoc.st (v := .int x) hl') hE
theorem g_istoren {i : Fin 4} {x : Int32} (hd : decode M.2.1 pc = .ok (.istore_n i, 1)) (hn : i.val < M.2.2.1) (k : Gd Γ l d M (pc + 1) (xst L (i.val) (.int x)) st h bc bs Q) : Gd Γ l d M pc L (.int x :: st) h bc bs Q := by
  intro p e R s m args below meth c H locs cells slots ls Z C hW hS hc hs hl hE
  refine lv_istore_n C.1 C.2.1 hd rfl hl.has hn rfl (fun ls' hl' => ?_)
  exact k p e R s m args below meth c H locs cells slots ls' Z C hW hS hc hs (xLoc.st (v := .int x) hl') hE
theorem g_lstore {i : Nat} {x : Int64} (hd : decode M.2.1 pc = .ok (.lstore i, 2)) (hn : i + 1 < M.2.2.1) (k : Gd Γ l d M (pc + 2) (xst2 L (i) (.long x)) st h bc bs Q) : Gd Γ l d M pc L (.long x :: st) h bc bs Q := by
  intro p e R s m args below meth c H locs cells slots ls Z C hW hS hc hs hl hE
  refine lv_lstore C.1 C.2.1 hd hl.has hn rfl (fun ls' hl' => ?_)
  exact k p e R s m args below meth c H locs cells slots ls' Z C hW hS hc hs (xLoc.st2 (v := .long x) hl') hE
theorem g_lstoren {i : Fin 4} {x : Int64} (hd : decode M.2.1 pc = .ok (.lstore_n i, 1)) (hn : i.val + 1 < M.2.2.1) (k : Gd Γ l d M (pc + 1) (xst2 L (i.val) (.long x)) st h bc bs Q) : Gd Γ l d M pc L (.long x :: st) h bc bs Q := by
  intro p e R s m args below meth c H locs cells slots ls Z C hW hS hc hs hl hE
  refine lv_lstore_n C.1 C.2.1 hd rfl hl.has hn rfl (fun ls' hl' => ?_)
  exact k p e R s m args below meth c H locs cells slots ls' Z C hW hS hc hs (xLoc.st2 (v := .long x) hl') hE
theorem g_astore {i x : Nat} (hd : decode M.2.1 pc = .ok (.astore i, 2)) (hn : i < M.2.2.1) (k : Gd Γ l d M (pc + 2) (xst L (i) (.ref x)) st h bc bs Q) : Gd Γ l d M pc L (.ref x :: st) h bc bs Q := by
  intro p e R s m args below meth c H locs cells slots ls Z C hW hS hc hs hl hE
  refine lv_astore C.1 C.2.1 hd hl.has hn rfl (fun ls' hl' => ?_)
  exact k p e R s m args below meth c H locs cells slots ls' Z C hW hS hc hs (xLoc.st (v := .ref x) hl') hE
theorem g_astoren {i : Fin 4} {x : Nat} (hd : decode M.2.1 pc = .ok (.astore_n i, 1)) (hn : i.val < M.2.2.1) (k : Gd Γ l d M (pc + 1) (xst L (i.val) (.ref x)) st h bc bs Q) : Gd Γ l d M pc L (.ref x :: st) h bc bs Q := by
  intro p e R s m args below meth c H locs cells slots ls Z C hW hS hc hs hl hE
  refine lv_astore_n C.1 C.2.1 hd rfl hl.has hn rfl (fun ls' hl' => ?_)
  exact k p e R s m args below meth c H locs cells slots ls' Z C hW hS hc hs (xLoc.st (v := .ref x) hl') hE
theorem g_astoreN {i : Nat} (hd : decode M.2.1 pc = .ok (.astore i, 2)) (hn : i < M.2.2.1) (k : Gd Γ l d M (pc + 2) (xst L (i) (.null)) st h bc bs Q) : Gd Γ l d M pc L (.null :: st) h bc bs Q := by
  intro p e R s m args below meth c H locs cells slots ls Z C hW hS hc hs hl hE
  refine lv_astoreN C.1 C.2.1 hd hl.has hn rfl (fun ls' hl' => ?_)
  exact k p e R s m args below meth c H locs cells slots ls' Z C hW hS hc hs (xLoc.st (v := .null) hl') hE
theorem g_astorenN {i : Fin 4} (hd : decode M.2.1 pc = .ok (.astore_n i, 1)) (hn : i.val < M.2.2.1) (k : Gd Γ l d M (pc + 1) (xst L (i.val) (.null)) st h bc bs Q) : Gd Γ l d M pc L (.null :: st) h bc bs Q := by
  intro p e R s m args below meth c H locs cells slots ls Z C hW hS hc hs hl hE
  refine lv_astore_nN C.1 C.2.1 hd rfl hl.has hn rfl (fun ls' hl' => ?_)
  exact k p e R s m args below meth c H locs cells slots ls' Z C hW hS hc hs (xLoc.st (v := .null) hl') hE
theorem g_iinc {i : Nat} {n : Int} {x : Int32} (hd : decode M.2.1 pc = .ok (.iinc i n, 3)) (hv : L[i]? = some (.int x)) (hn : i < M.2.2.1) (k : Gd Γ l d M (pc + 3) (xst L i (.int (x + Int32.ofInt n))) st h bc bs Q) : Gd Γ l d M pc L st h bc bs Q := by
  intro p e R s m args below meth c H locs cells slots ls Z C hW hS hc hs hl hE
  obtain ⟨j, hj⟩ := List.getElem?_of_mem (xpl_mem (Γ := Γ) hv (fun e => by unfold xhole at e; cases e))
  refine lv_iinc C.1 C.2.1 hd hl.has hj rfl hn rfl (fun ls' hl' => ?_)
  exact k p e R s m args below meth c H locs cells slots ls' Z C hW hS hc hs (xLoc.st (v := .int _) hl') hE
theorem g_iadd {x y : Int32} (hd : decode M.2.1 pc = .ok (.iadd, 1)) (k : Gd Γ l d M (pc + 1) L (.int (x + y) :: st) h bc bs Q) : Gd Γ l d M pc L (.int y :: .int x :: st) h bc bs Q := by
  intro p e R s m args below meth c H locs cells slots ls Z C hW hS hc hs hl hE
  exact lv_iadd C.1 C.2.1 hd (k p e R s m args below meth c H locs cells slots ls Z C hW hS hc hs hl hE)
theorem g_isub {x y : Int32} (hd : decode M.2.1 pc = .ok (.isub, 1)) (k : Gd Γ l d M (pc + 1) L (.int (x - y) :: st) h bc bs Q) : Gd Γ l d M pc L (.int y :: .int x :: st) h bc bs Q := by
  intro p e R s m args below meth c H locs cells slots ls Z C hW hS hc hs hl hE
  exact lv_isub C.1 C.2.1 hd (k p e R s m args below meth c H locs cells slots ls Z C hW hS hc hs hl hE)
theorem g_imul {x y : Int32} (hd : decode M.2.1 pc = .ok (.imul, 1)) (k : Gd Γ l d M (pc + 1) L (.int (x * y) :: st) h bc bs Q) : Gd Γ l d M pc L (.int y :: .int x :: st) h bc bs Q := by
  intro p e R s m args below meth c H locs cells slots ls Z C hW hS hc hs hl hE
  exact lv_imul C.1 C.2.1 hd (k p e R s m args below meth c H locs cells slots ls Z C hW hS hc hs hl hE)
theorem g_iand {x y : Int32} (hd : decode M.2.1 pc = .ok (.iand, 1)) (k : Gd Γ l d M (pc + 1) L (.int (x &&& y) :: st) h bc bs Q) : Gd Γ l d M pc L (.int y :: .int x :: st) h bc bs Q := by
  intro p e R s m args below meth c H locs cells slots ls Z C hW hS hc hs hl hE
  exact lv_iand C.1 C.2.1 hd (k p e R s m args below meth c H locs cells slots ls Z C hW hS hc hs hl hE)
theorem g_ior {x y : Int32} (hd : decode M.2.1 pc = .ok (.ior, 1)) (k : Gd Γ l d M (pc + 1) L (.int (x ||| y) :: st) h bc bs Q) : Gd Γ l d M pc L (.int y :: .int x :: st) h bc bs Q := by
  intro p e R s m args below meth c H locs cells slots ls Z C hW hS hc hs hl hE
  exact lv_ior C.1 C.2.1 hd (k p e R s m args below meth c H locs cells slots ls Z C hW hS hc hs hl hE)
theorem g_ixor {x y : Int32} (hd : decode M.2.1 pc = .ok (.ixor, 1)) (k : Gd Γ l d M (pc + 1) L (.int (x ^^^ y) :: st) h bc bs Q) : Gd Γ l d M pc L (.int y :: .int x :: st) h bc bs Q := by
  intro p e R s m args below meth c H locs cells slots ls Z C hW hS hc hs hl hE
  exact lv_ixor C.1 C.2.1 hd (k p e R s m args below meth c H locs cells slots ls Z C hW hS hc hs hl hE)
theorem g_ishl {x y : Int32} (hd : decode M.2.1 pc = .ok (.ishl, 1)) (k : Gd Γ l d M (pc + 1) L (.int (x <<< (y &&& 31)) :: st) h bc bs Q) : Gd Γ l d M pc L (.int y :: .int x :: st) h bc bs Q := by
  intro p e R s m args below meth c H locs cells slots ls Z C hW hS hc hs hl hE
  exact lv_ishl C.1 C.2.1 hd (k p e R s m args below meth c H locs cells slots ls Z C hW hS hc hs hl hE)
theorem g_ishr {x y : Int32} (hd : decode M.2.1 pc = .ok (.ishr, 1)) (k : Gd Γ l d M (pc + 1) L (.int (x >>> (y &&& 31)) :: st) h bc bs Q) : Gd Γ l d M pc L (.int y :: .int x :: st) h bc bs Q := by
  intro p e R s m args below meth c H locs cells slots ls Z C hW hS hc hs hl hE
  exact lv_ishr C.1 C.2.1 hd (k p e R s m args below meth c H locs cells slots ls Z C hW hS hc hs hl hE)
theorem g_idiv {x y : Int32} (hd : decode M.2.1 pc = .ok (.idiv, 1)) (hne : ¬ y = 0) (k : Gd Γ l d M (pc + 1) L (.int (x / y) :: st) h bc bs Q) : Gd Γ l d M pc L (.int y :: .int x :: st) h bc bs Q := by
  intro p e R s m args below meth c H locs cells slots ls Z C hW hS hc hs hl hE
  exact lv_idiv C.1 C.2.1 hd hne (k p e R s m args below meth c H locs cells slots ls Z C hW hS hc hs hl hE)
theorem g_irem {x y : Int32} (hd : decode M.2.1 pc = .ok (.irem, 1)) (hne : ¬ y = 0) (k : Gd Γ l d M (pc + 1) L (.int (x - x / y * y) :: st) h bc bs Q) : Gd Γ l d M pc L (.int y :: .int x :: st) h bc bs Q := by
  intro p e R s m args below meth c H locs cells slots ls Z C hW hS hc hs hl hE
  exact lv_irem C.1 C.2.1 hd hne (k p e R s m args below meth c H locs cells slots ls Z C hW hS hc hs hl hE)
theorem g_iushr {x y : Int32} (hd : decode M.2.1 pc = .ok (.iushr, 1)) (k : Gd Γ l d M (pc + 1) L (.int ((x.toUInt32 >>> (y.toUInt32 &&& Int32.toUInt32 31)).toInt32) :: st) h bc bs Q) : Gd Γ l d M pc L (.int y :: .int x :: st) h bc bs Q := by
  intro p e R s m args below meth c H locs cells slots ls Z C hW hS hc hs hl hE
  exact lv_iushr C.1 C.2.1 hd rfl (k p e R s m args below meth c H locs cells slots ls Z C hW hS hc hs hl hE)
theorem g_ineg {x : Int32} (hd : decode M.2.1 pc = .ok (.ineg, 1)) (k : Gd Γ l d M (pc + 1) L (.int (-x) :: st) h bc bs Q) : Gd Γ l d M pc L (.int x :: st) h bc bs Q := by
  intro p e R s m args below meth c H locs cells slots ls Z C hW hS hc hs hl hE
  exact lv_ineg C.1 C.2.1 hd (k p e R s m args below meth c H locs cells slots ls Z C hW hS hc hs hl hE)
theorem g_ladd {x y : Int64} (hd : decode M.2.1 pc = .ok (.ladd, 1)) (k : Gd Γ l d M (pc + 1) L (.long (x + y) :: st) h bc bs Q) : Gd Γ l d M pc L (.long y :: .long x :: st) h bc bs Q := by
  intro p e R s m args below meth c H locs cells slots ls Z C hW hS hc hs hl hE
  exact lv_ladd C.1 C.2.1 hd (k p e R s m args below meth c H locs cells slots ls Z C hW hS hc hs hl hE)
theorem g_lsub {x y : Int64} (hd : decode M.2.1 pc = .ok (.lsub, 1)) (k : Gd Γ l d M (pc + 1) L (.long (x - y) :: st) h bc bs Q) : Gd Γ l d M pc L (.long y :: .long x :: st) h bc bs Q := by
  intro p e R s m args below meth c H locs cells slots ls Z C hW hS hc hs hl hE
  exact lv_lsub C.1 C.2.1 hd (k p e R s m args below meth c H locs cells slots ls Z C hW hS hc hs hl hE)
theorem g_lmul {x y : Int64} (hd : decode M.2.1 pc = .ok (.lmul, 1)) (k : Gd Γ l d M (pc + 1) L (.long (x * y) :: st) h bc bs Q) : Gd Γ l d M pc L (.long y :: .long x :: st) h bc bs Q := by
  intro p e R s m args below meth c H locs cells slots ls Z C hW hS hc hs hl hE
  exact lv_lmul C.1 C.2.1 hd (k p e R s m args below meth c H locs cells slots ls Z C hW hS hc hs hl hE)
theorem g_land {x y : Int64} (hd : decode M.2.1 pc = .ok (.land, 1)) (k : Gd Γ l d M (pc + 1) L (.long (x &&& y) :: st) h bc bs Q) : Gd Γ l d M pc L (.long y :: .long x :: st) h bc bs Q := by
  intro p e R s m args below meth c H locs cells slots ls Z C hW hS hc hs hl hE
  exact lv_land C.1 C.2.1 hd (k p e R s m args below meth c H locs cells slots ls Z C hW hS hc hs hl hE)
theorem g_lor {x y : Int64} (hd : decode M.2.1 pc = .ok (.lor, 1)) (k : Gd Γ l d M (pc + 1) L (.long (x ||| y) :: st) h bc bs Q) : Gd Γ l d M pc L (.long y :: .long x :: st) h bc bs Q := by
  intro p e R s m args below meth c H locs cells slots ls Z C hW hS hc hs hl hE
  exact lv_lor C.1 C.2.1 hd (k p e R s m args below meth c H locs cells slots ls Z C hW hS hc hs hl hE)
theorem g_ldiv {x y : Int64} (hd : decode M.2.1 pc = .ok (.ldiv, 1)) (hne : ¬ y = 0) (k : Gd Γ l d M (pc + 1) L (.long (x / y) :: st) h bc bs Q) : Gd Γ l d M pc L (.long y :: .long x :: st) h bc bs Q := by
  intro p e R s m args below meth c H locs cells slots ls Z C hW hS hc hs hl hE
  exact lv_ldiv C.1 C.2.1 hd hne (k p e R s m args below meth c H locs cells slots ls Z C hW hS hc hs hl hE)
theorem g_lrem {x y : Int64} (hd : decode M.2.1 pc = .ok (.lrem, 1)) (hne : ¬ y = 0) (k : Gd Γ l d M (pc + 1) L (.long (x - x / y * y) :: st) h bc bs Q) : Gd Γ l d M pc L (.long y :: .long x :: st) h bc bs Q := by
  intro p e R s m args below meth c H locs cells slots ls Z C hW hS hc hs hl hE
  exact lv_lrem C.1 C.2.1 hd hne (k p e R s m args below meth c H locs cells slots ls Z C hW hS hc hs hl hE)
theorem g_lshl {x : Int64} {y : Int32} (hd : decode M.2.1 pc = .ok (.lshl, 1)) (k : Gd Γ l d M (pc + 1) L (.long (x <<< (y.toInt64 &&& 63)) :: st) h bc bs Q) : Gd Γ l d M pc L (.int y :: .long x :: st) h bc bs Q := by
  intro p e R s m args below meth c H locs cells slots ls Z C hW hS hc hs hl hE
  exact lv_lshl C.1 C.2.1 hd rfl (k p e R s m args below meth c H locs cells slots ls Z C hW hS hc hs hl hE)
theorem g_lshr {x : Int64} {y : Int32} (hd : decode M.2.1 pc = .ok (.lshr, 1)) (k : Gd Γ l d M (pc + 1) L (.long (x >>> (y.toInt64 &&& 63)) :: st) h bc bs Q) : Gd Γ l d M pc L (.int y :: .long x :: st) h bc bs Q := by
  intro p e R s m args below meth c H locs cells slots ls Z C hW hS hc hs hl hE
  exact lv_lshr C.1 C.2.1 hd rfl (k p e R s m args below meth c H locs cells slots ls Z C hW hS hc hs hl hE)
theorem g_lcmp {x y : Int64} (hd : decode M.2.1 pc = .ok (.lcmp, 1)) (k : Gd Γ l d M (pc + 1) L (.int (lg_cmp x y) :: st) h bc bs Q) : Gd Γ l d M pc L (.long y :: .long x :: st) h bc bs Q := by
  intro p e R s m args below meth c H locs cells slots ls Z C hW hS hc hs hl hE
  exact W.lcmp C.1 C.2.1 hd (k p e R s m args below meth c H locs cells slots ls Z C hW hS hc hs hl hE)
theorem g_i2l {x : Int32} (hd : decode M.2.1 pc = .ok (.i2l, 1)) (k : Gd Γ l d M (pc + 1) L (.long (x.toInt64) :: st) h bc bs Q) : Gd Γ l d M pc L (.int x :: st) h bc bs Q := by
  intro p e R s m args below meth c H locs cells slots ls Z C hW hS hc hs hl hE
  exact lv_i2l C.1 C.2.1 hd rfl (k p e R s m args below meth c H locs cells slots ls Z C hW hS hc hs hl hE)
theorem g_l2i {x : Int64} (hd : decode M.2.1 pc = .ok (.l2i, 1)) (k : Gd Γ l d M (pc + 1) L (.int (x.toInt32) :: st) h bc bs Q) : Gd Γ l d M pc L (.long x :: st) h bc bs Q := by
  intro p e R s m args below meth c H locs cells slots ls Z C hW hS hc hs hl hE
  exact lv_l2i C.1 C.2.1 hd rfl (k p e R s m args below meth c H locs cells slots ls Z C hW hS hc hs hl hE)
theorem g_i2b {x : Int32} (hd : decode M.2.1 pc = .ok (.i2b, 1)) (k : Gd Γ l d M (pc + 1) L (.int (x.toInt8.toInt32) :: st) h bc bs Q) : Gd Γ l d M pc L (.int x :: st) h bc bs Q := by
  intro p e R s m args below meth c H locs cells slots ls Z C hW hS hc hs hl hE
  exact lv_i2b C.1 C.2.1 hd rfl (k p e R s m args below meth c H locs cells slots ls Z C hW hS hc hs hl hE)
theorem g_i2s {x : Int32} (hd : decode M.2.1 pc = .ok (.i2s, 1)) (k : Gd Γ l d M (pc + 1) L (.int (x.toInt16.toInt32) :: st) h bc bs Q) : Gd Γ l d M pc L (.int x :: st) h bc bs Q := by
  intro p e R s m args below meth c H locs cells slots ls Z C hW hS hc hs hl hE
  exact lv_i2s C.1 C.2.1 hd rfl (k p e R s m args below meth c H locs cells slots ls Z C hW hS hc hs hl hE)
theorem g_i2c {x : Int32} (hd : decode M.2.1 pc = .ok (.i2c, 1)) (k : Gd Γ l d M (pc + 1) L (.int ((x.toUInt32 % 65536).toInt32) :: st) h bc bs Q) : Gd Γ l d M pc L (.int x :: st) h bc bs Q := by
  intro p e R s m args below meth c H locs cells slots ls Z C hW hS hc hs hl hE
  exact lv_i2c C.1 C.2.1 hd rfl (k p e R s m args below meth c H locs cells slots ls Z C hW hS hc hs hl hE)
theorem g_dup {v : Value} (hd : decode M.2.1 pc = .ok (.dup, 1)) (hc1 : v.category = 1) (k : Gd Γ l d M (pc + 1) L (v :: v :: st) h bc bs Q) : Gd Γ l d M pc L (v :: st) h bc bs Q := by
  intro p e R s m args below meth c H locs cells slots ls Z C hW hS hc hs hl hE
  exact lv_dup C.1 C.2.1 hd ((xv_cat Γ v).trans hc1) (k p e R s m args below meth c H locs cells slots ls Z C hW hS hc hs hl hE)
theorem g_pop {v : Value} (hd : decode M.2.1 pc = .ok (.pop, 1)) (hc1 : v.category = 1) (k : Gd Γ l d M (pc + 1) L (st) h bc bs Q) : Gd Γ l d M pc L (v :: st) h bc bs Q := by
  intro p e R s m args below meth c H locs cells slots ls Z C hW hS hc hs hl hE
  exact lv_pop C.1 C.2.1 hd ((xv_cat Γ v).trans hc1) (k p e R s m args below meth c H locs cells slots ls Z C hW hS hc hs hl hE)
theorem g_dup2 {v w : Value} (hd : decode M.2.1 pc = .ok (.dup2, 1)) (hc1 : v.category = 1) (hc2 : w.category = 1) (k : Gd Γ l d M (pc + 1) L (v :: w :: v :: w :: st) h bc bs Q) : Gd Γ l d M pc L (v :: w :: st) h bc bs Q := by
  intro p e R s m args below meth c H locs cells slots ls Z C hW hS hc hs hl hE
  exact lv_dup2_11 C.1 C.2.1 hd ((xv_cat Γ v).trans hc1) ((xv_cat Γ w).trans hc2) (k p e R s m args below meth c H locs cells slots ls Z C hW hS hc hs hl hE)
theorem g_dup2l {v : Value} (hd : decode M.2.1 pc = .ok (.dup2, 1)) (hc1 : v.category = 2) (k : Gd Γ l d M (pc + 1) L (v :: v :: st) h bc bs Q) : Gd Γ l d M pc L (v :: st) h bc bs Q := by
  intro p e R s m args below meth c H locs cells slots ls Z C hW hS hc hs hl hE
  exact lv_dup2_2 C.1 C.2.1 hd ((xv_cat Γ v).trans hc1) (k p e R s m args below meth c H locs cells slots ls Z C hW hS hc hs hl hE)
theorem g_pop2l {v : Value} (hd : decode M.2.1 pc = .ok (.pop2, 1)) (hc1 : v.category = 2) (k : Gd Γ l d M (pc + 1) L (st) h bc bs Q) : Gd Γ l d M pc L (v :: st) h bc bs Q := by
  intro p e R s m args below meth c H locs cells slots ls Z C hW hS hc hs hl hE
  exact lv_pop2_2 C.1 C.2.1 hd ((xv_cat Γ v).trans hc1) (k p e R s m args below meth c H locs cells slots ls Z C hW hS hc hs hl hE)
theorem g_pop2 {v w : Value} (hd : decode M.2.1 pc = .ok (.pop2, 1)) (hc1 : v.category = 1) (hc2 : w.category = 1) (k : Gd Γ l d M (pc + 1) L (st) h bc bs Q) : Gd Γ l d M pc L (v :: w :: st) h bc bs Q := by
  intro p e R s m args below meth c H locs cells slots ls Z C hW hS hc hs hl hE
  exact lv_pop2_11 C.1 C.2.1 hd ((xv_cat Γ v).trans hc1) ((xv_cat Γ w).trans hc2) (k p e R s m args below meth c H locs cells slots ls Z C hW hS hc hs hl hE)
theorem g_if_eq {x : Int32} {off : Int} (tgt : Nat) (hd : decode M.2.1 pc = .ok (.ifCond .eq off, 3)) (ht : (pc : Int) + off = (tgt : Int)) (kt : x = 0 → Gd Γ l d M tgt L st h bc bs Q) (kf : ¬ (x = 0) → Gd Γ l d M (pc + 3) L st h bc bs Q) : Gd Γ l d M pc L (.int x :: st) h bc bs Q := by
  intro p e R s m args below meth c H locs cells slots ls Z C hW hS hc hs hl hE
  exact lv_if_eq C.1 C.2.1 hd ht (fun q => kt q p e R s m args below meth c H locs cells slots ls Z C hW hS hc hs hl hE) (fun q => kf q p e R s m args below meth c H locs cells slots ls Z C hW hS hc hs hl hE)
theorem g_icmp_eq {x y : Int32} {off : Int} (tgt : Nat) (hd : decode M.2.1 pc = .ok (.if_icmp .eq off, 3)) (ht : (pc : Int) + off = (tgt : Int)) (kt : x = y → Gd Γ l d M tgt L st h bc bs Q) (kf : ¬ (x = y) → Gd Γ l d M (pc + 3) L st h bc bs Q) : Gd Γ l d M pc L (.int y :: .int x :: st) h bc bs Q := by
  intro p e R s m args below meth c H locs cells slots ls Z C hW hS hc hs hl hE
  exact lv_icmp_eq C.1 C.2.1 hd ht (fun q => kt q p e R s m args below meth c H locs cells slots ls Z C hW hS hc hs hl hE) (fun q => kf q p e R s m args below meth c H locs cells slots ls Z C hW hS hc hs hl hE)
theorem g_if_ne {x : Int32} {off : Int} (tgt : Nat) (hd : decode M.2.1 pc = .ok (.ifCond .ne off, 3)) (ht : (pc : Int) + off = (tgt : Int)) (kt : ¬ x = 0 → Gd Γ l d M tgt L st h bc bs Q) (kf : x = 0 → Gd Γ l d M (pc + 3) L st h bc bs Q) : Gd Γ l d M pc L (.int x :: st) h bc bs Q := by
  intro p e R s m args below meth c H locs cells slots ls Z C hW hS hc hs hl hE
  exact lv_if_ne C.1 C.2.1 hd ht (fun q => kt q p e R s m args below meth c H locs cells slots ls Z C hW hS hc hs hl hE) (fun q => kf q p e R s m args below meth c H locs cells slots ls Z C hW hS hc hs hl hE)
theorem g_icmp_ne {x y : Int32} {off : Int} (tgt : Nat) (hd : decode M.2.1 pc = .ok (.if_icmp .ne off, 3)) (ht : (pc : Int) + off = (tgt : Int)) (kt : ¬ x = y → Gd Γ l d M tgt L st h bc bs Q) (kf : x = y → Gd Γ l d M (pc + 3) L st h bc bs Q) : Gd Γ l d M pc L (.int y :: .int x :: st) h bc bs Q := by
  intro p e R s m args below meth c H locs cells slots ls Z C hW hS hc hs hl hE
  exact lv_icmp_ne C.1 C.2.1 hd ht (fun q => kt q p e R s m args below meth c H locs cells slots ls Z C hW hS hc hs hl hE) (fun q => kf q p e R s m args below meth c H locs cells slots ls Z C hW hS hc hs hl hE)
theorem g_if_lt {x : Int32} {off : Int} (tgt : Nat) (hd : decode M.2.1 pc = .ok (.ifCond .lt off, 3)) (ht : (pc : Int) + off = (tgt : Int)) (kt : x < 0 → Gd Γ l d M tgt L st h bc bs Q) (kf : ¬ (x < 0) → Gd Γ l d M (pc + 3) L st h bc bs Q) : Gd Γ l d M pc L (.int x :: st) h bc bs Q := by
  intro p e R s m args below meth c H locs cells slots ls Z C hW hS hc hs hl hE
  exact lv_if_lt C.1 C.2.1 hd ht (fun q => kt q p e R s m args below meth c H locs cells slots ls Z C hW hS hc hs hl hE) (fun q => kf q p e R s m args below meth c H locs cells slots ls Z C hW hS hc hs hl hE)
theorem g_icmp_lt {x y : Int32} {off : Int} (tgt : Nat) (hd : decode M.2.1 pc = .ok (.if_icmp .lt off, 3)) (ht : (pc : Int) + off = (tgt : Int)) (kt : x < y → Gd Γ l d M tgt L st h bc bs Q) (kf : ¬ (x < y) → Gd Γ l d M (pc + 3) L st h bc bs Q) : Gd Γ l d M pc L (.int y :: .int x :: st) h bc bs Q := by
  intro p e R s m args below meth c H locs cells slots ls Z C hW hS hc hs hl hE
  exact lv_icmp_lt C.1 C.2.1 hd ht (fun q => kt q p e R s m args below meth c H locs cells slots ls Z C hW hS hc hs hl hE) (fun q => kf q p e R s m args below meth c H locs cells slots ls Z C hW hS hc hs hl hE)
theorem g_if_ge {x : Int32} {off : Int} (tgt : Nat) (hd : decode M.2.1 pc = .ok (.ifCond .ge off, 3)) (ht : (pc : Int) + off = (tgt : Int)) (kt : 0 ≤ x → Gd Γ l d M tgt L st h bc bs Q) (kf : ¬ (0 ≤ x) → Gd Γ l d M (pc + 3) L st h bc bs Q) : Gd Γ l d M pc L (.int x :: st) h bc bs Q := by
  intro p e R s m args below meth c H locs cells slots ls Z C hW hS hc hs hl hE
  exact lv_if_ge C.1 C.2.1 hd ht (fun q => kt q p e R s m args below meth c H locs cells slots ls Z C hW hS hc hs hl hE) (fun q => kf q p e R s m args below meth c H locs cells slots ls Z C hW hS hc hs hl hE)
theorem g_icmp_ge {x y : Int32} {off : Int} (tgt : Nat) (hd : decode M.2.1 pc = .ok (.if_icmp .ge off, 3)) (ht : (pc : Int) + off = (tgt : Int)) (kt : y ≤ x → Gd Γ l d M tgt L st h bc bs Q) (kf : ¬ (y ≤ x) → Gd Γ l d M (pc + 3) L st h bc bs Q) : Gd Γ l d M pc L (.int y :: .int x :: st) h bc bs Q := by
  intro p e R s m args below meth c H locs cells slots ls Z C hW hS hc hs hl hE
  exact lv_icmp_ge C.1 C.2.1 hd ht (fun q => kt q p e R s m args below meth c H locs cells slots ls Z C hW hS hc hs hl hE) (fun q => kf q p e R s m args below meth c H locs cells slots ls Z C hW hS hc hs hl hE)
theorem g_if_gt {x : Int32} {off : Int} (tgt : Nat) (hd : decode M.2.1 pc = .ok (.ifCond .gt off, 3)) (ht : (pc : Int) + off = (tgt : Int)) (kt : 0 < x → Gd Γ l d M tgt L st h bc bs Q) (kf : ¬ (0 < x) → Gd Γ l d M (pc + 3) L st h bc bs Q) : Gd Γ l d M pc L (.int x :: st) h bc bs Q := by
  intro p e R s m args below meth c H locs cells slots ls Z C hW hS hc hs hl hE
  exact lv_if_gt C.1 C.2.1 hd ht (fun q => kt q p e R s m args below meth c H locs cells slots ls Z C hW hS hc hs hl hE) (fun q => kf q p e R s m args below meth c H locs cells slots ls Z C hW hS hc hs hl hE)
theorem g_icmp_gt {x y : Int32} {off : Int} (tgt : Nat) (hd : decode M.2.1 pc = .ok (.if_icmp .gt off, 3)) (ht : (pc : Int) + off = (tgt : Int)) (kt : y < x → Gd Γ l d M tgt L st h bc bs Q) (kf : ¬ (y < x) → Gd Γ l d M (pc + 3) L st h bc bs Q) : Gd Γ l d M pc L (.int y :: .int x :: st) h bc bs Q := by
  intro p e R s m args below meth c H locs cells slots ls Z C hW hS hc hs hl hE
  exact lv_icmp_gt C.1 C.2.1 hd ht (fun q => kt q p e R s m args below meth c H locs cells slots ls Z C hW hS hc hs hl hE) (fun q => kf q p e R s m args below meth c H locs cells slots ls Z C hW hS hc hs hl hE)
theorem g_if_le {x : Int32} {off : Int} (tgt : Nat) (hd : decode M.2.1 pc = .ok (.ifCond .le off, 3)) (ht : (pc : Int) + off = (tgt : Int)) (kt : x ≤ 0 → Gd Γ l d M tgt L st h bc bs Q) (kf : ¬ (x ≤ 0) → Gd Γ l d M (pc + 3) L st h bc bs Q) : Gd Γ l d M pc L (.int x :: st) h bc bs Q := by
  intro p e R s m args below meth c H locs cells slots ls Z C hW hS hc hs hl hE
  exact lv_if_le C.1 C.2.1 hd ht (fun q => kt q p e R s m args below meth c H locs cells slots ls Z C hW hS hc hs hl hE) (fun q => kf q p e R s m args below meth c H locs cells slots ls Z C hW hS hc hs hl hE)
theorem g_icmp_le {x y : Int32} {off : Int} (tgt : Nat) (hd : decode M.2.1 pc = .ok (.if_icmp .le off, 3)) (ht : (pc : Int) + off = (tgt : Int)) (kt : x ≤ y → Gd Γ l d M tgt L st h bc bs Q) (kf : ¬ (x ≤ y) → Gd Γ l d M (pc + 3) L st h bc bs Q) : Gd Γ l d M pc L (.int y :: .int x :: st) h bc bs Q := by
  intro p e R s m args below meth c H locs cells slots ls Z C hW hS hc hs hl hE
  exact lv_icmp_le C.1 C.2.1 hd ht (fun q => kt q p e R s m args below meth c H locs cells slots ls Z C hW hS hc hs hl hE) (fun q => kf q p e R s m args below meth c H locs cells slots ls Z C hW hS hc hs hl hE)
theorem g_goto {off : Int} (tgt : Nat) (hd : decode M.2.1 pc = .ok (.goto off, 3)) (ht : (pc : Int) + off = (tgt : Int)) (k : Gd Γ l d M tgt L st h bc bs Q) : Gd Γ l d M pc L st h bc bs Q := by
  intro p e R s m args below meth c H locs cells slots ls Z C hW hS hc hs hl hE
  exact lv_goto C.1 C.2.1 hd ht (k p e R s m args below meth c H locs cells slots ls Z C hW hS hc hs hl hE)
theorem g_ifnull {off : Int} {x : Nat} (hd : decode M.2.1 pc = .ok (.ifnull off, 3)) (k : Gd Γ l d M (pc + 3) L st h bc bs Q) : Gd Γ l d M pc L (.ref x :: st) h bc bs Q := by
  intro p e R s m args below meth c H locs cells slots ls Z C hW hS hc hs hl hE
  exact lv_ifnull C.1 C.2.1 hd (k p e R s m args below meth c H locs cells slots ls Z C hW hS hc hs hl hE)
theorem g_ifnullN {off : Int} (tgt : Nat) (hd : decode M.2.1 pc = .ok (.ifnull off, 3)) (ht : (pc : Int) + off = (tgt : Int)) (k : Gd Γ l d M tgt L st h bc bs Q) : Gd Γ l d M pc L (.null :: st) h bc bs Q := by
  intro p e R s m args below meth c H locs cells slots ls Z C hW hS hc hs hl hE
  exact lv_ifnullN C.1 C.2.1 hd ht (k p e R s m args below meth c H locs cells slots ls Z C hW hS hc hs hl hE)
theorem g_ifnonnull {off : Int} {x : Nat} (tgt : Nat) (hd : decode M.2.1 pc = .ok (.ifnonnull off, 3)) (ht : (pc : Int) + off = (tgt : Int)) (k : Gd Γ l d M tgt L st h bc bs Q) : Gd Γ l d M pc L (.ref x :: st) h bc bs Q := by
  intro p e R s m args below meth c H locs cells slots ls Z C hW hS hc hs hl hE
  exact lv_ifnonnull C.1 C.2.1 hd ht (k p e R s m args below meth c H locs cells slots ls Z C hW hS hc hs hl hE)
theorem g_ifnonnullN {off : Int} (hd : decode M.2.1 pc = .ok (.ifnonnull off, 3)) (k : Gd Γ l d M (pc + 3) L st h bc bs Q) : Gd Γ l d M pc L (.null :: st) h bc bs Q := by
  intro p e R s m args below meth c H locs cells slots ls Z C hW hS hc hs hl hE
  exact lv_ifnonnullN C.1 C.2.1 hd (k p e R s m args below meth c H locs cells slots ls Z C hW hS hc hs hl hE)
theorem g_tabOut {dflt lo hi : Int} {offs : Array Int} {len : Nat} {x : Int32} (tgt : Nat) (hd : decode M.2.1 pc = .ok (.tableswitch dflt lo hi offs, len)) (hx : x.toInt < lo ∨ hi < x.toInt) (ht : (pc : Int) + dflt = (tgt : Int)) (k : Gd Γ l d M tgt L st h bc bs Q) : Gd Γ l d M pc L (.int x :: st) h bc bs Q := by
  intro p e R s m args below meth c H locs cells slots ls Z C hW hS hc hs hl hE
  exact lv_tableOut C.1 C.2.1 hd hx ht (k p e R s m args below meth c H locs cells slots ls Z C hW hS hc hs hl hE)
theorem g_tabIn {dflt lo hi : Int} {offs : Array Int} {len : Nat} {x : Int32} {off : Int} (tgt : Nat) (hd : decode M.2.1 pc = .ok (.tableswitch dflt lo hi offs, len)) (h1 : ¬ x.toInt < lo) (h2 : ¬ hi < x.toInt) (ho : offs[(x.toInt - lo).toNat]? = some off) (ht : (pc : Int) + off = (tgt : Int)) (k : Gd Γ l d M tgt L st h bc bs Q) : Gd Γ l d M pc L (.int x :: st) h bc bs Q := by
  intro p e R s m args below meth c H locs cells slots ls Z C hW hS hc hs hl hE
  exact lv_tableIn C.1 C.2.1 hd h1 h2 ho ht (k p e R s m args below meth c H locs cells slots ls Z C hW hS hc hs hl hE)
theorem g_lookup {dflt : Int} {ps : Array (Int × Int)} {len : Nat} {x : Int32} {off : Int} (tgt : Nat) (hd : decode M.2.1 pc = .ok (.lookupswitch dflt ps, len)) (hp : (ps.toList.zip (ps.toList.drop 1)).all (fun (a, next) => a.1 < next.1) = true) (ho : Op.lookupswitch.offset ps.toList dflt x.toInt = off) (ht : (pc : Int) + off = (tgt : Int)) (k : Gd Γ l d M tgt L st h bc bs Q) : Gd Γ l d M pc L (.int x :: st) h bc bs Q := by
  intro p e R s m args below meth c H locs cells slots ls Z C hW hS hc hs hl hE
  exact lv_lookup C.1 C.2.1 hd hp ho ht (k p e R s m args below meth c H locs cells slots ls Z C hW hS hc hs hl hE)
theorem g_ldc {idx : Nat} {v : Int32} (hd : decode M.2.1 pc = .ok (.ldc idx, 2)) (hw : Cond.constant M.1.cls idx v ∈ xtbl) (k : Gd Γ l d M (pc + 2) L (.int v :: st) h bc bs Q) : Gd Γ l d M pc L st h bc bs Q := by
  intro p e R s m args below meth c H locs cells slots ls Z C hW hS hc hs hl hE
  exact lv_ldc C.1 C.2.1 C.2.2.2.1 (C.2.2.2.2.1 _ hw) hd (k p e R s m args below meth c H locs cells slots ls Z C hW hS hc hs hl hE)
theorem g_ldcw {idx : Nat} {v : Int32} (hd : decode M.2.1 pc = .ok (.ldc_w idx, 3)) (hw : Cond.constant M.1.cls idx v ∈ xtbl) (k : Gd Γ l d M (pc + 3) L (.int v :: st) h bc bs Q) : Gd Γ l d M pc L st h bc bs Q := by
  intro p e R s m args below meth c H locs cells slots ls Z C hW hS hc hs hl hE
  exact lv_ldcw C.1 C.2.1 C.2.2.2.1 (C.2.2.2.2.1 _ hw) hd (k p e R s m args below meth c H locs cells slots ls Z C hW hS hc hs hl hE)
theorem g_ldc2 {idx : Nat} {v : Int64} (hd : decode M.2.1 pc = .ok (.ldc2_w idx, 3)) (hw : Cond.constantLong M.1.cls idx v ∈ xtbl) (k : Gd Γ l d M (pc + 3) L (.long v :: st) h bc bs Q) : Gd Γ l d M pc L st h bc bs Q := by
  intro p e R s m args below meth c H locs cells slots ls Z C hW hS hc hs hl hE
  exact lv_ldc2 C.1 C.2.1 C.2.2.2.1 (C.2.2.2.2.1 _ hw) hd (k p e R s m args below meth c H locs cells slots ls Z C hW hS hc hs hl hE)
theorem g_ret (r : Option Value) (hr : xRet M pc r) (hq : Q r h) : Gd Γ l d M pc L r.toList h bc bs Q := by
  intro p e R s m args below meth c H locs cells slots ls Z C hW hS hc hs hl hE
  exact hE r h H locs cells slots pc ls hq hW hS (by omega) (by omega) hr
theorem g_iret {v : Int32} (hd : decode M.2.1 pc = .ok (.ireturn, 1)) (hr : M.2.2.2 = some .int) (hq : Q (some (.int v)) h) : Gd Γ l d M pc L [.int v] h bc bs Q := g_ret (some (.int v)) ⟨hd, _, hr, rfl⟩ hq
theorem g_zret {v : Int32} {ty : FieldType} (hd : decode M.2.1 pc = .ok (.ireturn, 1)) (hr : M.2.2.2 = some ty) (hn : narrow ty (.int v) = .int v) (hq : Q (some (.int v)) h) : Gd Γ l d M pc L [.int v] h bc bs Q := g_ret (some (.int v)) ⟨hd, _, hr, hn⟩ hq
theorem g_lret {v : Int64} (hd : decode M.2.1 pc = .ok (.lreturn, 1)) (hr : M.2.2.2 = some .long) (hq : Q (some (.long v)) h) : Gd Γ l d M pc L [.long v] h bc bs Q := g_ret (some (.long v)) ⟨hd, hr⟩ hq
theorem g_aret {v : Nat} {rt : FieldType} (hd : decode M.2.1 pc = .ok (.areturn, 1)) (hr : M.2.2.2 = some rt) (hrt : (∃ n, rt = .object n) ∨ ∃ t, rt = .array t) (hq : Q (some (.ref v)) h) : Gd Γ l d M pc L [.ref v] h bc bs Q := g_ret (some (.ref v)) ⟨hd, _, hr, hrt⟩ hq
theorem g_aretN {rt : FieldType} (hd : decode M.2.1 pc = .ok (.areturn, 1)) (hr : M.2.2.2 = some rt) (hrt : (∃ n, rt = .object n) ∨ ∃ t, rt = .array t) (hq : Q (some .null) h) : Gd Γ l d M pc L [.null] h bc bs Q := g_ret (some .null) ⟨hd, _, hr, hrt⟩ hq
theorem g_vret (hd : decode M.2.1 pc = .ok (.return_, 1)) (hr : M.2.2.2 = none) (hq : Q none h) : Gd Γ l d M pc L [] h bc bs Q := g_ret none ⟨hd, hr⟩ hq
end XI
