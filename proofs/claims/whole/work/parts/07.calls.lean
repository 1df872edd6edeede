/-! ===== contracts over the abstract heap; calls ===== -/
def xPc (Γ : xG) (av : List Value) (h : xH) : Array Value → State → Prop := va_Pc (av.map (xv Γ)) (fun U => xWd Γ h U.heap ∧ va_K (gD Γ) xcl (xtys Γ) U ∧ xKon Γ U U.heap)
def xQc (Γ : xG) (Q : Option Value → xH → Prop) : Array Value → State → Outcome → State → Prop := fun _ st oc t => (∃ (r : Option Value) (h : xH), oc = .returned (r.map (xv Γ)) ∧ Q r h ∧ xWd Γ h t.heap) ∧ va_F (xA Γ) st t
def xws (M : xMeth) : List Cond := Cond.code M.1 M.2.1 M.2.2.1 M.2.2.2 :: xtbl
def xrm (d mc ms : Nat) : Room := { frames := d, cells := mc, slots := ms, locals := 41 * d }
/-- a method's contract -/
def Gm (Γ : xG) (l : Launch) (d mc ms : Nat) (M : xMeth) (av : List Value) (h : xH) (Q : Option Value → xH → Prop) : Prop := Met l M.1 (xws M) (xrm d mc ms) (xPc Γ av h) (xQc Γ Q) mc ms (xA Γ)
def xent0 (av : List Value) : List Value := av.flatMap (fun v => if v.category = 2 then [v, xhole] else [v])
/-- the locals at the entry -/
def xent (av : List Value) (n : Nat) : List Value := xent0 av ++ List.replicate (n - (xent0 av).length) xhole
theorem xent0_args {Γ : xG} : ∀ (av : List Value) (k i : Nat) (v : Value), (xent0 av)[i]? = some v → v ≠ xhole → (k + i, xv Γ v) ∈ lv_args k (av.map (xv Γ))
  | [], _, i, v, h, _ => by simp [xent0] at h
  | w :: av, k, i, v, h, hv => by
    have e : xent0 (w :: av) = (if w.category = 2 then [w, xhole] else [w]) ++ xent0 av := by simp [xent0]
    rw [e] at h
    show _ ∈ (k, xv Γ w) :: lv_args (if (xv Γ w).category = 2 then k + 2 else k + 1) (av.map (xv Γ))
    rw [xv_cat]
    by_cases hw : w.category = 2
    · rw [if_pos hw] at h ⊢
      match i, h with
      | 0, h => cases h; exact List.mem_cons_self
      | 1, h => exact absurd (Option.some.inj h).symm hv
      | i + 2, h =>
        have := xent0_args (Γ := Γ) av (k + 2) i v h hv
        rw [show k + (i + 2) = k + 2 + i by omega]
        exact List.mem_cons_of_mem _ this
    · rw [if_neg hw] at h ⊢
      match i, h with
      | 0, h => cases h; exact List.mem_cons_self
      | i + 1, h =>
        have := xent0_args (Γ := Γ) av (k + 1) i v h hv
        rw [show k + (i + 1) = k + 1 + i by omega]
        exact List.mem_cons_of_mem _ this
theorem xent0_len {Γ : xG} : ∀ (av : List Value), (lg_sl (av.map (xv Γ))).length = (xent0 av).length
  | [] => rfl
  | w :: av => by
    have e1 : lg_sl ((w :: av).map (xv Γ)) = (if (xv Γ w).category = 2 then [Slot.val (xv Γ w), .second] else [.val (xv Γ w)]) ++ lg_sl (av.map (xv Γ)) := by simp [lg_sl]
    have e2 : xent0 (w :: av) = (if w.category = 2 then [w, xhole] else [w]) ++ xent0 av := by simp [xent0]
    rw [e1, e2, List.length_append, List.length_append, xent0_len av, xv_cat]
    by_cases hw : w.category = 2
    · rw [if_pos hw, if_pos hw]; rfl
    · rw [if_neg hw, if_neg hw]; rfl
section XM
variable {Γ : xG} {l : Launch} {d pc bc bs mc ms : Nat} {M : xMeth} {L st : List Value} {h : xH} {Q Q' : Option Value → xH → Prop}
theorem Gm.of {av : List Value} (hy : plainName M.1.cls = true) (hlen : (xent0 av).length ≤ M.2.2.1) (k : Gd Γ l d M 0 (xent av M.2.2.1) [] h mc ms Q) : Gm Γ l d mc ms M av h Q := by
  refine Met.ofW (cc := M.2.1) (maxL := M.2.2.1) (ret := M.2.2.2) hy rfl ?_
  intro p e s m args below meth c s₁ B hml hv
  obtain ⟨rfl, hWd, hK, hKon⟩ := hv
  have hts := atoms_spec (ws := xws M) B.pre
  have hent := lv_entry (av.map (xv Γ)) (n := M.2.2.1) (by rw [xent0_len]; exact hlen)
  have hsz : gb Γ ≤ s.heap.size := by rw [hWd.2.1]; omega
  rw [lg_entry_eq]
  generalize (lg_sl (av.map (xv Γ)) ++ List.replicate (M.2.2.1 - (lg_sl (av.map (xv Γ))).length) Slot.unset).toArray = ls at hent ⊢
  refine k p e _ s m _ below meth c s.heap [] 0 0 ls _ ⟨B.exec, B.bytes, hml, findClass_of_methodNamed B.named, fun w hw => hts w (List.mem_cons_of_mem _ hw), fun hn => (name_of_methodNamed B.named B.method).1.trans hn, Nat.le_refl _, Nat.le_refl _, hK, hKon, hsz⟩ hWd va_S.rf (by show 0 + mc ≤ mc; omega) (by show 0 + ms ≤ ms; omega) ⟨hent.1, hent.2.1, fun i v hi hv => ?_⟩ ?_
  · have hi0 : (xent0 av)[i]? = some v := by
      unfold xent at hi
      by_cases hlt : i < (xent0 av).length
      · rw [List.getElem?_append_left hlt] at hi
        exact hi
      · rw [List.getElem?_append_right (by omega)] at hi
        have hm := List.mem_of_getElem? hi
        exact absurd (List.eq_of_mem_replicate hm) hv
    have := xent0_args (Γ := Γ) av 0 i v hi0 hv
    rw [Nat.zero_add] at this
    exact hent.2.2 _ this
  · intro r h' H' locs' cells' slots' pc' ls' q hW' hS' hc' hs' hr
    refine W.widen (k := mc) (n := ms) hc' hs' ?_
    have hq : ∀ t : State, t.heap = H' → s.WarmedH t.vm → xQc Γ Q ((av.map (xv Γ)).toArray) s (.returned (r.map (xv Γ))) t := fun t ht _ => ⟨⟨r, h', rfl, q, by rw [ht]; exact hW'⟩, hS'.F ht⟩
    have hlocks := B.notSynchronized
    match r, hr, hq with
    | none, hr, hq => exact W.vret B.exec B.bytes (B.returns.trans hr.2) hq hS'.2.2 hr.1 hlocks
    | some (.int v), hr, hq =>
      obtain ⟨hd, ty, h1, h2⟩ := hr
      exact W.zret B.exec B.bytes (B.returns.trans h1) h2 hq hS'.2.2 hd hlocks
    | some (.long v), hr, hq => exact W.lret B.exec B.bytes (B.returns.trans hr.2) hq hS'.2.2 hr.1 hlocks
    | some (.ref v), hr, hq =>
      obtain ⟨hd, rt, h1, h2⟩ := hr
      exact W.aret B.exec B.bytes (B.returns.trans h1) h2 (Or.inr ⟨_, rfl⟩) hq hS'.2.2 hd hlocks
    | some .null, hr, hq =>
      obtain ⟨hd, rt, h1, h2⟩ := hr
      exact W.aret B.exec B.bytes (B.returns.trans h1) h2 (Or.inl rfl) hq hS'.2.2 hd hlocks
    | some (.float v), hr, hq => exact hr.elim
    | some (.double v), hr, hq => exact hr.elim
    | some (.retAddr v), hr, hq => exact hr.elim
/-- a contract over told values -/
def Gk (Γ : xG) (l : Launch) (d mc ms : Nat) (M : xMeth) (cv : List Value) (h : xH) (Q : Option Value → xH → Prop) : Prop := Met l M.1 (xws M) (xrm d mc ms) (va_Pc cv (fun U => xWd Γ h U.heap ∧ va_K (gD Γ) xcl (xtys Γ) U ∧ xKon Γ U U.heap)) (xQc Γ Q) mc ms (xA Γ)
theorem Gk.of {cv L0 : List Value} (hy : plainName M.1.cls = true) (hlen : (lg_sl cv).length ≤ M.2.2.1) (hL0 : ∀ i v, L0[i]? = some v → v ≠ xhole → (i, xv Γ v) ∈ lv_args 0 cv) (k : Gd Γ l d M 0 L0 [] h mc ms Q) : Gk Γ l d mc ms M cv h Q := by
  refine Met.ofW (cc := M.2.1) (maxL := M.2.2.1) (ret := M.2.2.2) hy rfl ?_
  intro p e s m args below meth c s₁ B hml hv
  obtain ⟨rfl, hWd, hK, hKon⟩ := hv
  have hts := atoms_spec (ws := xws M) B.pre
  have hent := lv_entry cv (n := M.2.2.1) hlen
  have hsz : gb Γ ≤ s.heap.size := by rw [hWd.2.1]; omega
  rw [lg_entry_eq]
  generalize (lg_sl cv ++ List.replicate (M.2.2.1 - (lg_sl cv).length) Slot.unset).toArray = ls at hent ⊢
  refine k p e _ s m _ below meth c s.heap [] 0 0 ls _ ⟨B.exec, B.bytes, hml, findClass_of_methodNamed B.named, fun w hw => hts w (List.mem_cons_of_mem _ hw), fun hn => (name_of_methodNamed B.named B.method).1.trans hn, Nat.le_refl _, Nat.le_refl _, hK, hKon, hsz⟩ hWd va_S.rf (by show 0 + mc ≤ mc; omega) (by show 0 + ms ≤ ms; omega) ⟨hent.1, hent.2.1, fun i v hi hv => ?_⟩ ?_
  · exact hent.2.2 _ (hL0 i v hi hv)
  · intro r h' H' locs' cells' slots' pc' ls' q hW' hS' hc' hs' hr
    refine W.widen (k := mc) (n := ms) hc' hs' ?_
    have hq : ∀ t : State, t.heap = H' → s.WarmedH t.vm → xQc Γ Q cv.toArray s (.returned (r.map (xv Γ))) t := fun t ht _ => ⟨⟨r, h', rfl, q, by rw [ht]; exact hW'⟩, hS'.F ht⟩
    have hlocks := B.notSynchronized
    match r, hr, hq with
    | none, hr, hq => exact W.vret B.exec B.bytes (B.returns.trans hr.2) hq hS'.2.2 hr.1 hlocks
    | some (.int v), hr, hq =>
      obtain ⟨hd, ty, h1, h2⟩ := hr
      exact W.zret B.exec B.bytes (B.returns.trans h1) h2 hq hS'.2.2 hd hlocks
    | some (.long v), hr, hq => exact W.lret B.exec B.bytes (B.returns.trans hr.2) hq hS'.2.2 hr.1 hlocks
    | some (.ref v), hr, hq =>
      obtain ⟨hd, rt, h1, h2⟩ := hr
      exact W.aret B.exec B.bytes (B.returns.trans h1) h2 (Or.inr ⟨_, rfl⟩) hq hS'.2.2 hd hlocks
    | some .null, hr, hq =>
      obtain ⟨hd, rt, h1, h2⟩ := hr
      exact W.aret B.exec B.bytes (B.returns.trans h1) h2 (Or.inl rfl) hq hS'.2.2 hd hlocks
    | some (.float v), hr, hq => exact hr.elim
    | some (.double v), hr, hq => exact hr.elim
    | some (.retAddr v), hr, hq => exact hr.elim
theorem Gm.post {av : List Value} (hQ : ∀ r u, Q' r u → Q r u) (k : Gm Γ l d mc ms M av h Q') : Gm Γ l d mc ms M av h Q := by
  intro p e ha hc hk s m args below hf happ hP hK
  obtain ⟨t, o, h1, h2, h3, ⟨⟨r, h', e1, e2, e3⟩, hF⟩, L, hL⟩ := k p e ha hc hk s m args below hf happ hP hK
  exact ⟨t, o, h1, h2, h3, ⟨⟨r, h', e1, hQ r h' e2, e3⟩, hF⟩, L, hL⟩
theorem xPc_blind (av : List Value) : FrameBlind (xPc Γ av h) := by
  intro a U g mk q
  obtain ⟨h1, h2, h3, h4⟩ := q
  exact ⟨h1, h2, va_K.moved (u := U) (U := U.calling g mk a) (Vm.Alike.refl U.vm) h3, xKon.same (u := U) (U := U.calling g mk a) rfl h4⟩
theorem xPc_pre {av : List Value} {p : Program} {R : Room} {s : State} {m : MethodId} {args : Array Value} {meth : Method} {c : Code} {H : Heap} {locs : List Loc} (C : xCtx Γ d M p R s m args meth c) (hW : xWd Γ h H) (hS : va_S (xA Γ) s.heap H locs) : ∀ U : State, U.heap = H → s.WarmedH U.vm → xPc Γ av h (av.map (xv Γ)).toArray U := by
  intro U hU hw
  refine ⟨rfl, by rw [hU]; exact hW, va_K.moved hw.alike C.2.2.2.2.2.2.2.2.1, ?_⟩
  rw [hU]
  exact (C.2.2.2.2.2.2.2.2.2.1.kept (fun a h1 h2 => hS.2.1 a h1 h2)).warm hw
/-- behind a call -/
theorem x_after {p : Program} {e : Env} {R : Room} {s : State} {m : MethodId} {args : Array Value} {below : List Frame} {meth : Method} {c : Code} {H : Heap} {locs : List Loc} {cells slots : Nat} {ls : Array Slot} {Z : State → Prop} {st0 : List Value} {a : Array Value}
    (hr : va_Run p l e R s m args below meth c H locs cells slots mc ms (F0 m pc ls st0) (st.map (xv Γ)) (xQc Γ Q' a) (xA Γ)) (C : xCtx Γ d M p R s m args meth c) (hS : va_S (xA Γ) s.heap H locs) (hbc : cells + (bc + mc) ≤ R.cells) (hbs : slots + (bs + ms) ≤ R.slots) (hl : xLoc Γ M L ls) (hE : xEnd Γ l M Q p e R s m args below meth c Z)
    (kk : ∀ r h', Q' r h' → Gd Γ l d M (pc + 3) L (r.toList ++ st) h' bc bs Q) : W p l e R s m args below meth c H locs cells slots Z (F0 m pc ls st0) := by
  intro T hT X
  obtain ⟨v, st₀, t, T', Lo, h0, X', hL, e1, e2, ⟨⟨r, h', hv, hq, hWd'⟩, hF1, hF2⟩, stp⟩ := hr T hT X
  have hv' : v = r.map (xv Γ) := by cases hv; rfl
  subst hv'
  rw [h0] at hF1 hF2
  have hS' : va_S (xA Γ) s.heap T'.heap (locs ++ Lo) := ⟨Nat.le_trans hS.1 (by rw [e1]; exact hF1), fun q h1 h2 => by rw [e1, hF2 q (Nat.lt_of_lt_of_le h1 hS.1) h2]; exact hS.2.1 q h1 h2, fun q hq => by
      rcases List.mem_append.mp hq with h | h
      · exact hS.2.2 q h
      · exact hL q h⟩
  have K := kk r h' hq p e R s m args below meth c T'.heap (locs ++ Lo) (cells + mc) (slots + ms) ls Z C (by rw [e1]; exact hWd') hS' (by omega) (by omega) hl hE
  obtain ⟨t2, a1, b1⟩ := K T' rfl X'
  refine ⟨t2, stp t2 ?_, b1⟩
  have hst : (r.map (xv Γ)).toList ++ st.map (xv Γ) = (r.toList ++ st).map (xv Γ) := by cases r <;> simp
  show Steps p.tables e below (T'.setTop { F0 m pc ls st0 with pc := pc + 3, stack := (r.map (xv Γ)).toList ++ st.map (xv Γ) }) t2
  rw [hst]
  exact a1
theorem x_cat8 (h8 : (st.map fun v => v.category).sum ≤ 8) : ((st.map (xv Γ)).map fun v => v.category).sum ≤ 8 := by
  have : ((st.map (xv Γ)).map fun v => v.category) = st.map fun v => v.category := by
    rw [List.map_map]; apply List.map_congr_left; intro v _; exact xv_cat Γ v
  rw [this]; exact h8
theorem x_good {ws : List Cond} (h : ∀ w ∈ ws, w ∈ xtbl) : GoodIn xtbl ws := fun w hw => ⟨h w hw, good_of_word (List.mem_filter.mp (h w hw)).2⟩
/-- a pool entry names a method: its words are there -/
def xMl (M' : xMeth) (n : Nat) : Prop := Cond.code M'.1 M'.2.1 M'.2.2.1 M'.2.2.2 ∈ xtbl ∧ Cond.initialized M'.1.cls ∈ xtbl ∧ M'.1.cls ≠ "java/lang/invoke/MethodHandle" ∧ M'.1.cls ≠ "java/lang/invoke/VarHandle" ∧ (parseMethodDescriptor M'.1.desc).map (fun d => d.parameters.length) = some n ∧ M'.2.2.1 + 19 ≤ 41
def xVl (own : String) (idx : Nat) (M' : xMeth) (n : Nat) : Prop := xMl M' n ∧ Cond.methodLink own idx M'.1 ∈ xtbl ∧ Cond.instanceMethod M'.1 ∈ xtbl ∧ Cond.selects M'.1.cls M'.1 M'.1 ∈ xtbl
def xSl (own : String) (idx : Nat) (M' : xMeth) (n : Nat) : Prop := xMl M' n ∧ Cond.methodLink own idx M'.1 ∈ xtbl ∧ Cond.static M'.1 ∈ xtbl
def xIl (own : String) (idx : Nat) (M' : xMeth) (n : Nat) : Prop := xMl M' n ∧ M'.1.name = "<init>" ∧ M'.2.2.2 = none ∧ Cond.instanceMethod M'.1 ∈ xtbl ∧ (Cond.methodLink own idx M'.1 ∈ xtbl ∨ Cond.methodLinkNest own idx M'.1 "BlankNote" ∈ xnest)
/-- the receiver -/
def xRc (h : xH) (b : Nat) (Cn : String) : Prop := (∃ ci fs r, h.2 b = .inr (ci, fs) ∧ ci < 12 ∧ xcl[ci]? = some r ∧ r.1 = Cn) ∨ (∃ i, i < 34 ∧ b = 2 * i ∧ Cn = "java/lang/String")
theorem xRc.cell {b : Nat} {Cn : String} {p : Program} {R : Room} {s : State} {m : MethodId} {args : Array Value} {meth : Method} {c : Code} {H : Heap} {locs : List Loc} (hr : xRc h b Cn) (C : xCtx Γ d M p R s m args meth c) (hW : xWd Γ h H) (hS : va_S (xA Γ) s.heap H locs) : ∃ cell : Cell, H[xf Γ b]? = some cell ∧ cell.vm.isStatics = false ∧ s.vm.findClass Cn = some cell.cls := by
  rcases hr with ⟨ci, fs, r, h1, h2, h3, h4⟩ | ⟨i, h1, h2, h3⟩
  · obtain ⟨o1, o2⟩ := hW.own h1 h2
    have hat := hW.at o1 o2
    rw [h1] at hat
    rw [← h4]
    exact va_recv C.2.2.2.2.2.2.2.2.1 hW.2.2.1 h3 hat
  · obtain ⟨cell, g1, g2, g3, -⟩ := (C.2.2.2.2.2.2.2.2.2.1.1 i h1).1.kept hS.2.1
    subst h2; subst h3
    refine ⟨cell, ?_, g2, g3⟩
    unfold xf
    rw [if_pos (by omega)]
    exact g1
theorem x_room {R : Room} {M' : xMeth} {n : Nat} (hM : xMl M' n) (hdp : 1 ≤ d) (h1 : d ≤ R.frames) (h2 : 41 * d ≤ R.locals) : (xrm (d - 1) mc ms).frames + 1 ≤ R.frames ∧ 8 + (M'.2.2.1 + 11) + (xrm (d - 1) mc ms).locals ≤ R.locals := by
  have := hM.2.2.2.2.2
  refine ⟨by show d - 1 + 1 ≤ _; omega, by show 8 + (M'.2.2.1 + 11) + 41 * (d - 1) ≤ _; omega⟩
theorem x_callB {R : Room} {s : State} {args : Array Value} {own : String} {idx n : Nat} {M' : xMeth} (hM : xMl M' n) (hts : ∀ w ∈ xtbl, w.before args s = true) (hl : Cond.methodLink own idx M'.1 ∈ xtbl) (hR : (xrm (d - 1) mc ms).frames + 1 ≤ R.frames ∧ 8 + (M'.2.2.1 + 11) + (xrm (d - 1) mc ms).locals ≤ R.locals) : CallB R s args own idx M'.1 M'.2.1 M'.2.2.1 M'.2.2.2 (xws M') (xrm (d - 1) mc ms) mc ms n :=
  callB_of n hts (x_good (fun w hw => by
    rcases List.mem_cons.mp hw with rfl | hw
    · exact hM.1
    · exact hw)) rfl rfl rfl (hts _ hM.2.1) (hts _ hl) ⟨hM.2.2.1, hM.2.2.2.1, hM.2.2.2.2.1⟩ hR
theorem g_callV {idx b n : Nat} {M' : xMeth} {As : List Value} (hd : decode M.2.1 pc = .ok (.invokevirtual idx, 3)) (hw : xVl M.1.cls idx M' n) (hdp : 1 ≤ d) (hn : As.length = n) (h8 : (st.map fun v => v.category).sum ≤ 8) (hr : xRc h b M'.1.cls) (hM : Gm Γ l (d - 1) mc ms M' (.ref b :: As) h Q') (kk : ∀ r h', Q' r h' → Gd Γ l d M (pc + 3) L (r.toList ++ st) h' bc bs Q) : Gd Γ l d M pc L (As.reverse ++ .ref b :: st) h (bc + mc) (bs + ms) Q := by
  intro p e R s m args below meth c H locs cells slots ls Z C hW hS hbc hbs hl hE
  obtain ⟨w0, w1, w2, w3⟩ := hw
  have hts := C.2.2.2.2.1
  have hrun := va_runV (As := As.map (xv Γ)) (rest := st.map (xv Γ)) (g := F0 m pc ls ((As.reverse ++ .ref b :: st).map (xv Γ))) (b := xf Γ b) (C := M'.1.cls) (cells := cells) (slots := slots) (H := H) (locs := locs) (below := below) (e := e) (meth := meth) (R := R) ⟨C.1, C.2.1, C.2.2.1, C.2.2.2.1, hts⟩ hM ⟨x_callB w0 hts w1 (x_room w0 hdp C.2.2.2.2.2.2.1 C.2.2.2.2.2.2.2.1), hts _ w2, hts _ w3⟩
    ⟨xPc_blind _, hr.cell C hW hS, xPc_pre (av := .ref b :: As) C hW hS⟩ rfl (by rw [List.length_map]; exact hn) hl.1 (by show List.map _ _ = _; rw [List.map_append, List.map_reverse]; rfl) (lv_room (x_cat8 h8)) hd ⟨by omega, by omega⟩
  exact x_after hrun C hS hbc hbs hl hE kk
theorem g_callS {idx n : Nat} {M' : xMeth} {As : List Value} (hd : decode M.2.1 pc = .ok (.invokestatic idx, 3)) (hw : xSl M.1.cls idx M' n) (hdp : 1 ≤ d) (hn : As.length = n) (h8 : (st.map fun v => v.category).sum ≤ 8) (hM : Gm Γ l (d - 1) mc ms M' As h Q') (kk : ∀ r h', Q' r h' → Gd Γ l d M (pc + 3) L (r.toList ++ st) h' bc bs Q) : Gd Γ l d M pc L (As.reverse ++ st) h (bc + mc) (bs + ms) Q := by
  intro p e R s m args below meth c H locs cells slots ls Z C hW hS hbc hbs hl hE
  obtain ⟨w0, w1, w2⟩ := hw
  have hts := C.2.2.2.2.1
  have hrun := va_runS (As := As.map (xv Γ)) (rest := st.map (xv Γ)) (g := F0 m pc ls ((As.reverse ++ st).map (xv Γ))) (cells := cells) (slots := slots) (H := H) (locs := locs) (below := below) (e := e) (meth := meth) (R := R) ⟨C.1, C.2.1, C.2.2.1, C.2.2.2.1, hts⟩ hM ⟨x_callB w0 hts w1 (x_room w0 hdp C.2.2.2.2.2.2.1 C.2.2.2.2.2.2.2.1), hts _ w2⟩
    ⟨xPc_blind _, xPc_pre (av := As) C hW hS⟩ rfl (by rw [List.length_map]; exact hn) hl.1 (by show List.map _ _ = _; rw [List.map_append, List.map_reverse]) (lv_room (x_cat8 h8)) hd ⟨by omega, by omega⟩
  exact x_after hrun C hS hbc hbs hl hE kk
theorem Gk_blind (cv : List Value) : FrameBlind (va_Pc cv (fun U => xWd Γ h U.heap ∧ va_K (gD Γ) xcl (xtys Γ) U ∧ xKon Γ U U.heap)) := by
  intro a U g mk q
  obtain ⟨h1, h2, h3, h4⟩ := q
  exact ⟨h1, h2, va_K.moved (u := U) (U := U.calling g mk a) (Vm.Alike.refl U.vm) h3, xKon.same (u := U) (U := U.calling g mk a) rfl h4⟩
theorem Gk_pre {cv : List Value} {p : Program} {R : Room} {s : State} {m : MethodId} {args : Array Value} {meth : Method} {c : Code} {H : Heap} {locs : List Loc} (C : xCtx Γ d M p R s m args meth c) (hW : xWd Γ h H) (hS : va_S (xA Γ) s.heap H locs) : ∀ U : State, U.heap = H → s.WarmedH U.vm → va_Pc cv (fun U => xWd Γ h U.heap ∧ va_K (gD Γ) xcl (xtys Γ) U ∧ xKon Γ U U.heap) cv.toArray U := by
  intro U hU hw
  refine ⟨rfl, by rw [hU]; exact hW, va_K.moved hw.alike C.2.2.2.2.2.2.2.2.1, ?_⟩
  rw [hU]
  exact (C.2.2.2.2.2.2.2.2.2.1.kept (fun a h1 h2 => hS.2.1 a h1 h2)).warm hw
/-- getstatic of the formatter, and the call that takes it -/
theorem g_sio {idx idx2 : Nat} {M' : xMeth} {x0 x1 : Int32} (hd : decode M.2.1 pc = .ok (.getstatic idx, 3)) (hl0 : Cond.fieldLink M.1.cls idx "jdk/internal/util/Preconditions" "SIOOBE_FORMATTER" "Ljava/util/function/BiFunction;" ∈ xtbl) (hd2 : decode M.2.1 (pc + 3) = .ok (.invokestatic idx2, 3)) (hw : xSl M.1.cls idx2 M' 3) (hdp : 1 ≤ d) (h8 : (st.map fun v => v.category).sum ≤ 8) (hM : ∀ w : Value, w = .null ∨ (∃ q, w = .ref q) → Gk Γ l (d - 1) 0 0 M' [.int x0, .int x1, w] h (fun a u => a = some (.int x0) ∧ u = h)) (kk : Gd Γ l d M (pc + 3 + 3) L (.int x0 :: st) h bc bs Q) : Gd Γ l d M pc L (.int x1 :: .int x0 :: st) h bc bs Q := by
  intro p e R s m args below meth c H locs cells slots ls Z C hW hS hbc hbs hl hE
  have key : ∀ w : Value, w = .null ∨ (∃ q, w = .ref q) → va_Z "jdk/internal/util/Preconditions" "SIOOBE_FORMATTER" "Ljava/util/function/BiFunction;" w (xA Γ) s s.heap → W p l e R s m args below meth c H locs cells slots Z (F0 m pc ls ((.int x1 :: .int x0 :: st : List Value).map (xv Γ))) := by
    intro w hw0 hZ
    refine va_gets C.1 C.2.1 hZ hS C.2.2.2.1 (C.2.2.2.2.1 _ hl0) (fun _ q => q) hd ?_
    obtain ⟨w0, w1, w2⟩ := hw
    have hts := C.2.2.2.2.1
    have hrun := va_runS (As := [.int x0, .int x1, w]) (rest := st.map (xv Γ)) (g := F0 m (pc + 3) ls (w :: .int x1 :: .int x0 :: st.map (xv Γ))) (cells := cells) (slots := slots) (H := H) (locs := locs) (below := below) (e := e) (meth := meth) (R := R) ⟨C.1, C.2.1, C.2.2.1, C.2.2.2.1, hts⟩ (hM w hw0) ⟨x_callB w0 hts w1 (x_room w0 hdp C.2.2.2.2.2.2.1 C.2.2.2.2.2.2.2.1), hts _ w2⟩ ⟨Gk_blind _, Gk_pre C hW hS⟩ rfl rfl hl.1 rfl (lv_room (x_cat8 h8)) hd2 ⟨by omega, by omega⟩
    exact x_after (mc := 0) (ms := 0) hrun C hS hbc hbs hl hE (by rintro _ _ ⟨rfl, rfl⟩; exact kk)
  rcases C.2.2.2.2.2.2.2.2.2.1.2.2.2.1.2 with h0 | ⟨q, h0⟩
  · exact key .null (Or.inl rfl) h0
  · exact key (.ref q) (Or.inr ⟨q, rfl⟩) h0
theorem g_callI {idx b n : Nat} {M' : xMeth} {As : List Value} (hd : decode M.2.1 pc = .ok (.invokespecial idx, 3)) (hw : xIl M.1.cls idx M' n) (hdp : 1 ≤ d) (hn : As.length = n) (h8 : (st.map fun v => v.category).sum ≤ 8) (hM : Gm Γ l (d - 1) mc ms M' (.ref b :: As) h Q') (kk : ∀ r h', Q' r h' → Gd Γ l d M (pc + 3) L (r.toList ++ st) h' bc bs Q) : Gd Γ l d M pc L (As.reverse ++ .ref b :: st) h (bc + mc) (bs + ms) Q := by
  intro p e R s m args below meth c H locs cells slots ls Z C hW hS hbc hbs hl hE
  obtain ⟨w0, w1, w2, w3, w4⟩ := hw
  have hts := C.2.2.2.2.1
  have hR := x_room (mc := mc) (ms := ms) w0 hdp C.2.2.2.2.2.2.1 C.2.2.2.2.2.2.2.1
  rcases w4 with w4 | w4
  · have cb := x_callB (mc := mc) (ms := ms) w0 hts w4 hR
    rw [w2] at cb
    have hrun := va_runI (As := As.map (xv Γ)) (rest := st.map (xv Γ)) (g := F0 m pc ls ((As.reverse ++ .ref b :: st).map (xv Γ))) (b := xf Γ b) (cells := cells) (slots := slots) (H := H) (locs := locs) (below := below) (e := e) (meth := meth) (R := R) ⟨C.1, C.2.1, C.2.2.1, C.2.2.2.1, hts⟩ hM ⟨cb, w1, hts _ w3⟩
      ⟨xPc_blind _, xPc_pre (av := .ref b :: As) C hW hS⟩ rfl (by rw [List.length_map]; exact hn) hl.1 (by show List.map _ _ = _; rw [List.map_append, List.map_reverse]; rfl) (lv_room (x_cat8 h8)) hd ⟨by omega, by omega⟩
    exact x_after hrun C hS hbc hbs hl hE kk
  · have cb := va_cnB (mc := mc) (ms := ms) (ret := M'.2.2.2) (rm := xrm (d - 1) mc ms) (R := R) n hts (x_good (ws := xws M') (fun w hw => by
      rcases List.mem_cons.mp hw with rfl | hw
      · exact w0.1
      · exact hw)) rfl rfl rfl (C.2.2.2.2.2.2.2.2.2.1.2.2.2.2.1 _ w4) (hts _ w0.2.1) ⟨w0.2.2.1, w0.2.2.2.1, w0.2.2.2.2.1⟩ hR
    rw [w2] at cb
    have hrun := va_runIN (As := As.map (xv Γ)) (rest := st.map (xv Γ)) (g := F0 m pc ls ((As.reverse ++ .ref b :: st).map (xv Γ))) (b := xf Γ b) (cells := cells) (slots := slots) (H := H) (locs := locs) (below := below) (e := e) (meth := meth) (R := R) ⟨C.1, C.2.1, C.2.2.1, C.2.2.2.1, hts⟩ hM ⟨cb, w1, hts _ w3⟩
      ⟨xPc_blind _, xPc_pre (av := .ref b :: As) C hW hS⟩ rfl (by rw [List.length_map]; exact hn) hl.1 (by show List.map _ _ = _; rw [List.map_append, List.map_reverse]; rfl) (lv_room (x_cat8 h8)) hd ⟨by omega, by omega⟩
    exact x_after hrun C hS hbc hbs hl hE kk
end XM
