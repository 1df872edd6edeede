/-! ===== arrays and new cells over the abstract heap ===== -/
section XA
variable {Γ : xG} {l : Launch} {d pc bc bs : Nat} {M : xMeth} {L st : List Value} {h : xH} {Q : Option Value → xH → Prop}
theorem g_zald {a n : Nat} {f : Nat → Int32} {i : Int32} (hd : decode M.2.1 pc = .ok (.baload, 1)) (hc : h.2 a = .inl (4, n, .inl f)) (hin : vp_in i n) (kk : Gd Γ l d M (pc + 1) L (.int (f i.toNatClampNeg) :: st) h bc bs Q) : Gd Γ l d M pc L (.int i :: .ref a :: st) h bc bs Q := by
  intro p e R s m args below meth c H locs cells slots ls Z C hW hS hbc hbs hl hE
  have K := kk p e R s m args below meth c H locs cells slots ls Z C hW hS hbc hbs hl hE
  have q : 69 ≤ a := by
    rcases Nat.lt_or_ge a 69 with q | q
    · have hc' := hc
      rw [hW.konst q] at hc'
      rcases xkc_any q hc' with ⟨-, z, -⟩ | ⟨_, -, -, z, -⟩ <;> omega
    · exact q
  have hat := hW.at q (hW.arr hc)
  rw [hc] at hat
  exact va_zald C.1 C.2.1 C.2.2.2.2.2.2.2.2.1 hW.2.2.1 (a - 69) 4 (n := n) (f := f) hat rfl hin hd K
theorem g_cald {a n : Nat} {f : Nat → Int32} {i : Int32} (hd : decode M.2.1 pc = .ok (.caload, 1)) (hc : h.2 a = .inl (2, n, .inl f)) (hin : vp_in i n) (kk : Gd Γ l d M (pc + 1) L (.int (f i.toNatClampNeg) :: st) h bc bs Q) : Gd Γ l d M pc L (.int i :: .ref a :: st) h bc bs Q := by
  intro p e R s m args below meth c H locs cells slots ls Z C hW hS hbc hbs hl hE
  have K := kk p e R s m args below meth c H locs cells slots ls Z C hW hS hbc hbs hl hE
  have q : 69 ≤ a := by
    rcases Nat.lt_or_ge a 69 with q | q
    · have hc' := hc
      rw [hW.konst q] at hc'
      rcases xkc_any q hc' with ⟨-, z, -⟩ | ⟨_, -, -, z, -⟩ <;> omega
    · exact q
  have hat := hW.at q (hW.arr hc)
  rw [hc] at hat
  exact va_cald C.1 C.2.1 C.2.2.2.2.2.2.2.2.1 hW.2.2.1 (a - 69) 2 (n := n) (f := f) hat rfl hin hd K
theorem g_lald {a n : Nat} {f : Nat → Int64} {i : Int32} (hd : decode M.2.1 pc = .ok (.laload, 1)) (hc : h.2 a = .inl (1, n, .inr (.inl f))) (hin : vp_in i n) (kk : Gd Γ l d M (pc + 1) L (.long (f i.toNatClampNeg) :: st) h bc bs Q) : Gd Γ l d M pc L (.int i :: .ref a :: st) h bc bs Q := by
  intro p e R s m args below meth c H locs cells slots ls Z C hW hS hbc hbs hl hE
  have K := kk p e R s m args below meth c H locs cells slots ls Z C hW hS hbc hbs hl hE
  have q : 69 ≤ a := by
    rcases Nat.lt_or_ge a 69 with q | q
    · have hc' := hc
      rw [hW.konst q] at hc'
      rcases xkc_any q hc' with ⟨-, z, -⟩ | ⟨_, -, -, z, -⟩ <;> omega
    · exact q
  have hat := hW.at q (hW.arr hc)
  rw [hc] at hat
  exact va_lald C.1 C.2.1 C.2.2.2.2.2.2.2.2.1 hW.2.2.1 (a - 69) 1 (n := n) (f := f) hat rfl hin hd K
theorem g_aald {a t n : Nat} {f : Nat → Option Nat} {i : Int32} (hd : decode M.2.1 pc = .ok (.aaload, 1)) (ht : t = 5 ∨ t = 6 ∨ t = 7) (hc : h.2 a = .inl (t, n, .inr (.inr (.inr (.inr f))))) (hin : vp_in i n) (kk : Gd Γ l d M (pc + 1) L (va_rf (f i.toNatClampNeg) :: st) h bc bs Q) : Gd Γ l d M pc L (.int i :: .ref a :: st) h bc bs Q := by
  intro p e R s m args below meth c H locs cells slots ls Z C hW hS hbc hbs hl hE
  have K := kk p e R s m args below meth c H locs cells slots ls Z C hW hS hbc hbs hl hE
  have q : 69 ≤ a := by
    rcases Nat.lt_or_ge a 69 with q | q
    · have hc' := hc
      rw [hW.konst q] at hc'
      rcases xkc_any q hc' with ⟨-, z, -⟩ | ⟨_, -, -, z, -⟩ <;> omega
    · exact q
  have hat := hW.at q (hW.arr hc)
  rw [hc] at hat
  have er : xv Γ (va_rf (f i.toNatClampNeg)) = va_rf ((f i.toNatClampNeg).map (xf Γ)) := by cases f i.toNatClampNeg <;> rfl
  rw [List.map_cons, er] at K
  rcases ht with rfl | rfl | rfl
  · exact va_aldq C.1 C.2.1 C.2.2.2.2.2.2.2.2.1 hW.2.2.1 (a - 69) 5 (n := n) (f := fun j => (f j).map (xf Γ)) hat rfl hin hd K
  · exact va_aldq C.1 C.2.1 C.2.2.2.2.2.2.2.2.1 hW.2.2.1 (a - 69) 6 (n := n) (f := fun j => (f j).map (xf Γ)) hat rfl hin hd K
  · exact va_aldq C.1 C.2.1 C.2.2.2.2.2.2.2.2.1 hW.2.2.1 (a - 69) 7 (n := n) (f := fun j => (f j).map (xf Γ)) hat rfl hin hd K
theorem g_iast {a n : Nat} {f : Nat → Int32} {i : Int32} {x : Int32} (hd : decode M.2.1 pc = .ok (.iastore, 1)) (ha : 69 ≤ a) (hc : h.2 a = .inl (0, n, .inl f)) (hin : vp_in i n) (kk : Gd Γ l d M (pc + 1) L st (h.1, va_up h.2 a (.inl (0, n, .inl (upd f i.toNatClampNeg (x))))) bc bs Q) : Gd Γ l d M pc L (.int x :: .int i :: .ref a :: st) h bc bs Q := by
  intro p e R s m args below meth c H locs cells slots ls Z C hW hS hbc hbs hl hE
  have o2 := hW.arr hc
  have hat := hW.at ha o2
  rw [hc] at hat
  have hP := hW.2.2.1
  have hD := wl_D Γ h
  refine W.iast C.1 C.2.1 (hP (a - 69) _ hat) ((C.2.2.2.2.2.2.2.2.1.2 0 _ rfl).1 n (fun j => .int (f j))) (fun q => by cases q) (by show ¬ (i < 0 ∨ (arrV _ _ _).slots.size ≤ _); rw [arrV_size]; exact hin) rfl rfl hd fun H1 e1 z oq => ?_
  have hP' : va_P (gD Γ) xcl ((wl Γ h).set (a - 69) (xf Γ a, xe Γ (.inl (0, n, .inl (upd f i.toNatClampNeg (x)))))) H1 := by
    refine hP.set hD hat ?_ oq
    show H1[xf Γ a]? = some (vp_cell _ (n, .inl (upd f i.toNatClampNeg (x))))
    rw [e1]
    show some ((vp_cell _ (n, .inl f)).setSlot _ _) = _
    rw [vp_cell_i, vp_cell_i, arrV_store]
    congr 2
    funext q
    by_cases hq : q = i.toNatClampNeg
    · subst hq
      simp [updV, upd]
    · simp [updV, upd, hq]
  exact kk p e R s m args below meth c H1 _ cells slots ls Z C (hW.set ha o2 z hP') (hS.put z oq (hD.2 _ _ hat)) hbc hbs hl hE
theorem g_bast {a n : Nat} {f : Nat → Int32} {i : Int32} {x : Int32} (hd : decode M.2.1 pc = .ok (.bastore, 1)) (ha : 69 ≤ a) (hc : h.2 a = .inl (3, n, .inl f)) (hin : vp_in i n) (kk : Gd Γ l d M (pc + 1) L st (h.1, va_up h.2 a (.inl (3, n, .inl (upd f i.toNatClampNeg (vp_nar .byte x))))) bc bs Q) : Gd Γ l d M pc L (.int x :: .int i :: .ref a :: st) h bc bs Q := by
  intro p e R s m args below meth c H locs cells slots ls Z C hW hS hbc hbs hl hE
  have o2 := hW.arr hc
  have hat := hW.at ha o2
  rw [hc] at hat
  have hP := hW.2.2.1
  have hD := wl_D Γ h
  refine W.bast C.1 C.2.1 (hP (a - 69) _ hat) ((C.2.2.2.2.2.2.2.2.1.2 3 _ rfl).1 n (fun j => .int (f j))) (fun q => by cases q) (by show ¬ (i < 0 ∨ (arrV _ _ _).slots.size ≤ _); rw [arrV_size]; exact hin) rfl rfl hd fun H1 e1 z oq => ?_
  have hP' : va_P (gD Γ) xcl ((wl Γ h).set (a - 69) (xf Γ a, xe Γ (.inl (3, n, .inl (upd f i.toNatClampNeg (vp_nar .byte x)))))) H1 := by
    refine hP.set hD hat ?_ oq
    show H1[xf Γ a]? = some (vp_cell _ (n, .inl (upd f i.toNatClampNeg (vp_nar .byte x))))
    rw [e1]
    show some ((vp_cell _ (n, .inl f)).setSlot _ _) = _
    rw [vp_cell_i, vp_cell_i, arrV_store]
    congr 2
    funext q
    by_cases hq : q = i.toNatClampNeg
    · subst hq
      simp [updV, upd, vp_nar, narrow]
    · simp [updV, upd, hq]
  exact kk p e R s m args below meth c H1 _ cells slots ls Z C (hW.set ha o2 z hP') (hS.put z oq (hD.2 _ _ hat)) hbc hbs hl hE
theorem g_zast {a n : Nat} {f : Nat → Int32} {i : Int32} {x : Int32} (hd : decode M.2.1 pc = .ok (.bastore, 1)) (ha : 69 ≤ a) (hc : h.2 a = .inl (4, n, .inl f)) (hin : vp_in i n) (kk : Gd Γ l d M (pc + 1) L st (h.1, va_up h.2 a (.inl (4, n, .inl (upd f i.toNatClampNeg (vp_nar .boolean x))))) bc bs Q) : Gd Γ l d M pc L (.int x :: .int i :: .ref a :: st) h bc bs Q := by
  intro p e R s m args below meth c H locs cells slots ls Z C hW hS hbc hbs hl hE
  have o2 := hW.arr hc
  have hat := hW.at ha o2
  rw [hc] at hat
  have hP := hW.2.2.1
  have hD := wl_D Γ h
  refine W.zast C.1 C.2.1 (hP (a - 69) _ hat) ((C.2.2.2.2.2.2.2.2.1.2 4 _ rfl).1 n (fun j => .int (f j))) (fun q => by cases q) (by show ¬ (i < 0 ∨ (arrV _ _ _).slots.size ≤ _); rw [arrV_size]; exact hin) rfl rfl hd fun H1 e1 z oq => ?_
  have hP' : va_P (gD Γ) xcl ((wl Γ h).set (a - 69) (xf Γ a, xe Γ (.inl (4, n, .inl (upd f i.toNatClampNeg (vp_nar .boolean x)))))) H1 := by
    refine hP.set hD hat ?_ oq
    show H1[xf Γ a]? = some (vp_cell _ (n, .inl (upd f i.toNatClampNeg (vp_nar .boolean x))))
    rw [e1]
    show some ((vp_cell _ (n, .inl f)).setSlot _ _) = _
    rw [vp_cell_i, vp_cell_i, arrV_store]
    congr 2
    funext q
    by_cases hq : q = i.toNatClampNeg
    · subst hq
      simp [updV, upd, vp_nar, narrow]
    · simp [updV, upd, hq]
  exact kk p e R s m args below meth c H1 _ cells slots ls Z C (hW.set ha o2 z hP') (hS.put z oq (hD.2 _ _ hat)) hbc hbs hl hE
theorem g_cast {a n : Nat} {f : Nat → Int32} {i : Int32} {x : Int32} (hd : decode M.2.1 pc = .ok (.castore, 1)) (ha : 69 ≤ a) (hc : h.2 a = .inl (2, n, .inl f)) (hin : vp_in i n) (kk : Gd Γ l d M (pc + 1) L st (h.1, va_up h.2 a (.inl (2, n, .inl (upd f i.toNatClampNeg (vp_nar .char x))))) bc bs Q) : Gd Γ l d M pc L (.int x :: .int i :: .ref a :: st) h bc bs Q := by
  intro p e R s m args below meth c H locs cells slots ls Z C hW hS hbc hbs hl hE
  have o2 := hW.arr hc
  have hat := hW.at ha o2
  rw [hc] at hat
  have hP := hW.2.2.1
  have hD := wl_D Γ h
  refine W.cast C.1 C.2.1 (hP (a - 69) _ hat) ((C.2.2.2.2.2.2.2.2.1.2 2 _ rfl).1 n (fun j => .int (f j))) (fun q => by cases q) (by show ¬ (i < 0 ∨ (arrV _ _ _).slots.size ≤ _); rw [arrV_size]; exact hin) rfl rfl hd fun H1 e1 z oq => ?_
  have hP' : va_P (gD Γ) xcl ((wl Γ h).set (a - 69) (xf Γ a, xe Γ (.inl (2, n, .inl (upd f i.toNatClampNeg (vp_nar .char x)))))) H1 := by
    refine hP.set hD hat ?_ oq
    show H1[xf Γ a]? = some (vp_cell _ (n, .inl (upd f i.toNatClampNeg (vp_nar .char x))))
    rw [e1]
    show some ((vp_cell _ (n, .inl f)).setSlot _ _) = _
    rw [vp_cell_i, vp_cell_i, arrV_store]
    congr 2
    funext q
    by_cases hq : q = i.toNatClampNeg
    · subst hq
      simp [updV, upd, vp_nar, narrow]
    · simp [updV, upd, hq]
  exact kk p e R s m args below meth c H1 _ cells slots ls Z C (hW.set ha o2 z hP') (hS.put z oq (hD.2 _ _ hat)) hbc hbs hl hE
theorem g_last {a n : Nat} {f : Nat → Int64} {i : Int32} {x : Int64} (hd : decode M.2.1 pc = .ok (.lastore, 1)) (ha : 69 ≤ a) (hc : h.2 a = .inl (1, n, .inr (.inl f))) (hin : vp_in i n) (kk : Gd Γ l d M (pc + 1) L st (h.1, va_up h.2 a (.inl (1, n, .inr (.inl (vp_updL f i.toNatClampNeg (x)))))) bc bs Q) : Gd Γ l d M pc L (.long x :: .int i :: .ref a :: st) h bc bs Q := by
  intro p e R s m args below meth c H locs cells slots ls Z C hW hS hbc hbs hl hE
  have o2 := hW.arr hc
  have hat := hW.at ha o2
  rw [hc] at hat
  have hP := hW.2.2.1
  have hD := wl_D Γ h
  refine W.last C.1 C.2.1 (hP (a - 69) _ hat) ((C.2.2.2.2.2.2.2.2.1.2 1 _ rfl).1 n (fun j => .long (f j))) (fun q => by cases q) (by show ¬ (i < 0 ∨ (arrV _ _ _).slots.size ≤ _); rw [arrV_size]; exact hin) rfl rfl hd fun H1 e1 z oq => ?_
  have hP' : va_P (gD Γ) xcl ((wl Γ h).set (a - 69) (xf Γ a, xe Γ (.inl (1, n, .inr (.inl (vp_updL f i.toNatClampNeg (x))))))) H1 := by
    refine hP.set hD hat ?_ oq
    show H1[xf Γ a]? = some (vp_cell _ (n, .inr (.inl (vp_updL f i.toNatClampNeg (x)))))
    rw [e1]
    show some ((vp_cell _ (n, .inr (.inl f))).setSlot _ _) = _
    rw [vp_cell_l, vp_cell_l, arrV_store]
    congr 2
    funext q
    by_cases hq : q = i.toNatClampNeg
    · subst hq
      simp [updV, vp_updL]
    · simp [updV, vp_updL, hq]
  exact kk p e R s m args below meth c H1 _ cells slots ls Z C (hW.set ha o2 z hP') (hS.put z oq (hD.2 _ _ hat)) hbc hbs hl hE
theorem xv_rf (v : Nat) : xv Γ (.ref v) = va_rf (some (xf Γ v)) := rfl
/-- a reference into an array of references: an object of the array's own class -/
theorem g_aast {a t n ci v : Nat} {f : Nat → Option Nat} {i : Int32} {vs : List Value} (hd : decode M.2.1 pc = .ok (.aastore, 1)) (ht : (t = 5 ∧ ci = 5) ∨ (t = 6 ∧ ci = 7) ∨ (t = 7 ∧ ci = 9)) (ha : 69 ≤ a) (hc : h.2 a = .inl (t, n, .inr (.inr (.inr (.inr f))))) (hv : h.2 v = .inr (ci, vs)) (hin : vp_in i n) (kk : Gd Γ l d M (pc + 1) L st (h.1, va_up h.2 a (.inl (t, n, .inr (.inr (.inr (.inr (va_up f i.toNatClampNeg (some v)))))))) bc bs Q) : Gd Γ l d M pc L (.ref v :: .int i :: .ref a :: st) h bc bs Q := by
  intro p e R s m args below meth c H locs cells slots ls Z C hW hS hbc hbs hl hE
  have o2 := hW.arr hc
  have hat := hW.at ha o2
  rw [hc] at hat
  have hci : ci < 12 := by omega
  obtain ⟨v1, v2⟩ := hW.own hv hci
  have hatv := hW.at v1 v2
  rw [hv] at hatv
  have hP := hW.2.2.1
  have hD := wl_D Γ h
  have hlt : i.toNatClampNeg < n := Nat.not_le.mp fun q => hin (Or.inr q)
  have h0 : ¬ i < 0 := fun q => hin (Or.inl q)
  have hex : ∃ r : vw_C, xcl[ci]? = some r ∧ (xtys Γ)[t]? = some (gA Γ t, .object r.1) := by
    rcases ht with ⟨rfl, rfl⟩ | ⟨rfl, rfl⟩ | ⟨rfl, rfl⟩ <;> exact ⟨_, rfl, rfl⟩
  obtain ⟨r, hcr, htr⟩ := hex
  obtain ⟨r', hr', cellV, g1, g2, g3, -⟩ := hP (v - 69) _ hatv
  have hK := C.2.2.2.2.2.2.2.2.1
  have hcls := (hK.1 ci r hcr).2
  obtain ⟨kA, comp, k1, k2, k3, -⟩ := (hK.2 t _ htr).2
  have hcomp : comp = (gD Γ).1 ci := Option.some.inj (k3.symm.trans hcls.1)
  subst hcomp
  obtain ⟨kC, hkC, -⟩ := hcls.2
  refine W.aast C.1 C.2.1 (hP (a - 69) _ hat) (fun q h => by cases h) (fun h => by cases h) k1 k2 rfl hkC ⟨h0, by show _ < (arrV _ _ _).slots.size; rw [arrV_size]; exact hlt⟩ g1 (fun q h => by rw [g3] at h; cases h) (by rw [g2]; exact hkC) (by rw [g2]; exact va_assign hcls) rfl rfl hd fun H1 e1 z oq => ?_
  have hP' : va_P (gD Γ) xcl ((wl Γ h).set (a - 69) (xf Γ a, xe Γ (.inl (t, n, .inr (.inr (.inr (.inr (va_up f i.toNatClampNeg (some v))))))))) H1 := by
    refine hP.set hD hat ?_ oq
    show H1[xf Γ a]? = some (vp_cell _ (n, .inr (.inr (.inr (.inr (fun j => (va_up f i.toNatClampNeg (some v) j).map (xf Γ)))))))
    rw [e1]
    show some ((vp_cell _ (n, .inr (.inr (.inr (.inr (fun j => (f j).map (xf Γ))))))).setSlot _ _) = _
    rw [vp_cell_q, vp_cell_q, arrV_store]
    congr 2
    funext q
    by_cases hq : q = i.toNatClampNeg
    · subst hq
      simp [updV, va_up, va_rf]
    · simp [updV, va_up, hq]
  exact kk p e R s m args below meth c H1 _ cells slots ls Z C (hW.set ha o2 z hP') (hS.put z oq (hD.2 _ _ hat)) hbc hbs hl hE
/-- a new object -/
def xNw (own : String) (idx ci N : Nat) (fs : List Value) : Prop := ci < 12 ∧ ∃ (Cn : String) (T : u_T) (ty : Nat → FieldType), xcl[ci]? = some (Cn, T, N) ∧ (∀ w ∈ u_ws Cn T N, w ∈ xtbl) ∧ (∀ k, k < N → parseFieldDescriptor (T k).2.2.1 = some (ty k)) ∧ Cond.classLink own idx Cn ∈ xtbl ∧ Cond.instantiable Cn N ∈ xtbl ∧ Cond.initialized Cn ∈ xtbl ∧ (∀ j, j < N → defaultValue (ty j) = vp_V fs j) ∧ ∀ v ∈ fs, ∀ a, v ≠ .ref a
theorem xv_plain {fs : List Value} (h : ∀ v ∈ fs, ∀ a, v ≠ .ref a) : fs.map (xv Γ) = fs := by
  induction fs with
  | nil => rfl
  | cons v fs ih =>
    rw [List.map_cons, ih (fun w hw => h w (List.mem_cons_of_mem _ hw))]
    have : xv Γ v = v := by
      cases v with
      | ref a => exact absurd rfl (h _ List.mem_cons_self a)
      | _ => rfl
    rw [this]
theorem g_new {idx ci N : Nat} {fs : List Value} (hd : decode M.2.1 pc = .ok (.new idx, 3)) (hN : xNw M.1.cls idx ci N fs) (kk : Gd Γ l d M (pc + 3) L (.ref h.1 :: st) (h.1 + 1, va_up h.2 h.1 (.inr (ci, fs))) bc bs Q) : Gd Γ l d M pc L st h (bc + 1) (bs + N) Q := by
  intro p e R s m args below meth c H locs cells slots ls Z C hW hS hbc hbs hl hE
  obtain ⟨hi, Cn, T, ty, h1, h2, h3, h4, h5, h6, h7, h8⟩ := hN
  have hK := C.2.2.2.2.2.2.2.2.1
  have hts := C.2.2.2.2.1
  have hKn := hK.1 ci _ h1
  refine W.newcK C.1 C.2.1 C.2.2.2.1 (hts _ h4) (hts _ h5) (hts _ h6) rfl hd (by omega) (by omega) hKn.2.1 rfl fun H1 kC hkC e1 z1 o1 => ?_
  have hcell : va_at (gD Γ) xcl (H.size, xe Γ (.inr (ci, fs))) H1 := by
    refine ⟨_, h1, ?_⟩
    rw [xv_plain h8]
    exact (u_born ty hts h2 hKn hkC e1 h3).to h7
  have hW' := hW.push z1 o1 hcell
  have hS' : va_S (xA Γ) s.heap H1 locs := ⟨Nat.le_trans hS.1 (by omega), fun x g1 g2 => (o1 x (Nat.lt_of_lt_of_le g1 hS.1)).trans (hS.2.1 x g1 g2), hS.2.2⟩
  have K := kk p e R s m args below meth c H1 locs (cells + 1) (slots + N) ls Z C hW' hS' (by omega) (by omega) hl hE
  have er : xv Γ (.ref h.1) = .ref H.size := by show Value.ref (xf Γ h.1) = _; rw [xf_own hW.1, hW.2.1]
  rw [List.map_cons, er] at K
  exact K
theorem findClass_arr {s : State} {cA cB : ClassId} {t : String} (h1 : s.vm.findClass t = some cA) (h2 : s.vm.findClass t = some cB) : cA = cB := Option.some.inj (h1.symm.trans h2)
theorem g_newaI {n : Int32} {N : Nat} (hd : decode M.2.1 pc = .ok (.newarray .int, 2)) (hw : Cond.arrayClass .int ∈ xtbl) (hn : ¬ n < 0) (hN : n.toNatClampNeg = N) (hb0 : N ≤ 60000000) (kk : Gd Γ l d M (pc + 2) L (.ref h.1 :: st) (h.1 + 1, va_up h.2 h.1 (.inl (0, N, .inl (fun _ => 0)))) bc bs Q) : Gd Γ l d M pc L (.int n :: st) h (bc + 1) (bs + N) Q := by
  intro p e R s m args below meth c H locs cells slots ls Z C hW hS hbc hbs hl hE
  have hK := C.2.2.2.2.2.2.2.2.1
  have hts := C.2.2.2.2.1
  refine va_newaK (atype := .int) C.1 C.2.1 (hts _ hw) rfl hd rfl hn hN (by show N * componentBytes .int ≤ 536870912; simp [componentBytes]; omega) (by omega) (by omega) rfl fun H1 cA e1 z1 o1 hAr hNm => ?_
  have hcA : gA Γ 0 = cA := findClass_arr (hK.2 0 (gA Γ 0, .int) rfl).2 hNm
  have hcell : va_at (gD Γ) xcl (H.size, xe Γ (.inl (0, N, .inl (fun _ => 0)))) H1 := by
    show H1[H.size]? = some (vp_cell (gA Γ 0) (N, .inl (fun _ => 0)))
    rw [hcA]
    exact e1
  have hW' := hW.push z1 o1 hcell
  have hS' : va_S (xA Γ) s.heap H1 locs := ⟨Nat.le_trans hS.1 (by omega), fun x g1 g2 => (o1 x (Nat.lt_of_lt_of_le g1 hS.1)).trans (hS.2.1 x g1 g2), hS.2.2⟩
  have K := kk p e R s m args below meth c H1 locs (cells + 1) (slots + N) ls Z C hW' hS' (by omega) (by omega) hl hE
  have er : xv Γ (.ref h.1) = .ref H.size := by show Value.ref (xf Γ h.1) = _; rw [xf_own hW.1, hW.2.1]
  rw [List.map_cons, er] at K
  exact K
theorem g_newaJ {n : Int32} {N : Nat} (hd : decode M.2.1 pc = .ok (.newarray .long, 2)) (hw : Cond.arrayClass .long ∈ xtbl) (hn : ¬ n < 0) (hN : n.toNatClampNeg = N) (hb0 : N ≤ 60000000) (kk : Gd Γ l d M (pc + 2) L (.ref h.1 :: st) (h.1 + 1, va_up h.2 h.1 (.inl (1, N, .inr (.inl (fun _ => 0))))) bc bs Q) : Gd Γ l d M pc L (.int n :: st) h (bc + 1) (bs + N) Q := by
  intro p e R s m args below meth c H locs cells slots ls Z C hW hS hbc hbs hl hE
  have hK := C.2.2.2.2.2.2.2.2.1
  have hts := C.2.2.2.2.1
  refine va_newaK (atype := .long) C.1 C.2.1 (hts _ hw) rfl hd rfl hn hN (by show N * componentBytes .long ≤ 536870912; simp [componentBytes]; omega) (by omega) (by omega) rfl fun H1 cA e1 z1 o1 hAr hNm => ?_
  have hcA : gA Γ 1 = cA := findClass_arr (hK.2 1 (gA Γ 1, .long) rfl).2 hNm
  have hcell : va_at (gD Γ) xcl (H.size, xe Γ (.inl (1, N, .inr (.inl (fun _ => 0))))) H1 := by
    show H1[H.size]? = some (vp_cell (gA Γ 1) (N, .inr (.inl (fun _ => 0))))
    rw [hcA]
    exact e1
  have hW' := hW.push z1 o1 hcell
  have hS' : va_S (xA Γ) s.heap H1 locs := ⟨Nat.le_trans hS.1 (by omega), fun x g1 g2 => (o1 x (Nat.lt_of_lt_of_le g1 hS.1)).trans (hS.2.1 x g1 g2), hS.2.2⟩
  have K := kk p e R s m args below meth c H1 locs (cells + 1) (slots + N) ls Z C hW' hS' (by omega) (by omega) hl hE
  have er : xv Γ (.ref h.1) = .ref H.size := by show Value.ref (xf Γ h.1) = _; rw [xf_own hW.1, hW.2.1]
  rw [List.map_cons, er] at K
  exact K
theorem g_newaC {n : Int32} {N : Nat} (hd : decode M.2.1 pc = .ok (.newarray .char, 2)) (hw : Cond.arrayClass .char ∈ xtbl) (hn : ¬ n < 0) (hN : n.toNatClampNeg = N) (hb0 : N ≤ 60000000) (kk : Gd Γ l d M (pc + 2) L (.ref h.1 :: st) (h.1 + 1, va_up h.2 h.1 (.inl (2, N, .inl (fun _ => 0)))) bc bs Q) : Gd Γ l d M pc L (.int n :: st) h (bc + 1) (bs + N) Q := by
  intro p e R s m args below meth c H locs cells slots ls Z C hW hS hbc hbs hl hE
  have hK := C.2.2.2.2.2.2.2.2.1
  have hts := C.2.2.2.2.1
  refine va_newaK (atype := .char) C.1 C.2.1 (hts _ hw) rfl hd rfl hn hN (by show N * componentBytes .char ≤ 536870912; simp [componentBytes]; omega) (by omega) (by omega) rfl fun H1 cA e1 z1 o1 hAr hNm => ?_
  have hcA : gA Γ 2 = cA := findClass_arr (hK.2 2 (gA Γ 2, .char) rfl).2 hNm
  have hcell : va_at (gD Γ) xcl (H.size, xe Γ (.inl (2, N, .inl (fun _ => 0)))) H1 := by
    show H1[H.size]? = some (vp_cell (gA Γ 2) (N, .inl (fun _ => 0)))
    rw [hcA]
    exact e1
  have hW' := hW.push z1 o1 hcell
  have hS' : va_S (xA Γ) s.heap H1 locs := ⟨Nat.le_trans hS.1 (by omega), fun x g1 g2 => (o1 x (Nat.lt_of_lt_of_le g1 hS.1)).trans (hS.2.1 x g1 g2), hS.2.2⟩
  have K := kk p e R s m args below meth c H1 locs (cells + 1) (slots + N) ls Z C hW' hS' (by omega) (by omega) hl hE
  have er : xv Γ (.ref h.1) = .ref H.size := by show Value.ref (xf Γ h.1) = _; rw [xf_own hW.1, hW.2.1]
  rw [List.map_cons, er] at K
  exact K
theorem g_newaB {n : Int32} {N : Nat} (hd : decode M.2.1 pc = .ok (.newarray .byte, 2)) (hw : Cond.arrayClass .byte ∈ xtbl) (hn : ¬ n < 0) (hN : n.toNatClampNeg = N) (hb0 : N ≤ 60000000) (kk : Gd Γ l d M (pc + 2) L (.ref h.1 :: st) (h.1 + 1, va_up h.2 h.1 (.inl (3, N, .inl (fun _ => 0)))) bc bs Q) : Gd Γ l d M pc L (.int n :: st) h (bc + 1) (bs + N) Q := by
  intro p e R s m args below meth c H locs cells slots ls Z C hW hS hbc hbs hl hE
  have hK := C.2.2.2.2.2.2.2.2.1
  have hts := C.2.2.2.2.1
  refine va_newaK (atype := .byte) C.1 C.2.1 (hts _ hw) rfl hd rfl hn hN (by show N * componentBytes .byte ≤ 536870912; simp [componentBytes]; omega) (by omega) (by omega) rfl fun H1 cA e1 z1 o1 hAr hNm => ?_
  have hcA : gA Γ 3 = cA := findClass_arr (hK.2 3 (gA Γ 3, .byte) rfl).2 hNm
  have hcell : va_at (gD Γ) xcl (H.size, xe Γ (.inl (3, N, .inl (fun _ => 0)))) H1 := by
    show H1[H.size]? = some (vp_cell (gA Γ 3) (N, .inl (fun _ => 0)))
    rw [hcA]
    exact e1
  have hW' := hW.push z1 o1 hcell
  have hS' : va_S (xA Γ) s.heap H1 locs := ⟨Nat.le_trans hS.1 (by omega), fun x g1 g2 => (o1 x (Nat.lt_of_lt_of_le g1 hS.1)).trans (hS.2.1 x g1 g2), hS.2.2⟩
  have K := kk p e R s m args below meth c H1 locs (cells + 1) (slots + N) ls Z C hW' hS' (by omega) (by omega) hl hE
  have er : xv Γ (.ref h.1) = .ref H.size := by show Value.ref (xf Γ h.1) = _; rw [xf_own hW.1, hW.2.1]
  rw [List.map_cons, er] at K
  exact K
theorem g_newaZ {n : Int32} {N : Nat} (hd : decode M.2.1 pc = .ok (.newarray .boolean, 2)) (hw : Cond.arrayClass .boolean ∈ xtbl) (hn : ¬ n < 0) (hN : n.toNatClampNeg = N) (hb0 : N ≤ 60000000) (kk : Gd Γ l d M (pc + 2) L (.ref h.1 :: st) (h.1 + 1, va_up h.2 h.1 (.inl (4, N, .inl (fun _ => 0)))) bc bs Q) : Gd Γ l d M pc L (.int n :: st) h (bc + 1) (bs + N) Q := by
  intro p e R s m args below meth c H locs cells slots ls Z C hW hS hbc hbs hl hE
  have hK := C.2.2.2.2.2.2.2.2.1
  have hts := C.2.2.2.2.1
  refine va_newaK (atype := .boolean) C.1 C.2.1 (hts _ hw) rfl hd rfl hn hN (by show N * componentBytes .boolean ≤ 536870912; simp [componentBytes]; omega) (by omega) (by omega) rfl fun H1 cA e1 z1 o1 hAr hNm => ?_
  have hcA : gA Γ 4 = cA := findClass_arr (hK.2 4 (gA Γ 4, .boolean) rfl).2 hNm
  have hcell : va_at (gD Γ) xcl (H.size, xe Γ (.inl (4, N, .inl (fun _ => 0)))) H1 := by
    show H1[H.size]? = some (vp_cell (gA Γ 4) (N, .inl (fun _ => 0)))
    rw [hcA]
    exact e1
  have hW' := hW.push z1 o1 hcell
  have hS' : va_S (xA Γ) s.heap H1 locs := ⟨Nat.le_trans hS.1 (by omega), fun x g1 g2 => (o1 x (Nat.lt_of_lt_of_le g1 hS.1)).trans (hS.2.1 x g1 g2), hS.2.2⟩
  have K := kk p e R s m args below meth c H1 locs (cells + 1) (slots + N) ls Z C hW' hS' (by omega) (by omega) hl hE
  have er : xv Γ (.ref h.1) = .ref H.size := by show Value.ref (xf Γ h.1) = _; rw [xf_own hW.1, hW.2.1]
  rw [List.map_cons, er] at K
  exact K
theorem g_newq {n : Int32} {N idx t : Nat} {Cn : String} (hd : decode M.2.1 pc = .ok (.anewarray idx, 3)) (hw : Cond.classLink M.1.cls idx Cn ∈ xtbl) (ht : (t = 5 ∧ Cn = RX6) ∨ (t = 6 ∧ Cn = RX8) ∨ (t = 7 ∧ Cn = RX10)) (hn : ¬ n < 0) (hN : n.toNatClampNeg = N) (hb0 : N ≤ 60000000) (kk : Gd Γ l d M (pc + 3) L (.ref h.1 :: st) (h.1 + 1, va_up h.2 h.1 (.inl (t, N, .inr (.inr (.inr (.inr (fun _ => none))))))) bc bs Q) : Gd Γ l d M pc L (.int n :: st) h (bc + 1) (bs + N) Q := by
  intro p e R s m args below meth c H locs cells slots ls Z C hW hS hbc hbs hl hE
  have hK := C.2.2.2.2.2.2.2.2.1
  have hts := C.2.2.2.2.1
  have hk := C.2.2.2.2.2.2.2.2.2.1
  subst hN
  have hAO : va_AO Cn s := by
    rcases ht with ⟨-, rfl⟩ | ⟨-, rfl⟩ | ⟨-, rfl⟩
    · exact hk.2.2.2.2.2.1
    · exact hk.2.2.2.2.2.2.1
    · exact hk.2.2.2.2.2.2.2
  have htr : (xtys Γ)[t]? = some (gA Γ t, .object Cn) := by
    rcases ht with ⟨rfl, rfl⟩ | ⟨rfl, rfl⟩ | ⟨rfl, rfl⟩ <;> rfl
  refine W.anew C.1 C.2.1 C.2.2.2.1 (hts _ hw) (va_AO.use hAO) rfl hd rfl hn (by omega) (by omega) (by omega) fun cA kA comp f1 f2 f3 f4 => ?_
  have hcA : gA Γ t = cA := by
    obtain ⟨_, _, -, -, -, z⟩ := (hK.2 t _ htr).2
    exact findClass_arr z f1
  generalize hH1 : H.push ({ cls := cA, slots := Array.replicate n.toNatClampNeg .null, vm := .none } : Cell) = H1
  have z1 : H1.size = H.size + 1 := by rw [← hH1, Array.size_push]
  have e1 : H1[H.size]? = some (arrV cA n.toNatClampNeg (fun _ => .null)) := by rw [← hH1, Array.getElem?_push_size, ← arrV_new]
  have o1 : ∀ q : Nat, q < H.size → H1[q]? = H[q]? := fun q hq => by rw [← hH1, Array.getElem?_push, if_neg (Nat.ne_of_lt hq)]
  have hcell : va_at (gD Γ) xcl (H.size, xe Γ (.inl (t, n.toNatClampNeg, .inr (.inr (.inr (.inr (fun _ => none))))))) H1 := by
    show H1[H.size]? = some (vp_cell (gA Γ t) (n.toNatClampNeg, .inr (.inr (.inr (.inr (fun _ => none))))))
    rw [hcA, vp_cell_q]
    exact e1
  have hW' := hW.push z1 o1 hcell
  have hS' : va_S (xA Γ) s.heap H1 locs := ⟨Nat.le_trans hS.1 (by omega), fun x g1 g2 => (o1 x (Nat.lt_of_lt_of_le g1 hS.1)).trans (hS.2.1 x g1 g2), hS.2.2⟩
  have K := kk p e R s m args below meth c H1 locs (cells + 1) (slots + n.toNatClampNeg) ls Z C hW' hS' (by omega) (by omega) hl hE
  have er : xv Γ (.ref h.1) = .ref H.size := by show Value.ref (xf Γ h.1) = _; rw [xf_own hW.1, hW.2.1]
  rw [List.map_cons, er] at K
  exact K
/-- Object's constructor -/
theorem g_objInit {idx a : Nat} (hd : decode M.2.1 pc = .ok (.invokespecial idx, 3)) (hw : Cond.methodLink M.1.cls idx Lib.objectInit ∈ xtbl) (hdp : 1 ≤ d) (hst : (st.map fun v => v.category).sum ≤ 8) (w2 : Cond.instanceMethod Lib.objectInit ∈ xtbl) (w3 : Cond.code Lib.objectInit ⟨#[0xb1]⟩ 1 none ∈ xtbl) (kk : Gd Γ l d M (pc + 3) L st h bc bs Q) : Gd Γ l d M pc L (.ref a :: st) h bc bs Q := by
  intro p e R s m args below meth c H locs cells slots ls Z C hW hS hbc hbs hl hE
  have hts := C.2.2.2.2.1
  have hcat : ((st.map (xv Γ)).map fun v => v.category).sum = (st.map fun v => v.category).sum := by
    rw [List.map_map]; congr 1; apply List.map_congr_left; intro v _; exact xv_cat Γ v
  refine W.objInit C.1 C.2.1 C.2.2.2.1 (hts _ hw) (hts _ w2) (hts _ w3) rfl (hl.1.trans C.2.2.1.symm) (a := xf Γ a) (rest := st.map (xv Γ)) rfl hd (Nat.le_trans hdp C.2.2.2.2.2.2.1) ?_ (kk p e R s m args below meth c H locs cells slots ls Z C hW hS hbc hbs hl hE)
  have := C.2.2.2.2.2.2.2.1
  show 2 * 0 + _ + 12 ≤ _
  omega
end XA
