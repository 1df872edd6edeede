/-! ===== the heap's instructions over the abstract heap ===== -/
section XH
variable {Γ : xG} {l : Launch} {d pc bc bs : Nat} {M : xMeth} {L st : List Value} {h : xH} {Q : Option Value → xH → Prop}
/-- a pool entry names a field of a class of ours: its class's number, its place -/
def xFl (own : String) (idx ci k : Nat) (ty : FieldType) : Prop := ci < 12 ∧ ∃ (C : String) (T : u_T) (N : Nat), xcl[ci]? = some (C, T, N) ∧ k < N ∧ (∀ w ∈ u_ws C T N, w ∈ xtbl) ∧ Cond.fieldLink own idx (T k).1 (T k).2.1 (T k).2.2.1 ∈ xtbl ∧ parseFieldDescriptor (T k).2.2.1 = some ty
/-- .. that is written outside a constructor, or in its own -/
def xFw (own name : String) (idx ci k : Nat) (ty : FieldType) : Prop := xFl own idx ci k ty ∧ ∃ (C : String) (T : u_T) (N : Nat) (ty0 : Nat → FieldType), xcl[ci]? = some (C, T, N) ∧ (∀ k, k < N → parseFieldDescriptor (T k).2.2.1 = some (ty0 k)) ∧ (∀ a, a < N → ∀ b, b < N → a ≠ b → (T a).2.1 ≠ (T b).2.1) ∧ ((T k).2.2.2 = false ∨ ((T k).2.2.2 = true ∧ name = "<init>" ∧ (T k).1 = own))
theorem g_get {a idx ci k : Nat} {ty : FieldType} {fs : List Value} {v : Value} (hd : decode M.2.1 pc = .ok (.getfield idx, 3)) (hF : xFl M.1.cls idx ci k ty) (hc : h.2 a = .inr (ci, fs)) (hv : fs[k]? = some v) (kk : Gd Γ l d M (pc + 3) L (v :: st) h bc bs Q) : Gd Γ l d M pc L (.ref a :: st) h bc bs Q := by
  intro p e R s m args below meth c H locs cells slots ls Z C hW hS hbc hbs hl hE
  obtain ⟨hi, Cn, T, N, h1, h2, h3, h4, -⟩ := hF
  obtain ⟨o1, o2⟩ := hW.own hc hi
  have hat := hW.at o1 o2
  rw [hc] at hat
  exact va_get C.1 C.2.1 C.2.2.2.2.1 h3 C.2.2.2.1 C.2.2.2.2.2.2.2.2.1 hW.2.2.1 (a - 69) hat h1 k h2 (C.2.2.2.2.1 _ h4) (fun _ q => q) (v := xv Γ v) (by rw [List.getElem?_map, hv]; rfl) hd (kk p e R s m args below meth c H locs cells slots ls Z C hW hS hbc hbs hl hE)
theorem xS_size {s : State} {H H1 : Heap} {locs : List Loc} (hS : va_S (xA Γ) s.heap H1 locs) : s.heap.size ≤ H1.size := hS.1
theorem g_put {a idx ci k : Nat} {ty : FieldType} {fs : List Value} {v : Value} (hd : decode M.2.1 pc = .ok (.putfield idx, 3)) (hF : xFw M.1.cls M.1.name idx ci k ty) (hc : h.2 a = .inr (ci, fs)) (hk : k < fs.length) (hn : narrow ty (xv Γ v) = xv Γ v) (hf : fits ty (xv Γ v) = true) (kk : Gd Γ l d M (pc + 3) L st (h.1, va_up h.2 a (.inr (ci, fs.set k v))) bc bs Q) : Gd Γ l d M pc L (v :: .ref a :: st) h bc bs Q := by
  intro p e R s m args below meth c H locs cells slots ls Z C hW hS hbc hbs hl hE
  obtain ⟨⟨hi, Cn, T, N, h1, h2, h3, h4, h5⟩, Cn', T', N', ty0, g1, g2, g3, g4⟩ := hF
  cases h1.symm.trans g1
  obtain ⟨o1, o2⟩ := hW.own hc hi
  have hat := hW.at o1 o2
  rw [hc] at hat
  have hap := va_apart (own := M.1.cls) C.2.2.2.2.1 h3 ty0 g2 g3 C.2.2.2.2.2.2.2.2.1 h1
  have hP := hW.2.2.1
  have hD := wl_D Γ h
  obtain ⟨r, r1, cell, q1, q2, q3, q4⟩ := hP (a - 69) _ hat
  have hr : r = (Cn, T, N) := Option.some.inj (r1.symm.trans h1)
  subst hr
  obtain ⟨hSl, hfc, kC, hkC, hkind⟩ := C.2.2.2.2.2.2.2.2.1.1 ci _ h1
  obtain ⟨cf, kf, fi, f, hfi, hsl⟩ := hSl k h2
  have hst := (u_facts hfc hkC (u_lays C.2.2.2.2.1 h3 h2) hfi).1
  have fin : ∀ H' : Heap, H'[xf Γ a]? = some (cell.setSlot f.slot (xv Γ v)) → H'.size = H.size → (∀ q, q ≠ xf Γ a → H'[q]? = H[q]?) → W p l e R s m args below meth c H' (locs ++ [⟨xf Γ a, f.slot⟩]) cells slots Z (F0 m (pc + 3) ls (st.map (xv Γ))) := by
    intro H' e1 e2 e3
    rw [hsl] at e1 ⊢
    have hP' : va_P (gD Γ) xcl ((wl Γ h).set (a - 69) (xf Γ a, xe Γ (.inr (ci, fs.set k v)))) H' := hP.set hD hat ⟨_, h1, t_OB.to (V := updV (vp_V (fs.map (xv Γ))) k (xv Γ v)) ⟨_, e1, q2, q3, t_set q4 hap h2 (xv Γ v)⟩ (fun j _ => by
      rw [vp_updV_set (by rw [List.length_map]; exact hk) (xv Γ v) j, List.map_set])⟩ e3
    exact kk p e R s m args below meth c H' _ cells slots ls Z C (hW.set o1 o2 e2 hP') (hS.put e2 e3 (hD.2 _ _ hat)) hbc hbs hl hE
  rcases g4 with g4 | ⟨g4, g5, g6⟩
  · have hlay := C.2.2.2.2.1 _ (h3 _ (u_in_lay h2))
    unfold u_lay at hlay
    rw [if_neg (by rw [g4]; decide)] at hlay
    have h6 := u_store hfc hkC hkind hlay hfi h5 hn hf
    exact W.putK C.1 C.2.1 (f := f) ⟨C.2.2.2.1, C.2.2.2.2.1 _ h4, ⟨_, _, _, hfi⟩, hst⟩ (by rw [q2]; exact h6) q1 q3 (by rw [hsl]; exact k2_hasslot (q4 k h2)) rfl rfl hd fin
  · have hlay := C.2.2.2.2.1 _ (h3 _ (u_in_lay h2))
    unfold u_lay at hlay
    rw [if_pos g4] at hlay
    have hcf : m.cls = cf := by
      obtain ⟨_, _, c', _, _, _, -, -, hf', -, -, -, hown2, -⟩ := Cond.laysFinal_spec hlay
      have e1 : c' = cf := by have := hfi.symm.trans hf'; simp at this; exact this.1.symm
      rw [g6] at hown2
      rw [← e1]; exact Option.some.inj (C.2.2.2.1.symm.trans hown2)
    have h6 := u_fits hfc hkC hkind (Or.inr hlay) hfi h5 hn hf
    exact W.putFinK C.1 C.2.1 C.2.2.2.1 (C.2.2.2.2.1 _ h4) hfi hst hcf (C.2.2.2.2.2.1 g5) (by rw [q2]; exact h6) q1 q3 (by rw [hsl]; exact k2_hasslot (q4 k h2)) rfl rfl hd fin
theorem g_putI {a idx ci k : Nat} {fs : List Value} {x : Int32} (hd : decode M.2.1 pc = .ok (.putfield idx, 3)) (hF : xFw M.1.cls M.1.name idx ci k .int) (hc : h.2 a = .inr (ci, fs)) (hk : k < fs.length) (kk : Gd Γ l d M (pc + 3) L st (h.1, va_up h.2 a (.inr (ci, fs.set k (.int x)))) bc bs Q) : Gd Γ l d M pc L (.int x :: .ref a :: st) h bc bs Q := g_put hd hF hc hk rfl rfl kk
theorem g_putZ {a idx ci k : Nat} {fs : List Value} {x : Int32} (hd : decode M.2.1 pc = .ok (.putfield idx, 3)) (hF : xFw M.1.cls M.1.name idx ci k .boolean) (hc : h.2 a = .inr (ci, fs)) (hk : k < fs.length) (hx : x = 0 ∨ x = 1) (kk : Gd Γ l d M (pc + 3) L st (h.1, va_up h.2 a (.inr (ci, fs.set k (.int x)))) bc bs Q) : Gd Γ l d M pc L (.int x :: .ref a :: st) h bc bs Q := g_put hd hF hc hk (by rcases hx with rfl | rfl <;> rfl) (by rcases hx with rfl | rfl <;> rfl) kk
theorem g_putA {a b idx ci k : Nat} {ty : FieldType} {fs : List Value} (hd : decode M.2.1 pc = .ok (.putfield idx, 3)) (hF : xFw M.1.cls M.1.name idx ci k ty) (hty : (∃ n, ty = .object n) ∨ ∃ t, ty = .array t) (hc : h.2 a = .inr (ci, fs)) (hk : k < fs.length) (kk : Gd Γ l d M (pc + 3) L st (h.1, va_up h.2 a (.inr (ci, fs.set k (.ref b)))) bc bs Q) : Gd Γ l d M pc L (.ref b :: .ref a :: st) h bc bs Q := g_put hd hF hc hk (by rcases hty with ⟨n, rfl⟩ | ⟨t, rfl⟩ <;> rfl) (by rcases hty with ⟨n, rfl⟩ | ⟨t, rfl⟩ <;> rfl) kk
theorem g_putN {a idx ci k : Nat} {ty : FieldType} {fs : List Value} (hd : decode M.2.1 pc = .ok (.putfield idx, 3)) (hF : xFw M.1.cls M.1.name idx ci k ty) (hty : (∃ n, ty = .object n) ∨ ∃ t, ty = .array t) (hc : h.2 a = .inr (ci, fs)) (hk : k < fs.length) (kk : Gd Γ l d M (pc + 3) L st (h.1, va_up h.2 a (.inr (ci, fs.set k .null))) bc bs Q) : Gd Γ l d M pc L (.null :: .ref a :: st) h bc bs Q := g_put hd hF hc hk (by rcases hty with ⟨n, rfl⟩ | ⟨t, rfl⟩ <;> rfl) (by rcases hty with ⟨n, rfl⟩ | ⟨t, rfl⟩ <;> rfl) kk
/-- a field of a String constant: its bytes, its coder -/
theorem g_getS {i idx k : Nat} {v : Value} {n ds : String} (hd : decode M.2.1 pc = .ok (.getfield idx, 3)) (hi : i < 34) (hl0 : Cond.fieldLink M.1.cls idx "java/lang/String" n ds ∈ xtbl) (hk : (n = "value" ∧ ds = "[B" ∧ v = .ref (2 * i + 1)) ∨ (n = "coder" ∧ ds = "B" ∧ v = .int 0)) (kk : Gd Γ l d M (pc + 3) L (v :: st) h bc bs Q) : Gd Γ l d M pc L (.ref (2 * i) :: st) h bc bs Q := by
  intro p e R s m args below meth c H locs cells slots ls Z C hW hS hbc hbs hl hE
  obtain ⟨s1, s2, s3, s4⟩ := C.2.2.2.2.2.2.2.2.2.1.1 i hi
  have K := kk p e R s m args below meth c H locs cells slots ls Z C hW hS hbc hbs hl hE
  have ea : xv Γ (.ref (2 * i)) = .ref (gad Γ (2 * i)) := by show Value.ref (xf Γ (2 * i)) = _; unfold xf; rw [if_pos (by omega)]
  rw [List.map_cons, ea]
  rcases hk with ⟨rfl, rfl, rfl⟩ | ⟨rfl, rfl, rfl⟩
  · have eb : xv Γ (.ref (2 * i + 1)) = .ref (gad Γ (2 * i + 1)) := by show Value.ref (xf Γ (2 * i + 1)) = _; unfold xf; rw [if_pos (by omega)]
    rw [List.map_cons, eb] at K
    exact vk_getf C.1 C.2.1 s3 hS C.2.2.2.1 (C.2.2.2.2.1 _ hl0) (fun _ q => q) hd K
  · exact vk_getf C.1 C.2.1 s2 hS C.2.2.2.1 (C.2.2.2.2.1 _ hl0) (fun _ q => q) hd K
theorem g_ldcS {i idx : Nat} {tx : String} {by' : List Nat} (hd : decode M.2.1 pc = .ok (.ldc idx, 2)) (hi : xstr[i]? = some (M.1.cls, idx, tx, by')) (kk : Gd Γ l d M (pc + 2) L (.ref (2 * i) :: st) h bc bs Q) : Gd Γ l d M pc L st h bc bs Q := by
  intro p e R s m args below meth c H locs cells slots ls Z C hW hS hbc hbs hl hE
  have hlt : i < 34 := (List.getElem?_eq_some_iff.mp hi).1
  have K := kk p e R s m args below meth c H locs cells slots ls Z C hW hS hbc hbs hl hE
  have ea : xv Γ (.ref (2 * i)) = .ref (gad Γ (2 * i)) := by show Value.ref (xf Γ (2 * i)) = _; unfold xf; rw [if_pos (by omega)]
  rw [List.map_cons, ea] at K
  exact va_ldcS C.1 C.2.1 C.2.2.2.1 (C.2.2.2.2.2.2.2.2.2.1.2.1 i hlt _ hi) hd K
theorem g_getsC {idx : Nat} (hd : decode M.2.1 pc = .ok (.getstatic idx, 3)) (hl0 : Cond.fieldLink M.1.cls idx "java/lang/String" "COMPACT_STRINGS" "Z" ∈ xtbl) (kk : Gd Γ l d M (pc + 3) L (.int 1 :: st) h bc bs Q) : Gd Γ l d M pc L st h bc bs Q := by
  intro p e R s m args below meth c H locs cells slots ls Z C hW hS hbc hbs hl hE
  exact va_gets C.1 C.2.1 C.2.2.2.2.2.2.2.2.2.1.2.2.2.1.1 hS C.2.2.2.1 (C.2.2.2.2.1 _ hl0) (fun _ q => q) hd (kk p e R s m args below meth c H locs cells slots ls Z C hW hS hbc hbs hl hE)
theorem xWd.konst {H : Heap} {a : Nat} (hW : xWd Γ h H) (ha : a < 69) : h.2 a = xkc (gsc Γ) a := hW.2.2.2.2 a ha
theorem xkc_int {sc : Nat × (Nat → Int32)} {k n : Nat} {f : Nat → Int32} (hk : k < 69) (h : xkc sc k = .inl (0, n, .inl f)) : k = 68 ∧ n = sc.1 ∧ f = sc.2 := by
  unfold xkc at h
  split at h
  · split at h
    · cases h
    · cases h
  · cases h
    exact ⟨by omega, rfl, rfl⟩
theorem xkc_byte {sc : Nat × (Nat → Int32)} {k n : Nat} {f : Nat → Int32} (h : xkc sc k = .inl (3, n, .inl f)) : ∃ i, i < 34 ∧ k = 2 * i + 1 ∧ n = xsl i ∧ f = xsb i := by
  unfold xkc at h
  split at h
  · split at h
    · cases h
    · cases h
      exact ⟨k / 2, by omega, by omega, rfl, rfl⟩
  · cases h
theorem xkc_any {sc : Nat × (Nat → Int32)} {k t : Nat} {x : vp_A} (hk : k < 69) (h : xkc sc k = .inl (t, x)) : (k = 68 ∧ t = 0 ∧ x = (sc.1, .inl sc.2)) ∨ ∃ i, i < 34 ∧ k = 2 * i + 1 ∧ t = 3 ∧ x = (xsl i, .inl (xsb i)) := by
  unfold xkc at h
  split at h
  · split at h
    · cases h
    · cases h
      exact Or.inr ⟨k / 2, by omega, by omega, rfl, rfl⟩
  · cases h
    exact Or.inl ⟨by omega, rfl, rfl⟩
theorem g_iald {a n : Nat} {f : Nat → Int32} {i : Int32} (hd : decode M.2.1 pc = .ok (.iaload, 1)) (hc : h.2 a = .inl (0, n, .inl f)) (hin : vp_in i n) (kk : Gd Γ l d M (pc + 1) L (.int (f i.toNatClampNeg) :: st) h bc bs Q) : Gd Γ l d M pc L (.int i :: .ref a :: st) h bc bs Q := by
  intro p e R s m args below meth c H locs cells slots ls Z C hW hS hbc hbs hl hE
  have K := kk p e R s m args below meth c H locs cells slots ls Z C hW hS hbc hbs hl hE
  rcases Nat.lt_or_ge a 69 with q | q
  · rw [hW.konst q] at hc
    obtain ⟨rfl, rfl, rfl⟩ := xkc_int q hc
    have ea : xv Γ (.ref 68) = .ref (gad Γ 68) := rfl
    rw [List.map_cons, List.map_cons, ea]
    exact va_ti C.1 C.2.1 C.2.2.2.2.2.2.2.2.2.1.2.2.1 hS hin rfl hd K
  · have hat := hW.at q (hW.arr hc)
    rw [hc] at hat
    exact va_iald C.1 C.2.1 C.2.2.2.2.2.2.2.2.1 hW.2.2.1 (a - 69) 0 (n := n) (f := f) hat rfl hin hd K
theorem g_bald {a n : Nat} {f : Nat → Int32} {i : Int32} (hd : decode M.2.1 pc = .ok (.baload, 1)) (hc : h.2 a = .inl (3, n, .inl f)) (hin : vp_in i n) (kk : Gd Γ l d M (pc + 1) L (.int (f i.toNatClampNeg) :: st) h bc bs Q) : Gd Γ l d M pc L (.int i :: .ref a :: st) h bc bs Q := by
  intro p e R s m args below meth c H locs cells slots ls Z C hW hS hbc hbs hl hE
  have K := kk p e R s m args below meth c H locs cells slots ls Z C hW hS hbc hbs hl hE
  rcases Nat.lt_or_ge a 69 with q | q
  · rw [hW.konst q] at hc
    obtain ⟨j, hj, rfl, rfl, rfl⟩ := xkc_byte hc
    have ea : xv Γ (.ref (2 * j + 1)) = .ref (gad Γ (2 * j + 1)) := by show Value.ref (xf Γ (2 * j + 1)) = _; unfold xf; rw [if_pos q]
    rw [List.map_cons, List.map_cons, ea]
    exact va_tb C.1 C.2.1 (C.2.2.2.2.2.2.2.2.2.1.1 j hj).2.2.2 hS hin rfl hd K
  · have hat := hW.at q (hW.arr hc)
    rw [hc] at hat
    exact va_bald C.1 C.2.1 C.2.2.2.2.2.2.2.2.1 hW.2.2.1 (a - 69) 3 (n := n) (f := f) hat rfl hin hd K
theorem g_alen {a t : Nat} {x : vp_A} (hd : decode M.2.1 pc = .ok (.arraylength, 1)) (hc : h.2 a = .inl (t, x)) (ht : t < 8) (kk : Gd Γ l d M (pc + 1) L (.int (nI x.1) :: st) h bc bs Q) : Gd Γ l d M pc L (.ref a :: st) h bc bs Q := by
  intro p e R s m args below meth c H locs cells slots ls Z C hW hS hbc hbs hl hE
  have K := kk p e R s m args below meth c H locs cells slots ls Z C hW hS hbc hbs hl hE
  rcases Nat.lt_or_ge a 69 with q | q
  · rw [hW.konst q] at hc
    have ea : xv Γ (.ref a) = .ref (gad Γ a) := by show Value.ref (xf Γ a) = _; unfold xf; rw [if_pos q]
    rw [List.map_cons, ea]
    rcases xkc_any q hc with ⟨rfl, rfl, rfl⟩ | ⟨j, hj, rfl, rfl, rfl⟩
    · exact va_tlen C.1 C.2.1 C.2.2.2.2.2.2.2.2.2.1.2.2.1 hS rfl hd K
    · exact va_tlen C.1 C.2.1 (C.2.2.2.2.2.2.2.2.2.1.1 j hj).2.2.2 hS rfl hd K
  · have hat := hW.at q (hW.arr hc)
    rw [hc] at hat
    have hx : (xa Γ x).1 = x.1 := by
      obtain ⟨n, y⟩ := x
      rcases y with f | f | f | f | f <;> rfl
    have hty : ∃ ty, (xtys Γ)[t]? = some (gA Γ t, ty) := by
      rcases (show t = 0 ∨ t = 1 ∨ t = 2 ∨ t = 3 ∨ t = 4 ∨ t = 5 ∨ t = 6 ∨ t = 7 by omega) with rfl | rfl | rfl | rfl | rfl | rfl | rfl | rfl <;> exact ⟨_, rfl⟩
    obtain ⟨ty, hty⟩ := hty
    exact va_alen C.1 C.2.1 C.2.2.2.2.2.2.2.2.1 hW.2.2.1 (a - 69) t hat hty (by rw [hx]; rfl) hd K
end XH
