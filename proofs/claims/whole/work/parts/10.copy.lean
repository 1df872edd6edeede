/-! ===== System.arraycopy ===== -/
section XCP
variable {Γ : xG} {l : Launch} {d pc bc bs : Nat} {M : xMeth} {L st : List Value} {h h1 : xH} {Q : Option Value → xH → Prop}
theorem nfw : nativeFrameWords "java/lang/System" "arraycopy" 5 ≤ 22 := by decide +kernel
theorem x_nn {z : Int32} (hz : ¬ z < 0) : z.toInt = (z.toNatClampNeg : Int) := by
  have hz0 : (0 : Int) ≤ z.toInt := by
    have := Int32.not_lt.mp hz
    simpa using Int32.le_iff_toInt_le.mp this
  show z.toInt = ((z.toInt.toNat : Nat) : Int)
  omega
theorem g_copyI {idx a b n0 n1 : Nat} {f g : Nat → Int32} {sp dp n : Int32} (hd : decode M.2.1 pc = .ok (.invokestatic idx, 3)) (hw : Cond.methodLink M.1.cls idx arraycopyName ∈ xtbl) (w2 : Cond.native arraycopyName ∈ xtbl) (w3 : Cond.static arraycopyName ∈ xtbl) (w4 : Cond.initialized "java/lang/System" ∈ xtbl) (hdp : 1 ≤ d) (h8 : (st.map fun v => v.category).sum ≤ 8) (ha : 69 ≤ a) (hb : 69 ≤ b) (ca : h.2 a = .inl (0, n0, .inl f)) (cb : h.2 b = .inl (0, n1, .inl g)) (h1 : ¬ sp < 0) (h2 : ¬ dp < 0) (h3 : ¬ n < 0) (h4 : sp.toNatClampNeg + n.toNatClampNeg ≤ n0) (h5 : dp.toNatClampNeg + n.toNatClampNeg ≤ n1)
    (kk : Gd Γ l d M (pc + 3) L st (h.1, va_up h.2 b (.inl (0, n1, .inl (va_cpy f g sp.toNatClampNeg dp.toNatClampNeg n.toNatClampNeg)))) bc bs Q) : Gd Γ l d M pc L (.int n :: .int dp :: .ref b :: .int sp :: .ref a :: st) h bc bs Q := by
  intro p e R s m args below meth c H locs cells slots ls Z C hW hS hbc hbs hl hE
  have hts := C.2.2.2.2.1
  have hK := C.2.2.2.2.2.2.2.2.1
  have oa := hW.arr ca
  have ob := hW.arr cb
  have hata := hW.at ha oa
  rw [ca] at hata
  have hatb := hW.at hb ob
  rw [cb] at hatb
  have hP := hW.2.2.1
  have hD := wl_D Γ h
  intro T hT X
  have hc0 : H[xf Γ a]? = some (vp_cell (gA Γ 0) (n0, .inl f)) := hP (a - 69) _ hata
  have hc1 : H[xf Γ b]? = some (vp_cell (gA Γ 0) (n1, .inl g)) := hP (b - 69) _ hatb
  obtain ⟨-, k0, hk0, cm0, hkk0⟩ := (hK.2 0 _ rfl).1 n0 (fun j => .int (f j))
  obtain ⟨-, k1, hk1, cm1, hkk1⟩ := (hK.2 0 _ rfl).1 n1 (fun j => .int (g j))
  have hcat := x_cat8 (Γ := Γ) h8
  have hfr := C.2.2.2.2.2.2.1
  have hlo := C.2.2.2.2.2.2.2.1
  have hnf := nfw
  obtain ⟨vm', X', step⟩ := X.arraycopy C.1 C.2.2.2.1 (hts _ hw) (hts _ w2) (hts _ w3) (hts _ w4) (src := xf Γ a) (dst := xf Γ b) (cs := vp_cell (gA Γ 0) (n0, .inl f)) (cd := vp_cell (gA Γ 0) (n1, .inl g)) (srcPos := sp) (destPos := dp) (n := n) (by rw [hT]; exact hc0) (by rw [hT]; exact hc1)
    (fun _ h => by cases h) (fun _ h => by cases h) (fun h => by cases h) (fun h => by cases h) hk0 hk1 hkk0 hkk1 (by simp [refKind]) h1 h2 h3
    (by rw [x_nn h1, x_nn h3]; show ¬ _ > ((arrV _ n0 (fun j => .int (f j))).slots.size : Int); rw [arrV_size]; omega)
    (by rw [x_nn h2, x_nn h3]; show ¬ _ > ((arrV _ n1 (fun j => .int (g j))).slots.size : Int); rw [arrV_size]; omega)
    (fun vm₁ _ i hi => by
      have e : (vp_cell (gA Γ 0) (n0, .inl f)).slots.getD (sp.toNatClampNeg + i) .null = .int (f (sp.toNatClampNeg + i)) := by
        show (arrV _ n0 (fun j => .int (f j))).slots.getD _ _ = _
        rw [Array.getD_eq_getD_getElem?, arrV_read _ _ (by omega)]
        rfl
      refine ⟨?_, ?_⟩
      · rw [e]
        rfl
      · rw [e]
        exact trivial)
    (g := F0 m pc ls (.int n :: .int dp :: .ref (xf Γ b) :: .int sp :: .ref (xf Γ a) :: st.map (xv Γ))) rfl (by rw [C.2.2.1]; exact hl.1) (rest := st.map (xv Γ)) rfl (by rw [C.2.1]; exact hd) (by omega) (by show 2 * 0 + _ + _ ≤ _; omega)
  have e1 : copied (vp_cell (gA Γ 0) (n0, .inl f)) (vp_cell (gA Γ 0) (n1, .inl g)) sp dp n = vp_cell (gA Γ 0) (n1, .inl (va_cpy f g sp.toNatClampNeg dp.toNatClampNeg n.toNatClampNeg)) := va_copied (fun z => .int z) _ _ f g h4
  rw [e1] at X' step
  have hlt : xf Γ b < H.size := (Array.getElem?_eq_some_iff.mp hc1).1
  generalize hH1 : H.setIfInBounds (xf Γ b) (vp_cell (gA Γ 0) (n1, .inl (va_cpy f g sp.toNatClampNeg dp.toNatClampNeg n.toNatClampNeg))) = H1
  have hheap : ((T.setVm vm').setCell (xf Γ b) (vp_cell (gA Γ 0) (n1, .inl (va_cpy f g sp.toNatClampNeg dp.toNatClampNeg n.toNatClampNeg)))).heap = H1 := by rw [← hH1, ← hT]; rfl
  have oq : ∀ q : Nat, q ≠ xf Γ b → H1[q]? = H[q]? := fun q hq => by rw [← hH1]; simp [Array.getElem?_setIfInBounds, Ne.symm hq]
  have z : H1.size = H.size := by rw [← hH1]; simp
  have hP' : va_P (gD Γ) xcl ((wl Γ h).set (b - 69) (xf Γ b, xe Γ (.inl (0, n1, .inl (va_cpy f g sp.toNatClampNeg dp.toNatClampNeg n.toNatClampNeg))))) H1 := by
    refine hP.set hD hatb ?_ oq
    show H1[xf Γ b]? = some _
    rw [← hH1]
    simp [Array.getElem?_setIfInBounds, hlt, xe, xa]
  obtain ⟨t, a1, b1⟩ := kk p e R s m args below meth c H1 _ cells slots ls Z C (hW.set hb ob z hP') ⟨by rw [z]; exact hS.1, fun q g1 g2 => by
      rw [oq q (fun e => g2 (by rw [e]; exact hD.2 _ _ hatb))]
      exact hS.2.1 q g1 g2, fun q hq => by
      rcases List.mem_append.mp hq with h | h
      · exact hS.2.2 q h
      · obtain ⟨z, -, hz⟩ := List.mem_map.mp h
        rw [← hz]
        exact hD.2 _ _ hatb⟩ hbc hbs hl hE _ hheap X'
  exact ⟨t, step t a1, b1⟩
theorem g_copyJ {idx a b n0 n1 : Nat} {f g : Nat → Int64} {sp dp n : Int32} (hd : decode M.2.1 pc = .ok (.invokestatic idx, 3)) (hw : Cond.methodLink M.1.cls idx arraycopyName ∈ xtbl) (w2 : Cond.native arraycopyName ∈ xtbl) (w3 : Cond.static arraycopyName ∈ xtbl) (w4 : Cond.initialized "java/lang/System" ∈ xtbl) (hdp : 1 ≤ d) (h8 : (st.map fun v => v.category).sum ≤ 8) (ha : 69 ≤ a) (hb : 69 ≤ b) (ca : h.2 a = .inl (1, n0, .inr (.inl f))) (cb : h.2 b = .inl (1, n1, .inr (.inl g))) (h1 : ¬ sp < 0) (h2 : ¬ dp < 0) (h3 : ¬ n < 0) (h4 : sp.toNatClampNeg + n.toNatClampNeg ≤ n0) (h5 : dp.toNatClampNeg + n.toNatClampNeg ≤ n1)
    (kk : Gd Γ l d M (pc + 3) L st (h.1, va_up h.2 b (.inl (1, n1, .inr (.inl (va_cpy f g sp.toNatClampNeg dp.toNatClampNeg n.toNatClampNeg))))) bc bs Q) : Gd Γ l d M pc L (.int n :: .int dp :: .ref b :: .int sp :: .ref a :: st) h bc bs Q := by
  intro p e R s m args below meth c H locs cells slots ls Z C hW hS hbc hbs hl hE
  have hts := C.2.2.2.2.1
  have hK := C.2.2.2.2.2.2.2.2.1
  have oa := hW.arr ca
  have ob := hW.arr cb
  have hata := hW.at ha oa
  rw [ca] at hata
  have hatb := hW.at hb ob
  rw [cb] at hatb
  have hP := hW.2.2.1
  have hD := wl_D Γ h
  intro T hT X
  have hc0 : H[xf Γ a]? = some (vp_cell (gA Γ 1) (n0, .inr (.inl f))) := hP (a - 69) _ hata
  have hc1 : H[xf Γ b]? = some (vp_cell (gA Γ 1) (n1, .inr (.inl g))) := hP (b - 69) _ hatb
  obtain ⟨-, k0, hk0, cm0, hkk0⟩ := (hK.2 1 _ rfl).1 n0 (fun j => .long (f j))
  obtain ⟨-, k1, hk1, cm1, hkk1⟩ := (hK.2 1 _ rfl).1 n1 (fun j => .long (g j))
  have hcat := x_cat8 (Γ := Γ) h8
  have hfr := C.2.2.2.2.2.2.1
  have hlo := C.2.2.2.2.2.2.2.1
  have hnf := nfw
  obtain ⟨vm', X', step⟩ := X.arraycopy C.1 C.2.2.2.1 (hts _ hw) (hts _ w2) (hts _ w3) (hts _ w4) (src := xf Γ a) (dst := xf Γ b) (cs := vp_cell (gA Γ 1) (n0, .inr (.inl f))) (cd := vp_cell (gA Γ 1) (n1, .inr (.inl g))) (srcPos := sp) (destPos := dp) (n := n) (by rw [hT]; exact hc0) (by rw [hT]; exact hc1)
    (fun _ h => by cases h) (fun _ h => by cases h) (fun h => by cases h) (fun h => by cases h) hk0 hk1 hkk0 hkk1 (by simp [refKind]) h1 h2 h3
    (by rw [x_nn h1, x_nn h3]; show ¬ _ > ((arrV _ n0 (fun j => .long (f j))).slots.size : Int); rw [arrV_size]; omega)
    (by rw [x_nn h2, x_nn h3]; show ¬ _ > ((arrV _ n1 (fun j => .long (g j))).slots.size : Int); rw [arrV_size]; omega)
    (fun vm₁ _ i hi => by
      have e : (vp_cell (gA Γ 1) (n0, .inr (.inl f))).slots.getD (sp.toNatClampNeg + i) .null = .long (f (sp.toNatClampNeg + i)) := by
        show (arrV _ n0 (fun j => .long (f j))).slots.getD _ _ = _
        rw [Array.getD_eq_getD_getElem?, arrV_read _ _ (by omega)]
        rfl
      refine ⟨?_, ?_⟩
      · rw [e]
        rfl
      · rw [e]
        exact trivial)
    (g := F0 m pc ls (.int n :: .int dp :: .ref (xf Γ b) :: .int sp :: .ref (xf Γ a) :: st.map (xv Γ))) rfl (by rw [C.2.2.1]; exact hl.1) (rest := st.map (xv Γ)) rfl (by rw [C.2.1]; exact hd) (by omega) (by show 2 * 0 + _ + _ ≤ _; omega)
  have e1 : copied (vp_cell (gA Γ 1) (n0, .inr (.inl f))) (vp_cell (gA Γ 1) (n1, .inr (.inl g))) sp dp n = vp_cell (gA Γ 1) (n1, .inr (.inl (va_cpy f g sp.toNatClampNeg dp.toNatClampNeg n.toNatClampNeg))) := va_copied (fun z => .long z) _ _ f g h4
  rw [e1] at X' step
  have hlt : xf Γ b < H.size := (Array.getElem?_eq_some_iff.mp hc1).1
  generalize hH1 : H.setIfInBounds (xf Γ b) (vp_cell (gA Γ 1) (n1, .inr (.inl (va_cpy f g sp.toNatClampNeg dp.toNatClampNeg n.toNatClampNeg)))) = H1
  have hheap : ((T.setVm vm').setCell (xf Γ b) (vp_cell (gA Γ 1) (n1, .inr (.inl (va_cpy f g sp.toNatClampNeg dp.toNatClampNeg n.toNatClampNeg))))).heap = H1 := by rw [← hH1, ← hT]; rfl
  have oq : ∀ q : Nat, q ≠ xf Γ b → H1[q]? = H[q]? := fun q hq => by rw [← hH1]; simp [Array.getElem?_setIfInBounds, Ne.symm hq]
  have z : H1.size = H.size := by rw [← hH1]; simp
  have hP' : va_P (gD Γ) xcl ((wl Γ h).set (b - 69) (xf Γ b, xe Γ (.inl (1, n1, .inr (.inl (va_cpy f g sp.toNatClampNeg dp.toNatClampNeg n.toNatClampNeg)))))) H1 := by
    refine hP.set hD hatb ?_ oq
    show H1[xf Γ b]? = some _
    rw [← hH1]
    simp [Array.getElem?_setIfInBounds, hlt, xe, xa]
  obtain ⟨t, a1, b1⟩ := kk p e R s m args below meth c H1 _ cells slots ls Z C (hW.set hb ob z hP') ⟨by rw [z]; exact hS.1, fun q g1 g2 => by
      rw [oq q (fun e => g2 (by rw [e]; exact hD.2 _ _ hatb))]
      exact hS.2.1 q g1 g2, fun q hq => by
      rcases List.mem_append.mp hq with h | h
      · exact hS.2.2 q h
      · obtain ⟨z, -, hz⟩ := List.mem_map.mp h
        rw [← hz]
        exact hD.2 _ _ hatb⟩ hbc hbs hl hE _ hheap X'
  exact ⟨t, step t a1, b1⟩
theorem ay_2 : Cond.native arraycopyName ∈ xtbl := xt 803 (by decide +kernel) rfl
theorem ay_3 : Cond.static arraycopyName ∈ xtbl := xt 802 (by decide +kernel) rfl
theorem ay_4 : Cond.initialized "java/lang/System" ∈ xtbl := xt 146 (by decide +kernel) rfl
theorem ay_J7_150 : Cond.methodLink RJ7 150 arraycopyName ∈ xtbl := xt 801 (by decide +kernel) rfl
theorem ay_X5_95 : Cond.methodLink RX5 95 arraycopyName ∈ xtbl := xt 1237 (by decide +kernel) rfl
theorem ay_X6_28 : Cond.methodLink RX6 28 arraycopyName ∈ xtbl := xt 824 (by decide +kernel) rfl
theorem q_cpI {idx a b : Nat} {sp dp n : Int32} (hd : decode M.2.1 pc = .ok (.invokestatic idx, 3)) (hw : Cond.methodLink M.1.cls idx arraycopyName ∈ xtbl) (hdp : 1 ≤ d) (h8 : (st.map fun v => v.category).sum ≤ 8) (e : cpI h a sp b dp n = some h1) (kk : Gd Γ l d M (pc + 3) L st h1 bc bs Q) : Gd Γ l d M pc L (.int n :: .int dp :: .ref b :: .int sp :: .ref a :: st) h bc bs Q := by
  unfold cpI at e
  split at e
  · rename_i n0 f n1 g ca cb
    split at e
    · cases e
    · rename_i h2
      cases e
      simp only [not_or, Nat.not_lt] at h2
      obtain ⟨g1, g2, g3, g4, g5, g6, g7⟩ := h2
      exact g_copyI hd hw ay_2 ay_3 ay_4 hdp h8 g1 g2 ca cb g3 g4 g5 g6 g7 kk
  · rename_i n0 f n1 g ca cb
    split at e
    · cases e
    · rename_i h2
      cases e
      simp only [not_or, Nat.not_lt] at h2
      obtain ⟨g1, g2, g3, g4, g5, g6, g7⟩ := h2
      exact g_copyJ hd hw ay_2 ay_3 ay_4 hdp h8 g1 g2 ca cb g3 g4 g5 g6 g7 kk
  · cases e
end XCP
