/-! ===== words that the links left out; a String constant by ldc_w ===== -/
theorem fq_J0_38 : Cond.fieldLink RJ0 38 "java/lang/String" "COMPACT_STRINGS" "Z" ∈ xtbl := xt 581 (by decide +kernel) (by decide +kernel)
theorem fq_J0_1053 : Cond.fieldLink RJ0 1053 "jdk/internal/util/Preconditions" "SIOOBE_FORMATTER" "Ljava/util/function/BiFunction;" ∈ xtbl := xt 622 (by decide +kernel) (by decide +kernel)
theorem g_ldcwS {Γ : xG} {l : Launch} {d pc bc bs : Nat} {M : xMeth} {L st : List Value} {h : xH} {Q : Option Value → xH → Prop} {i idx : Nat} {tx : String} {by' : List Nat} (hd : decode M.2.1 pc = .ok (.ldc_w idx, 3)) (hi : xstr[i]? = some (M.1.cls, idx, tx, by')) (kk : Gd Γ l d M (pc + 3) L (.ref (2 * i) :: st) h bc bs Q) : Gd Γ l d M pc L st h bc bs Q := by
  intro p e R s m args below meth c H locs cells slots ls Z C hW hS hbc hbs hl hE
  have hlt : i < 34 := (List.getElem?_eq_some_iff.mp hi).1
  have K := kk p e R s m args below meth c H locs cells slots ls Z C hW hS hbc hbs hl hE
  have ea : xv Γ (.ref (2 * i)) = .ref (gad Γ (2 * i)) := by show Value.ref (xf Γ (2 * i)) = _; unfold xf; rw [if_pos (by omega)]
  rw [List.map_cons, ea] at K
  have hZ := C.2.2.2.2.2.2.2.2.2.1.2.1 i hlt _ hi
  intro T hT X
  obtain ⟨t, a1, b1⟩ := K T hT X
  have hc1 : (Cond.stringRef M.1.cls idx tx).before #[] s = true := hZ.1
  have hc2 : (Cond.stringRef M.1.cls idx tx).before args s = true := hc1
  have he2 : (Term.string M.1.cls idx).eval args s none [] s = some (.ref (gad Γ (2 * i))) := hZ.2
  exact ⟨t, X.ldcStringW C.1 C.2.2.2.1 hc2 he2 (g := F0 m pc ls (st.map (xv Γ))) rfl (by rw [C.2.1]; exact hd) t a1, b1⟩
