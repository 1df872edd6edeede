/-! ===== String constants; tokens ===== -/
theorem Em_k {g : Sk} {t : Tb} {a : Nat} (h : a < 69) : (Em g t).2 a = xkc g.1 a := by
  show (if a < 69 then _ else _) = _
  rw [if_pos h]
theorem xkc_o {sc : Nat × (Nat → Int32)} {i : Nat} (h : i < 34) : xkc sc (2 * i + 1) = .inl (3, xsl i, .inl (xsb i)) := by
  unfold xkc
  rw [if_pos (by omega), if_neg (by omega), show (2 * i + 1) / 2 = i by omega]
theorem xs_b : ∀ i, i < 34 → xsl i < 200 ∧ ∀ k, k < xsl i → (((xsb i k &&& 255).toUInt32 % 65536).toInt32 = xsb i k ∧ vp_nar .char (xsb i k) = xsb i k ∧ xsb i k = nI (tn (xsb i k)) ∧ tn (xsb i k) < 128 ∧ 32 ≤ tn (xsb i k)) := by decide +kernel
section XSt
variable {g : Sk} {t : Tb}
theorem s_al {i : Nat} (hi : i < 34) : al (Em g t) (2 * i + 1) = some (nI (xsl i)) := by
  unfold al
  rw [Em_k (by omega), xkc_o hi]
  rfl
theorem s_aB {i k : Nat} (hi : i < 34) (hk : k < xsl i) : aB (Em g t) (2 * i + 1) (nI k) = some (xsb i k) := by
  have := (xs_b i hi).1
  unfold aB
  rw [Em_k (by omega), xkc_o hi]
  show (if nI k < 0 ∨ xsl i ≤ (nI k).toNatClampNeg then none else some (xsb i (nI k).toNatClampNeg)) = _
  rw [if_neg (by
    rw [nI_cl (by omega)]
    rintro (h | h)
    · have h' : nI k < nI 0 := h
      rw [nI_ltI (by omega) (by decide)] at h'
      omega
    · omega), nI_cl (by omega)]
theorem s_len {a i : Nat} (ha : a = 2 * i) (hi : i < 34) : F_J0_length_8abf5 a (Em g t) = some (nI (xsl i), Em g t) := by
  subst ha
  have h200 := (xs_b i hi).1
  have h1 : fSV (Em g t) (2 * i) = some (2 * i + 1) := if_pos ⟨by omega, by omega⟩
  have h2 : rcS (Em g t) (2 * i) = some () := if_pos ⟨by omega, by omega⟩
  have h3 : fSC (Em g t) (2 * i) = some 0 := if_pos ⟨by omega, by omega⟩
  have h4 : F_J0_coder_7d493 (2 * i) (Em g t) = some (0, Em g t) := by
    unfold F_J0_coder_7d493
    rw [if_neg (by decide), h3, Option.bind_some]
    exact if_pos (by decide)
  unfold F_J0_length_8abf5
  rw [h1, Option.bind_some, s_al hi, Option.bind_some, h2, Option.bind_some, h4, Option.bind_some]
  have h5 : nI (xsl i) >>> ((0 : Int32) &&& 31) = nI (xsl i) := by
    show nI (xsl i) >>> (nI 0 &&& nI 31) = _
    rw [v_shr (by omega) (by decide), Nat.pow_zero, Nat.div_one]
  rw [h5]
theorem s_chr {a i k : Nat} (ha : a = 2 * i) (hi : i < 34) (hk : k < xsl i) : F_J0_charAt_5068e a (nI k) (Em g t) = some (xsb i k, Em g t) := by
  subst ha
  obtain ⟨h200, hb⟩ := xs_b i hi
  obtain ⟨b1, b2, _⟩ := hb k hk
  have h1 : fSV (Em g t) (2 * i) = some (2 * i + 1) := if_pos ⟨by omega, by omega⟩
  have h2 : rcS (Em g t) (2 * i) = some () := if_pos ⟨by omega, by omega⟩
  have h3 : fSC (Em g t) (2 * i) = some 0 := if_pos ⟨by omega, by omega⟩
  have h4 : F_J0_isLatin1_aae02 (2 * i) (Em g t) = some (1, Em g t) := by
    unfold F_J0_isLatin1_aae02
    rw [if_neg (by decide), h3, Option.bind_some, if_neg (fun h => h rfl)]
  have h5 : F_J0_checkIndex_df160 (nI k) (nI (xsl i)) (Em g t) = some ((), Em g t) := by
    unfold F_J0_checkIndex_df160
    rw [if_neg (show ¬ nI k < (0 : Int32) from show ¬ nI k < nI 0 by rw [nI_ltI (by omega) (by decide)]; omega), if_pos (by rw [nI_ltI (by omega) (by omega)]; exact hk)]
  have h6 : F_J1_charAt_3b067 (2 * i + 1) (nI k) (Em g t) = some (xsb i k, Em g t) := by
    unfold F_J1_charAt_3b067
    rw [s_al hi, Option.bind_some, h5, Option.bind_some, s_aB hi hk, Option.bind_some, b1]
    exact if_pos b2
  unfold F_J0_charAt_5068e
  rw [h2, Option.bind_some, h4, Option.bind_some, if_neg (show ¬ (1 : Int32) = 0 by decide), h1, Option.bind_some, h6, Option.bind_some]
  exact if_pos b2
end XSt
