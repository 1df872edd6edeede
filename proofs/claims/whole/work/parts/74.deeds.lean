/-! ===== the reference's deeds ===== -/
theorem i_32 {x : Int64} (h0 : 0 ≤ x.toInt) (h1 : x.toInt < 2 ^ 31) : x.toInt32 = nI x.toInt.toNat := by
  apply Int32.toInt_inj.mp
  rw [Int64.toInt_toInt32, nI_toInt (by omega), Int.bmod_eq_of_le (by omega) (by omega)]
  omega
theorem wi_wi {t : Tb} {b k : Nat} {x y : Int32} : wi (wi t b k x) b k y = wi t b k y := by
  unfold wi
  show (up2 (up2 (tI t) b k x) b k y, tA t, tJ t) = (up2 (tI t) b k y, tA t, tJ t)
  have e : up2 (up2 (tI t) b k x) b k y = up2 (tI t) b k y := by
    funext c j
    by_cases hc : c = b
    · by_cases hj : j = k
      · subst hc
        subst hj
        rw [up2_s, up2_s]
      · rw [up2_k hj, up2_k hj, up2_k hj]
    · rw [up2_a hc, up2_a hc, up2_a hc]
  rw [e]
def wgI (b : Nat → Int32) (p k : Int) : Nat := if (0 ≤ p ∧ p < vP b) ∧ (0 ≤ k ∧ k < vK b) then (if (vWy b (vAt b p.toNat)).testBit k.toNat then 0 else 2) else 1
def wn3 (b : Nat → Int32) (m : Nat) : Nat := if m < 100 then wgI b ((m / 10 : Nat) : Int) ((m % 10 : Nat) : Int) else if m < 200 then (if m % 100 / 10 < vP b then 0 else 1) else (if m % 100 / 10 < vP b ∧ m % 10 < vN b then 0 else 1)
/-- why a told deed can't be done: 0 where it can -/
def wyN (b : Nat → Int32) (x : Int64) : Nat := if x = -1 then 0 else if 0 ≤ x.toInt ∧ x.toInt < 300 then wn3 b x.toInt.toNat else 1
def dn3 (b : Nat → Int32) (m : Nat) : Nat → Int32 := if m < 100 then mvr b (m / 10) (m % 10) else if m < 200 then err b (m % 100 / 10) (m % 10) else blr b (m % 100 / 10) (nI (m % 10))
def doR (b : Nat → Int32) (x : Int64) : Nat → Int32 := if x = -1 then dyr b else dn3 b x.toInt.toNat
def psh (a w : Nat → Int32) : Nat → Int32 := if vDe a = 10 then upd (fb_put (upd (fb_put a (fun j => a (148 + j)) 128 180) 127 (nI 9)) w 308 20) 127 (nI 10) else upd (fb_put a w (128 + 20 * vDe a) 20) 127 (nI (vDe a + 1))
section XD
variable {g : Sk} {t : Tb} {a : Nat → Int32}
variable {D v x : Nat} {b w : Nat → Int32}
theorem r_keeps_l (X : Fx g) (w : Nat → Int32) : ∀ (d k fuel : Nat), k + d = 20 → d < fuel → tA t 184 = a → F_X12_keeps_b2 fuel 183 (nI k) (Em g (wr t 190 (fa_fill (fun k => a (107 + k)) w k))) = some ((), Em g (wr t 190 (fa_fill (fun k => a (107 + k)) w 20))) := by
  intro d
  induction d with
  | zero =>
    intro k fuel hk hf ha
    obtain ⟨f, rfl⟩ : ∃ f, fuel = f + 1 := ⟨fuel - 1, by omega⟩
    have hk : k = 20 := by omega
    subst hk
    rw [F_X12_keeps_b2]
    simp (disch := omega) only [Option.bind_some, ↓reduceIte, ite_not, fa_lit, nI_add, nI_mulN, nI_an, nI_sub, irm_n, nI_eq, nI_leI, nI_ltI, v_pow, v_shr, v_bit, nI_cl, nI_m1e, Nat.le_refl]
  | succ d ih =>
    intro k fuel hk hf ha
    obtain ⟨f, rfl⟩ : ∃ f, fuel = f + 1 := ⟨fuel - 1, by omega⟩
    have hk2 : ¬ 20 ≤ k := by omega
    rw [F_X12_keeps_b2, ← ih (k + 1) f (by omega) (by omega) ha]
    simp (disch := omega) only [x_rc183 X, x_i183_0 X, x_w183_0 X, x_r183_1 X, x_r183_2 X, x_r183_3 X, x_r183_4 X, x_i183_5 X, x_w183_5 X, x_i183_6 X, x_w183_6 X, x_i183_7 X, x_w183_7 X, x_i183_8 X, x_w183_8 X, x_i183_9 X, x_w183_9 X, x_i183_10 X, x_w183_10 X, x_i183_11 X, x_w183_11 X, x_i183_12 X, x_w183_12 X, x_i183_13 X, x_w183_13 X, x_i183_14 X, x_w183_14 X, x_i183_15 X, x_w183_15 X, x_r183_16 X, x_r183_17 X, x_r183_18 X, x_i183_19 X, x_w183_19 X, x_i183_20 X, x_w183_20 X, x_r183_21 X, x_r183_22 X, x_r183_23 X, x_r183_24 X, x_r183_25 X, x_i183_26 X, x_w183_26 X, x_r183_27 X, x_r183_28 X, x_r183_29 X, x_i183_30 X, x_w183_30 X, x_r183_31 X, x_r183_32 X, x_r183_33 X, x_r183_34 X, x_r183_35 X, x_r183_36 X, x_a184 X, x_s184 X, x_a185 X, x_s185 X, x_a186 X, x_s186 X, x_a187 X, x_s187 X, x_a188 X, x_s188 X, x_a189 X, x_s189 X, x_a190 X, x_s190 X, x_a191 X, x_s191 X, x_a192 X, x_s192 X, x_a193 X, x_s193 X, x_a194 X, x_s194 X, x_a195 X, x_s195 X, x_a196 X, x_s196 X, x_a197 X, x_s197 X, x_a198 X, x_s198 X, x_a199 X, x_s199 X, x_a200 X, x_s200 X, x_a201 X, x_s201 X, x_a202 X, x_s202 X, x_a203 X, x_s203 X, x_a204 X, x_s204 X, Option.bind_some, ↓reduceIte, ite_not, fa_lit, nI_add, nI_mulN, nI_an, nI_sub, irm_n, nI_eq, nI_leI, nI_ltI, v_pow, v_shr, v_bit, nI_cl, nI_m1e, hk2, tA_rn, ha, wa_r]
    rw [fa_fill_succ (fun k => a (107 + k)) w k]
theorem r_keeps (X : Fx g) (ha : tA t 184 = a) : F_X12_keeps 183 (Em g t) = some ((), Em g (wr t 190 (fa_fill (fun k => a (107 + k)) (tA t 190) 20))) := by
  have h := r_keeps_l (t := t) X (tA t 190) 20 0 FU rfl (by decide) ha
  rw [fa_fill_0, wr_self] at h
  exact h
theorem r_again_l (X : Fx g) (b : Nat → Int32) (hw : tA t 190 = w) : ∀ (d k fuel : Nat), k + d = 20 → d < fuel → F_X12_isAgain_b2 fuel 183 (nI k) (Em g (wr t 184 (fb_put b w 107 k))) = some ((), Em g (wr t 184 (fb_put b w 107 20))) := by
  intro d
  induction d with
  | zero =>
    intro k fuel hk hf
    obtain ⟨f, rfl⟩ : ∃ f, fuel = f + 1 := ⟨fuel - 1, by omega⟩
    have hk : k = 20 := by omega
    subst hk
    rw [F_X12_isAgain_b2]
    simp (disch := omega) only [Option.bind_some, ↓reduceIte, ite_not, fa_lit, nI_add, nI_mulN, nI_an, nI_sub, irm_n, nI_eq, nI_leI, nI_ltI, v_pow, v_shr, v_bit, nI_cl, nI_m1e, Nat.le_refl]
  | succ d ih =>
    intro k fuel hk hf
    obtain ⟨f, rfl⟩ : ∃ f, fuel = f + 1 := ⟨fuel - 1, by omega⟩
    have hk2 : ¬ 20 ≤ k := by omega
    rw [F_X12_isAgain_b2, ← ih (k + 1) f (by omega) (by omega)]
    simp (disch := omega) only [x_rc183 X, x_i183_0 X, x_w183_0 X, x_r183_1 X, x_r183_2 X, x_r183_3 X, x_r183_4 X, x_i183_5 X, x_w183_5 X, x_i183_6 X, x_w183_6 X, x_i183_7 X, x_w183_7 X, x_i183_8 X, x_w183_8 X, x_i183_9 X, x_w183_9 X, x_i183_10 X, x_w183_10 X, x_i183_11 X, x_w183_11 X, x_i183_12 X, x_w183_12 X, x_i183_13 X, x_w183_13 X, x_i183_14 X, x_w183_14 X, x_i183_15 X, x_w183_15 X, x_r183_16 X, x_r183_17 X, x_r183_18 X, x_i183_19 X, x_w183_19 X, x_i183_20 X, x_w183_20 X, x_r183_21 X, x_r183_22 X, x_r183_23 X, x_r183_24 X, x_r183_25 X, x_i183_26 X, x_w183_26 X, x_r183_27 X, x_r183_28 X, x_r183_29 X, x_i183_30 X, x_w183_30 X, x_r183_31 X, x_r183_32 X, x_r183_33 X, x_r183_34 X, x_r183_35 X, x_r183_36 X, x_a184 X, x_s184 X, x_a185 X, x_s185 X, x_a186 X, x_s186 X, x_a187 X, x_s187 X, x_a188 X, x_s188 X, x_a189 X, x_s189 X, x_a190 X, x_s190 X, x_a191 X, x_s191 X, x_a192 X, x_s192 X, x_a193 X, x_s193 X, x_a194 X, x_s194 X, x_a195 X, x_s195 X, x_a196 X, x_s196 X, x_a197 X, x_s197 X, x_a198 X, x_s198 X, x_a199 X, x_s199 X, x_a200 X, x_s200 X, x_a201 X, x_s201 X, x_a202 X, x_s202 X, x_a203 X, x_s203 X, x_a204 X, x_s204 X, Option.bind_some, ↓reduceIte, ite_not, fa_lit, nI_add, nI_mulN, nI_an, nI_sub, irm_n, nI_eq, nI_leI, nI_ltI, v_pow, v_shr, v_bit, nI_cl, nI_m1e, hk2, tA_rn, hw, wa_r]
    rw [fb_put_succ]
theorem r_again (X : Fx g) (hb : tA t 184 = b) (hw : tA t 190 = w) : F_X12_isAgain 183 (Em g t) = some ((), Em g (wr t 184 (fb_put b w 107 20))) := by
  have h := r_again_l (t := t) X b hw 20 0 FU rfl (by decide)
  rw [fb_put_0, ← hb, wr_self] at h
  rw [← hb]
  exact h
theorem r_notes60 (X : Fx g) (b : Nat → Int32) (hw : tA t 190 = w) {n : Nat} (hn : n < 10) (hb : b 127 = nI n) : ∀ (d k fuel : Nat), k + d = 20 → d < fuel → F_X12_notes_b60 fuel 183 (nI k) (Em g (wr t 184 (fb_put b w (128 + 20 * n) k))) = some ((), Em g (wr t 184 (upd (fb_put b w (128 + 20 * n) 20) 127 (nI (n + 1))))) := by
  intro d
  induction d with
  | zero =>
    intro k fuel hk hf
    obtain ⟨f, rfl⟩ : ∃ f, fuel = f + 1 := ⟨fuel - 1, by omega⟩
    have hk : k = 20 := by omega
    subst hk
    have e : fb_put b w (128 + 20 * n) 20 127 = nI n := by rw [fb_put_out (by omega), hb]
    rw [F_X12_notes_b60]
    simp (disch := omega) only [x_rc183 X, x_i183_0 X, x_w183_0 X, x_r183_1 X, x_r183_2 X, x_r183_3 X, x_r183_4 X, x_i183_5 X, x_w183_5 X, x_i183_6 X, x_w183_6 X, x_i183_7 X, x_w183_7 X, x_i183_8 X, x_w183_8 X, x_i183_9 X, x_w183_9 X, x_i183_10 X, x_w183_10 X, x_i183_11 X, x_w183_11 X, x_i183_12 X, x_w183_12 X, x_i183_13 X, x_w183_13 X, x_i183_14 X, x_w183_14 X, x_i183_15 X, x_w183_15 X, x_r183_16 X, x_r183_17 X, x_r183_18 X, x_i183_19 X, x_w183_19 X, x_i183_20 X, x_w183_20 X, x_r183_21 X, x_r183_22 X, x_r183_23 X, x_r183_24 X, x_r183_25 X, x_i183_26 X, x_w183_26 X, x_r183_27 X, x_r183_28 X, x_r183_29 X, x_i183_30 X, x_w183_30 X, x_r183_31 X, x_r183_32 X, x_r183_33 X, x_r183_34 X, x_r183_35 X, x_r183_36 X, x_a184 X, x_s184 X, x_a185 X, x_s185 X, x_a186 X, x_s186 X, x_a187 X, x_s187 X, x_a188 X, x_s188 X, x_a189 X, x_s189 X, x_a190 X, x_s190 X, x_a191 X, x_s191 X, x_a192 X, x_s192 X, x_a193 X, x_s193 X, x_a194 X, x_s194 X, x_a195 X, x_s195 X, x_a196 X, x_s196 X, x_a197 X, x_s197 X, x_a198 X, x_s198 X, x_a199 X, x_s199 X, x_a200 X, x_s200 X, x_a201 X, x_s201 X, x_a202 X, x_s202 X, x_a203 X, x_s203 X, x_a204 X, x_s204 X, Option.bind_some, ↓reduceIte, ite_not, fa_lit, nI_add, nI_mulN, nI_an, nI_sub, irm_n, nI_eq, nI_leI, nI_ltI, v_pow, v_shr, v_bit, nI_cl, nI_m1e, Nat.le_refl, tA_rs, e, wa_r]
  | succ d ih =>
    intro k fuel hk hf
    obtain ⟨f, rfl⟩ : ∃ f, fuel = f + 1 := ⟨fuel - 1, by omega⟩
    have hk2 : ¬ 20 ≤ k := by omega
    have e : fb_put b w (128 + 20 * n) k 127 = nI n := by rw [fb_put_out (by omega), hb]
    rw [F_X12_notes_b60, ← ih (k + 1) f (by omega) (by omega)]
    simp (disch := omega) only [x_rc183 X, x_i183_0 X, x_w183_0 X, x_r183_1 X, x_r183_2 X, x_r183_3 X, x_r183_4 X, x_i183_5 X, x_w183_5 X, x_i183_6 X, x_w183_6 X, x_i183_7 X, x_w183_7 X, x_i183_8 X, x_w183_8 X, x_i183_9 X, x_w183_9 X, x_i183_10 X, x_w183_10 X, x_i183_11 X, x_w183_11 X, x_i183_12 X, x_w183_12 X, x_i183_13 X, x_w183_13 X, x_i183_14 X, x_w183_14 X, x_i183_15 X, x_w183_15 X, x_r183_16 X, x_r183_17 X, x_r183_18 X, x_i183_19 X, x_w183_19 X, x_i183_20 X, x_w183_20 X, x_r183_21 X, x_r183_22 X, x_r183_23 X, x_r183_24 X, x_r183_25 X, x_i183_26 X, x_w183_26 X, x_r183_27 X, x_r183_28 X, x_r183_29 X, x_i183_30 X, x_w183_30 X, x_r183_31 X, x_r183_32 X, x_r183_33 X, x_r183_34 X, x_r183_35 X, x_r183_36 X, x_a184 X, x_s184 X, x_a185 X, x_s185 X, x_a186 X, x_s186 X, x_a187 X, x_s187 X, x_a188 X, x_s188 X, x_a189 X, x_s189 X, x_a190 X, x_s190 X, x_a191 X, x_s191 X, x_a192 X, x_s192 X, x_a193 X, x_s193 X, x_a194 X, x_s194 X, x_a195 X, x_s195 X, x_a196 X, x_s196 X, x_a197 X, x_s197 X, x_a198 X, x_s198 X, x_a199 X, x_s199 X, x_a200 X, x_s200 X, x_a201 X, x_s201 X, x_a202 X, x_s202 X, x_a203 X, x_s203 X, x_a204 X, x_s204 X, Option.bind_some, ↓reduceIte, ite_not, fa_lit, nI_add, nI_mulN, nI_an, nI_sub, irm_n, nI_eq, nI_leI, nI_ltI, v_pow, v_shr, v_bit, nI_cl, nI_m1e, hk2, tA_rs, tA_rn, e, hw, wa_r]
    rw [fb_put_succ]
theorem r_notes14 (X : Fx g) (b : Nat → Int32) (hw : tA t 190 = w) (hb : b 127 = nI 10) : ∀ (d k fuel : Nat), k + d = 180 → d < fuel → F_X12_notes_b14 fuel 183 (nI k) (Em g (wr t 184 (fb_put b (fun j => b (148 + j)) 128 k))) = some ((), Em g (wr t 184 (upd (fb_put (upd (fb_put b (fun j => b (148 + j)) 128 180) 127 (nI 9)) w 308 20) 127 (nI 10)))) := by
  intro d
  induction d with
  | zero =>
    intro k fuel hk hf
    obtain ⟨f, rfl⟩ : ∃ f, fuel = f + 1 := ⟨fuel - 1, by omega⟩
    have hk : k = 180 := by omega
    subst hk
    have e : fb_put b (fun j => b (148 + j)) 128 180 127 = nI 10 := by rw [fb_put_out (by omega), hb]
    rw [F_X12_notes_b14]
    simp (disch := omega) only [x_rc183 X, x_i183_0 X, x_w183_0 X, x_r183_1 X, x_r183_2 X, x_r183_3 X, x_r183_4 X, x_i183_5 X, x_w183_5 X, x_i183_6 X, x_w183_6 X, x_i183_7 X, x_w183_7 X, x_i183_8 X, x_w183_8 X, x_i183_9 X, x_w183_9 X, x_i183_10 X, x_w183_10 X, x_i183_11 X, x_w183_11 X, x_i183_12 X, x_w183_12 X, x_i183_13 X, x_w183_13 X, x_i183_14 X, x_w183_14 X, x_i183_15 X, x_w183_15 X, x_r183_16 X, x_r183_17 X, x_r183_18 X, x_i183_19 X, x_w183_19 X, x_i183_20 X, x_w183_20 X, x_r183_21 X, x_r183_22 X, x_r183_23 X, x_r183_24 X, x_r183_25 X, x_i183_26 X, x_w183_26 X, x_r183_27 X, x_r183_28 X, x_r183_29 X, x_i183_30 X, x_w183_30 X, x_r183_31 X, x_r183_32 X, x_r183_33 X, x_r183_34 X, x_r183_35 X, x_r183_36 X, x_a184 X, x_s184 X, x_a185 X, x_s185 X, x_a186 X, x_s186 X, x_a187 X, x_s187 X, x_a188 X, x_s188 X, x_a189 X, x_s189 X, x_a190 X, x_s190 X, x_a191 X, x_s191 X, x_a192 X, x_s192 X, x_a193 X, x_s193 X, x_a194 X, x_s194 X, x_a195 X, x_s195 X, x_a196 X, x_s196 X, x_a197 X, x_s197 X, x_a198 X, x_s198 X, x_a199 X, x_s199 X, x_a200 X, x_s200 X, x_a201 X, x_s201 X, x_a202 X, x_s202 X, x_a203 X, x_s203 X, x_a204 X, x_s204 X, Option.bind_some, ↓reduceIte, ite_not, fa_lit, nI_add, nI_mulN, nI_an, nI_sub, irm_n, nI_eq, nI_leI, nI_ltI, v_pow, v_shr, v_bit, nI_cl, nI_m1e, Nat.le_refl, tA_rs, e, wa_r]
    have h := r_notes60 (t := t) X (upd (fb_put b (fun j => b (148 + j)) 128 180) 127 (nI 9)) hw (n := 9) (by decide) upd_s 20 0 FU rfl (by decide)
    rw [fb_put_0] at h
    exact h
  | succ d ih =>
    intro k fuel hk hf
    obtain ⟨f, rfl⟩ : ∃ f, fuel = f + 1 := ⟨fuel - 1, by omega⟩
    have hk2 : ¬ 180 ≤ k := by omega
    have e : fb_put b (fun j => b (148 + j)) 128 k (148 + k) = b (148 + k) := by rw [fb_put_out (by omega)]
    rw [F_X12_notes_b14, ← ih (k + 1) f (by omega) (by omega)]
    simp (disch := omega) only [x_rc183 X, x_i183_0 X, x_w183_0 X, x_r183_1 X, x_r183_2 X, x_r183_3 X, x_r183_4 X, x_i183_5 X, x_w183_5 X, x_i183_6 X, x_w183_6 X, x_i183_7 X, x_w183_7 X, x_i183_8 X, x_w183_8 X, x_i183_9 X, x_w183_9 X, x_i183_10 X, x_w183_10 X, x_i183_11 X, x_w183_11 X, x_i183_12 X, x_w183_12 X, x_i183_13 X, x_w183_13 X, x_i183_14 X, x_w183_14 X, x_i183_15 X, x_w183_15 X, x_r183_16 X, x_r183_17 X, x_r183_18 X, x_i183_19 X, x_w183_19 X, x_i183_20 X, x_w183_20 X, x_r183_21 X, x_r183_22 X, x_r183_23 X, x_r183_24 X, x_r183_25 X, x_i183_26 X, x_w183_26 X, x_r183_27 X, x_r183_28 X, x_r183_29 X, x_i183_30 X, x_w183_30 X, x_r183_31 X, x_r183_32 X, x_r183_33 X, x_r183_34 X, x_r183_35 X, x_r183_36 X, x_a184 X, x_s184 X, x_a185 X, x_s185 X, x_a186 X, x_s186 X, x_a187 X, x_s187 X, x_a188 X, x_s188 X, x_a189 X, x_s189 X, x_a190 X, x_s190 X, x_a191 X, x_s191 X, x_a192 X, x_s192 X, x_a193 X, x_s193 X, x_a194 X, x_s194 X, x_a195 X, x_s195 X, x_a196 X, x_s196 X, x_a197 X, x_s197 X, x_a198 X, x_s198 X, x_a199 X, x_s199 X, x_a200 X, x_s200 X, x_a201 X, x_s201 X, x_a202 X, x_s202 X, x_a203 X, x_s203 X, x_a204 X, x_s204 X, Option.bind_some, ↓reduceIte, ite_not, fa_lit, nI_add, nI_mulN, nI_an, nI_sub, irm_n, nI_eq, nI_leI, nI_ltI, v_pow, v_shr, v_bit, nI_cl, nI_m1e, hk2, tA_rs, e, wa_r]
    rw [← fb_put_succ b (fun j => b (148 + j)) 128 k]
theorem r_notes (X : Fx g) (ha : tA t 184 = a) (hw : tA t 190 = w) (hn : a 127 = nI (vDe a)) (hn2 : vDe a ≤ 10) : F_X12_notes 183 (Em g t) = some ((), Em g (wr t 184 (psh a w))) := by
  unfold F_X12_notes psh
  by_cases h : vDe a = 10
  · rw [h] at hn
    have h2 := r_notes14 (t := t) X a hw hn 180 0 FU rfl (by decide)
    rw [fb_put_0, ← ha, wr_self, ha] at h2
    simp (disch := omega) only [x_rc183 X, x_i183_0 X, x_w183_0 X, x_r183_1 X, x_r183_2 X, x_r183_3 X, x_r183_4 X, x_i183_5 X, x_w183_5 X, x_i183_6 X, x_w183_6 X, x_i183_7 X, x_w183_7 X, x_i183_8 X, x_w183_8 X, x_i183_9 X, x_w183_9 X, x_i183_10 X, x_w183_10 X, x_i183_11 X, x_w183_11 X, x_i183_12 X, x_w183_12 X, x_i183_13 X, x_w183_13 X, x_i183_14 X, x_w183_14 X, x_i183_15 X, x_w183_15 X, x_r183_16 X, x_r183_17 X, x_r183_18 X, x_i183_19 X, x_w183_19 X, x_i183_20 X, x_w183_20 X, x_r183_21 X, x_r183_22 X, x_r183_23 X, x_r183_24 X, x_r183_25 X, x_i183_26 X, x_w183_26 X, x_r183_27 X, x_r183_28 X, x_r183_29 X, x_i183_30 X, x_w183_30 X, x_r183_31 X, x_r183_32 X, x_r183_33 X, x_r183_34 X, x_r183_35 X, x_r183_36 X, x_a184 X, x_s184 X, x_a185 X, x_s185 X, x_a186 X, x_s186 X, x_a187 X, x_s187 X, x_a188 X, x_s188 X, x_a189 X, x_s189 X, x_a190 X, x_s190 X, x_a191 X, x_s191 X, x_a192 X, x_s192 X, x_a193 X, x_s193 X, x_a194 X, x_s194 X, x_a195 X, x_s195 X, x_a196 X, x_s196 X, x_a197 X, x_s197 X, x_a198 X, x_s198 X, x_a199 X, x_s199 X, x_a200 X, x_s200 X, x_a201 X, x_s201 X, x_a202 X, x_s202 X, x_a203 X, x_s203 X, x_a204 X, x_s204 X, Option.bind_some, ↓reduceIte, ite_not, fa_lit, nI_add, nI_mulN, nI_an, nI_sub, irm_n, nI_eq, nI_leI, nI_ltI, v_pow, v_shr, v_bit, nI_cl, nI_m1e, ha, hn]
    rw [if_pos h]
    exact h2
  · have h2 := r_notes60 (t := t) X a hw (n := vDe a) (by omega) hn 20 0 FU rfl (by decide)
    rw [fb_put_0, ← ha, wr_self, ha] at h2
    simp (disch := omega) only [x_rc183 X, x_i183_0 X, x_w183_0 X, x_r183_1 X, x_r183_2 X, x_r183_3 X, x_r183_4 X, x_i183_5 X, x_w183_5 X, x_i183_6 X, x_w183_6 X, x_i183_7 X, x_w183_7 X, x_i183_8 X, x_w183_8 X, x_i183_9 X, x_w183_9 X, x_i183_10 X, x_w183_10 X, x_i183_11 X, x_w183_11 X, x_i183_12 X, x_w183_12 X, x_i183_13 X, x_w183_13 X, x_i183_14 X, x_w183_14 X, x_i183_15 X, x_w183_15 X, x_r183_16 X, x_r183_17 X, x_r183_18 X, x_i183_19 X, x_w183_19 X, x_i183_20 X, x_w183_20 X, x_r183_21 X, x_r183_22 X, x_r183_23 X, x_r183_24 X, x_r183_25 X, x_i183_26 X, x_w183_26 X, x_r183_27 X, x_r183_28 X, x_r183_29 X, x_i183_30 X, x_w183_30 X, x_r183_31 X, x_r183_32 X, x_r183_33 X, x_r183_34 X, x_r183_35 X, x_r183_36 X, x_a184 X, x_s184 X, x_a185 X, x_s185 X, x_a186 X, x_s186 X, x_a187 X, x_s187 X, x_a188 X, x_s188 X, x_a189 X, x_s189 X, x_a190 X, x_s190 X, x_a191 X, x_s191 X, x_a192 X, x_s192 X, x_a193 X, x_s193 X, x_a194 X, x_s194 X, x_a195 X, x_s195 X, x_a196 X, x_s196 X, x_a197 X, x_s197 X, x_a198 X, x_s198 X, x_a199 X, x_s199 X, x_a200 X, x_s200 X, x_a201 X, x_s201 X, x_a202 X, x_s202 X, x_a203 X, x_s203 X, x_a204 X, x_s204 X, Option.bind_some, ↓reduceIte, ite_not, fa_lit, nI_add, nI_mulN, nI_an, nI_sub, irm_n, nI_eq, nI_leI, nI_ltI, v_pow, v_shr, v_bit, nI_cl, nI_m1e, ha, hn, h]
    exact h2
theorem r_whyGo (X : Fx g) (W : WA a D) (ha : tA t 184 = a) (x y : Int64) : F_X12_whyGo 183 x y (Em g t) = some (nI (wgI a x.toInt y.toInt), Em g t) := by
  have h2 := wP2 W
  have h3 := wK2 W
  unfold F_X12_whyGo wgI
  by_cases hx : 0 ≤ x.toInt ∧ x.toInt < vP a
  · by_cases hy : 0 ≤ y.toInt ∧ y.toInt < vK a
    · have hp : x.toInt.toNat < vP a := by omega
      have hk : y.toInt.toNat < vK a := by omega
      have hat := wAt2 W hp
      have hw := p_31 (wWy2 W hat) (by omega)
      rw [if_pos ⟨hx, hy⟩]
      simp (disch := omega) only [x_rc183 X, x_i183_0 X, x_w183_0 X, x_r183_1 X, x_r183_2 X, x_r183_3 X, x_r183_4 X, x_i183_5 X, x_w183_5 X, x_i183_6 X, x_w183_6 X, x_i183_7 X, x_w183_7 X, x_i183_8 X, x_w183_8 X, x_i183_9 X, x_w183_9 X, x_i183_10 X, x_w183_10 X, x_i183_11 X, x_w183_11 X, x_i183_12 X, x_w183_12 X, x_i183_13 X, x_w183_13 X, x_i183_14 X, x_w183_14 X, x_i183_15 X, x_w183_15 X, x_r183_16 X, x_r183_17 X, x_r183_18 X, x_i183_19 X, x_w183_19 X, x_i183_20 X, x_w183_20 X, x_r183_21 X, x_r183_22 X, x_r183_23 X, x_r183_24 X, x_r183_25 X, x_i183_26 X, x_w183_26 X, x_r183_27 X, x_r183_28 X, x_r183_29 X, x_i183_30 X, x_w183_30 X, x_r183_31 X, x_r183_32 X, x_r183_33 X, x_r183_34 X, x_r183_35 X, x_r183_36 X, x_a184 X, x_s184 X, x_a185 X, x_s185 X, x_a186 X, x_s186 X, x_a187 X, x_s187 X, x_a188 X, x_s188 X, x_a189 X, x_s189 X, x_a190 X, x_s190 X, x_a191 X, x_s191 X, x_a192 X, x_s192 X, x_a193 X, x_s193 X, x_a194 X, x_s194 X, x_a195 X, x_s195 X, x_a196 X, x_s196 X, x_a197 X, x_s197 X, x_a198 X, x_s198 X, x_a199 X, x_s199 X, x_a200 X, x_s200 X, x_a201 X, x_s201 X, x_a202 X, x_s202 X, x_a203 X, x_s203 X, x_a204 X, x_s204 X, Option.bind_some, ↓reduceIte, ite_not, fa_lit, nI_add, nI_mulN, nI_an, nI_sub, irm_n, nI_eq, nI_leI, nI_ltI, v_pow, v_shr, v_bit, nI_cl, nI_m1e, q_person X W ha, q_place X W ha, hx, hy, and_self, decide_true, bI_z, Bool.true_eq_false, i_32, ha, wAt W hp, wWy W hat, q_isIn]
      cases (vWy a (vAt a x.toInt.toNat)).testBit y.toInt.toNat <;> rfl
    · rw [if_neg (fun q => hy q.2)]
      simp (disch := omega) only [x_rc183 X, x_i183_0 X, x_w183_0 X, x_r183_1 X, x_r183_2 X, x_r183_3 X, x_r183_4 X, x_i183_5 X, x_w183_5 X, x_i183_6 X, x_w183_6 X, x_i183_7 X, x_w183_7 X, x_i183_8 X, x_w183_8 X, x_i183_9 X, x_w183_9 X, x_i183_10 X, x_w183_10 X, x_i183_11 X, x_w183_11 X, x_i183_12 X, x_w183_12 X, x_i183_13 X, x_w183_13 X, x_i183_14 X, x_w183_14 X, x_i183_15 X, x_w183_15 X, x_r183_16 X, x_r183_17 X, x_r183_18 X, x_i183_19 X, x_w183_19 X, x_i183_20 X, x_w183_20 X, x_r183_21 X, x_r183_22 X, x_r183_23 X, x_r183_24 X, x_r183_25 X, x_i183_26 X, x_w183_26 X, x_r183_27 X, x_r183_28 X, x_r183_29 X, x_i183_30 X, x_w183_30 X, x_r183_31 X, x_r183_32 X, x_r183_33 X, x_r183_34 X, x_r183_35 X, x_r183_36 X, x_a184 X, x_s184 X, x_a185 X, x_s185 X, x_a186 X, x_s186 X, x_a187 X, x_s187 X, x_a188 X, x_s188 X, x_a189 X, x_s189 X, x_a190 X, x_s190 X, x_a191 X, x_s191 X, x_a192 X, x_s192 X, x_a193 X, x_s193 X, x_a194 X, x_s194 X, x_a195 X, x_s195 X, x_a196 X, x_s196 X, x_a197 X, x_s197 X, x_a198 X, x_s198 X, x_a199 X, x_s199 X, x_a200 X, x_s200 X, x_a201 X, x_s201 X, x_a202 X, x_s202 X, x_a203 X, x_s203 X, x_a204 X, x_s204 X, Option.bind_some, ↓reduceIte, ite_not, fa_lit, q_person X W ha, q_place X W ha, hx, hy, and_self, decide_true, decide_false, bI_z, Bool.true_eq_false]
  · rw [if_neg (fun q => hx q.1)]
    simp (disch := omega) only [x_rc183 X, x_i183_0 X, x_w183_0 X, x_r183_1 X, x_r183_2 X, x_r183_3 X, x_r183_4 X, x_i183_5 X, x_w183_5 X, x_i183_6 X, x_w183_6 X, x_i183_7 X, x_w183_7 X, x_i183_8 X, x_w183_8 X, x_i183_9 X, x_w183_9 X, x_i183_10 X, x_w183_10 X, x_i183_11 X, x_w183_11 X, x_i183_12 X, x_w183_12 X, x_i183_13 X, x_w183_13 X, x_i183_14 X, x_w183_14 X, x_i183_15 X, x_w183_15 X, x_r183_16 X, x_r183_17 X, x_r183_18 X, x_i183_19 X, x_w183_19 X, x_i183_20 X, x_w183_20 X, x_r183_21 X, x_r183_22 X, x_r183_23 X, x_r183_24 X, x_r183_25 X, x_i183_26 X, x_w183_26 X, x_r183_27 X, x_r183_28 X, x_r183_29 X, x_i183_30 X, x_w183_30 X, x_r183_31 X, x_r183_32 X, x_r183_33 X, x_r183_34 X, x_r183_35 X, x_r183_36 X, x_a184 X, x_s184 X, x_a185 X, x_s185 X, x_a186 X, x_s186 X, x_a187 X, x_s187 X, x_a188 X, x_s188 X, x_a189 X, x_s189 X, x_a190 X, x_s190 X, x_a191 X, x_s191 X, x_a192 X, x_s192 X, x_a193 X, x_s193 X, x_a194 X, x_s194 X, x_a195 X, x_s195 X, x_a196 X, x_s196 X, x_a197 X, x_s197 X, x_a198 X, x_s198 X, x_a199 X, x_s199 X, x_a200 X, x_s200 X, x_a201 X, x_s201 X, x_a202 X, x_s202 X, x_a203 X, x_s203 X, x_a204 X, x_s204 X, Option.bind_some, ↓reduceIte, ite_not, fa_lit, q_person X W ha, hx, decide_false, bI_z]
theorem r_blanks1 (X : Fx g) (W : WA a D) (ha : tA t 184 = a) {p : Nat} (hp : p < vP a) (z : Int32) : F_X12_blanks1 183 (nI p) z (Em g t) = some ((), Em g (wr t 184 (blr a p z))) := by
  have h2 := wP2 W
  have h3 := p64 (wFo2 W) h2
  have h4 : 2 ^ p < 64 := p64 (P := 6) (Nat.pow_lt_pow_right (by decide) (by omega)) (by decide)
  have e : upd a (121 + p) z 108 = nI (vFo a) := by rw [upd_n (by omega)]; exact wFo W
  unfold F_X12_blanks1 blr
  simp (disch := omega) only [x_rc183 X, x_i183_0 X, x_w183_0 X, x_r183_1 X, x_r183_2 X, x_r183_3 X, x_r183_4 X, x_i183_5 X, x_w183_5 X, x_i183_6 X, x_w183_6 X, x_i183_7 X, x_w183_7 X, x_i183_8 X, x_w183_8 X, x_i183_9 X, x_w183_9 X, x_i183_10 X, x_w183_10 X, x_i183_11 X, x_w183_11 X, x_i183_12 X, x_w183_12 X, x_i183_13 X, x_w183_13 X, x_i183_14 X, x_w183_14 X, x_i183_15 X, x_w183_15 X, x_r183_16 X, x_r183_17 X, x_r183_18 X, x_i183_19 X, x_w183_19 X, x_i183_20 X, x_w183_20 X, x_r183_21 X, x_r183_22 X, x_r183_23 X, x_r183_24 X, x_r183_25 X, x_i183_26 X, x_w183_26 X, x_r183_27 X, x_r183_28 X, x_r183_29 X, x_i183_30 X, x_w183_30 X, x_r183_31 X, x_r183_32 X, x_r183_33 X, x_r183_34 X, x_r183_35 X, x_r183_36 X, x_a184 X, x_s184 X, x_a185 X, x_s185 X, x_a186 X, x_s186 X, x_a187 X, x_s187 X, x_a188 X, x_s188 X, x_a189 X, x_s189 X, x_a190 X, x_s190 X, x_a191 X, x_s191 X, x_a192 X, x_s192 X, x_a193 X, x_s193 X, x_a194 X, x_s194 X, x_a195 X, x_s195 X, x_a196 X, x_s196 X, x_a197 X, x_s197 X, x_a198 X, x_s198 X, x_a199 X, x_s199 X, x_a200 X, x_s200 X, x_a201 X, x_s201 X, x_a202 X, x_s202 X, x_a203 X, x_s203 X, x_a204 X, x_s204 X, Option.bind_some, ↓reduceIte, ite_not, fa_lit, nI_add, nI_mulN, nI_an, nI_sub, irm_n, nI_eq, nI_leI, nI_ltI, v_pow, v_shr, v_bit, nI_cl, nI_m1e, wa_wr, ha, tA_rs, e, wr_wr, an_c _ h3 _ h4]
theorem r_goes_l (X : Fx g) (W : WA a D) : ∀ (d k fuel : Nat), k + d = vP a → d < fuel → F_X12_goesDay_b2 fuel 183 (nI k) (Em g (wr t 184 (upd a 108 (nI (vFo a ||| mk (hit a) k))))) = some ((), Em g (wr t 184 (dyr a))) := by
  have h2 := wP2 W
  have h3 := wFo2 W
  have hD := wD W
  have hd := wDy2 W
  have hK := wK2 W
  have hN := wN3 W
  intro d
  induction d with
  | zero =>
    intro k fuel hk hf
    obtain ⟨f, rfl⟩ : ∃ f, fuel = f + 1 := ⟨fuel - 1, by omega⟩
    have hk : k = vP a := by omega
    subst hk
    have e1 : upd a 108 (nI (vFo a ||| mk (hit a) (vP a))) 4 = nI (vP a) := by rw [upd_n (by decide)]; exact wP W
    have e2 : upd a 108 (nI (vFo a ||| mk (hit a) (vP a))) 107 = nI (vDy a) := by rw [upd_n (by decide)]; exact wDy W
    rw [F_X12_goesDay_b2]
    simp (disch := omega) only [x_rc183 X, x_i183_0 X, x_w183_0 X, x_r183_1 X, x_r183_2 X, x_r183_3 X, x_r183_4 X, x_i183_5 X, x_w183_5 X, x_i183_6 X, x_w183_6 X, x_i183_7 X, x_w183_7 X, x_i183_8 X, x_w183_8 X, x_i183_9 X, x_w183_9 X, x_i183_10 X, x_w183_10 X, x_i183_11 X, x_w183_11 X, x_i183_12 X, x_w183_12 X, x_i183_13 X, x_w183_13 X, x_i183_14 X, x_w183_14 X, x_i183_15 X, x_w183_15 X, x_r183_16 X, x_r183_17 X, x_r183_18 X, x_i183_19 X, x_w183_19 X, x_i183_20 X, x_w183_20 X, x_r183_21 X, x_r183_22 X, x_r183_23 X, x_r183_24 X, x_r183_25 X, x_i183_26 X, x_w183_26 X, x_r183_27 X, x_r183_28 X, x_r183_29 X, x_i183_30 X, x_w183_30 X, x_r183_31 X, x_r183_32 X, x_r183_33 X, x_r183_34 X, x_r183_35 X, x_r183_36 X, x_a184 X, x_s184 X, x_a185 X, x_s185 X, x_a186 X, x_s186 X, x_a187 X, x_s187 X, x_a188 X, x_s188 X, x_a189 X, x_s189 X, x_a190 X, x_s190 X, x_a191 X, x_s191 X, x_a192 X, x_s192 X, x_a193 X, x_s193 X, x_a194 X, x_s194 X, x_a195 X, x_s195 X, x_a196 X, x_s196 X, x_a197 X, x_s197 X, x_a198 X, x_s198 X, x_a199 X, x_s199 X, x_a200 X, x_s200 X, x_a201 X, x_s201 X, x_a202 X, x_s202 X, x_a203 X, x_s203 X, x_a204 X, x_s204 X, Option.bind_some, ↓reduceIte, ite_not, fa_lit, nI_add, nI_mulN, nI_an, nI_sub, irm_n, nI_eq, nI_leI, nI_ltI, v_pow, v_shr, v_bit, nI_cl, nI_m1e, tA_rs, e1, e2, Nat.le_refl, wa_r]
    rfl
  | succ d ih =>
    intro k fuel hk hf
    obtain ⟨f, rfl⟩ : ∃ f, fuel = f + 1 := ⟨fuel - 1, by omega⟩
    have hk2 : ¬ vP a ≤ k := by omega
    have hk3 : k < vP a := by omega
    have hat := wAt2 W hk3
    have ff := p_31 h3 (by omega)
    have q : Vq a (upd a 108 (nI (vFo a ||| mk (hit a) k))) := Vq_u Vq_r (by decide) (by decide)
    have hor : vFo a ||| mk (hit a) k < 2 ^ vP a := Nat.or_lt_two_pow h3 (Nat.lt_of_lt_of_le (mk_lt _ k) (Nat.pow_le_pow_right (by decide) (by omega)))
    have hor3 := p_31 hor (by omega)
    have W2 : WA (upd a 108 (nI (vFo a ||| mk (hit a) k))) D := by
      refine WA_q q W ?_
      have h := WA_B W
      refine ⟨?_, ?_, fun q hq => ⟨?_, ?_, ?_⟩⟩
      · rw [upd_n (by omega)]; exact h.1
      · rw [show 107 + 1 = 108 from rfl, upd_s, tn_n hor3]; exact ⟨rfl, hor⟩
      · rw [upd_n (by omega)]; exact (h.2.2 q hq).1
      · rw [upd_n (by omega)]; exact (h.2.2 q hq).2.1
      · rw [upd_n (by omega)]; exact (h.2.2 q hq).2.2
    have e1 : upd a 108 (nI (vFo a ||| mk (hit a) k)) 4 = nI (vP a) := by rw [upd_n (by decide)]; exact wP W
    have e2 : upd a 108 (nI (vFo a ||| mk (hit a) k)) 107 = nI (vDy a) := by rw [upd_n (by decide)]; exact wDy W
    have e3 : upd a 108 (nI (vFo a ||| mk (hit a) k)) (121 + k) = a (121 + k) := by rw [upd_n (by omega)]
    have e4 : upd a 108 (nI (vFo a ||| mk (hit a) k)) (109 + k) = nI (vAt a k) := by rw [upd_n (by omega)]; exact wAt W hk3
    have e5 : upd a 108 (nI (vFo a ||| mk (hit a) k)) 108 = nI (vFo a ||| mk (hit a) k) := upd_s
    have es : snd (upd a 108 (nI (vFo a ||| mk (hit a) k))) (vAt a k) (vDy a) = snd a (vAt a k) (vDy a) := by
      have hc := wCo1 W hat
      have hc2 := wCo2 W hat
      have := Nat.mod_lt (vDy a) hc
      unfold snd sno
      rw [q_vN q, q_vCo q (by omega), q_vSd q (by omega) (by omega)]
    have hso := q_soundOf (t := wr t 184 (upd a 108 (nI (vFo a ||| mk (hit a) k)))) X W2 tA_rs (k := vAt a k) (d := vDy a) (by rw [q_vK q]; exact hat) (by omega)
    rw [es] at hso
    rw [F_X12_goesDay_b2, ← ih (k + 1) f (by omega) (by omega)]
    by_cases hm : a (121 + k) = -nI 1
    · have hh : hit a k = false := by simp [hit, hm]
      simp (disch := omega) only [x_rc183 X, x_i183_0 X, x_w183_0 X, x_r183_1 X, x_r183_2 X, x_r183_3 X, x_r183_4 X, x_i183_5 X, x_w183_5 X, x_i183_6 X, x_w183_6 X, x_i183_7 X, x_w183_7 X, x_i183_8 X, x_w183_8 X, x_i183_9 X, x_w183_9 X, x_i183_10 X, x_w183_10 X, x_i183_11 X, x_w183_11 X, x_i183_12 X, x_w183_12 X, x_i183_13 X, x_w183_13 X, x_i183_14 X, x_w183_14 X, x_i183_15 X, x_w183_15 X, x_r183_16 X, x_r183_17 X, x_r183_18 X, x_i183_19 X, x_w183_19 X, x_i183_20 X, x_w183_20 X, x_r183_21 X, x_r183_22 X, x_r183_23 X, x_r183_24 X, x_r183_25 X, x_i183_26 X, x_w183_26 X, x_r183_27 X, x_r183_28 X, x_r183_29 X, x_i183_30 X, x_w183_30 X, x_r183_31 X, x_r183_32 X, x_r183_33 X, x_r183_34 X, x_r183_35 X, x_r183_36 X, x_a184 X, x_s184 X, x_a185 X, x_s185 X, x_a186 X, x_s186 X, x_a187 X, x_s187 X, x_a188 X, x_s188 X, x_a189 X, x_s189 X, x_a190 X, x_s190 X, x_a191 X, x_s191 X, x_a192 X, x_s192 X, x_a193 X, x_s193 X, x_a194 X, x_s194 X, x_a195 X, x_s195 X, x_a196 X, x_s196 X, x_a197 X, x_s197 X, x_a198 X, x_s198 X, x_a199 X, x_s199 X, x_a200 X, x_s200 X, x_a201 X, x_s201 X, x_a202 X, x_s202 X, x_a203 X, x_s203 X, x_a204 X, x_s204 X, Option.bind_some, ↓reduceIte, ite_not, fa_lit, nI_add, nI_mulN, nI_an, nI_sub, irm_n, nI_eq, nI_leI, nI_ltI, v_pow, v_shr, v_bit, nI_cl, nI_m1e, tA_rs, e1, hk2, e3, hm]
      rw [mk_no (hit a) k hh]
    · by_cases hs : snd a (vAt a k) (vDy a) = a (121 + k)
      · have hh : hit a k = true := by simp [hit, hm, hs]
        simp (disch := omega) only [x_rc183 X, x_i183_0 X, x_w183_0 X, x_r183_1 X, x_r183_2 X, x_r183_3 X, x_r183_4 X, x_i183_5 X, x_w183_5 X, x_i183_6 X, x_w183_6 X, x_i183_7 X, x_w183_7 X, x_i183_8 X, x_w183_8 X, x_i183_9 X, x_w183_9 X, x_i183_10 X, x_w183_10 X, x_i183_11 X, x_w183_11 X, x_i183_12 X, x_w183_12 X, x_i183_13 X, x_w183_13 X, x_i183_14 X, x_w183_14 X, x_i183_15 X, x_w183_15 X, x_r183_16 X, x_r183_17 X, x_r183_18 X, x_i183_19 X, x_w183_19 X, x_i183_20 X, x_w183_20 X, x_r183_21 X, x_r183_22 X, x_r183_23 X, x_r183_24 X, x_r183_25 X, x_i183_26 X, x_w183_26 X, x_r183_27 X, x_r183_28 X, x_r183_29 X, x_i183_30 X, x_w183_30 X, x_r183_31 X, x_r183_32 X, x_r183_33 X, x_r183_34 X, x_r183_35 X, x_r183_36 X, x_a184 X, x_s184 X, x_a185 X, x_s185 X, x_a186 X, x_s186 X, x_a187 X, x_s187 X, x_a188 X, x_s188 X, x_a189 X, x_s189 X, x_a190 X, x_s190 X, x_a191 X, x_s191 X, x_a192 X, x_s192 X, x_a193 X, x_s193 X, x_a194 X, x_s194 X, x_a195 X, x_s195 X, x_a196 X, x_s196 X, x_a197 X, x_s197 X, x_a198 X, x_s198 X, x_a199 X, x_s199 X, x_a200 X, x_s200 X, x_a201 X, x_s201 X, x_a202 X, x_s202 X, x_a203 X, x_s203 X, x_a204 X, x_s204 X, Option.bind_some, ↓reduceIte, ite_not, fa_lit, nI_add, nI_mulN, nI_an, nI_sub, irm_n, nI_eq, nI_leI, nI_ltI, v_pow, v_shr, v_bit, nI_cl, nI_m1e, tA_rs, e1, e2, hk2, e3, e4, hm, hso, hs, e5, fa_or, wa_r, fa_upd_twice]
        rw [Nat.or_assoc, mk_or (hit a) k hh]
      · have hh : hit a k = false := by simp [hit, hs]
        simp (disch := omega) only [x_rc183 X, x_i183_0 X, x_w183_0 X, x_r183_1 X, x_r183_2 X, x_r183_3 X, x_r183_4 X, x_i183_5 X, x_w183_5 X, x_i183_6 X, x_w183_6 X, x_i183_7 X, x_w183_7 X, x_i183_8 X, x_w183_8 X, x_i183_9 X, x_w183_9 X, x_i183_10 X, x_w183_10 X, x_i183_11 X, x_w183_11 X, x_i183_12 X, x_w183_12 X, x_i183_13 X, x_w183_13 X, x_i183_14 X, x_w183_14 X, x_i183_15 X, x_w183_15 X, x_r183_16 X, x_r183_17 X, x_r183_18 X, x_i183_19 X, x_w183_19 X, x_i183_20 X, x_w183_20 X, x_r183_21 X, x_r183_22 X, x_r183_23 X, x_r183_24 X, x_r183_25 X, x_i183_26 X, x_w183_26 X, x_r183_27 X, x_r183_28 X, x_r183_29 X, x_i183_30 X, x_w183_30 X, x_r183_31 X, x_r183_32 X, x_r183_33 X, x_r183_34 X, x_r183_35 X, x_r183_36 X, x_a184 X, x_s184 X, x_a185 X, x_s185 X, x_a186 X, x_s186 X, x_a187 X, x_s187 X, x_a188 X, x_s188 X, x_a189 X, x_s189 X, x_a190 X, x_s190 X, x_a191 X, x_s191 X, x_a192 X, x_s192 X, x_a193 X, x_s193 X, x_a194 X, x_s194 X, x_a195 X, x_s195 X, x_a196 X, x_s196 X, x_a197 X, x_s197 X, x_a198 X, x_s198 X, x_a199 X, x_s199 X, x_a200 X, x_s200 X, x_a201 X, x_s201 X, x_a202 X, x_s202 X, x_a203 X, x_s203 X, x_a204 X, x_s204 X, Option.bind_some, ↓reduceIte, ite_not, fa_lit, nI_add, nI_mulN, nI_an, nI_sub, irm_n, nI_eq, nI_leI, nI_ltI, v_pow, v_shr, v_bit, nI_cl, nI_m1e, tA_rs, e1, e2, hk2, e3, e4, hm, hso, hs]
        rw [mk_no (hit a) k hh]
theorem r_goes (X : Fx g) (W : WA a D) (ha : tA t 184 = a) : F_X12_goesDay 183 (Em g t) = some ((), Em g (wr t 184 (dyr a))) := by
  have h2 := wP2 W
  have h := r_goes_l (t := t) X W (vP a) 0 FU (by omega) (by show vP a < 1000000; omega)
  rw [show vFo a ||| mk (hit a) 0 = vFo a from Nat.or_zero _, ← wFo W, fa_upd_same rfl, ← ha, wr_self, ha] at h
  exact h
theorem r_idv {m d : Nat} (hm : m < 2 ^ 31) (h0 : 0 < d) (hd : d < 2 ^ 31) : idv (nI m) (nI d) = nI (m / d) := pk_div hm h0 hd
theorem r_ldv {m d : Nat} (hm : m < 2 ^ 63) (h0 : 0 < d) (hd : d < 2 ^ 63) : ldv (lN m) (lN d) = lN (m / d) := pk_lDiv hm h0 hd
theorem r_lrm {m d : Nat} (hm : m < 2 ^ 63) (h0 : 0 < d) (hd : d < 2 ^ 63) : lrm (lN m) (lN d) = lN (m % d) := pk_lRem hm h0 hd
/-- a told deed's number: a day, one of 0 to 299, or none -/
theorem dn_c (x : Int64) : x = -1 ∨ (x ≠ -1 ∧ ∃ m, m < 300 ∧ x = lN m) ∨ (x ≠ -1 ∧ ¬ (0 ≤ x.toInt ∧ x.toInt < 300)) := by
  by_cases h : x = -1
  · exact Or.inl h
  · by_cases h2 : 0 ≤ x.toInt ∧ x.toInt < 300
    · refine Or.inr (Or.inl ⟨h, x.toInt.toNat, by omega, ?_⟩)
      apply Int64.toInt_inj.mp
      rw [pk_lT (by omega)]
      omega
    · exact Or.inr (Or.inr ⟨h, h2⟩)
theorem r_whyNot (X : Fx g) (W : WA a D) (ha : tA t 184 = a) (x : Int64) : F_X12_whyNot 183 x (Em g t) = some (nI (wyN a x), Em g t) := by
  have h2 := wP2 W
  have h3 := wN3 W
  have bz : ∀ b : Bool, (bI b = (0 : Int32)) = (b = false) := fun b => bI_z
  have l0 : (0 : Int32) = nI 0 := rfl
  have l1' : (1 : Int32) = nI 1 := rfl
  unfold F_X12_whyNot
  rcases dn_c x with h | ⟨h, m, hm, rfl⟩ | ⟨h, hb⟩
  · subst h
    rfl
  · have hc : ¬ lg_cmp (lN m) (-1) = 0 := fun q => h ((lg_cmp_eq _ _).mp q)
    have ht : (lN m).toInt = (m : Int) := pk_lT (by omega)
    have t1 : (0 : Int64).toInt = 0 := rfl
    have t2 : (99 : Int64).toInt = 99 := rfl
    have t3 : (100 : Int64).toInt = 100 := rfl
    have t4 : (199 : Int64).toInt = 199 := rfl
    have t5 : (200 : Int64).toInt = 200 := rfl
    have t6 : (299 : Int64).toInt = 299 := rfl
    have l1 : lrm (lN m) 10 = lN (m % 10) := r_lrm (d := 10) (by omega) (by decide) (by decide)
    have l2 : ldv (lrm (lN m) 100) 10 = lN (m % 100 / 10) := by
      rw [show lrm (lN m) 100 = lN (m % 100) from r_lrm (d := 100) (by omega) (by decide) (by decide)]
      exact r_ldv (d := 10) (by omega) (by decide) (by decide)
    have u1 : (lN (m % 10)).toInt = ((m % 10 : Nat) : Int) := pk_lT (by omega)
    have u2 : (lN (m % 100 / 10)).toInt = ((m % 100 / 10 : Nat) : Int) := pk_lT (by omega)
    have en : wyN a (lN m) = wn3 a m := by
      unfold wyN
      rw [if_neg h, ht, if_pos (by omega), Int.toNat_natCast]
    rw [en]
    unfold wn3
    simp only [p_within, hc, l1, l2, q_person X W ha, q_note X W ha, r_whyGo X W ha, x_rc183 X, ht, t1, t2, t3, t4, t5, t6, u1, u2, Option.bind_some, bz, not_false_eq_true, if_true]
    by_cases c1 : m < 100
    · have d1 : (0 : Int) ≤ (m : Int) ∧ (m : Int) ≤ 99 := by omega
      have d2 : m % 100 = m := Nat.mod_eq_of_lt c1
      simp only [d1, and_self, decide_true, Bool.true_eq_false, if_false, c1, if_true, d2]
    · have d1 : ¬ ((0 : Int) ≤ (m : Int) ∧ (m : Int) ≤ 99) := by omega
      by_cases c2 : m < 200
      · have d2 : (100 : Int) ≤ (m : Int) ∧ (m : Int) ≤ 199 := by omega
        have d3 : (0 : Int) ≤ ((m % 100 / 10 : Nat) : Int) := by omega
        simp only [d1, d2, d3, and_self, decide_true, decide_false, Bool.true_eq_false, if_false, if_true, c1, c2, Int.ofNat_lt, true_and, decide_eq_false_iff_not]
        by_cases c3 : m % 100 / 10 < vP a
        · simp only [c3, not_true_eq_false, if_false, if_true, l0]
        · simp only [c3, not_false_eq_true, if_false, if_true, l1']
      · have d2 : ¬ ((100 : Int) ≤ (m : Int) ∧ (m : Int) ≤ 199) := by omega
        have d3 : (200 : Int) ≤ (m : Int) ∧ (m : Int) ≤ 299 := by omega
        have d4 : (0 : Int) ≤ ((m % 100 / 10 : Nat) : Int) := by omega
        have d5 : (0 : Int) ≤ ((m % 10 : Nat) : Int) := by omega
        simp only [d1, d2, d3, d4, d5, and_self, decide_true, decide_false, Bool.true_eq_false, if_false, if_true, c1, c2, Int.ofNat_lt, true_and, decide_eq_false_iff_not]
        by_cases c3 : m % 100 / 10 < vP a
        · by_cases c4 : m % 10 < vN a
          · simp only [c3, c4, not_true_eq_false, if_false, if_true, and_self, l0]
          · simp only [c3, c4, not_true_eq_false, not_false_eq_true, if_false, if_true, and_false, l1']
        · simp only [c3, not_false_eq_true, if_false, if_true, false_and, l1']
  · have hc : ¬ lg_cmp x (-1) = 0 := fun q => h ((lg_cmp_eq _ _).mp q)
    have t1 : (0 : Int64).toInt = 0 := rfl
    have t2 : (99 : Int64).toInt = 99 := rfl
    have t3 : (100 : Int64).toInt = 100 := rfl
    have t4 : (199 : Int64).toInt = 199 := rfl
    have t5 : (200 : Int64).toInt = 200 := rfl
    have t6 : (299 : Int64).toInt = 299 := rfl
    have d1 : ¬ (0 ≤ x.toInt ∧ x.toInt ≤ 99) := by omega
    have d2 : ¬ (100 ≤ x.toInt ∧ x.toInt ≤ 199) := by omega
    have d3 : ¬ (200 ≤ x.toInt ∧ x.toInt ≤ 299) := by omega
    have en : wyN a x = 1 := by
      unfold wyN
      rw [if_neg h, if_neg hb]
    rw [en]
    simp only [p_within, hc, t1, t2, t3, t4, t5, t6, d1, d2, d3, decide_false, Option.bind_some, bz, not_false_eq_true, if_true, l1']
end XD
