/-! ===== who hears what, with what changes told narrowly: written by a program ===== -/
def snA (g : Sk) (b : Nat) : Bool := gS g b == 30 || b == 188 || b == 189
def Sn (g : Sk) (t t' : Tb) : Prop := (∀ a k, tI t' a k = tI t a k) ∧ (∀ b, snA g b = false → tA t' b = tA t b) ∧ (∀ b, tJ t' b = tJ t b)
section XSn
variable {g : Sk} {t : Tb} {a : Nat → Int32}
variable {D v w m x : Nat} {t' t'' : Tb}
theorem Sn_r : Sn g t t := ⟨fun _ _ => rfl, fun _ _ => rfl, fun _ => rfl⟩
theorem Sn_t (h : Sn g t t') (h2 : Sn g t' t'') : Sn g t t'' := ⟨fun a k => (h2.1 a k).trans (h.1 a k), fun b q => (h2.2.1 b q).trans (h.2.1 b q), fun b => (h2.2.2 b).trans (h.2.2 b)⟩
theorem Sn_wa {b k : Nat} {x : Int32} (hs : snA g b = true) (h : Sn g t t') : Sn g t (wa t' b k x) := by
  refine ⟨h.1, fun c hc => ?_, h.2.2⟩
  have : c ≠ b := by
    rintro rfl
    rw [hs] at hc
    exact absurd hc (by decide)
  rw [tA_an this]
  exact h.2.1 c hc
theorem sn_f {b : Nat} (h : (b == 188 || b == 189) = true) : snA g b = true := by
  unfold snA
  rw [Bool.or_assoc, h, Bool.or_true]
theorem sn_30 {b : Nat} (h : gS g b = 30) : snA g b = true := by
  unfold snA
  rw [h]
  rfl
theorem Sn_m (h : Sn g t t') : Sm g t t' := by
  refine ⟨fun a k _ => h.1 a k, fun b hb => h.2.1 b ?_, fun b _ => h.2.2 b⟩
  cases hq : snA g b
  · rfl
  · unfold snA at hq
    rw [Bool.or_eq_true, Bool.or_eq_true] at hq
    rcases hq with (q | q) | q
    · rw [sc_30 (by simpa using q)] at hb; exact absurd hb (by decide)
    · have e : b = 188 := by simpa using q
      subst e
      rw [sc_f rfl] at hb; exact absurd hb (by decide)
    · have e : b = 189 := by simpa using q
      subst e
      rw [sc_f rfl] at hb; exact absurd hb (by decide)
theorem p_reckn (X : Fx g) {l fr ma : Nat} (hl : l < 2) (hF : a (7 + l) = nI fr) (hM : a (9 + l) = nI ma) (hb : fr + ma ≤ 900) (w : Nat → Int32) : ∀ (cs : List Int32) (ty : List Bool) (fuel n k : Nat) (t : Tb), cs = cdf a (329 + fr + k) (ma - k) → k ≤ ma → okc l cs ty → ty.length = n → n ≤ 24 → tA t 184 = a → (∀ j, wok l j → tA t 189 j = w j) → cs.length < fuel → ∃ t', F_X12_reckons_b4 fuel 183 (nI l) (nI n) (nI k) (Em g t) = some (bI (decide (ev w cs (stk (tA t 188) n) = [nI 1])), Em g t') ∧ Sn g t t' := by
  intro cs
  induction cs with
  | nil =>
    intro ty fuel n k t hcs hk hok hn h24 ha hw hf
    obtain ⟨f, rfl⟩ : ∃ f, fuel = f + 1 := ⟨fuel - 1, by omega⟩
    have hkm : ma = k := by
      rcases Nat.lt_or_ge k ma with h | h
      · obtain ⟨q, hq⟩ : ∃ q, ma - k = q + 1 := ⟨ma - k - 1, by omega⟩
        rw [hq, cdf] at hcs
        cases hcs
      · omega
    have h1 : ma ≤ k := by omega
    rw [F_X12_reckons_b4]
    have e1 : ty = [true] := hok
    have e2 : n = 1 := by rw [← hn, e1]; rfl
    subst e2
    simp (disch := omega) only [x_rc183 X, x_i183_0 X, x_w183_0 X, x_r183_1 X, x_r183_2 X, x_r183_3 X, x_r183_4 X, x_i183_5 X, x_w183_5 X, x_i183_6 X, x_w183_6 X, x_i183_7 X, x_w183_7 X, x_i183_8 X, x_w183_8 X, x_i183_9 X, x_w183_9 X, x_i183_10 X, x_w183_10 X, x_i183_11 X, x_w183_11 X, x_i183_12 X, x_w183_12 X, x_i183_13 X, x_w183_13 X, x_i183_14 X, x_w183_14 X, x_i183_15 X, x_w183_15 X, x_r183_16 X, x_r183_17 X, x_r183_18 X, x_i183_19 X, x_w183_19 X, x_i183_20 X, x_w183_20 X, x_r183_21 X, x_r183_22 X, x_r183_23 X, x_r183_24 X, x_r183_25 X, x_i183_26 X, x_w183_26 X, x_r183_27 X, x_r183_28 X, x_r183_29 X, x_i183_30 X, x_w183_30 X, x_r183_31 X, x_r183_32 X, x_r183_33 X, x_r183_34 X, x_r183_35 X, x_r183_36 X, x_a184 X, x_s184 X, x_a185 X, x_s185 X, x_a186 X, x_s186 X, x_a187 X, x_s187 X, x_a188 X, x_s188 X, x_a189 X, x_s189 X, x_a190 X, x_s190 X, x_a191 X, x_s191 X, x_a192 X, x_s192 X, x_a193 X, x_s193 X, x_a194 X, x_s194 X, x_a195 X, x_s195 X, x_a196 X, x_s196 X, x_a197 X, x_s197 X, x_a198 X, x_s198 X, x_a199 X, x_s199 X, x_a200 X, x_s200 X, x_a201 X, x_s201 X, x_a202 X, x_s202 X, x_a203 X, x_s203 X, x_a204 X, x_s204 X, Option.bind_some, ↓reduceIte, ite_not, fa_lit, nI_add, nI_mulN, nI_an, nI_sub, irm_n, nI_eq, nI_leI, nI_ltI, v_pow, v_shr, v_bit, nI_cl, nI_m1e, ha, hM, hF, h1]
    refine ⟨t, ?_, Sn_r⟩
    by_cases h : tA t 188 0 = nI 1
    · simp [h, ev, stk, bI]
    · simp [h, ev, stk, bI]
  | cons c cs ih =>
    intro ty fuel n k t hcs hk hok hn h24 ha hw hf
    obtain ⟨f, rfl⟩ : ∃ f, fuel = f + 1 := ⟨fuel - 1, by omega⟩
    have hkm : k < ma := by
      rcases Nat.lt_or_ge k ma with h | h
      · exact h
      · rw [show ma - k = 0 by omega, cdf] at hcs
        cases hcs
    obtain ⟨hc, hcs2⟩ : c = a (329 + fr + k) ∧ cs = cdf a (329 + fr + (k + 1)) (ma - (k + 1)) := by
      rw [show ma - k = (ma - (k + 1)) + 1 by omega, cdf] at hcs
      injection hcs with e1 e2
      exact ⟨e1, e2⟩
    have h1 : ¬ ma ≤ k := by omega
    have hf2 : cs.length < f := by simp only [List.length_cons] at hf; omega
    rw [F_X12_reckons_b4]
    rcases hok with ⟨m, hm, hc2, hty, hok⟩ | ⟨m, hm, hc2, hty, hok⟩ | ⟨hc2, r, hty, hok⟩ | ⟨o, r, ho, h6, hc2, hty, hok⟩
    · rw [hc2] at hc
      have h2 : ¬ 3000 ≤ m := by omega
      have h3 : ¬ 1000 ≤ m := by omega
      simp (disch := omega) only [x_rc183 X, x_i183_0 X, x_w183_0 X, x_r183_1 X, x_r183_2 X, x_r183_3 X, x_r183_4 X, x_i183_5 X, x_w183_5 X, x_i183_6 X, x_w183_6 X, x_i183_7 X, x_w183_7 X, x_i183_8 X, x_w183_8 X, x_i183_9 X, x_w183_9 X, x_i183_10 X, x_w183_10 X, x_i183_11 X, x_w183_11 X, x_i183_12 X, x_w183_12 X, x_i183_13 X, x_w183_13 X, x_i183_14 X, x_w183_14 X, x_i183_15 X, x_w183_15 X, x_r183_16 X, x_r183_17 X, x_r183_18 X, x_i183_19 X, x_w183_19 X, x_i183_20 X, x_w183_20 X, x_r183_21 X, x_r183_22 X, x_r183_23 X, x_r183_24 X, x_r183_25 X, x_i183_26 X, x_w183_26 X, x_r183_27 X, x_r183_28 X, x_r183_29 X, x_i183_30 X, x_w183_30 X, x_r183_31 X, x_r183_32 X, x_r183_33 X, x_r183_34 X, x_r183_35 X, x_r183_36 X, x_a184 X, x_s184 X, x_a185 X, x_s185 X, x_a186 X, x_s186 X, x_a187 X, x_s187 X, x_a188 X, x_s188 X, x_a189 X, x_s189 X, x_a190 X, x_s190 X, x_a191 X, x_s191 X, x_a192 X, x_s192 X, x_a193 X, x_s193 X, x_a194 X, x_s194 X, x_a195 X, x_s195 X, x_a196 X, x_s196 X, x_a197 X, x_s197 X, x_a198 X, x_s198 X, x_a199 X, x_s199 X, x_a200 X, x_s200 X, x_a201 X, x_s201 X, x_a202 X, x_s202 X, x_a203 X, x_s203 X, x_a204 X, x_s204 X, Option.bind_some, ↓reduceIte, ite_not, fa_lit, nI_add, nI_mulN, nI_an, nI_sub, irm_n, nI_eq, nI_leI, nI_ltI, v_pow, v_shr, v_bit, nI_cl, nI_m1e, ha, hM, hF, h1, ← hc, h2, h3]
      obtain ⟨t', e, hS⟩ := ih (false :: ty) f (n + 1) (k + 1) (wa t 188 n (nI m)) hcs2 (by omega) hok (by simp [hn]) (by omega) (by rw [tA_an (by decide), ha]) (fun j hj => by rw [tA_an (by decide), hw j hj]) hf2
      rw [e]
      refine ⟨t', ?_, Sn_t (Sn_wa (sn_f rfl) Sn_r) hS⟩
      rw [tA_as, stk, pk_us, stk_up _ _ _ (Nat.le_refl n), ev, hc2, tn_n (by omega), stp_num hm]
    · rw [hc2] at hc
      have hm8 : m < 8 := by rcases hm with h | h <;> omega
      have h2 : ¬ 3000 ≤ 1000 + m := by omega
      have h3 : 1000 ≤ 1000 + m := by omega
      simp (disch := omega) only [x_rc183 X, x_i183_0 X, x_w183_0 X, x_r183_1 X, x_r183_2 X, x_r183_3 X, x_r183_4 X, x_i183_5 X, x_w183_5 X, x_i183_6 X, x_w183_6 X, x_i183_7 X, x_w183_7 X, x_i183_8 X, x_w183_8 X, x_i183_9 X, x_w183_9 X, x_i183_10 X, x_w183_10 X, x_i183_11 X, x_w183_11 X, x_i183_12 X, x_w183_12 X, x_i183_13 X, x_w183_13 X, x_i183_14 X, x_w183_14 X, x_i183_15 X, x_w183_15 X, x_r183_16 X, x_r183_17 X, x_r183_18 X, x_i183_19 X, x_w183_19 X, x_i183_20 X, x_w183_20 X, x_r183_21 X, x_r183_22 X, x_r183_23 X, x_r183_24 X, x_r183_25 X, x_i183_26 X, x_w183_26 X, x_r183_27 X, x_r183_28 X, x_r183_29 X, x_i183_30 X, x_w183_30 X, x_r183_31 X, x_r183_32 X, x_r183_33 X, x_r183_34 X, x_r183_35 X, x_r183_36 X, x_a184 X, x_s184 X, x_a185 X, x_s185 X, x_a186 X, x_s186 X, x_a187 X, x_s187 X, x_a188 X, x_s188 X, x_a189 X, x_s189 X, x_a190 X, x_s190 X, x_a191 X, x_s191 X, x_a192 X, x_s192 X, x_a193 X, x_s193 X, x_a194 X, x_s194 X, x_a195 X, x_s195 X, x_a196 X, x_s196 X, x_a197 X, x_s197 X, x_a198 X, x_s198 X, x_a199 X, x_s199 X, x_a200 X, x_s200 X, x_a201 X, x_s201 X, x_a202 X, x_s202 X, x_a203 X, x_s203 X, x_a204 X, x_s204 X, Option.bind_some, ↓reduceIte, ite_not, fa_lit, nI_add, nI_mulN, nI_an, nI_sub, irm_n, nI_eq, nI_leI, nI_ltI, v_pow, v_shr, v_bit, nI_cl, nI_m1e, ha, hM, hF, h1, ← hc, h2, h3, Nat.add_sub_cancel_left, hw m hm]
      obtain ⟨t', e, hS⟩ := ih (false :: ty) f (n + 1) (k + 1) (wa t 188 n (w m)) hcs2 (by omega) hok (by simp [hn]) (by omega) (by rw [tA_an (by decide), ha]) (fun j hj => by rw [tA_an (by decide), hw j hj]) hf2
      rw [e]
      refine ⟨t', ?_, Sn_t (Sn_wa (sn_f rfl) Sn_r) hS⟩
      rw [tA_as, stk, pk_us, stk_up _ _ _ (Nat.le_refl n), ev, hc2, tn_n (by omega), stp_word (by omega)]
    · rw [hc2] at hc
      obtain ⟨n', rfl⟩ : ∃ n', n = n' + 1 := ⟨r.length, by rw [← hn, hty]; rfl⟩
      simp (disch := omega) only [x_rc183 X, x_i183_0 X, x_w183_0 X, x_r183_1 X, x_r183_2 X, x_r183_3 X, x_r183_4 X, x_i183_5 X, x_w183_5 X, x_i183_6 X, x_w183_6 X, x_i183_7 X, x_w183_7 X, x_i183_8 X, x_w183_8 X, x_i183_9 X, x_w183_9 X, x_i183_10 X, x_w183_10 X, x_i183_11 X, x_w183_11 X, x_i183_12 X, x_w183_12 X, x_i183_13 X, x_w183_13 X, x_i183_14 X, x_w183_14 X, x_i183_15 X, x_w183_15 X, x_r183_16 X, x_r183_17 X, x_r183_18 X, x_i183_19 X, x_w183_19 X, x_i183_20 X, x_w183_20 X, x_r183_21 X, x_r183_22 X, x_r183_23 X, x_r183_24 X, x_r183_25 X, x_i183_26 X, x_w183_26 X, x_r183_27 X, x_r183_28 X, x_r183_29 X, x_i183_30 X, x_w183_30 X, x_r183_31 X, x_r183_32 X, x_r183_33 X, x_r183_34 X, x_r183_35 X, x_r183_36 X, x_a184 X, x_s184 X, x_a185 X, x_s185 X, x_a186 X, x_s186 X, x_a187 X, x_s187 X, x_a188 X, x_s188 X, x_a189 X, x_s189 X, x_a190 X, x_s190 X, x_a191 X, x_s191 X, x_a192 X, x_s192 X, x_a193 X, x_s193 X, x_a194 X, x_s194 X, x_a195 X, x_s195 X, x_a196 X, x_s196 X, x_a197 X, x_s197 X, x_a198 X, x_s198 X, x_a199 X, x_s199 X, x_a200 X, x_s200 X, x_a201 X, x_s201 X, x_a202 X, x_s202 X, x_a203 X, x_s203 X, x_a204 X, x_s204 X, Option.bind_some, ↓reduceIte, ite_not, fa_lit, nI_add, nI_mulN, nI_an, nI_sub, irm_n, nI_eq, nI_leI, nI_ltI, v_pow, v_shr, v_bit, nI_cl, nI_m1e, ha, hM, hF, h1, ← hc, Nat.reduceLeDiff, Nat.add_sub_cancel]
      obtain ⟨t', e, hS⟩ := ih (true :: r) f (n' + 1) (k + 1) (wa t 188 n' (nI 1 - tA t 188 n')) hcs2 (by omega) hok (by rw [← hn, hty, List.length_cons]) (by omega) (by rw [tA_an (by decide), ha]) (fun j hj => by rw [tA_an (by decide), hw j hj]) hf2
      rw [e]
      refine ⟨t', ?_, Sn_t (Sn_wa (sn_f rfl) Sn_r) hS⟩
      rw [tA_as, stk, pk_us, stk_up _ _ _ (Nat.le_refl n'), ev, hc2, tn_n (by omega), stk, stp_not]
    · rw [hc2] at hc
      obtain ⟨n', rfl⟩ : ∃ n', n = n' + 2 := ⟨r.length, by rw [← hn, hty]; rfl⟩
      have h2 : 3000 ≤ 3000 + o := by omega
      have h3 : ¬ 3000 + o = 3006 := by omega
      simp (disch := omega) only [x_rc183 X, x_i183_0 X, x_w183_0 X, x_r183_1 X, x_r183_2 X, x_r183_3 X, x_r183_4 X, x_i183_5 X, x_w183_5 X, x_i183_6 X, x_w183_6 X, x_i183_7 X, x_w183_7 X, x_i183_8 X, x_w183_8 X, x_i183_9 X, x_w183_9 X, x_i183_10 X, x_w183_10 X, x_i183_11 X, x_w183_11 X, x_i183_12 X, x_w183_12 X, x_i183_13 X, x_w183_13 X, x_i183_14 X, x_w183_14 X, x_i183_15 X, x_w183_15 X, x_r183_16 X, x_r183_17 X, x_r183_18 X, x_i183_19 X, x_w183_19 X, x_i183_20 X, x_w183_20 X, x_r183_21 X, x_r183_22 X, x_r183_23 X, x_r183_24 X, x_r183_25 X, x_i183_26 X, x_w183_26 X, x_r183_27 X, x_r183_28 X, x_r183_29 X, x_i183_30 X, x_w183_30 X, x_r183_31 X, x_r183_32 X, x_r183_33 X, x_r183_34 X, x_r183_35 X, x_r183_36 X, x_a184 X, x_s184 X, x_a185 X, x_s185 X, x_a186 X, x_s186 X, x_a187 X, x_s187 X, x_a188 X, x_s188 X, x_a189 X, x_s189 X, x_a190 X, x_s190 X, x_a191 X, x_s191 X, x_a192 X, x_s192 X, x_a193 X, x_s193 X, x_a194 X, x_s194 X, x_a195 X, x_s195 X, x_a196 X, x_s196 X, x_a197 X, x_s197 X, x_a198 X, x_s198 X, x_a199 X, x_s199 X, x_a200 X, x_s200 X, x_a201 X, x_s201 X, x_a202 X, x_s202 X, x_a203 X, x_s203 X, x_a204 X, x_s204 X, Option.bind_some, ↓reduceIte, ite_not, fa_lit, nI_add, nI_mulN, nI_an, nI_sub, irm_n, nI_eq, nI_leI, nI_ltI, v_pow, v_shr, v_bit, nI_cl, nI_m1e, ha, hM, hF, h1, ← hc, h2, h3, Nat.add_sub_cancel, p_btw ho h6, show n' + 2 - 1 = n' + 1 by omega]
      obtain ⟨t', e, hS⟩ := ih (tou o :: r) f (n' + 1) (k + 1) (wa t 188 n' (btw o (tA t 188 n') (tA t 188 (n' + 1)))) hcs2 (by omega) hok (by rw [List.length_cons]; rw [hty] at hn; simp only [List.length_cons] at hn; omega) (by omega) (by rw [tA_an (by decide), ha]) (fun j hj => by rw [tA_an (by decide), hw j hj]) hf2
      rw [e]
      refine ⟨t', ?_, Sn_t (Sn_wa (sn_f rfl) Sn_r) hS⟩
      rw [tA_as, stk, pk_us, stk_up _ _ _ (Nat.le_refl n'), ev, hc2, tn_n (by omega), stk, stk, stp_op h6]
theorem q_reckonsn (X : Fx g) (W : WA a D) (ha : tA t 184 = a) {l : Nat} (hl : l < 2) (hT : ¬ a (5 + l) = nI 0) (w : Nat → Int32) (hw : ∀ j, wok l j → tA t 189 j = w j) : ∃ t', F_X12_reckons 183 (nI l) (Em g t) = some (bI (decide (ev w (cds a l) [] = [nI 1])), Em g t') ∧ Sn g t t' := by
  rcases wLw W hl with h | ⟨_, h1, h2, h3, h4⟩
  · exact absurd h hT
  · have := p_reckn X hl h1 h2 h3 w (cds a l) [] FU 0 0 t rfl (by omega) h4 rfl (by omega) ha hw (by
      rw [cds, cds_len]
      show vMa a l < 1000000
      omega)
    exact this
theorem q_hearsByn (X : Fx g) (W : WA a D) (ha : tA t 184 = a) {p n b : Nat} (hp : p < vP a) (hn : n ≤ 20) (hb : b ≤ 20) : ∃ t', F_X12_hearsBy 183 (nI p) (nI n) (nI b) (Em g t) = some (bI (hears a p n b), Em g t') ∧ Sn g t t' := by
  have h2 := wP2 W
  unfold F_X12_hearsBy
  by_cases h5 : a 5 = nI 0
  · simp (disch := omega) only [x_rc183 X, x_i183_0 X, x_w183_0 X, x_r183_1 X, x_r183_2 X, x_r183_3 X, x_r183_4 X, x_i183_5 X, x_w183_5 X, x_i183_6 X, x_w183_6 X, x_i183_7 X, x_w183_7 X, x_i183_8 X, x_w183_8 X, x_i183_9 X, x_w183_9 X, x_i183_10 X, x_w183_10 X, x_i183_11 X, x_w183_11 X, x_i183_12 X, x_w183_12 X, x_i183_13 X, x_w183_13 X, x_i183_14 X, x_w183_14 X, x_i183_15 X, x_w183_15 X, x_r183_16 X, x_r183_17 X, x_r183_18 X, x_i183_19 X, x_w183_19 X, x_i183_20 X, x_w183_20 X, x_r183_21 X, x_r183_22 X, x_r183_23 X, x_r183_24 X, x_r183_25 X, x_i183_26 X, x_w183_26 X, x_r183_27 X, x_r183_28 X, x_r183_29 X, x_i183_30 X, x_w183_30 X, x_r183_31 X, x_r183_32 X, x_r183_33 X, x_r183_34 X, x_r183_35 X, x_r183_36 X, x_a184 X, x_s184 X, x_a185 X, x_s185 X, x_a186 X, x_s186 X, x_a187 X, x_s187 X, x_a188 X, x_s188 X, x_a189 X, x_s189 X, x_a190 X, x_s190 X, x_a191 X, x_s191 X, x_a192 X, x_s192 X, x_a193 X, x_s193 X, x_a194 X, x_s194 X, x_a195 X, x_s195 X, x_a196 X, x_s196 X, x_a197 X, x_s197 X, x_a198 X, x_s198 X, x_a199 X, x_s199 X, x_a200 X, x_s200 X, x_a201 X, x_s201 X, x_a202 X, x_s202 X, x_a203 X, x_s203 X, x_a204 X, x_s204 X, Option.bind_some, ↓reduceIte, ite_not, fa_lit, nI_add, nI_mulN, nI_an, nI_sub, irm_n, nI_eq, nI_leI, nI_ltI, v_pow, v_shr, v_bit, nI_cl, nI_m1e, ha, h5, q_found X W ha hp, bI_z]
    refine ⟨t, ?_, Sn_r⟩
    unfold hears
    rw [if_pos h5]
    by_cases hnb : n = b
    · cases hq : (vFo a).testBit p <;> simp [hnb, bI]
    · simp [hnb, bI]
  · have hh : ∀ z : Int32, ∃ t', F_X12_hearsBy_b82 183 189 (nI 4) z (Em g (wa (wa (wa (wa t 189 0 (nI p)) 189 1 (nI n)) 189 2 (nI b)) 189 3 (a (115 + p)))) = some (bI (decide (ev (fun j => if j = 0 then nI p else if j = 1 then nI n else if j = 2 then nI b else if j = 3 then a (115 + p) else z) (cds a 0) [] = [nI 1])), Em g t') ∧ Sn g t t' := by
      intro z
      unfold F_X12_hearsBy_b82
      simp (disch := omega) only [x_rc183 X, x_i183_0 X, x_w183_0 X, x_r183_1 X, x_r183_2 X, x_r183_3 X, x_r183_4 X, x_i183_5 X, x_w183_5 X, x_i183_6 X, x_w183_6 X, x_i183_7 X, x_w183_7 X, x_i183_8 X, x_w183_8 X, x_i183_9 X, x_w183_9 X, x_i183_10 X, x_w183_10 X, x_i183_11 X, x_w183_11 X, x_i183_12 X, x_w183_12 X, x_i183_13 X, x_w183_13 X, x_i183_14 X, x_w183_14 X, x_i183_15 X, x_w183_15 X, x_r183_16 X, x_r183_17 X, x_r183_18 X, x_i183_19 X, x_w183_19 X, x_i183_20 X, x_w183_20 X, x_r183_21 X, x_r183_22 X, x_r183_23 X, x_r183_24 X, x_r183_25 X, x_i183_26 X, x_w183_26 X, x_r183_27 X, x_r183_28 X, x_r183_29 X, x_i183_30 X, x_w183_30 X, x_r183_31 X, x_r183_32 X, x_r183_33 X, x_r183_34 X, x_r183_35 X, x_r183_36 X, x_a184 X, x_s184 X, x_a185 X, x_s185 X, x_a186 X, x_s186 X, x_a187 X, x_s187 X, x_a188 X, x_s188 X, x_a189 X, x_s189 X, x_a190 X, x_s190 X, x_a191 X, x_s191 X, x_a192 X, x_s192 X, x_a193 X, x_s193 X, x_a194 X, x_s194 X, x_a195 X, x_s195 X, x_a196 X, x_s196 X, x_a197 X, x_s197 X, x_a198 X, x_s198 X, x_a199 X, x_s199 X, x_a200 X, x_s200 X, x_a201 X, x_s201 X, x_a202 X, x_s202 X, x_a203 X, x_s203 X, x_a204 X, x_s204 X, Option.bind_some, ↓reduceIte, ite_not, fa_lit, nI_add, nI_mulN, nI_an, nI_sub, irm_n, nI_eq, nI_leI, nI_ltI, v_pow, v_shr, v_bit, nI_cl, nI_m1e]
      obtain ⟨t', e, hS⟩ := q_reckonsn (t := wa (wa (wa (wa (wa t 189 0 (nI p)) 189 1 (nI n)) 189 2 (nI b)) 189 3 (a (115 + p))) 189 4 z) X W (by rw [tA_an (by decide), tA_an (by decide), tA_an (by decide), tA_an (by decide), tA_an (by decide), ha]) (l := 0) (by decide) h5 (fun j => if j = 0 then nI p else if j = 1 then nI n else if j = 2 then nI b else if j = 3 then a (115 + p) else z) (fun j hj => by
        have : j < 5 := by rcases hj with h | h <;> omega
        simp only [tA_as]
        rcases (show j = 0 ∨ j = 1 ∨ j = 2 ∨ j = 3 ∨ j = 4 by omega) with e | e | e | e | e <;> subst e <;> simp [upd])
      rw [e]
      refine ⟨t', ?_, Sn_t (Sn_wa (sn_f rfl) (Sn_wa (sn_f rfl) (Sn_wa (sn_f rfl) (Sn_wa (sn_f rfl) (Sn_wa (sn_f rfl) Sn_r))))) hS⟩
      simp only [Option.bind_some, rz_b]
    have ha4 : tA (wa (wa (wa (wa t 189 0 (nI p)) 189 1 (nI n)) 189 2 (nI b)) 189 3 (a (115 + p))) 184 = a := by rw [tA_an (by decide), tA_an (by decide), tA_an (by decide), tA_an (by decide), ha]
    have ha3 : tA (wa (wa (wa t 189 0 (nI p)) 189 1 (nI n)) 189 2 (nI b)) 184 = a := by rw [tA_an (by decide), tA_an (by decide), tA_an (by decide), ha]
    simp (disch := omega) only [x_rc183 X, x_i183_0 X, x_w183_0 X, x_r183_1 X, x_r183_2 X, x_r183_3 X, x_r183_4 X, x_i183_5 X, x_w183_5 X, x_i183_6 X, x_w183_6 X, x_i183_7 X, x_w183_7 X, x_i183_8 X, x_w183_8 X, x_i183_9 X, x_w183_9 X, x_i183_10 X, x_w183_10 X, x_i183_11 X, x_w183_11 X, x_i183_12 X, x_w183_12 X, x_i183_13 X, x_w183_13 X, x_i183_14 X, x_w183_14 X, x_i183_15 X, x_w183_15 X, x_r183_16 X, x_r183_17 X, x_r183_18 X, x_i183_19 X, x_w183_19 X, x_i183_20 X, x_w183_20 X, x_r183_21 X, x_r183_22 X, x_r183_23 X, x_r183_24 X, x_r183_25 X, x_i183_26 X, x_w183_26 X, x_r183_27 X, x_r183_28 X, x_r183_29 X, x_i183_30 X, x_w183_30 X, x_r183_31 X, x_r183_32 X, x_r183_33 X, x_r183_34 X, x_r183_35 X, x_r183_36 X, x_a184 X, x_s184 X, x_a185 X, x_s185 X, x_a186 X, x_s186 X, x_a187 X, x_s187 X, x_a188 X, x_s188 X, x_a189 X, x_s189 X, x_a190 X, x_s190 X, x_a191 X, x_s191 X, x_a192 X, x_s192 X, x_a193 X, x_s193 X, x_a194 X, x_s194 X, x_a195 X, x_s195 X, x_a196 X, x_s196 X, x_a197 X, x_s197 X, x_a198 X, x_s198 X, x_a199 X, x_s199 X, x_a200 X, x_s200 X, x_a201 X, x_s201 X, x_a202 X, x_s202 X, x_a203 X, x_s203 X, x_a204 X, x_s204 X, Option.bind_some, ↓reduceIte, ite_not, fa_lit, nI_add, nI_mulN, nI_an, nI_sub, irm_n, nI_eq, nI_leI, nI_ltI, v_pow, v_shr, v_bit, nI_cl, nI_m1e, ha, ha3, h5, q_found X W ha4 hp, bI_z]
    obtain ⟨t', e, hS⟩ := hh (bI ((vFo a).testBit p))
    refine ⟨t', ?_, hS⟩
    unfold hears
    rw [if_neg h5]
    rw [show hw a p n b = (fun j => if j = 0 then nI p else if j = 1 then nI n else if j = 2 then nI b else if j = 3 then a (115 + p) else bI ((vFo a).testBit p)) from rfl, ← e]
    cases (vFo a).testBit p <;> simp [bI]
theorem q_hearsNown (X : Fx g) (W : WA a D) (ha : tA t 184 = a) {p n : Nat} (hp : p < vP a) (hn : n ≤ 20) : ∃ t', F_X12_hearsNow 183 (nI p) (nI n) (Em g t) = some (bI (hnow a p n), Em g t') ∧ Sn g t t' := by
  have h2 := wP2 W
  have h3 := wBl2 W hp
  have h4 := wN3 W
  unfold F_X12_hearsNow F_X12_hearsNow_b34
  obtain ⟨t', e, hS⟩ := q_hearsByn X W ha hp hn (show vBl a p ≤ 20 by omega)
  refine ⟨t', ?_, hS⟩
  rcases wBl W hp with hb | ⟨hb, hb2⟩
  · have hb3 : vBl a p = vN a := by
      unfold vBl
      rw [if_pos hb]
    rw [hb3] at e
    simp (disch := omega) only [x_rc183 X, x_i183_0 X, x_w183_0 X, x_r183_1 X, x_r183_2 X, x_r183_3 X, x_r183_4 X, x_i183_5 X, x_w183_5 X, x_i183_6 X, x_w183_6 X, x_i183_7 X, x_w183_7 X, x_i183_8 X, x_w183_8 X, x_i183_9 X, x_w183_9 X, x_i183_10 X, x_w183_10 X, x_i183_11 X, x_w183_11 X, x_i183_12 X, x_w183_12 X, x_i183_13 X, x_w183_13 X, x_i183_14 X, x_w183_14 X, x_i183_15 X, x_w183_15 X, x_r183_16 X, x_r183_17 X, x_r183_18 X, x_i183_19 X, x_w183_19 X, x_i183_20 X, x_w183_20 X, x_r183_21 X, x_r183_22 X, x_r183_23 X, x_r183_24 X, x_r183_25 X, x_i183_26 X, x_w183_26 X, x_r183_27 X, x_r183_28 X, x_r183_29 X, x_i183_30 X, x_w183_30 X, x_r183_31 X, x_r183_32 X, x_r183_33 X, x_r183_34 X, x_r183_35 X, x_r183_36 X, x_a184 X, x_s184 X, x_a185 X, x_s185 X, x_a186 X, x_s186 X, x_a187 X, x_s187 X, x_a188 X, x_s188 X, x_a189 X, x_s189 X, x_a190 X, x_s190 X, x_a191 X, x_s191 X, x_a192 X, x_s192 X, x_a193 X, x_s193 X, x_a194 X, x_s194 X, x_a195 X, x_s195 X, x_a196 X, x_s196 X, x_a197 X, x_s197 X, x_a198 X, x_s198 X, x_a199 X, x_s199 X, x_a200 X, x_s200 X, x_a201 X, x_s201 X, x_a202 X, x_s202 X, x_a203 X, x_s203 X, x_a204 X, x_s204 X, Option.bind_some, ↓reduceIte, ite_not, fa_lit, nI_add, nI_mulN, nI_an, nI_sub, irm_n, nI_eq, nI_leI, nI_ltI, v_pow, v_shr, v_bit, nI_cl, nI_m1e, ha, hb, wN W, e, rz_b]
    unfold hnow
    rw [hb3]
  · have hne : ¬ nI (vBl a p) = -nI 1 := by rw [nI_m1e (by omega)]; exact id
    simp (disch := omega) only [x_rc183 X, x_i183_0 X, x_w183_0 X, x_r183_1 X, x_r183_2 X, x_r183_3 X, x_r183_4 X, x_i183_5 X, x_w183_5 X, x_i183_6 X, x_w183_6 X, x_i183_7 X, x_w183_7 X, x_i183_8 X, x_w183_8 X, x_i183_9 X, x_w183_9 X, x_i183_10 X, x_w183_10 X, x_i183_11 X, x_w183_11 X, x_i183_12 X, x_w183_12 X, x_i183_13 X, x_w183_13 X, x_i183_14 X, x_w183_14 X, x_i183_15 X, x_w183_15 X, x_r183_16 X, x_r183_17 X, x_r183_18 X, x_i183_19 X, x_w183_19 X, x_i183_20 X, x_w183_20 X, x_r183_21 X, x_r183_22 X, x_r183_23 X, x_r183_24 X, x_r183_25 X, x_i183_26 X, x_w183_26 X, x_r183_27 X, x_r183_28 X, x_r183_29 X, x_i183_30 X, x_w183_30 X, x_r183_31 X, x_r183_32 X, x_r183_33 X, x_r183_34 X, x_r183_35 X, x_r183_36 X, x_a184 X, x_s184 X, x_a185 X, x_s185 X, x_a186 X, x_s186 X, x_a187 X, x_s187 X, x_a188 X, x_s188 X, x_a189 X, x_s189 X, x_a190 X, x_s190 X, x_a191 X, x_s191 X, x_a192 X, x_s192 X, x_a193 X, x_s193 X, x_a194 X, x_s194 X, x_a195 X, x_s195 X, x_a196 X, x_s196 X, x_a197 X, x_s197 X, x_a198 X, x_s198 X, x_a199 X, x_s199 X, x_a200 X, x_s200 X, x_a201 X, x_s201 X, x_a202 X, x_s202 X, x_a203 X, x_s203 X, x_a204 X, x_s204 X, Option.bind_some, ↓reduceIte, ite_not, fa_lit, nI_add, nI_mulN, nI_an, nI_sub, irm_n, nI_eq, nI_leI, nI_ltI, v_pow, v_shr, v_bit, nI_cl, nI_m1e, ha, hb, hne, e, rz_b]
    rfl
theorem q_heardBy_ln (X : Fx g) (W : WA a D) {p : Nat} (hp : p < vP a) : ∀ (d k fuel : Nat) (t : Tb), k + d = vN a → d < fuel → tA t 184 = a → ∃ t', F_X12_heardBy_b4 fuel 183 (nI p) (nI (mk (fun n => hnow a p n) k)) (nI k) (Em g t) = some (nI (heard a p), Em g t') ∧ Sn g t t' := by
  have h4 := wN3 W
  intro d
  induction d with
  | zero =>
    intro k fuel t hk hf ha
    obtain ⟨f, rfl⟩ : ∃ f, fuel = f + 1 := ⟨fuel - 1, by omega⟩
    have hk : k = vN a := by omega
    subst hk
    rw [F_X12_heardBy_b4]
    simp (disch := omega) only [x_rc183 X, x_i183_0 X, x_w183_0 X, x_r183_1 X, x_r183_2 X, x_r183_3 X, x_r183_4 X, x_i183_5 X, x_w183_5 X, x_i183_6 X, x_w183_6 X, x_i183_7 X, x_w183_7 X, x_i183_8 X, x_w183_8 X, x_i183_9 X, x_w183_9 X, x_i183_10 X, x_w183_10 X, x_i183_11 X, x_w183_11 X, x_i183_12 X, x_w183_12 X, x_i183_13 X, x_w183_13 X, x_i183_14 X, x_w183_14 X, x_i183_15 X, x_w183_15 X, x_r183_16 X, x_r183_17 X, x_r183_18 X, x_i183_19 X, x_w183_19 X, x_i183_20 X, x_w183_20 X, x_r183_21 X, x_r183_22 X, x_r183_23 X, x_r183_24 X, x_r183_25 X, x_i183_26 X, x_w183_26 X, x_r183_27 X, x_r183_28 X, x_r183_29 X, x_i183_30 X, x_w183_30 X, x_r183_31 X, x_r183_32 X, x_r183_33 X, x_r183_34 X, x_r183_35 X, x_r183_36 X, x_a184 X, x_s184 X, x_a185 X, x_s185 X, x_a186 X, x_s186 X, x_a187 X, x_s187 X, x_a188 X, x_s188 X, x_a189 X, x_s189 X, x_a190 X, x_s190 X, x_a191 X, x_s191 X, x_a192 X, x_s192 X, x_a193 X, x_s193 X, x_a194 X, x_s194 X, x_a195 X, x_s195 X, x_a196 X, x_s196 X, x_a197 X, x_s197 X, x_a198 X, x_s198 X, x_a199 X, x_s199 X, x_a200 X, x_s200 X, x_a201 X, x_s201 X, x_a202 X, x_s202 X, x_a203 X, x_s203 X, x_a204 X, x_s204 X, Option.bind_some, ↓reduceIte, ite_not, fa_lit, nI_add, nI_mulN, nI_an, nI_sub, irm_n, nI_eq, nI_leI, nI_ltI, v_pow, v_shr, v_bit, nI_cl, nI_m1e, ha, wN W, Nat.le_refl]
    exact ⟨t, rfl, Sn_r⟩
  | succ d ih =>
    intro k fuel t hk hf ha
    obtain ⟨f, rfl⟩ : ∃ f, fuel = f + 1 := ⟨fuel - 1, by omega⟩
    have hk2 : ¬ vN a ≤ k := by omega
    rw [F_X12_heardBy_b4]
    obtain ⟨t1, e1, s1⟩ := q_hearsNown X W ha hp (show k ≤ 20 by omega)
    obtain ⟨t2, e2, s2⟩ := ih (k + 1) f t1 (by omega) (by omega) (by rw [Sm_a X (Sn_m s1), ha])
    refine ⟨t2, ?_, Sn_t s1 s2⟩
    cases hh : hnow a p k
    · simp (disch := omega) only [x_rc183 X, x_i183_0 X, x_w183_0 X, x_r183_1 X, x_r183_2 X, x_r183_3 X, x_r183_4 X, x_i183_5 X, x_w183_5 X, x_i183_6 X, x_w183_6 X, x_i183_7 X, x_w183_7 X, x_i183_8 X, x_w183_8 X, x_i183_9 X, x_w183_9 X, x_i183_10 X, x_w183_10 X, x_i183_11 X, x_w183_11 X, x_i183_12 X, x_w183_12 X, x_i183_13 X, x_w183_13 X, x_i183_14 X, x_w183_14 X, x_i183_15 X, x_w183_15 X, x_r183_16 X, x_r183_17 X, x_r183_18 X, x_i183_19 X, x_w183_19 X, x_i183_20 X, x_w183_20 X, x_r183_21 X, x_r183_22 X, x_r183_23 X, x_r183_24 X, x_r183_25 X, x_i183_26 X, x_w183_26 X, x_r183_27 X, x_r183_28 X, x_r183_29 X, x_i183_30 X, x_w183_30 X, x_r183_31 X, x_r183_32 X, x_r183_33 X, x_r183_34 X, x_r183_35 X, x_r183_36 X, x_a184 X, x_s184 X, x_a185 X, x_s185 X, x_a186 X, x_s186 X, x_a187 X, x_s187 X, x_a188 X, x_s188 X, x_a189 X, x_s189 X, x_a190 X, x_s190 X, x_a191 X, x_s191 X, x_a192 X, x_s192 X, x_a193 X, x_s193 X, x_a194 X, x_s194 X, x_a195 X, x_s195 X, x_a196 X, x_s196 X, x_a197 X, x_s197 X, x_a198 X, x_s198 X, x_a199 X, x_s199 X, x_a200 X, x_s200 X, x_a201 X, x_s201 X, x_a202 X, x_s202 X, x_a203 X, x_s203 X, x_a204 X, x_s204 X, Option.bind_some, ↓reduceIte, ite_not, fa_lit, nI_add, nI_mulN, nI_an, nI_sub, irm_n, nI_eq, nI_leI, nI_ltI, v_pow, v_shr, v_bit, nI_cl, nI_m1e, ha, wN W, hk2, e1, hh, bI_z, F_X12_heardBy_b31]
      rw [← e2, ← s_or0 (f := fun n => hnow a p n) hh]
    · simp (disch := omega) only [x_rc183 X, x_i183_0 X, x_w183_0 X, x_r183_1 X, x_r183_2 X, x_r183_3 X, x_r183_4 X, x_i183_5 X, x_w183_5 X, x_i183_6 X, x_w183_6 X, x_i183_7 X, x_w183_7 X, x_i183_8 X, x_w183_8 X, x_i183_9 X, x_w183_9 X, x_i183_10 X, x_w183_10 X, x_i183_11 X, x_w183_11 X, x_i183_12 X, x_w183_12 X, x_i183_13 X, x_w183_13 X, x_i183_14 X, x_w183_14 X, x_i183_15 X, x_w183_15 X, x_r183_16 X, x_r183_17 X, x_r183_18 X, x_i183_19 X, x_w183_19 X, x_i183_20 X, x_w183_20 X, x_r183_21 X, x_r183_22 X, x_r183_23 X, x_r183_24 X, x_r183_25 X, x_i183_26 X, x_w183_26 X, x_r183_27 X, x_r183_28 X, x_r183_29 X, x_i183_30 X, x_w183_30 X, x_r183_31 X, x_r183_32 X, x_r183_33 X, x_r183_34 X, x_r183_35 X, x_r183_36 X, x_a184 X, x_s184 X, x_a185 X, x_s185 X, x_a186 X, x_s186 X, x_a187 X, x_s187 X, x_a188 X, x_s188 X, x_a189 X, x_s189 X, x_a190 X, x_s190 X, x_a191 X, x_s191 X, x_a192 X, x_s192 X, x_a193 X, x_s193 X, x_a194 X, x_s194 X, x_a195 X, x_s195 X, x_a196 X, x_s196 X, x_a197 X, x_s197 X, x_a198 X, x_s198 X, x_a199 X, x_s199 X, x_a200 X, x_s200 X, x_a201 X, x_s201 X, x_a202 X, x_s202 X, x_a203 X, x_s203 X, x_a204 X, x_s204 X, Option.bind_some, ↓reduceIte, ite_not, fa_lit, nI_add, nI_mulN, nI_an, nI_sub, irm_n, nI_eq, nI_leI, nI_ltI, v_pow, v_shr, v_bit, nI_cl, nI_m1e, ha, wN W, hk2, e1, hh, bI_z, F_X12_heardBy_b31, Bool.true_eq_false]
      rw [← e2, ← s_or1 (f := fun n => hnow a p n) hh]
theorem q_heardByn (X : Fx g) (W : WA a D) (ha : tA t 184 = a) {p : Nat} (hp : p < vP a) : ∃ t', F_X12_heardBy 183 (nI p) (Em g t) = some (nI (heard a p), Em g t') ∧ Sn g t t' := by
  have h4 := wN3 W
  exact q_heardBy_ln X W hp (vN a) 0 FU t (by omega) (by show vN a < 1000000; omega) ha
theorem q_followsn (X : Fx g) (W : WA a D) (ha : tA t 184 = a) {i j : Nat} (hi : i ≤ 20) (hj : j ≤ 20) : ∃ t', F_X12_follows 183 (nI i) (nI j) (Em g t) = some (bI (fol a i j), Em g t') ∧ Sn g t t' := by
  unfold F_X12_follows
  by_cases h6 : a 6 = nI 0
  · simp (disch := omega) only [x_rc183 X, x_i183_0 X, x_w183_0 X, x_r183_1 X, x_r183_2 X, x_r183_3 X, x_r183_4 X, x_i183_5 X, x_w183_5 X, x_i183_6 X, x_w183_6 X, x_i183_7 X, x_w183_7 X, x_i183_8 X, x_w183_8 X, x_i183_9 X, x_w183_9 X, x_i183_10 X, x_w183_10 X, x_i183_11 X, x_w183_11 X, x_i183_12 X, x_w183_12 X, x_i183_13 X, x_w183_13 X, x_i183_14 X, x_w183_14 X, x_i183_15 X, x_w183_15 X, x_r183_16 X, x_r183_17 X, x_r183_18 X, x_i183_19 X, x_w183_19 X, x_i183_20 X, x_w183_20 X, x_r183_21 X, x_r183_22 X, x_r183_23 X, x_r183_24 X, x_r183_25 X, x_i183_26 X, x_w183_26 X, x_r183_27 X, x_r183_28 X, x_r183_29 X, x_i183_30 X, x_w183_30 X, x_r183_31 X, x_r183_32 X, x_r183_33 X, x_r183_34 X, x_r183_35 X, x_r183_36 X, x_a184 X, x_s184 X, x_a185 X, x_s185 X, x_a186 X, x_s186 X, x_a187 X, x_s187 X, x_a188 X, x_s188 X, x_a189 X, x_s189 X, x_a190 X, x_s190 X, x_a191 X, x_s191 X, x_a192 X, x_s192 X, x_a193 X, x_s193 X, x_a194 X, x_s194 X, x_a195 X, x_s195 X, x_a196 X, x_s196 X, x_a197 X, x_s197 X, x_a198 X, x_s198 X, x_a199 X, x_s199 X, x_a200 X, x_s200 X, x_a201 X, x_s201 X, x_a202 X, x_s202 X, x_a203 X, x_s203 X, x_a204 X, x_s204 X, Option.bind_some, ↓reduceIte, ite_not, fa_lit, nI_add, nI_mulN, nI_an, nI_sub, irm_n, nI_eq, nI_leI, nI_ltI, v_pow, v_shr, v_bit, nI_cl, nI_m1e, ha, h6]
    refine ⟨t, ?_, Sn_r⟩
    unfold fol
    rw [if_pos h6]
    rfl
  · have hh : ∃ t', F_X12_follows_b47 183 189 (nI 7) (nI (if i < j then j - i else i - j)) (Em g (wa (wa t 189 5 (nI i)) 189 6 (nI j))) = some (bI (fol a i j), Em g t') ∧ Sn g t t' := by
      unfold F_X12_follows_b47
      simp (disch := omega) only [x_rc183 X, x_i183_0 X, x_w183_0 X, x_r183_1 X, x_r183_2 X, x_r183_3 X, x_r183_4 X, x_i183_5 X, x_w183_5 X, x_i183_6 X, x_w183_6 X, x_i183_7 X, x_w183_7 X, x_i183_8 X, x_w183_8 X, x_i183_9 X, x_w183_9 X, x_i183_10 X, x_w183_10 X, x_i183_11 X, x_w183_11 X, x_i183_12 X, x_w183_12 X, x_i183_13 X, x_w183_13 X, x_i183_14 X, x_w183_14 X, x_i183_15 X, x_w183_15 X, x_r183_16 X, x_r183_17 X, x_r183_18 X, x_i183_19 X, x_w183_19 X, x_i183_20 X, x_w183_20 X, x_r183_21 X, x_r183_22 X, x_r183_23 X, x_r183_24 X, x_r183_25 X, x_i183_26 X, x_w183_26 X, x_r183_27 X, x_r183_28 X, x_r183_29 X, x_i183_30 X, x_w183_30 X, x_r183_31 X, x_r183_32 X, x_r183_33 X, x_r183_34 X, x_r183_35 X, x_r183_36 X, x_a184 X, x_s184 X, x_a185 X, x_s185 X, x_a186 X, x_s186 X, x_a187 X, x_s187 X, x_a188 X, x_s188 X, x_a189 X, x_s189 X, x_a190 X, x_s190 X, x_a191 X, x_s191 X, x_a192 X, x_s192 X, x_a193 X, x_s193 X, x_a194 X, x_s194 X, x_a195 X, x_s195 X, x_a196 X, x_s196 X, x_a197 X, x_s197 X, x_a198 X, x_s198 X, x_a199 X, x_s199 X, x_a200 X, x_s200 X, x_a201 X, x_s201 X, x_a202 X, x_s202 X, x_a203 X, x_s203 X, x_a204 X, x_s204 X, Option.bind_some, ↓reduceIte, ite_not, fa_lit, nI_add, nI_mulN, nI_an, nI_sub, irm_n, nI_eq, nI_leI, nI_ltI, v_pow, v_shr, v_bit, nI_cl, nI_m1e]
      obtain ⟨t', e, hS⟩ := q_reckonsn (t := wa (wa (wa t 189 5 (nI i)) 189 6 (nI j)) 189 7 (nI (if i < j then j - i else i - j))) X W (by rw [tA_an (by decide), tA_an (by decide), tA_an (by decide), ha]) (l := 1) (by decide) h6 (gw i j) (fun q hq => by
        have : 5 ≤ q ∧ q < 8 := by rcases hq with h | h <;> omega
        simp only [tA_as]
        rcases (show q = 5 ∨ q = 6 ∨ q = 7 by omega) with e | e | e <;> subst e <;> simp [upd, gw])
      rw [e]
      refine ⟨t', ?_, Sn_t (Sn_wa (sn_f rfl) (Sn_wa (sn_f rfl) (Sn_wa (sn_f rfl) Sn_r))) hS⟩
      simp only [Option.bind_some, rz_b]
      unfold fol
      rw [if_neg h6]
    obtain ⟨t', e, hS⟩ := hh
    refine ⟨t', ?_, hS⟩
    by_cases hij : i < j
    · rw [if_pos hij] at e
      have h1 : ¬ j ≤ i := by omega
      simp (disch := omega) only [x_rc183 X, x_i183_0 X, x_w183_0 X, x_r183_1 X, x_r183_2 X, x_r183_3 X, x_r183_4 X, x_i183_5 X, x_w183_5 X, x_i183_6 X, x_w183_6 X, x_i183_7 X, x_w183_7 X, x_i183_8 X, x_w183_8 X, x_i183_9 X, x_w183_9 X, x_i183_10 X, x_w183_10 X, x_i183_11 X, x_w183_11 X, x_i183_12 X, x_w183_12 X, x_i183_13 X, x_w183_13 X, x_i183_14 X, x_w183_14 X, x_i183_15 X, x_w183_15 X, x_r183_16 X, x_r183_17 X, x_r183_18 X, x_i183_19 X, x_w183_19 X, x_i183_20 X, x_w183_20 X, x_r183_21 X, x_r183_22 X, x_r183_23 X, x_r183_24 X, x_r183_25 X, x_i183_26 X, x_w183_26 X, x_r183_27 X, x_r183_28 X, x_r183_29 X, x_i183_30 X, x_w183_30 X, x_r183_31 X, x_r183_32 X, x_r183_33 X, x_r183_34 X, x_r183_35 X, x_r183_36 X, x_a184 X, x_s184 X, x_a185 X, x_s185 X, x_a186 X, x_s186 X, x_a187 X, x_s187 X, x_a188 X, x_s188 X, x_a189 X, x_s189 X, x_a190 X, x_s190 X, x_a191 X, x_s191 X, x_a192 X, x_s192 X, x_a193 X, x_s193 X, x_a194 X, x_s194 X, x_a195 X, x_s195 X, x_a196 X, x_s196 X, x_a197 X, x_s197 X, x_a198 X, x_s198 X, x_a199 X, x_s199 X, x_a200 X, x_s200 X, x_a201 X, x_s201 X, x_a202 X, x_s202 X, x_a203 X, x_s203 X, x_a204 X, x_s204 X, Option.bind_some, ↓reduceIte, ite_not, fa_lit, nI_add, nI_mulN, nI_an, nI_sub, irm_n, nI_eq, nI_leI, nI_ltI, v_pow, v_shr, v_bit, nI_cl, nI_m1e, ha, h6, h1, e]
    · rw [if_neg hij] at e
      have h1 : j ≤ i := by omega
      simp (disch := omega) only [x_rc183 X, x_i183_0 X, x_w183_0 X, x_r183_1 X, x_r183_2 X, x_r183_3 X, x_r183_4 X, x_i183_5 X, x_w183_5 X, x_i183_6 X, x_w183_6 X, x_i183_7 X, x_w183_7 X, x_i183_8 X, x_w183_8 X, x_i183_9 X, x_w183_9 X, x_i183_10 X, x_w183_10 X, x_i183_11 X, x_w183_11 X, x_i183_12 X, x_w183_12 X, x_i183_13 X, x_w183_13 X, x_i183_14 X, x_w183_14 X, x_i183_15 X, x_w183_15 X, x_r183_16 X, x_r183_17 X, x_r183_18 X, x_i183_19 X, x_w183_19 X, x_i183_20 X, x_w183_20 X, x_r183_21 X, x_r183_22 X, x_r183_23 X, x_r183_24 X, x_r183_25 X, x_i183_26 X, x_w183_26 X, x_r183_27 X, x_r183_28 X, x_r183_29 X, x_i183_30 X, x_w183_30 X, x_r183_31 X, x_r183_32 X, x_r183_33 X, x_r183_34 X, x_r183_35 X, x_r183_36 X, x_a184 X, x_s184 X, x_a185 X, x_s185 X, x_a186 X, x_s186 X, x_a187 X, x_s187 X, x_a188 X, x_s188 X, x_a189 X, x_s189 X, x_a190 X, x_s190 X, x_a191 X, x_s191 X, x_a192 X, x_s192 X, x_a193 X, x_s193 X, x_a194 X, x_s194 X, x_a195 X, x_s195 X, x_a196 X, x_s196 X, x_a197 X, x_s197 X, x_a198 X, x_s198 X, x_a199 X, x_s199 X, x_a200 X, x_s200 X, x_a201 X, x_s201 X, x_a202 X, x_s202 X, x_a203 X, x_s203 X, x_a204 X, x_s204 X, Option.bind_some, ↓reduceIte, ite_not, fa_lit, nI_add, nI_mulN, nI_an, nI_sub, irm_n, nI_eq, nI_leI, nI_ltI, v_pow, v_shr, v_bit, nI_cl, nI_m1e, ha, h6, h1, e]
theorem k_hold_ln {l fr ma : Nat} (L : LwS g w ma) (wf : Nat → Int32) : ∀ (cs : List Int32) (ty : List Bool) (fuel n k : Nat) (t : Tb), cs = cdf a (329 + fr + k) (ma - k) → k ≤ ma → okc l cs ty → ty.length = n → n ≤ 24 → vty (stk (tA t (w + 3)) n) ty → (∀ k, k < ma → tA t (w + 1) k = nI (ccn l (tn (a (329 + fr + k))))) → (∀ j, wok l j → tA t (w + 2) (if l = 0 then j else j - 5) = wf j) → cs.length < fuel → ∃ t', F_X3_holds_b54 fuel w (nI n) (w + 1) (nI ma) (nI k) (Em g t) = some (bI (decide (ev wf cs (stk (tA t (w + 3)) n) = [nI 1])), Em g t') ∧ Sn g t t' := by
  have hma := L.1.2.1
  intro cs
  induction cs with
  | nil =>
    intro ty fuel n k t hcs hk hok hn h24 hv hc hw hf
    obtain ⟨f, rfl⟩ : ∃ f, fuel = f + 1 := ⟨fuel - 1, by omega⟩
    have h1 : ma ≤ k := by
      rcases Nat.lt_or_ge k ma with h | h
      · obtain ⟨q, hq⟩ : ∃ q, ma - k = q + 1 := ⟨ma - k - 1, by omega⟩
        rw [hq, cdf] at hcs
        cases hcs
      · omega
    rw [F_X3_holds_b54]
    have e1 : ty = [true] := hok
    have e2 : n = 1 := by rw [← hn, e1]; rfl
    subst e2
    subst e1
    refine ⟨t, ?_, Sn_r⟩
    have e3 : tA t (w + 3) 0 = nI 0 ∨ tA t (w + 3) 0 = nI 1 := hv.1 rfl
    simp (disch := omega) only [l_rc L, l_r0 L, l_r1 L, l_r2 L, l_al L, l_a1 L, l_a2 L, l_s2 L, l_a3 L, l_s3 L, Option.bind_some, ↓reduceIte, ite_not, fa_lit, nI_add, nI_mulN, nI_an, nI_sub, irm_n, nI_eq, nI_leI, nI_ltI, v_pow, v_shr, v_bit, nI_cl, nI_m1e, h1, Nat.reduceLeDiff, Nat.reduceSub]
    rcases e3 with e3 | e3
    · simp [e3, ev, stk, bI]
      decide
    · have h10 : ¬ nI 1 = nI 0 := by decide
      simp [e3, ev, stk, bI, h10]
  | cons c cs ih =>
    intro ty fuel n k t hcs hk hok hn h24 hv hcc hw hf
    obtain ⟨f, rfl⟩ : ∃ f, fuel = f + 1 := ⟨fuel - 1, by omega⟩
    have hkm : k < ma := by
      rcases Nat.lt_or_ge k ma with h | h
      · exact h
      · rw [show ma - k = 0 by omega, cdf] at hcs
        cases hcs
    obtain ⟨hc, hcs2⟩ : c = a (329 + fr + k) ∧ cs = cdf a (329 + fr + (k + 1)) (ma - (k + 1)) := by
      rw [show ma - k = (ma - (k + 1)) + 1 by omega, cdf] at hcs
      injection hcs with e1 e2
      exact ⟨e1, e2⟩
    have h1 : ¬ ma ≤ k := by omega
    have hf2 : cs.length < f := by simp only [List.length_cons] at hf; omega
    have hck := hcc k hkm
    rw [← hc] at hck
    have hcc3 : ∀ (z : Int32) (q : Nat), ∀ k, k < ma → tA (wa t (w + 3) q z) (w + 1) k = nI (ccn l (tn (a (329 + fr + k)))) := fun z q k hk => by rw [tA_an (by omega)]; exact hcc k hk
    have hw3 : ∀ (z : Int32) (q : Nat), ∀ j, wok l j → tA (wa t (w + 3) q z) (w + 2) (if l = 0 then j else j - 5) = wf j := fun z q j hj => by rw [tA_an (by omega)]; exact hw j hj
    have s3 : ∀ (z : Int32) (q : Nat), Sn g t (wa t (w + 3) q z) := fun z q => Sn_wa (sn_30 L.2.2.2.2.2.1) Sn_r
    rw [F_X3_holds_b54]
    rcases hok with ⟨m, hm, hc2, hty, hok⟩ | ⟨m, hm, hc2, hty, hok⟩ | ⟨hc2, r, hty, hok⟩ | ⟨o, r, ho, h6, hc2, hty, hok⟩
    · rw [hc2, tn_n (by omega), show ccn l m = m by simp [ccn, hm]] at hck
      have h2 : ¬ 2000 ≤ m := by omega
      have h3 : ¬ 1000 ≤ m := by omega
      have h4 : ¬ 24 ≤ n := by omega
      simp (disch := omega) only [l_rc L, l_r0 L, l_r1 L, l_r2 L, l_al L, l_a1 L, l_a2 L, l_s2 L, l_a3 L, l_s3 L, Option.bind_some, ↓reduceIte, ite_not, fa_lit, nI_add, nI_mulN, nI_an, nI_sub, irm_n, nI_eq, nI_leI, nI_ltI, v_pow, v_shr, v_bit, nI_cl, nI_m1e, h1, hck, h2, h3, h4]
      obtain ⟨t', e, hS⟩ := ih (false :: ty) f (n + 1) (k + 1) (wa t (w + 3) n (nI m)) hcs2 (by omega) hok (by simp [hn]) (by omega) (by rw [tA_as, stk, stk_up _ _ _ (Nat.le_refl n)]; exact ⟨(fun q => by cases q), hv⟩) (hcc3 _ _) (hw3 _ _) hf2
      rw [e]
      refine ⟨t', ?_, Sn_t (s3 _ _) hS⟩
      rw [tA_as, stk, pk_us, stk_up _ _ _ (Nat.le_refl n), ev, hc2, tn_n (by omega), stp_num hm]
    · have hm8 : m < 8 := by rcases hm with h | h <;> omega
      have hl5 : (if l = 0 then m else m - 5) < 5 := by
        rcases hm with h | h
        · rw [if_pos h.1]; exact h.2
        · rw [if_neg (by omega)]; omega
      have hcn : ccn l (1000 + m) = 1000 + (if l = 0 then m else m - 5) := by
        unfold ccn
        rw [if_neg (by omega), if_pos (by omega)]
        rcases hm with h | h
        · rw [if_pos h.1, if_pos h.1]
        · rw [if_neg (by omega), if_neg (by omega)]; omega
      have hwm := hw m hm
      rw [hc2, tn_n (by omega), hcn] at hck
      generalize (if l = 0 then m else m - 5) = jj at hck hl5 hwm
      have h2 : ¬ 2000 ≤ 1000 + jj := by omega
      have h3 : 1000 ≤ 1000 + jj := by omega
      have h4 : ¬ 24 ≤ n := by omega
      have h5 : ¬ jj < 0 := by omega
      simp (disch := omega) only [l_rc L, l_r0 L, l_r1 L, l_r2 L, l_al L, l_a1 L, l_a2 L, l_s2 L, l_a3 L, l_s3 L, Option.bind_some, ↓reduceIte, ite_not, fa_lit, nI_add, nI_mulN, nI_an, nI_sub, irm_n, nI_eq, nI_leI, nI_ltI, v_pow, v_shr, v_bit, nI_cl, nI_m1e, h1, hck, h2, h3, h4, F_X3_wordValue, Nat.add_sub_cancel_left, h5, hl5, hwm]
      obtain ⟨t', e, hS⟩ := ih (false :: ty) f (n + 1) (k + 1) (wa t (w + 3) n (wf m)) hcs2 (by omega) hok (by simp [hn]) (by omega) (by rw [tA_as, stk, stk_up _ _ _ (Nat.le_refl n)]; exact ⟨(fun q => by cases q), hv⟩) (hcc3 _ _) (hw3 _ _) hf2
      rw [e]
      refine ⟨t', ?_, Sn_t (s3 _ _) hS⟩
      rw [tA_as, stk, pk_us, stk_up _ _ _ (Nat.le_refl n), ev, hc2, tn_n (by omega), stp_word (by omega)]
    · obtain ⟨n', rfl⟩ : ∃ n', n = n' + 1 := ⟨r.length, by rw [← hn, hty]; rfl⟩
      rw [hc2, tn_n (by omega), show ccn l 3006 = 2000 by simp [ccn]] at hck
      have h2 : ¬ n' + 1 ≤ 0 := by omega
      simp (disch := omega) only [l_rc L, l_r0 L, l_r1 L, l_r2 L, l_al L, l_a1 L, l_a2 L, l_s2 L, l_a3 L, l_s3 L, Option.bind_some, ↓reduceIte, ite_not, fa_lit, nI_add, nI_mulN, nI_an, nI_sub, irm_n, nI_eq, nI_leI, nI_ltI, v_pow, v_shr, v_bit, nI_cl, nI_m1e, h1, hck, h2, F_X3_holds_b119, Nat.reduceLeDiff, Nat.add_sub_cancel]
      rw [hty, stk] at hv
      obtain ⟨t', e, hS⟩ := ih (true :: r) f (n' + 1) (k + 1) (wa t (w + 3) n' (nI 1 - tA t (w + 3) n')) hcs2 (by omega) hok (by rw [← hn, hty]) (by omega) (by
        rw [tA_as, stk, stk_up _ _ _ (Nat.le_refl n'), pk_us]
        refine ⟨fun _ => ?_, hv.2⟩
        rcases hv.1 rfl with q | q
        · rw [q]; right; decide
        · rw [q]; left; decide) (hcc3 _ _) (hw3 _ _) hf2
      rw [e]
      refine ⟨t', ?_, Sn_t (s3 _ _) hS⟩
      rw [tA_as, stk, pk_us, stk_up _ _ _ (Nat.le_refl n'), ev, hc2, tn_n (by omega), stk, stp_not]
    · obtain ⟨n', rfl⟩ : ∃ n', n = n' + 2 := ⟨r.length, by rw [← hn, hty]; rfl⟩
      rw [hc2, tn_n (by omega)] at hck
      have hcb : 2000 < ccn l (3000 + o) ∧ ccn l (3000 + o) < 2009 := by
        rcases (show o = 0 ∨ o = 1 ∨ o = 2 ∨ o = 3 ∨ o = 4 ∨ o = 5 ∨ o = 7 ∨ o = 8 by omega) with e | e | e | e | e | e | e | e <;> subst e <;> simp [ccn]
      have h2 : 2000 ≤ ccn l (3000 + o) := by omega
      have h3 : ¬ ccn l (3000 + o) = 2000 := by omega
      have h4 : ¬ ccn l (3000 + o) ≤ 2000 := by omega
      have h5 : ¬ n' + 2 ≤ 1 := by omega
      simp (disch := omega) only [l_rc L, l_r0 L, l_r1 L, l_r2 L, l_al L, l_a1 L, l_a2 L, l_s2 L, l_a3 L, l_s3 L, Option.bind_some, ↓reduceIte, ite_not, fa_lit, nI_add, nI_mulN, nI_an, nI_sub, irm_n, nI_eq, nI_leI, nI_ltI, v_pow, v_shr, v_bit, nI_cl, nI_m1e, h1, hck, h2, h3, h4, h5, F_X3_holds_b119, F_X3_holds_b155, k_join ho h6, Nat.add_sub_cancel, show n' + 2 - 1 = n' + 1 by omega]
      rw [hty, stk, stk] at hv
      obtain ⟨t', e, hS⟩ := ih (tou o :: r) f (n' + 1) (k + 1) (wa t (w + 3) n' (btw o (tA t (w + 3) n') (tA t (w + 3) (n' + 1)))) hcs2 (by omega) hok (by rw [List.length_cons]; rw [hty] at hn; simp only [List.length_cons] at hn; omega) (by omega) (by
        rw [tA_as, stk, stk_up _ _ _ (Nat.le_refl n'), pk_us]
        refine ⟨fun q => ?_, hv.2.2⟩
        exact btw_01 (of_decide_eq_true q) ho h6 hv.2.1 hv.1) (hcc3 _ _) (hw3 _ _) hf2
      rw [e]
      refine ⟨t', ?_, Sn_t (s3 _ _) hS⟩
      rw [tA_as, stk, pk_us, stk_up _ _ _ (Nat.le_refl n'), ev, hc2, tn_n (by omega), stk, stk, stp_op h6]
theorem k_holdsn {l : Nat} (P : LwP g t w a l) (ho : okc l (cds a l) []) (x1 x2 x3 x4 x5 : Int32) (wf : Nat → Int32) (hw : ∀ j, wok l j → (fun q => if q = 0 then x1 else if q = 1 then x2 else if q = 2 then x3 else if q = 3 then x4 else x5) (if l = 0 then j else j - 5) = wf j) : ∃ t', F_X3_holds w x1 x2 x3 x4 x5 (Em g t) = some (bI (decide (ev wf (cds a l) [] = [nI 1])), Em g t') ∧ Sn g t t' := by
  have L := P.1
  have s2 : ∀ (t : Tb) (z : Int32) (q : Nat) (t0 : Tb), Sn g t0 t → Sn g t0 (wa t (w + 2) q z) := fun t z q t0 h => Sn_wa (sn_30 L.2.2.2.2.1.1) h
  unfold F_X3_holds
  simp (disch := omega) only [l_rc L, l_r0 L, l_r1 L, l_r2 L, l_al L, l_a1 L, l_a2 L, l_s2 L, l_a3 L, l_s3 L, Option.bind_some, ↓reduceIte, ite_not, fa_lit, nI_add, nI_mulN, nI_an, nI_sub, irm_n, nI_eq, nI_leI, nI_ltI, v_pow, v_shr, v_bit, nI_cl, nI_m1e]
  have hS0 : Sn g t (wa (wa (wa (wa (wa t (w + 2) 0 x1) (w + 2) 1 x2) (w + 2) 2 x3) (w + 2) 3 x4) (w + 2) 4 x5) := s2 _ _ _ _ (s2 _ _ _ _ (s2 _ _ _ _ (s2 _ _ _ _ (s2 _ _ _ _ Sn_r))))
  obtain ⟨t', e, hS⟩ := k_hold_ln (l := l) (fr := vFr a l) L wf (cds a l) [] FU 0 0 (wa (wa (wa (wa (wa t (w + 2) 0 x1) (w + 2) 1 x2) (w + 2) 2 x3) (w + 2) 3 x4) (w + 2) 4 x5) rfl (by omega) ho rfl (by omega) trivial (fun k hk => by
      rw [tA_an (by omega), tA_an (by omega), tA_an (by omega), tA_an (by omega), tA_an (by omega)]
      exact P.2 k hk) (fun j hj => by
      rw [← hw j hj]
      have h5 : (if l = 0 then j else j - 5) < 5 := by
        rcases hj with h | h
        · rw [if_pos h.1]; exact h.2
        · rw [if_neg (by omega)]; omega
      generalize (if l = 0 then j else j - 5) = jj at h5
      simp only [tA_as]
      rcases (show jj = 0 ∨ jj = 1 ∨ jj = 2 ∨ jj = 3 ∨ jj = 4 by omega) with e | e | e | e | e <;> subst e <;> simp [upd]) (by
      rw [cds, cds_len]
      have := L.1.2
      show vMa a l < 1000000
      omega)
  exact ⟨t', e, Sn_t hS0 hS⟩
theorem k_hw_ln (X : Fx g) (V : VaS g v) {p b : Nat} (hp : p < vP a) (hb : b ≤ 20) : ∀ (d k fuel : Nat) (t : Tb), CP g t v a D → k + d = vN a → d < fuel → ∃ t', F_X10_heardWith_b13 fuel v 95 (nI p) (nI b) (bI ((vFo a).testBit p)) (nI (mk (fun n => hears a p n b) k)) (nI k) (Em g t) = some (nI (mk (fun n => hears a p n b) (vN a)), Em g t') ∧ Sn g t t' := by
  intro d
  induction d with
  | zero =>
    intro k fuel t C hk hf
    have h2 := wN3 C.1
    obtain ⟨f, rfl⟩ : ∃ f, fuel = f + 1 := ⟨fuel - 1, by omega⟩
    have hk : k = vN a := by omega
    subst hk
    rw [F_X10_heardWith_b13]
    simp (disch := omega) only [v_rc V, v_i0 V, v_i1 V, v_i2 V, v_i3 V, v_i4 V, v_r5 V, v_r6 V, v_r7 V, v_r8 V, v_r9 V, v_r10 V, v_r11 V, v_a1 V, v_a2 V, v_a3 V, v_a4 V, v_a5 V, v_a6 V, Option.bind_some, ↓reduceIte, ite_not, fa_lit, nI_add, nI_mulN, nI_an, nI_sub, irm_n, nI_eq, nI_leI, nI_ltI, v_pow, v_shr, v_bit, nI_cl, nI_m1e, vN_ C, Nat.le_refl]
    exact ⟨t, rfl, Sn_r⟩
  | succ d ih =>
    intro k fuel t C hk hf
    have h2 := wN3 C.1
    have h3 := wP2 C.1
    obtain ⟨f, rfl⟩ : ∃ f, fuel = f + 1 := ⟨fuel - 1, by omega⟩
    have hk2 : ¬ vN a ≤ k := by omega
    have fin : ∀ t1, Sn g t t1 → ∃ t', F_X10_heardWith_b75 (F_X10_heardWith_b13 f) v 95 (nI p) (nI b) (bI ((vFo a).testBit p)) (nI (mk (fun n => hears a p n b) k)) (nI k) (bI (hears a p k b)) (Em g t1) = some (nI (mk (fun n => hears a p n b) (vN a)), Em g t') ∧ Sn g t t' := by
      intro t1 s1
      obtain ⟨t2, e2, s2⟩ := ih (k + 1) f t1 (CP_s X C (Sn_m s1)) (by omega) (by omega)
      refine ⟨t2, ?_, Sn_t s1 s2⟩
      unfold F_X10_heardWith_b75
      cases hh : hears a p k b
      · simp (disch := omega) only [Option.bind_some, ↓reduceIte, ite_not, fa_lit, nI_add, nI_mulN, nI_an, nI_sub, irm_n, nI_eq, nI_leI, nI_ltI, v_pow, v_shr, v_bit, nI_cl, nI_m1e, bI_z]
        rw [← e2, mk_no (fun n => hears a p n b) k hh]
      · simp (disch := omega) only [Option.bind_some, ↓reduceIte, ite_not, fa_lit, nI_add, nI_mulN, nI_an, nI_sub, irm_n, nI_eq, nI_leI, nI_ltI, v_pow, v_shr, v_bit, nI_cl, nI_m1e, bI_z, Bool.true_eq_false]
        rw [← e2, s_or1 (f := fun n => hears a p n b) hh]
    rw [F_X10_heardWith_b13]
    rcases C.2.2.1.2.2.2.2 with ⟨h5, hr⟩ | ⟨h5, w, hr, hL⟩
    · have eq : ∀ t, fQ (Em g t) v 9 12 = some none := fun t => y_fQ (Or.inr V.2.1) hr (v_69 V) (by decide) rfl
      obtain ⟨t2, e2, s2⟩ := fin t Sn_r
      refine ⟨t2, ?_, s2⟩
      rw [← e2]
      simp (disch := omega) only [v_rc V, v_i0 V, v_i1 V, v_i2 V, v_i3 V, v_i4 V, v_r5 V, v_r6 V, v_r7 V, v_r8 V, v_r9 V, v_r10 V, v_r11 V, v_a1 V, v_a2 V, v_a3 V, v_a4 V, v_a5 V, v_a6 V, Option.bind_some, ↓reduceIte, ite_not, fa_lit, nI_add, nI_mulN, nI_an, nI_sub, irm_n, nI_eq, nI_leI, nI_ltI, v_pow, v_shr, v_bit, nI_cl, nI_m1e, vN_ C, hk2, eq, bI_z]
      have hh : hears a p k b = (!decide (k = b) || (vFo a).testBit p) := by
        unfold hears
        rw [if_pos h5]
      rw [hh]
      cases (vFo a).testBit p
      · by_cases hkb : k = b
        · simp [hkb, bI]
        · simp [hkb, bI]
      · simp [bI]
    · have eq : ∀ t, fQ (Em g t) v 9 12 = some (some w) := fun t => y_fQ (Or.inr V.2.1) hr (v_69 V) (by decide) rfl
      have er : ∀ t, fR (Em g t) v 9 12 = some w := fun t => y_fR (Or.inr V.2.1) hr (v_69 V) (by decide) rfl
      have L := hL.1
      have hok : okc 0 (cds a 0) [] := by
        rcases wLw C.1 (l := 0) (by decide) with q | q
        · exact absurd q h5
        · exact q.2.2.2.2
      obtain ⟨t1, e1, s1⟩ := k_holdsn hL hok (nI p) (nI k) (nI b) (a (115 + p)) (bI ((vFo a).testBit p)) (hw a p k b) (fun j hj => by
        have hj5 : j < 5 := by rcases hj with h | h <;> omega
        rcases (show j = 0 ∨ j = 1 ∨ j = 2 ∨ j = 3 ∨ j = 4 by omega) with e | e | e | e | e <;> subst e <;> simp [hw])
      obtain ⟨t2, e2, s2⟩ := fin t1 s1
      refine ⟨t2, ?_, s2⟩
      rw [← e2]
      have hh : hears a p k b = decide (ev (hw a p k b) (cds a 0) [] = [nI 1]) := by
        unfold hears
        rw [if_neg h5]
      simp (disch := omega) only [v_rc V, v_i0 V, v_i1 V, v_i2 V, v_i3 V, v_i4 V, v_r5 V, v_r6 V, v_r7 V, v_r8 V, v_r9 V, v_r10 V, v_r11 V, v_a1 V, v_a2 V, v_a3 V, v_a4 V, v_a5 V, v_a6 V, x_rc95 X, x_r95_0 X, x_r95_1 X, x_r95_2 X, x_i95_3 X, x_w95_3 X, x_i95_4 X, x_w95_4 X, x_a96 X, x_s96 X, x_a97 X, x_s97 X, x_a98 X, x_s98 X, Option.bind_some, ↓reduceIte, ite_not, fa_lit, nI_add, nI_mulN, nI_an, nI_sub, irm_n, nI_eq, nI_leI, nI_ltI, v_pow, v_shr, v_bit, nI_cl, nI_m1e, vN_ C, hk2, eq, er, bI_z, cEa_ C hp, F_X10_heardWith_b72, l_rc L]
      rw [hh]
      cases hf : (vFo a).testBit p
      · rw [hf] at e1
        rw [if_pos rfl]
        rw [show nI 0 = bI false from rfl, e1]
        rfl
      · rw [hf] at e1
        rw [if_neg (by decide)]
        rw [show nI 1 = bI true from rfl, e1]
        rfl
theorem k_heardWithn (X : Fx g) (V : VaS g v) (C : CP g t v a D) {p b : Nat} (hp : p < vP a) (hb : b ≤ 20) : ∃ t', F_X10_heardWith v 95 (nI p) (nI b) (Em g t) = some (nI (mk (fun n => hears a p n b) (vN a)), Em g t') ∧ Sn g t t' := by
  have h2 := wN3 C.1
  unfold F_X10_heardWith
  simp (disch := omega) only [x_rc95 X, x_r95_0 X, x_r95_1 X, x_r95_2 X, x_i95_3 X, x_w95_3 X, x_i95_4 X, x_w95_4 X, x_a96 X, x_s96 X, x_a97 X, x_s97 X, x_a98 X, x_s98 X, Option.bind_some, ↓reduceIte, ite_not, k_found X C hp]
  exact k_hw_ln X V hp hb (vN a) 0 FU t C (by omega) (by show vN a < 1000000; omega)
theorem k_heardByn (X : Fx g) (V : VaS g v) (C : CP g t v a D) {p : Nat} (hp : p < vP a) : ∃ t', F_X10_heardBy v 95 (nI p) (Em g t) = some (nI (heard a p), Em g t') ∧ Sn g t t' := by
  have h2 := wN3 C.1
  have h3 := wP2 C.1
  have h4 := wBl2 C.1 hp
  unfold F_X10_heardBy F_X10_heardBy_b23
  obtain ⟨t', e, s⟩ := k_heardWithn X V C hp (show vBl a p ≤ 20 by omega)
  refine ⟨t', ?_, s⟩
  rcases wBl C.1 hp with hb | ⟨hb, hb2⟩
  · have hb3 : vBl a p = vN a := by
      unfold vBl
      rw [if_pos hb]
    rw [hb3] at e
    simp (disch := omega) only [v_rc V, v_i0 V, v_i1 V, v_i2 V, v_i3 V, v_i4 V, v_r5 V, v_r6 V, v_r7 V, v_r8 V, v_r9 V, v_r10 V, v_r11 V, v_a1 V, v_a2 V, v_a3 V, v_a4 V, v_a5 V, v_a6 V, x_rc95 X, x_r95_0 X, x_r95_1 X, x_r95_2 X, x_i95_3 X, x_w95_3 X, x_i95_4 X, x_w95_4 X, x_a96 X, x_s96 X, x_a97 X, x_s97 X, x_a98 X, x_s98 X, Option.bind_some, ↓reduceIte, ite_not, fa_lit, nI_add, nI_mulN, nI_an, nI_sub, irm_n, nI_eq, nI_leI, nI_ltI, v_pow, v_shr, v_bit, nI_cl, nI_m1e, cBl_ C hp, hb, vN_ C, e]
    unfold heard hnow
    rw [hb3]
  · have hne : ¬ nI (vBl a p) = -nI 1 := by rw [nI_m1e (by omega)]; exact id
    simp (disch := omega) only [v_rc V, v_i0 V, v_i1 V, v_i2 V, v_i3 V, v_i4 V, v_r5 V, v_r6 V, v_r7 V, v_r8 V, v_r9 V, v_r10 V, v_r11 V, v_a1 V, v_a2 V, v_a3 V, v_a4 V, v_a5 V, v_a6 V, x_rc95 X, x_r95_0 X, x_r95_1 X, x_r95_2 X, x_i95_3 X, x_w95_3 X, x_i95_4 X, x_w95_4 X, x_a96 X, x_s96 X, x_a97 X, x_s97 X, x_a98 X, x_s98 X, Option.bind_some, ↓reduceIte, ite_not, fa_lit, nI_add, nI_mulN, nI_an, nI_sub, irm_n, nI_eq, nI_leI, nI_ltI, v_pow, v_shr, v_bit, nI_cl, nI_m1e, cBl_ C hp, hb, hne, e]
    rfl
theorem k_hall_ln (X : Fx g) (V : VaS g v) {s : Nat} (hs : s < 2 ^ 31) : ∀ (d k fuel : Nat) (t : Tb), CP g t v a D → k + d = vP a → d < fuel → ∃ t', F_X10_heardByAll_b12 fuel v 95 (nI s) (nI (mk (hall a s k) (vN a))) (nI k) (Em g t) = some (nI (mk (hall a s (vP a)) (vN a)), Em g t') ∧ Sn g t t' := by
  intro d
  induction d with
  | zero =>
    intro k fuel t C hk hf
    have h4 := wP2 C.1
    obtain ⟨f, rfl⟩ : ∃ f, fuel = f + 1 := ⟨fuel - 1, by omega⟩
    have hk : k = vP a := by omega
    subst hk
    rw [F_X10_heardByAll_b12]
    simp (disch := omega) only [v_rc V, v_i0 V, v_i1 V, v_i2 V, v_i3 V, v_i4 V, v_r5 V, v_r6 V, v_r7 V, v_r8 V, v_r9 V, v_r10 V, v_r11 V, v_a1 V, v_a2 V, v_a3 V, v_a4 V, v_a5 V, v_a6 V, Option.bind_some, ↓reduceIte, ite_not, fa_lit, nI_add, nI_mulN, nI_an, nI_sub, irm_n, nI_eq, nI_leI, nI_ltI, v_pow, v_shr, v_bit, nI_cl, nI_m1e, vP_ C, Nat.le_refl]
    exact ⟨t, rfl, Sn_r⟩
  | succ d ih =>
    intro k fuel t C hk hf
    have h4 := wP2 C.1
    obtain ⟨f, rfl⟩ : ∃ f, fuel = f + 1 := ⟨fuel - 1, by omega⟩
    have hk2 : ¬ vP a ≤ k := by omega
    rw [F_X10_heardByAll_b12]
    have hsp : ∀ n, hall a s (k + 1) n = (hall a s k n && decide (s.testBit k = true → hnow a k n = true)) := by
      intro n
      unfold hall
      rw [Bool.eq_iff_iff]
      simp only [Bool.and_eq_true, decide_eq_true_eq]
      constructor
      · intro h
        exact ⟨fun p hp => h p (by omega), h k (by omega)⟩
      · rintro ⟨h1, h2⟩ p hp
        rcases Nat.lt_or_ge p k with h | h
        · exact h1 p h
        · rw [show p = k by omega]
          exact h2
    have n1 : nI 1 = bI true := rfl
    have b1 : ∀ b : Bool, (bI b = nI 1) = (b = true) := by decide
    cases hq : s.testBit k
    · obtain ⟨t2, e2, s2⟩ := ih (k + 1) f t C (by omega) (by omega)
      refine ⟨t2, ?_, s2⟩
      rw [← e2]
      have e3 : mk (hall a s k) (vN a) = mk (hall a s (k + 1)) (vN a) := mk_cong (fun n _ => by rw [hsp]; simp [hq])
      simp (disch := omega) only [v_rc V, v_i0 V, v_i1 V, v_i2 V, v_i3 V, v_i4 V, v_r5 V, v_r6 V, v_r7 V, v_r8 V, v_r9 V, v_r10 V, v_r11 V, v_a1 V, v_a2 V, v_a3 V, v_a4 V, v_a5 V, v_a6 V, Option.bind_some, ↓reduceIte, ite_not, fa_lit, nI_add, nI_mulN, nI_an, nI_sub, irm_n, nI_eq, nI_leI, nI_ltI, v_pow, v_shr, v_bit, nI_cl, nI_m1e, vP_ C, hk2, hq, b1, e3, Bool.false_eq_true]
    · obtain ⟨t1, e1, s1⟩ := k_heardByn X V C (show k < vP a by omega)
      obtain ⟨t2, e2, s2⟩ := ih (k + 1) f t1 (CP_s X C (Sn_m s1)) (by omega) (by omega)
      refine ⟨t2, ?_, Sn_t s1 s2⟩
      rw [← e2]
      have e3 : mk (hall a s k) (vN a) &&& heard a k = mk (hall a s (k + 1)) (vN a) := by
        unfold heard
        rw [mk_and]
        exact mk_cong (fun n _ => by rw [hsp]; simp [hq])
      have e4 : nI (mk (hall a s k) (vN a)) &&& nI (heard a k) = nI (mk (hall a s (k + 1)) (vN a)) := by rw [fa_and, e3]
      simp (disch := omega) only [v_rc V, v_i0 V, v_i1 V, v_i2 V, v_i3 V, v_i4 V, v_r5 V, v_r6 V, v_r7 V, v_r8 V, v_r9 V, v_r10 V, v_r11 V, v_a1 V, v_a2 V, v_a3 V, v_a4 V, v_a5 V, v_a6 V, Option.bind_some, ↓reduceIte, ite_not, fa_lit, nI_add, nI_mulN, nI_an, nI_sub, irm_n, nI_eq, nI_leI, nI_ltI, v_pow, v_shr, v_bit, nI_cl, nI_m1e, vP_ C, hk2, hq, b1, e1, e4]
theorem k_heardByAlln (X : Fx g) (V : VaS g v) (C : CP g t v a D) {s : Nat} (hs : s < 2 ^ 31) : ∃ t', F_X10_heardByAll v 95 (nI s) (Em g t) = some (nI (mk (hall a s (vP a)) (vN a)), Em g t') ∧ Sn g t t' := by
  have h4 := wP2 C.1
  have h5 := wN3 C.1
  have hp := Nat.two_pow_pos (vN a)
  obtain ⟨t', e, h⟩ := k_hall_ln X V hs (vP a) 0 FU t C (by omega) (by show vP a < 1000000; omega)
  refine ⟨t', ?_, h⟩
  rw [← e]
  unfold F_X10_heardByAll
  simp (disch := omega) only [v_rc V, v_i0 V, v_i1 V, v_i2 V, v_i3 V, v_i4 V, v_r5 V, v_r6 V, v_r7 V, v_r8 V, v_r9 V, v_r10 V, v_r11 V, v_a1 V, v_a2 V, v_a3 V, v_a4 V, v_a5 V, v_a6 V, Option.bind_some, ↓reduceIte, ite_not, fa_lit, nI_add, nI_mulN, nI_an, nI_sub, irm_n, nI_eq, nI_leI, nI_ltI, v_pow, v_shr, v_bit, nI_cl, nI_m1e, vN_ C]
  rw [show mk (hall a s 0) (vN a) = 2 ^ vN a - 1 by
    rw [← mk_all]
    exact mk_cong (fun n _ => by simp [hall])]
end XSn
