/-! ===== the class's deeds, on a state's cells ===== -/
def Ox (x : Nat) (t t' : Tb) : Prop := (∀ a k, a ≠ x → tI t' a k = tI t a k) ∧ (∀ b, b ≠ x + 1 → b ≠ x + 2 → b ≠ x + 3 → tA t' b = tA t b) ∧ (∀ b, tJ t' b = tJ t b)
/-- all but the state -/
def Nq (a b : Nat → Int32) : Prop := ∀ i, i < 107 ∨ 127 ≤ i → b i = a i
section XK
variable {g : Sk} {t : Tb} {a : Nat → Int32}
variable {D v x y : Nat} {b : Nat → Int32} {t' t'' : Tb}
theorem Nq_r : Nq a a := fun _ _ => rfl
theorem Nq_t {c : Nat → Int32} (h : Nq a b) (h2 : Nq b c) : Nq a c := fun i hi => (h2 i hi).trans (h i hi)
theorem Nq_V (h : Nq a b) : Vq a b := fun i hi => h i (by omega)
theorem Nq_u {k : Nat} {z : Int32} (q : Nq a b) (h1 : 107 ≤ k) (h2 : k < 127) : Nq a (upd b k z) := by
  intro i hi
  rw [upd_n (by omega)]
  exact q i hi
theorem Ox_r : Ox x t t := ⟨fun _ _ _ => rfl, fun _ _ _ _ => rfl, fun _ => rfl⟩
theorem Ox_t (h : Ox x t t') (h2 : Ox x t' t'') : Ox x t t'' := ⟨fun a k q => (h2.1 a k q).trans (h.1 a k q), fun b q1 q2 q3 => (h2.2.1 b q1 q2 q3).trans (h.2.1 b q1 q2 q3), fun b => (h2.2.2 b).trans (h.2.2 b)⟩
theorem Ox_wi {k : Nat} {z : Int32} (h : Ox x t t') : Ox x t (wi t' x k z) := ⟨fun a j q => (tI_ia q).trans (h.1 a j q), h.2.1, h.2.2⟩
theorem Ox_wa {c k : Nat} {z : Int32} (hc : c = x + 1 ∨ c = x + 2 ∨ c = x + 3) (h : Ox x t t') : Ox x t (wa t' c k z) := ⟨h.1, fun b q1 q2 q3 => (tA_an (by omega)).trans (h.2.1 b q1 q2 q3), h.2.2⟩
theorem Ox_wr {c : Nat} {f : Nat → Int32} (hc : c = x + 1 ∨ c = x + 2 ∨ c = x + 3) (h : Ox x t t') : Ox x t (wr t' c f) := ⟨h.1, fun b q1 q2 q3 => (tA_rn (by omega)).trans (h.2.1 b q1 q2 q3), h.2.2⟩
theorem StP_o {P o : Nat} {f : Nat → Int32} (hd : y + 4 ≤ x ∨ x + 4 ≤ y) (h : StP t y P f o) (s : Ox x t t') : StP t' y P f o := by
  unfold StP
  rw [s.1 y 3 (by omega), s.1 y 4 (by omega), s.2.1 (y + 1) (by omega) (by omega) (by omega), s.2.1 (y + 2) (by omega) (by omega) (by omega), s.2.1 (y + 3) (by omega) (by omega) (by omega)]
  exact h
theorem y_cp6 {c d : Nat} (hs : ic (gS g c)) (hn : gN g c = 6) (hs2 : ic (gS g d)) (hn2 : gN g d = 6) (hc : 69 ≤ c) (hd : 69 ≤ d) : cpI (Em g t) c (nI 0) d (nI 0) (nI 6) = some (Em g (wr t d (va_cpy (tA t c) (tA t d) 0 0 6))) := by
  have h := E_cpI (sc := g.1) (n := gn g) (S := gS g) (N := gN g) (I := tI t) (A := tA t) (J := tJ t) (R := gR g) (Q := gQ g) (a := c) (b := d) (sp := nI 0) (dp := nI 0) (m := nI 6) hc hd hs hs2 (by decide) (by decide) (by decide) (by rw [hn]; decide) (by rw [hn2]; decide)
  exact h
theorem k_copy (Zx : StS g x) (Zy : StS g y) (hd : x + 4 ≤ y ∨ y + 4 ≤ x) : ∃ t', F_X6_copyFrom x y (Em g t) = some ((), Em g t') ∧ Ox x t t' ∧ (tI t' x 3 = tI t y 3 ∧ tI t' x 4 = tI t y 4) ∧ ∀ p, p < 6 → tA t' (x + 1) p = tA t (y + 1) p ∧ tA t' (x + 2) p = tA t (y + 2) p ∧ tA t' (x + 3) p = tA t (y + 3) p := by
  have h69 := Zx.1
  have h69y := Zy.1
  have c1 : ∀ t, cpI (Em g t) (y + 1) (nI 0) (x + 1) (nI 0) (nI 6) = some (Em g (wr t (x + 1) (va_cpy (tA t (y + 1)) (tA t (x + 1)) 0 0 6))) := fun t => y_cp6 Zy.2.2.2.1.1 Zy.2.2.2.1.2 Zx.2.2.2.1.1 Zx.2.2.2.1.2 (by omega) (by omega)
  have c2 : ∀ t, cpI (Em g t) (y + 2) (nI 0) (x + 2) (nI 0) (nI 6) = some (Em g (wr t (x + 2) (va_cpy (tA t (y + 2)) (tA t (x + 2)) 0 0 6))) := fun t => y_cp6 Zy.2.2.2.2.1.1 Zy.2.2.2.2.1.2 Zx.2.2.2.2.1.1 Zx.2.2.2.2.1.2 (by omega) (by omega)
  have c3 : ∀ t, cpI (Em g t) (y + 3) (nI 0) (x + 3) (nI 0) (nI 6) = some (Em g (wr t (x + 3) (va_cpy (tA t (y + 3)) (tA t (x + 3)) 0 0 6))) := fun t => y_cp6 Zy.2.2.2.2.2.1 Zy.2.2.2.2.2.2 Zx.2.2.2.2.2.1 Zx.2.2.2.2.2.2 (by omega) (by omega)
  unfold F_X6_copyFrom
  simp only [fa_lit, z_r0 Zx, z_r1 Zx, z_r2 Zx, z_r0 Zy, z_r1 Zy, z_r2 Zy, z_i3 Zy, z_i4 Zy, z_w3 Zx, z_w4 Zx, c1, c2, c3, Option.bind_some]
  refine ⟨_, rfl, Ox_wi (Ox_wi (Ox_wr (by omega) (Ox_wr (by omega) (Ox_wr (by omega) Ox_r)))), ⟨?_, ?_⟩, fun p hp => ⟨?_, ?_, ?_⟩⟩
  · rw [tI_ik (by decide), tI_is]; rfl
  · rw [tI_is, tI_ia (by omega)]; rfl
  · rw [tA_wi, tA_wi, tA_rn (by omega), tA_rn (by omega), tA_rs]
    simp [va_cpy, hp]
  · rw [tA_wi, tA_wi, tA_rn (by omega), tA_rs, tA_rn (by omega)]
    simp [va_cpy, hp]
  · rw [tA_wi, tA_wi, tA_rs, tA_rn (by omega), tA_rn (by omega)]
    simp [va_cpy, hp]
theorem k_copyP (Zx : StS g x) (Zy : StS g y) (hd : x + 4 ≤ y ∨ y + 4 ≤ x) {P o : Nat} {f : Nat → Int32} (hP : P ≤ 6) (S : StP t y P f o) : ∃ t', F_X6_copyFrom x y (Em g t) = some ((), Em g t') ∧ Ox x t t' ∧ StP t' x P f o := by
  obtain ⟨t', e, o1, h1, h2⟩ := k_copy (t := t) Zx Zy hd
  refine ⟨t', e, o1, ⟨⟨h1.1.trans S.1.1, h1.2.trans S.1.2⟩, fun p hp => ?_⟩⟩
  have h := h2 p (by omega)
  have s := S.2 p hp
  exact ⟨h.1.trans s.1, h.2.1.trans s.2.1, h.2.2.trans s.2.2⟩
theorem k_move (C : CP g t v a D) (q : Vq a b) (W : WA b D) (Z : StS g x) (S : StP t x (vP b) b 107) (p k : Int32) : ∃ t', F_X0_move v x p k (Em g t) = some (nI (wgI b p.toInt k.toInt), Em g t') ∧ Ox x t t' ∧ StP t' x (vP b) (if wgI b p.toInt k.toInt = 0 then mvr b (tn p) (tn k) else b) 107 := by
  have V := C.2.1
  have h2 := wP2 W
  have h3 := wK2 W
  have eP : vP a = vP b := (q_vP q).symm
  have eK : vK a = vK b := (q_vK q).symm
  unfold F_X0_move
  rcases okx_c p (vP b) (by omega) with hp | ⟨hp, p', hp', rfl⟩
  · have e : wgI b p.toInt k.toInt = 1 := by
      unfold wgI
      unfold okx at hp
      rw [if_neg (fun z => by simp [z.1] at hp)]
    refine ⟨t, ?_, Ox_r, by rw [e]; exact S⟩
    rw [e]
    simp (disch := omega) only [v_rc V, v_i0 V, v_i1 V, v_i2 V, v_i3 V, v_i4 V, v_r5 V, v_r6 V, v_r7 V, v_r8 V, v_r9 V, v_r10 V, v_r11 V, v_a1 V, v_a2 V, v_a3 V, v_a4 V, v_a5 V, v_a6 V, Option.bind_some, ↓reduceIte, ite_not, fa_lit, k_person V C, eP, hp, bI_z]
  · rcases okx_c k (vK b) (by omega) with hk | ⟨hk, k', hk', rfl⟩
    · have e : wgI b (nI p').toInt k.toInt = 1 := by
        unfold wgI
        unfold okx at hk
        rw [if_neg (fun z => by simp [z.2] at hk)]
      refine ⟨t, ?_, Ox_r, by rw [e]; exact S⟩
      rw [e]
      simp (disch := omega) only [v_rc V, v_i0 V, v_i1 V, v_i2 V, v_i3 V, v_i4 V, v_r5 V, v_r6 V, v_r7 V, v_r8 V, v_r9 V, v_r10 V, v_r11 V, v_a1 V, v_a2 V, v_a3 V, v_a4 V, v_a5 V, v_a6 V, Option.bind_some, ↓reduceIte, ite_not, fa_lit, k_person V C, k_place V C, eP, eK, hp, hk, bI_z, Bool.true_eq_false]
    · have hat := wAt2 W hp'
      have hw := p_31 (wWy2 W hat) (by omega)
      have e : wgI b (nI p').toInt (nI k').toInt = if (vWy b (vAt b p')).testBit k' then 0 else 2 := by
        unfold wgI
        rw [nI_toInt (by omega), nI_toInt (by omega), if_pos (by omega), Int.toNat_natCast, Int.toNat_natCast]
      have e1 : tA t (x + 1) p' = nI (vAt b p') := by rw [(S.2 p' hp').1]; exact wAt W hp'
      have e2 : tA t (v + 5) (vAt b p') = nI (vWy b (vAt b p')) := by rw [vWy_ C (by rw [eK]; exact hat), q_vWy q (by omega)]
      rw [e]
      cases hb : (vWy b (vAt b p')).testBit k'
      · refine ⟨t, ?_, Ox_r, S⟩
        simp (disch := omega) only [v_rc V, v_i0 V, v_i1 V, v_i2 V, v_i3 V, v_i4 V, v_r5 V, v_r6 V, v_r7 V, v_r8 V, v_r9 V, v_r10 V, v_r11 V, v_a1 V, v_a2 V, v_a3 V, v_a4 V, v_a5 V, v_a6 V, z_rc Z, z_r0 Z, z_r1 Z, z_r2 Z, z_i3 Z, z_i4 Z, z_w3 Z, z_w4 Z, z_a1 Z, z_a2 Z, z_a3 Z, z_s1 Z, z_s2 Z, z_s3 Z, Option.bind_some, ↓reduceIte, ite_not, fa_lit, nI_add, nI_mulN, nI_an, nI_sub, irm_n, nI_eq, nI_leI, nI_ltI, v_pow, v_shr, v_bit, nI_cl, nI_m1e, k_person V C, k_place V C, eP, eK, hp, hk, bI_z, Bool.true_eq_false, e1, e2, hb, Bool.false_eq_true]
      · refine ⟨wa t (x + 1) p' (nI k'), ?_, Ox_wa (by omega) Ox_r, ?_⟩
        · simp (disch := omega) only [v_rc V, v_i0 V, v_i1 V, v_i2 V, v_i3 V, v_i4 V, v_r5 V, v_r6 V, v_r7 V, v_r8 V, v_r9 V, v_r10 V, v_r11 V, v_a1 V, v_a2 V, v_a3 V, v_a4 V, v_a5 V, v_a6 V, z_rc Z, z_r0 Z, z_r1 Z, z_r2 Z, z_i3 Z, z_i4 Z, z_w3 Z, z_w4 Z, z_a1 Z, z_a2 Z, z_a3 Z, z_s1 Z, z_s2 Z, z_s3 Z, Option.bind_some, ↓reduceIte, ite_not, fa_lit, nI_add, nI_mulN, nI_an, nI_sub, irm_n, nI_eq, nI_leI, nI_ltI, v_pow, v_shr, v_bit, nI_cl, nI_m1e, k_person V C, k_place V C, eP, eK, hp, hk, bI_z, Bool.true_eq_false, e1, e2, hb, Bool.false_eq_true]
        · rw [if_pos rfl, if_pos rfl, tn_n (by omega), tn_n (by omega)]
          exact StP_mv hp' h2 S
theorem k_ear (C : CP g t v a D) (q : Vq a b) (W : WA b D) (Z : StS g x) (S : StP t x (vP b) b 107) (p e : Int32) : ∃ t', F_X0_takeEar v x p e (Em g t) = some (nI (if okx p (vP b) && okx e 10 then 0 else 1), Em g t') ∧ Ox x t t' ∧ StP t' x (vP b) (if okx p (vP b) && okx e 10 then err b (tn p) (tn e) else b) 107 := by
  have V := C.2.1
  have h2 := wP2 W
  have eP : vP a = vP b := (q_vP q).symm
  unfold F_X0_takeEar
  rcases okx_c p (vP b) (by omega) with hp | ⟨hp, p', hp', rfl⟩
  · rw [hp]
    refine ⟨t, ?_, Ox_r, S⟩
    simp (disch := omega) only [v_rc V, v_i0 V, v_i1 V, v_i2 V, v_i3 V, v_i4 V, v_r5 V, v_r6 V, v_r7 V, v_r8 V, v_r9 V, v_r10 V, v_r11 V, v_a1 V, v_a2 V, v_a3 V, v_a4 V, v_a5 V, v_a6 V, Option.bind_some, ↓reduceIte, ite_not, fa_lit, k_person V C, eP, hp, bI_z, Bool.false_and, Bool.false_eq_true]
  · have ho := okx_lt e 10 (by omega)
    rcases okx_c e 10 (by omega) with he | ⟨he, e', he', rfl⟩
    · rw [hp, he]
      refine ⟨t, ?_, Ox_r, S⟩
      rw [he] at ho
      by_cases h0 : e < nI 0
      · simp (disch := omega) only [v_rc V, v_i0 V, v_i1 V, v_i2 V, v_i3 V, v_i4 V, v_r5 V, v_r6 V, v_r7 V, v_r8 V, v_r9 V, v_r10 V, v_r11 V, v_a1 V, v_a2 V, v_a3 V, v_a4 V, v_a5 V, v_a6 V, Option.bind_some, ↓reduceIte, ite_not, fa_lit, k_person V C, eP, hp, bI_z, Bool.true_eq_false, Bool.and_false, Bool.false_eq_true, h0]
      · have h1 : ¬ e < nI 10 := by
          intro z
          have h3 : ¬ nI 10 ≤ e := fun y => by
            have := (fa_lt _ _).mp z
            have := (fa_le _ _).mp y
            omega
          rw [if_neg h0, if_neg h3] at ho
          exact absurd ho (by decide)
        simp (disch := omega) only [v_rc V, v_i0 V, v_i1 V, v_i2 V, v_i3 V, v_i4 V, v_r5 V, v_r6 V, v_r7 V, v_r8 V, v_r9 V, v_r10 V, v_r11 V, v_a1 V, v_a2 V, v_a3 V, v_a4 V, v_a5 V, v_a6 V, Option.bind_some, ↓reduceIte, ite_not, fa_lit, k_person V C, eP, hp, bI_z, Bool.true_eq_false, Bool.and_false, Bool.false_eq_true, h0, h1]
    · rw [hp, he]
      have h0 : ¬ e' < 0 := by omega
      refine ⟨wa t (x + 2) p' (nI e'), ?_, Ox_wa (by omega) Ox_r, ?_⟩
      · simp (disch := omega) only [v_rc V, v_i0 V, v_i1 V, v_i2 V, v_i3 V, v_i4 V, v_r5 V, v_r6 V, v_r7 V, v_r8 V, v_r9 V, v_r10 V, v_r11 V, v_a1 V, v_a2 V, v_a3 V, v_a4 V, v_a5 V, v_a6 V, z_rc Z, z_r0 Z, z_r1 Z, z_r2 Z, z_i3 Z, z_i4 Z, z_w3 Z, z_w4 Z, z_a1 Z, z_a2 Z, z_a3 Z, z_s1 Z, z_s2 Z, z_s3 Z, Option.bind_some, ↓reduceIte, ite_not, fa_lit, nI_add, nI_mulN, nI_an, nI_sub, irm_n, nI_eq, nI_leI, nI_ltI, v_pow, v_shr, v_bit, nI_cl, nI_m1e, k_person V C, eP, hp, bI_z, Bool.true_eq_false, Bool.and_self, h0, he']
      · rw [Bool.and_self, if_pos rfl, tn_n (by omega), tn_n (by omega)]
        exact StP_er hp' h2 S
/-- may this be one's blank -/
def okb (z : Int32) (n : Nat) : Bool := decide (z = -nI 1) || okx z n
theorem k_blank (C : CP g t v a D) (q : Vq a b) (W : WA b D) (Z : StS g x) (S : StP t x (vP b) b 107) (p z : Int32) : ∃ t', F_X0_takeBlank v x p z (Em g t) = some (nI (if okx p (vP b) && okb z (vN b) then 0 else 1), Em g t') ∧ Ox x t t' ∧ StP t' x (vP b) (if okx p (vP b) && okb z (vN b) then blr b (tn p) z else b) 107 := by
  have V := C.2.1
  have h2 := wP2 W
  have eP : vP a = vP b := (q_vP q).symm
  have eN : vN a = vN b := (q_vN q).symm
  unfold F_X0_takeBlank
  rcases okx_c p (vP b) (by omega) with hp | ⟨hp, p', hp', rfl⟩
  · rw [hp]
    refine ⟨t, ?_, Ox_r, S⟩
    simp (disch := omega) only [v_rc V, v_i0 V, v_i1 V, v_i2 V, v_i3 V, v_i4 V, v_r5 V, v_r6 V, v_r7 V, v_r8 V, v_r9 V, v_r10 V, v_r11 V, v_a1 V, v_a2 V, v_a3 V, v_a4 V, v_a5 V, v_a6 V, Option.bind_some, ↓reduceIte, ite_not, fa_lit, k_person V C, eP, hp, bI_z, Bool.false_and, Bool.false_eq_true]
  · have h3 := p64 (wFo2 W) h2
    have h4 : 2 ^ p' < 64 := p64 (P := 6) (Nat.pow_lt_pow_right (by decide) (by omega)) (by decide)
    have e3 : tI t x 3 = nI (vFo b) := by rw [S.1.1]; exact wFo W
    have hw : F_X0_takeBlank_b23 x (nI p') z (Em g t) = some (nI 0, Em g (wi (wa t (x + 3) p' z) x 3 (nI (an_ (vFo b) (2 ^ p'))))) := by
      unfold F_X0_takeBlank_b23
      simp (disch := omega) only [z_rc Z, z_r0 Z, z_r1 Z, z_r2 Z, z_i3 Z, z_i4 Z, z_w3 Z, z_w4 Z, z_a1 Z, z_a2 Z, z_a3 Z, z_s1 Z, z_s2 Z, z_s3 Z, Option.bind_some, ↓reduceIte, ite_not, fa_lit, nI_add, nI_mulN, nI_an, nI_sub, irm_n, nI_eq, nI_leI, nI_ltI, v_pow, v_shr, v_bit, nI_cl, nI_m1e, tI_wa, e3, an_c _ h3 _ h4]
    have ho : Ox x t (wi (wa t (x + 3) p' z) x 3 (nI (an_ (vFo b) (2 ^ p')))) := Ox_wi (Ox_wa (by omega) Ox_r)
    have hs := StP_bl (z := z) hp' h2 S
    unfold okb
    rw [hp]
    by_cases hm : z = -nI 1
    · refine ⟨_, ?_, ho, ?_⟩
      rotate_left
      · simp only [hm, decide_true, Bool.true_or, Bool.and_self, if_true]
        rw [tn_n (by omega)]
        rw [hm] at hs
        exact hs
      · simp (disch := omega) only [v_rc V, v_i0 V, v_i1 V, v_i2 V, v_i3 V, v_i4 V, v_r5 V, v_r6 V, v_r7 V, v_r8 V, v_r9 V, v_r10 V, v_r11 V, v_a1 V, v_a2 V, v_a3 V, v_a4 V, v_a5 V, v_a6 V, Option.bind_some, ↓reduceIte, ite_not, fa_lit, k_person V C, eP, hp, bI_z, Bool.true_eq_false, hm, decide_true, Bool.true_or, Bool.and_self]
        rw [← hm]
        exact hw
    · cases hz : okx z (vN b)
      · refine ⟨t, ?_, Ox_r, ?_⟩
        rotate_left
        · simp only [hm, decide_false, Bool.false_or, Bool.and_false, Bool.false_eq_true, if_false]
          exact S
        · simp (disch := omega) only [v_rc V, v_i0 V, v_i1 V, v_i2 V, v_i3 V, v_i4 V, v_r5 V, v_r6 V, v_r7 V, v_r8 V, v_r9 V, v_r10 V, v_r11 V, v_a1 V, v_a2 V, v_a3 V, v_a4 V, v_a5 V, v_a6 V, Option.bind_some, ↓reduceIte, ite_not, fa_lit, k_person V C, k_note V C, eP, eN, hp, hz, bI_z, Bool.true_eq_false, hm, decide_false, Bool.false_or, Bool.and_false, Bool.false_eq_true]
      · refine ⟨_, ?_, ho, ?_⟩
        rotate_left
        · simp only [Bool.or_true, Bool.and_self, if_true]
          rw [tn_n (by omega)]
          exact hs
        · simp (disch := omega) only [v_rc V, v_i0 V, v_i1 V, v_i2 V, v_i3 V, v_i4 V, v_r5 V, v_r6 V, v_r7 V, v_r8 V, v_r9 V, v_r10 V, v_r11 V, v_a1 V, v_a2 V, v_a3 V, v_a4 V, v_a5 V, v_a6 V, Option.bind_some, ↓reduceIte, ite_not, fa_lit, k_person V C, k_note V C, eP, eN, hp, hz, bI_z, Bool.true_eq_false, hm, Bool.or_true, Bool.and_self]
          exact hw
theorem k_day_l (C : CP g t v a D) (q : Vq a b) (W : WA b D) (Z : StS g x) (S : StP t x (vP b) b 107) : ∀ (d k fuel : Nat), k + d = vP b → d < fuel → F_X0_passDay_b4 fuel v x (nI (mk (hit b) k)) (nI k) (Em g t) = some (nI (an_ (mk (hit b) (vP b)) (vFo b)), Em g (wi (wi t x 3 (nI (vFo b ||| mk (hit b) (vP b)))) x 4 (nI (vDy b + 1)))) := by
  have V := C.2.1
  have h2 := wP2 W
  have hK := wK2 W
  have hD := wD W
  have hd := wDy2 W
  have h3 := p64 (wFo2 W) h2
  have h4 : mk (hit b) (vP b) < 64 := p64 (mk_lt _ _) h2
  have e0 : tI t v 4 = nI (vP b) := by rw [vP_ C, (q_vP q).symm]
  have e3 : tI t x 3 = nI (vFo b) := by rw [S.1.1]; exact wFo W
  have e4 : tI t x 4 = nI (vDy b) := by rw [S.1.2]; exact wDy W
  intro d
  induction d with
  | zero =>
    intro k fuel hk hf
    obtain ⟨f, rfl⟩ : ∃ f, fuel = f + 1 := ⟨fuel - 1, by omega⟩
    have hk : k = vP b := by omega
    subst hk
    rw [F_X0_passDay_b4]
    simp (disch := omega) only [v_rc V, v_i0 V, v_i1 V, v_i2 V, v_i3 V, v_i4 V, v_r5 V, v_r6 V, v_r7 V, v_r8 V, v_r9 V, v_r10 V, v_r11 V, v_a1 V, v_a2 V, v_a3 V, v_a4 V, v_a5 V, v_a6 V, z_rc Z, z_r0 Z, z_r1 Z, z_r2 Z, z_i3 Z, z_i4 Z, z_w3 Z, z_w4 Z, z_a1 Z, z_a2 Z, z_a3 Z, z_s1 Z, z_s2 Z, z_s3 Z, Option.bind_some, ↓reduceIte, ite_not, fa_lit, nI_add, nI_mulN, nI_an, nI_sub, irm_n, nI_eq, nI_leI, nI_ltI, v_pow, v_shr, v_bit, nI_cl, nI_m1e, e0, e3, Nat.le_refl, an_c _ h4 _ h3, fa_or, an_or, tI_ik, e4]
  | succ d ih =>
    intro k fuel hk hf
    obtain ⟨f, rfl⟩ : ∃ f, fuel = f + 1 := ⟨fuel - 1, by omega⟩
    have hk2 : ¬ vP b ≤ k := by omega
    have hk3 : k < vP b := by omega
    have hat := wAt2 W hk3
    have e5 : tA t (x + 1) k = nI (vAt b k) := by rw [(S.2 k hk3).1]; exact wAt W hk3
    have e6 : tA t (x + 3) k = b (121 + k) := (S.2 k hk3).2.2
    have hso := k_soundOn (t := t) V C (k := vAt b k) (d := vDy b) (by rw [← q_vK q]; exact hat) (by omega)
    have es : snd a (vAt b k) (vDy b) = snd b (vAt b k) (vDy b) := by
      have hc := wCo1 W hat
      have hc2 := wCo2 W hat
      have := Nat.mod_lt (vDy b) hc
      unfold snd sno
      rw [q_vN q, q_vCo q (by omega), q_vSd q (by omega) (by rw [← q_vCo q (by omega)]; omega)]
    rw [es] at hso
    rw [F_X0_passDay_b4, ← ih (k + 1) f (by omega) (by omega)]
    by_cases hm : b (121 + k) = -nI 1
    · have hh : hit b k = false := by simp [hit, hm]
      simp (disch := omega) only [v_rc V, v_i0 V, v_i1 V, v_i2 V, v_i3 V, v_i4 V, v_r5 V, v_r6 V, v_r7 V, v_r8 V, v_r9 V, v_r10 V, v_r11 V, v_a1 V, v_a2 V, v_a3 V, v_a4 V, v_a5 V, v_a6 V, z_rc Z, z_r0 Z, z_r1 Z, z_r2 Z, z_i3 Z, z_i4 Z, z_w3 Z, z_w4 Z, z_a1 Z, z_a2 Z, z_a3 Z, z_s1 Z, z_s2 Z, z_s3 Z, Option.bind_some, ↓reduceIte, ite_not, fa_lit, nI_add, nI_mulN, nI_an, nI_sub, irm_n, nI_eq, nI_leI, nI_ltI, v_pow, v_shr, v_bit, nI_cl, nI_m1e, e0, hk2, e6, hm]
      rw [mk_no (hit b) k hh]
    · by_cases hs : snd b (vAt b k) (vDy b) = b (121 + k)
      · have hh : hit b k = true := by simp [hit, hm, hs]
        simp (disch := omega) only [v_rc V, v_i0 V, v_i1 V, v_i2 V, v_i3 V, v_i4 V, v_r5 V, v_r6 V, v_r7 V, v_r8 V, v_r9 V, v_r10 V, v_r11 V, v_a1 V, v_a2 V, v_a3 V, v_a4 V, v_a5 V, v_a6 V, z_rc Z, z_r0 Z, z_r1 Z, z_r2 Z, z_i3 Z, z_i4 Z, z_w3 Z, z_w4 Z, z_a1 Z, z_a2 Z, z_a3 Z, z_s1 Z, z_s2 Z, z_s3 Z, Option.bind_some, ↓reduceIte, ite_not, fa_lit, nI_add, nI_mulN, nI_an, nI_sub, irm_n, nI_eq, nI_leI, nI_ltI, v_pow, v_shr, v_bit, nI_cl, nI_m1e, e0, hk2, e6, hm, e5, e4, hso, hs]
        rw [s_or1 (f := hit b) hh]
      · have hh : hit b k = false := by simp [hit, hs]
        simp (disch := omega) only [v_rc V, v_i0 V, v_i1 V, v_i2 V, v_i3 V, v_i4 V, v_r5 V, v_r6 V, v_r7 V, v_r8 V, v_r9 V, v_r10 V, v_r11 V, v_a1 V, v_a2 V, v_a3 V, v_a4 V, v_a5 V, v_a6 V, z_rc Z, z_r0 Z, z_r1 Z, z_r2 Z, z_i3 Z, z_i4 Z, z_w3 Z, z_w4 Z, z_a1 Z, z_a2 Z, z_a3 Z, z_s1 Z, z_s2 Z, z_s3 Z, Option.bind_some, ↓reduceIte, ite_not, fa_lit, nI_add, nI_mulN, nI_an, nI_sub, irm_n, nI_eq, nI_leI, nI_ltI, v_pow, v_shr, v_bit, nI_cl, nI_m1e, e0, hk2, e6, hm, e5, e4, hso, hs]
        rw [mk_no (hit b) k hh]
theorem k_day (C : CP g t v a D) (q : Vq a b) (W : WA b D) (Z : StS g x) (S : StP t x (vP b) b 107) : ∃ t', F_X0_passDay v x (Em g t) = some (nI (an_ (mk (hit b) (vP b)) (vFo b)), Em g t') ∧ Ox x t t' ∧ StP t' x (vP b) (dyr b) 107 := by
  have h2 := wP2 W
  exact ⟨_, k_day_l C q W Z S (vP b) 0 FU (by omega) (by show vP b < 1000000; omega), Ox_wi (Ox_wi Ox_r), StP_dy h2 rfl S⟩
theorem k_doOne (C : CP g t v a D) (q : Vq a b) (W : WA b D) (Z : StS g x) (S : StP t x (vP b) b 107) (z : Int64) : ∃ t', F_X0_doOne v x z (Em g t) = some (nI (wyN b z), Em g t') ∧ Ox x t t' ∧ StP t' x (vP b) (if wyN b z = 0 then doR b z else b) 107 := by
  have h2 := wP2 W
  have h3 := wN3 W
  rcases dn_c z with h | ⟨h, m, hm, rfl⟩ | ⟨h, hb⟩
  · subst h
    obtain ⟨t', e, o, s⟩ := k_day C q W Z S
    refine ⟨t', ?_, o, s⟩
    unfold F_X0_doOne
    rw [if_neg (fun y => y rfl), e]
    rfl
  · have hc : ¬ lg_cmp (lN m) (-1) = 0 := fun q => h ((lg_cmp_eq _ _).mp q)
    have ht : (lN m).toInt = (m : Int) := pk_lT (by omega)
    have hc0 : ¬ lg_cmp (lN m) 0 < 0 := by
      rw [lg_cmp_lt]
      exact fun q => absurd ((pk_lLT (b := 0) (by omega) (by decide)).mp q) (by omega)
    have hc3 : lg_cmp (lN m) 300 < 0 := by
      rw [lg_cmp_lt]
      exact (pk_lLT (b := 300) (by omega) (by decide)).mpr hm
    have e1 : (lN m).toInt32 = nI m := lN_i m
    have en : wyN b (lN m) = wn3 b m := by
      unfold wyN
      rw [if_neg h, ht, if_pos (by omega), Int.toNat_natCast]
    have ed : doR b (lN m) = dn3 b m := by
      unfold doR
      rw [if_neg h, ht, Int.toNat_natCast]
    have i1 : idv (nI m) (nI 100) = nI (m / 100) := r_idv (by omega) (by decide) (by decide)
    have i2 : irm (nI m) (nI 100) = nI (m % 100) := irm_n (by omega) (by decide) (by decide)
    have i3 : irm (nI m) (nI 10) = nI (m % 10) := irm_n (by omega) (by decide) (by decide)
    have i4 : idv (nI (m % 100)) (nI 10) = nI (m % 100 / 10) := r_idv (by omega) (by decide) (by decide)
    have z1 : (nI (m % 100 / 10)).toInt = ((m % 100 / 10 : Nat) : Int) := nI_toInt (by omega)
    have z2 : (nI (m % 10)).toInt = ((m % 10 : Nat) : Int) := nI_toInt (by omega)
    have n1 : tn (nI (m % 100 / 10)) = m % 100 / 10 := tn_n (by omega)
    have n2 : tn (nI (m % 10)) = m % 10 := tn_n (by omega)
    have ok10 : okx (nI (m % 10)) 10 = true := okx_n (by omega) (by decide)
    have okP : okx (nI (m % 100 / 10)) (vP b) = decide (m % 100 / 10 < vP b) := by
      unfold okx
      rw [z1, Bool.eq_iff_iff]
      simp only [decide_eq_true_eq]
      omega
    have okN : okb (nI (m % 10)) (vN b) = decide (m % 10 < vN b) := by
      unfold okb okx
      have hne : ¬ nI (m % 10) = -nI 1 := by rw [nI_m1e (by omega)]; exact id
      rw [z2, Bool.eq_iff_iff]
      simp only [hne, decide_eq_true_eq, decide_false, Bool.false_or]
      omega
    rw [en, ed]
    unfold F_X0_doOne
    rw [if_pos hc, if_neg hc0, if_pos hc3, e1]
    simp only [fa_lit, i1, i2, i3, i4, nI_eq (show m / 100 < 2 ^ 31 by omega) (show 0 < 2 ^ 31 by decide), nI_eq (show m / 100 < 2 ^ 31 by omega) (show 1 < 2 ^ 31 by decide)]
    unfold wn3 dn3
    by_cases c1 : m < 100
    · obtain ⟨t', e, o, s⟩ := k_move C q W Z S (nI (m % 100 / 10)) (nI (m % 10))
      refine ⟨t', ?_, o, ?_⟩
      · rw [if_pos (by omega), e, if_pos c1, z1, z2, Nat.mod_eq_of_lt c1]
        rfl
      · rw [if_pos c1, if_pos c1]
        rw [z1, z2, n1, n2, Nat.mod_eq_of_lt c1] at s
        exact s
    · by_cases c2 : m < 200
      · obtain ⟨t', e, o, s⟩ := k_ear C q W Z S (nI (m % 100 / 10)) (nI (m % 10))
        rw [okP, ok10, Bool.and_true] at e s
        refine ⟨t', ?_, o, ?_⟩
        · rw [if_neg (by omega), if_pos (by omega), e, if_neg c1, if_pos c2]
          simp only [decide_eq_true_eq, Option.bind_some]
        · rw [if_neg c1, if_pos c2, if_neg c1, if_pos c2]
          rw [n1, n2] at s
          by_cases c3 : m % 100 / 10 < vP b
          · simp only [c3, decide_true, if_true] at s ⊢
            exact s
          · simp only [c3, decide_false, Bool.false_eq_true, if_false, Nat.one_ne_zero] at s ⊢
            exact s
      · obtain ⟨t', e, o, s⟩ := k_blank C q W Z S (nI (m % 100 / 10)) (nI (m % 10))
        rw [okP, okN] at e s
        refine ⟨t', ?_, o, ?_⟩
        · rw [if_neg (by omega), if_neg (by omega), e, if_neg c1, if_neg c2]
          simp only [Bool.and_eq_true, decide_eq_true_eq, Option.bind_some]
        · rw [if_neg c1, if_neg c2, if_neg c1, if_neg c2]
          rw [n1] at s
          by_cases c3 : m % 100 / 10 < vP b ∧ m % 10 < vN b
          · simp only [c3, decide_true, Bool.and_self, and_self, if_true] at s ⊢
            exact s
          · rw [if_neg (by simpa using c3)] at s
            rw [if_neg c3, if_neg (by decide)]
            exact s
  · refine ⟨t, ?_, Ox_r, ?_⟩
    · have hc : ¬ lg_cmp z (-1) = 0 := fun q => h ((lg_cmp_eq _ _).mp q)
      unfold F_X0_doOne wyN
      rw [if_pos hc, if_neg h, if_neg hb]
      by_cases hl : lg_cmp z 0 < 0
      · rw [if_pos hl]; rfl
      · have h3 : ¬ lg_cmp z 300 < 0 := by
          intro y
          rw [lg_cmp_lt, Int64.lt_iff_toInt_lt] at y hl
          have a1 : (0 : Int64).toInt = 0 := rfl
          have a2 : (300 : Int64).toInt = 300 := rfl
          omega
        rw [if_neg hl, if_neg h3]; rfl
    · have : wyN b z = 1 := by
        unfold wyN
        rw [if_neg h, if_neg hb]
      rw [this]
      exact S
end XK
