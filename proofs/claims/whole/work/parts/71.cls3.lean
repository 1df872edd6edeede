/-! ===== the class's plain questions ===== -/
def CP (g : Sk) (t : Tb) (v : Nat) (a : Nat → Int32) (D : Nat) : Prop := WA a D ∧ VaS g v ∧ VaP g t v a ∧ gR g 69 1 = some v ∧ StP t 95 (vP a) a 107
theorem ush_z {k : Nat} (hk : k ≤ 10) (x : Int32) : (ush x (nI k) = nI 0) = (oks x k = true) := by
  have hs : (((nI k).toUInt32 &&& Int32.toUInt32 31).toBitVec % 32).toNat = k := by
    have : ∀ k, k ≤ 10 → (((nI k).toUInt32 &&& Int32.toUInt32 31).toBitVec % 32).toNat = k := by decide +kernel
    exact this k hk
  have h1 := pk_ushr x (nI k) k hs
  have hp : (0 : Nat) < 2 ^ k := Nat.two_pow_pos k
  have e1 : (ush x (nI k) = nI 0) ↔ x.toBitVec.toNat < 2 ^ k := by
    constructor
    · intro h
      unfold ush at h
      rw [h] at h1
      have : (nI 0).toBitVec.toNat = 0 := rfl
      rw [this] at h1
      rcases Nat.lt_or_ge x.toBitVec.toNat (2 ^ k) with q | q
      · exact q
      · have := Nat.div_pos q hp
        omega
    · intro h
      apply Int32.toBitVec_inj.mp
      apply BitVec.eq_of_toNat_eq
      unfold ush
      rw [h1, Nat.div_eq_of_lt h]
      rfl
  have e2 : (oks x k = true) ↔ x.toBitVec.toNat < 2 ^ k := by
    unfold oks
    simp only [decide_eq_true_eq]
    have hx : x.toInt = x.toBitVec.toInt := rfl
    rw [hx, BitVec.toInt_eq_toNat_cond]
    have hl := x.toBitVec.isLt
    have hk2 : (2 : Nat) ^ k ≤ 2 ^ 10 := Nat.pow_le_pow_right (by decide) hk
    have e : ((2 ^ k : Nat) : Int) = (2 : Int) ^ k := by push_cast; rfl
    split <;> constructor <;> intro h <;> omega
  exact propext (e1.trans e2.symm)
theorem k_bits : ∀ m, m < 2048 → ∀ h : xH, F_J6_bitCount_0f7a4 (nI m) h = some (nI (pcn m), h) := by
  intro m hm h
  unfold F_J6_bitCount_0f7a4
  refine congrArg (fun z => some (z, h)) ?_
  revert m
  decide +kernel
section XC3
variable {g : Sk} {t : Tb} {a : Nat → Int32}
variable {D v w m x : Nat} {t' : Tb}
theorem c_r69 (X : Fx g) (h : gR g 69 1 = some v) : fR (Em g t) 69 10 1 = some v := y_fR (Or.inl (x_S X 11 rfl)) h (by decide) (by decide) rfl
theorem CP_s (X : Fx g) (C : CP g t v a D) (s : Sm g t t') : CP g t' v a D := ⟨C.1, C.2.1, VaP_s C.2.1 C.2.2.1 s, C.2.2.2.1, StP_s rfl rfl (sc_x X rfl) (sc_x X rfl) (sc_x X rfl) C.2.2.2.2 s⟩
/-- a valley's own numbers -/
theorem vN_ (C : CP g t v a D) : tI t v 0 = nI (vN a) := by rw [C.2.2.1.1.1]; exact wN C.1
theorem vT_ (C : CP g t v a D) : tI t v 2 = nI (vT a) := by rw [C.2.2.1.1.2.2.1]; exact wT C.1
theorem vK_ (C : CP g t v a D) : tI t v 3 = nI (vK a) := by rw [C.2.2.1.1.2.2.2.1]; exact wK C.1
theorem vP_ (C : CP g t v a D) : tI t v 4 = nI (vP a) := by rw [C.2.2.1.1.2.2.2.2]; exact wP C.1
theorem vLg_ (C : CP g t v a D) {u : Nat} (h : u < vT a) : tA t (v + 2) u = nI (vLg a u) := by rw [(C.2.2.1.2.1 u h).1]; exact wLg C.1 h
theorem vNt_ (C : CP g t v a D) {u i : Nat} (h : u < vT a) (hi : i < vLg a u) : tA t (v + 1) (u * 9 + i) = nI (vNt a u i) := by rw [(C.2.2.1.2.1 u h).2 i hi]; exact wNt C.1 h hi
theorem vCo_ (C : CP g t v a D) {k : Nat} (h : k < vK a) : tA t (v + 4) k = nI (vCo a k) := by rw [(C.2.2.1.2.2.1 k h).1]; exact wCo C.1 h
theorem vWy_ (C : CP g t v a D) {k : Nat} (h : k < vK a) : tA t (v + 5) k = nI (vWy a k) := by rw [(C.2.2.1.2.2.1 k h).2.1]; exact wWy C.1 h
theorem vSd_ (C : CP g t v a D) {k i : Nat} (h : k < vK a) (hi : i < vCo a k) : tA t (v + 3) (k * 4 + i) = nI (vSd a k i) := by rw [(C.2.2.1.2.2.1 k h).2.2 i hi]; exact wSd C.1 h hi
theorem vFl_ (C : CP g t v a D) {i : Nat} (h : i < vN a) : tA t (v + 6) i = nI (mk (fun j => fol a i j) (vN a)) := C.2.2.1.2.2.2.1 i h
theorem cFo_ (C : CP g t v a D) : tI t 95 3 = nI (vFo a) := by rw [C.2.2.2.2.1.1]; exact wFo C.1
theorem cDy_ (C : CP g t v a D) : tI t 95 4 = nI (vDy a) := by rw [C.2.2.2.2.1.2]; exact wDy C.1
theorem cAt_ (C : CP g t v a D) {p : Nat} (h : p < vP a) : tA t 96 p = nI (vAt a p) := by rw [(C.2.2.2.2.2 p h).1]; exact wAt C.1 h
theorem cEa_ (C : CP g t v a D) {p : Nat} (h : p < vP a) : tA t 97 p = a (115 + p) := (C.2.2.2.2.2 p h).2.1
theorem cBl_ (C : CP g t v a D) {p : Nat} (h : p < vP a) : tA t 98 p = a (121 + p) := (C.2.2.2.2.2 p h).2.2
theorem k_lt0 (n : Nat) (h : n < 2 ^ 31) : (nI n < nI 0) = False := by
  apply propext
  rw [nI_ltI h (by decide)]
  simp
theorem okx_lt (x : Int32) (n : Nat) (hn : n ≤ 1000) : (if x < nI 0 then (nI 0) else if nI n ≤ x then (nI 0) else (nI 1)) = bI (okx x n) := by
  rcases okx_c x n hn with h | ⟨h, k, hk, rfl⟩
  · rw [h]
    unfold okx at h
    by_cases h0 : x < nI 0
    · rw [if_pos h0]; rfl
    · rw [if_neg h0]
      by_cases h1 : nI n ≤ x
      · rw [if_pos h1]; rfl
      · exfalso
        rw [fa_lt] at h0
        rw [fa_le, nI_toInt (by omega)] at h1
        have e : (nI 0).toInt = 0 := rfl
        simp only [decide_eq_false_iff_not] at h
        omega
  · rw [h, if_neg (by rw [k_lt0 k (by omega)]; exact id), if_neg (by rw [nI_leI (by omega) (by omega)]; omega)]
    rfl
theorem k_person (V : VaS g v) (C : CP g t v a D) (x : Int32) : F_X10_hasPerson v x (Em g t) = some (bI (okx x (vP a)), Em g t) := by
  have h := wP2 C.1
  unfold F_X10_hasPerson
  simp only [fa_lit, v_rc V, v_i0 V, v_i1 V, v_i2 V, v_i3 V, v_i4 V, v_r5 V, v_r6 V, v_r7 V, v_r8 V, v_r9 V, v_r10 V, v_r11 V, v_a1 V, v_a2 V, v_a3 V, v_a4 V, v_a5 V, v_a6 V, Option.bind_some, vP_ C]
  rw [← okx_lt x (vP a) (by omega)]
  split
  · rfl
  · split <;> rfl
theorem k_place (V : VaS g v) (C : CP g t v a D) (x : Int32) : F_X10_hasPlace v x (Em g t) = some (bI (okx x (vK a)), Em g t) := by
  have h := wK2 C.1
  unfold F_X10_hasPlace
  simp only [fa_lit, v_rc V, v_i0 V, v_i1 V, v_i2 V, v_i3 V, v_i4 V, v_r5 V, v_r6 V, v_r7 V, v_r8 V, v_r9 V, v_r10 V, v_r11 V, v_a1 V, v_a2 V, v_a3 V, v_a4 V, v_a5 V, v_a6 V, Option.bind_some, vK_ C]
  rw [← okx_lt x (vK a) (by omega)]
  split
  · rfl
  · split <;> rfl
theorem k_tune (V : VaS g v) (C : CP g t v a D) (x : Int32) : F_X10_hasTune v x (Em g t) = some (bI (okx x (vT a)), Em g t) := by
  have h := wT2 C.1
  unfold F_X10_hasTune
  simp only [fa_lit, v_rc V, v_i0 V, v_i1 V, v_i2 V, v_i3 V, v_i4 V, v_r5 V, v_r6 V, v_r7 V, v_r8 V, v_r9 V, v_r10 V, v_r11 V, v_a1 V, v_a2 V, v_a3 V, v_a4 V, v_a5 V, v_a6 V, Option.bind_some, vT_ C]
  rw [← okx_lt x (vT a) (by omega)]
  split
  · rfl
  · split <;> rfl
theorem k_note (V : VaS g v) (C : CP g t v a D) (x : Int32) : F_X10_hasNote v x (Em g t) = some (bI (okx x (vN a)), Em g t) := by
  have h := wN3 C.1
  unfold F_X10_hasNote
  simp only [fa_lit, v_rc V, v_i0 V, v_i1 V, v_i2 V, v_i3 V, v_i4 V, v_r5 V, v_r6 V, v_r7 V, v_r8 V, v_r9 V, v_r10 V, v_r11 V, v_a1 V, v_a2 V, v_a3 V, v_a4 V, v_a5 V, v_a6 V, Option.bind_some, vN_ C]
  rw [← okx_lt x (vN a) (by omega)]
  split
  · rfl
  · split <;> rfl
theorem k_isPeople (V : VaS g v) (C : CP g t v a D) (x : Int32) : F_X10_isPeople v x (Em g t) = some (bI (oks x (vP a)), Em g t) := by
  have h := wP2 C.1
  unfold F_X10_isPeople
  simp only [fa_lit, v_rc V, v_i0 V, v_i1 V, v_i2 V, v_i3 V, v_i4 V, v_r5 V, v_r6 V, v_r7 V, v_r8 V, v_r9 V, v_r10 V, v_r11 V, v_a1 V, v_a2 V, v_a3 V, v_a4 V, v_a5 V, v_a6 V, Option.bind_some, ↓reduceIte, ite_not, vP_ C, ush_z (show vP a ≤ 10 by omega)]
  cases oks x (vP a) <;> simp <;> rfl
theorem k_isNotes (V : VaS g v) (C : CP g t v a D) (x : Int32) : F_X10_isNotes v x (Em g t) = some (bI (oks x (vN a)), Em g t) := by
  have h := wN3 C.1
  unfold F_X10_isNotes
  simp only [fa_lit, v_rc V, v_i0 V, v_i1 V, v_i2 V, v_i3 V, v_i4 V, v_r5 V, v_r6 V, v_r7 V, v_r8 V, v_r9 V, v_r10 V, v_r11 V, v_a1 V, v_a2 V, v_a3 V, v_a4 V, v_a5 V, v_a6 V, Option.bind_some, ↓reduceIte, ite_not, vN_ C, ush_z h]
  cases oks x (vN a) <;> simp <;> rfl
theorem k_found (X : Fx g) (C : CP g t v a D) {p : Nat} (hp : p < vP a) : F_X6_hasFound 95 (nI p) (Em g t) = some (bI ((vFo a).testBit p), Em g t) := by
  have h := wFo3 C.1
  have h2 := wP2 C.1
  unfold F_X6_hasFound
  simp (disch := omega) only [x_rc95 X, x_r95_0 X, x_r95_1 X, x_r95_2 X, x_i95_3 X, x_w95_3 X, x_i95_4 X, x_w95_4 X, x_a96 X, x_s96 X, x_a97 X, x_s97 X, x_a98 X, x_s98 X, Option.bind_some, ↓reduceIte, ite_not, fa_lit, nI_add, nI_mulN, nI_an, nI_sub, irm_n, nI_eq, nI_leI, nI_ltI, v_pow, v_shr, v_bit, nI_cl, nI_m1e, cFo_ C]
  cases (vFo a).testBit p <;> rfl
theorem k_hw_l (X : Fx g) (V : VaS g v) {p b : Nat} (hp : p < vP a) (hb : b ≤ 20) : ∀ (d k fuel : Nat) (t : Tb), CP g t v a D → k + d = vN a → d < fuel → ∃ t', F_X10_heardWith_b13 fuel v 95 (nI p) (nI b) (bI ((vFo a).testBit p)) (nI (mk (fun n => hears a p n b) k)) (nI k) (Em g t) = some (nI (mk (fun n => hears a p n b) (vN a)), Em g t') ∧ Sm g t t' := by
  intro d
  induction d with
  | zero =>
    intro k fuel t C hk hf
    have h2 := wN3 C.1
    obtain ⟨f, rfl⟩ : ∃ f, fuel = f + 1 := ⟨fuel - 1, by omega⟩
    have hk : k = vN a := by omega
    subst hk
    rw [F_X10_heardWith_b13]
    simp (disch := omega) only [v_rc V, v_i0 V, v_i1 V, v_i2 V, v_i3 V, v_i4 V, v_r5 V, v_r6 V, v_r7 V, v_r8 V, v_r9 V, v_r10 V, v_r11 V, v_a1 V, v_a2 V, v_a3 V, v_a4 V, v_a5 V, v_a6 V, Option.bind_some, ↓reduceIte, ite_not, fa_lit, nI_add, nI_mulN, nI_an, nI_sub, irm_n, nI_eq, nI_leI, nI_ltI, v_pow, v_shr, v_bit, nI_cl, nI_m1e, vN_ C, Nat.le_refl]
    exact ⟨t, rfl, Sm_r⟩
  | succ d ih =>
    intro k fuel t C hk hf
    have h2 := wN3 C.1
    have h3 := wP2 C.1
    obtain ⟨f, rfl⟩ : ∃ f, fuel = f + 1 := ⟨fuel - 1, by omega⟩
    have hk2 : ¬ vN a ≤ k := by omega
    have fin : ∀ t1, Sm g t t1 → ∃ t', F_X10_heardWith_b75 (F_X10_heardWith_b13 f) v 95 (nI p) (nI b) (bI ((vFo a).testBit p)) (nI (mk (fun n => hears a p n b) k)) (nI k) (bI (hears a p k b)) (Em g t1) = some (nI (mk (fun n => hears a p n b) (vN a)), Em g t') ∧ Sm g t t' := by
      intro t1 s1
      obtain ⟨t2, e2, s2⟩ := ih (k + 1) f t1 (CP_s X C s1) (by omega) (by omega)
      refine ⟨t2, ?_, Sm_t s1 s2⟩
      unfold F_X10_heardWith_b75
      cases hh : hears a p k b
      · simp (disch := omega) only [Option.bind_some, ↓reduceIte, ite_not, fa_lit, nI_add, nI_mulN, nI_an, nI_sub, irm_n, nI_eq, nI_leI, nI_ltI, v_pow, v_shr, v_bit, nI_cl, nI_m1e, bI_z]
        rw [← e2, mk_no (fun n => hears a p n b) k hh]
      · simp (disch := omega) only [Option.bind_some, ↓reduceIte, ite_not, fa_lit, nI_add, nI_mulN, nI_an, nI_sub, irm_n, nI_eq, nI_leI, nI_ltI, v_pow, v_shr, v_bit, nI_cl, nI_m1e, bI_z, Bool.true_eq_false]
        rw [← e2, s_or1 (f := fun n => hears a p n b) hh]
    rw [F_X10_heardWith_b13]
    rcases C.2.2.1.2.2.2.2 with ⟨h5, hr⟩ | ⟨h5, w, hr, hL⟩
    · have eq : ∀ t, fQ (Em g t) v 9 12 = some none := fun t => y_fQ (Or.inr V.2.1) hr (v_69 V) (by decide) rfl
      obtain ⟨t2, e2, s2⟩ := fin t Sm_r
      refine ⟨t2, ?_, s2⟩
      rw [← e2]
      simp (disch := omega) only [v_rc V, v_i0 V, v_i1 V, v_i2 V, v_i3 V, v_i4 V, v_r5 V, v_r6 V, v_r7 V, v_r8 V, v_r9 V, v_r10 V, v_r11 V, v_a1 V, v_a2 V, v_a3 V, v_a4 V, v_a5 V, v_a6 V, Option.bind_some, ↓reduceIte, ite_not, fa_lit, nI_add, nI_mulN, nI_an, nI_sub, irm_n, nI_eq, nI_leI, nI_ltI, v_pow, v_shr, v_bit, nI_cl, nI_m1e, vN_ C, hk2, eq, bI_z]
      have hh : hears a p k b = (!decide (k = b) || (vFo a).testBit p) := by
        unfold hears
        rw [if_pos h5]
      rw [hh]
      cases (vFo a).testBit p
      · by_cases hkb : k = b
        · simp [hkb, bI]
        · simp [hkb, bI]
      · simp [bI]
    · have eq : ∀ t, fQ (Em g t) v 9 12 = some (some w) := fun t => y_fQ (Or.inr V.2.1) hr (v_69 V) (by decide) rfl
      have er : ∀ t, fR (Em g t) v 9 12 = some w := fun t => y_fR (Or.inr V.2.1) hr (v_69 V) (by decide) rfl
      have L := hL.1
      have hok : okc 0 (cds a 0) [] := by
        rcases wLw C.1 (l := 0) (by decide) with q | q
        · exact absurd q h5
        · exact q.2.2.2.2
      obtain ⟨t1, e1, s1⟩ := k_holds hL hok (nI p) (nI k) (nI b) (a (115 + p)) (bI ((vFo a).testBit p)) (hw a p k b) (fun j hj => by
        have hj5 : j < 5 := by rcases hj with h | h <;> omega
        rcases (show j = 0 ∨ j = 1 ∨ j = 2 ∨ j = 3 ∨ j = 4 by omega) with e | e | e | e | e <;> subst e <;> simp [hw])
      obtain ⟨t2, e2, s2⟩ := fin t1 s1
      refine ⟨t2, ?_, s2⟩
      rw [← e2]
      have hh : hears a p k b = decide (ev (hw a p k b) (cds a 0) [] = [nI 1]) := by
        unfold hears
        rw [if_neg h5]
      simp (disch := omega) only [v_rc V, v_i0 V, v_i1 V, v_i2 V, v_i3 V, v_i4 V, v_r5 V, v_r6 V, v_r7 V, v_r8 V, v_r9 V, v_r10 V, v_r11 V, v_a1 V, v_a2 V, v_a3 V, v_a4 V, v_a5 V, v_a6 V, x_rc95 X, x_r95_0 X, x_r95_1 X, x_r95_2 X, x_i95_3 X, x_w95_3 X, x_i95_4 X, x_w95_4 X, x_a96 X, x_s96 X, x_a97 X, x_s97 X, x_a98 X, x_s98 X, Option.bind_some, ↓reduceIte, ite_not, fa_lit, nI_add, nI_mulN, nI_an, nI_sub, irm_n, nI_eq, nI_leI, nI_ltI, v_pow, v_shr, v_bit, nI_cl, nI_m1e, vN_ C, hk2, eq, er, bI_z, cEa_ C hp, F_X10_heardWith_b72, l_rc L]
      rw [hh]
      cases hf : (vFo a).testBit p
      · rw [hf] at e1
        rw [if_pos rfl]
        rw [show nI 0 = bI false from rfl, e1]
        rfl
      · rw [hf] at e1
        rw [if_neg (by decide)]
        rw [show nI 1 = bI true from rfl, e1]
        rfl
theorem k_heardWith (X : Fx g) (V : VaS g v) (C : CP g t v a D) {p b : Nat} (hp : p < vP a) (hb : b ≤ 20) : ∃ t', F_X10_heardWith v 95 (nI p) (nI b) (Em g t) = some (nI (mk (fun n => hears a p n b) (vN a)), Em g t') ∧ Sm g t t' := by
  have h2 := wN3 C.1
  unfold F_X10_heardWith
  simp (disch := omega) only [x_rc95 X, x_r95_0 X, x_r95_1 X, x_r95_2 X, x_i95_3 X, x_w95_3 X, x_i95_4 X, x_w95_4 X, x_a96 X, x_s96 X, x_a97 X, x_s97 X, x_a98 X, x_s98 X, Option.bind_some, ↓reduceIte, ite_not, k_found X C hp]
  exact k_hw_l X V hp hb (vN a) 0 FU t C (by omega) (by show vN a < 1000000; omega)
theorem k_heardBy (X : Fx g) (V : VaS g v) (C : CP g t v a D) {p : Nat} (hp : p < vP a) : ∃ t', F_X10_heardBy v 95 (nI p) (Em g t) = some (nI (heard a p), Em g t') ∧ Sm g t t' := by
  have h2 := wN3 C.1
  have h3 := wP2 C.1
  have h4 := wBl2 C.1 hp
  unfold F_X10_heardBy F_X10_heardBy_b23
  obtain ⟨t', e, s⟩ := k_heardWith X V C hp (show vBl a p ≤ 20 by omega)
  refine ⟨t', ?_, s⟩
  rcases wBl C.1 hp with hb | ⟨hb, hb2⟩
  · have hb3 : vBl a p = vN a := by
      unfold vBl
      rw [if_pos hb]
    rw [hb3] at e
    simp (disch := omega) only [v_rc V, v_i0 V, v_i1 V, v_i2 V, v_i3 V, v_i4 V, v_r5 V, v_r6 V, v_r7 V, v_r8 V, v_r9 V, v_r10 V, v_r11 V, v_a1 V, v_a2 V, v_a3 V, v_a4 V, v_a5 V, v_a6 V, x_rc95 X, x_r95_0 X, x_r95_1 X, x_r95_2 X, x_i95_3 X, x_w95_3 X, x_i95_4 X, x_w95_4 X, x_a96 X, x_s96 X, x_a97 X, x_s97 X, x_a98 X, x_s98 X, Option.bind_some, ↓reduceIte, ite_not, fa_lit, nI_add, nI_mulN, nI_an, nI_sub, irm_n, nI_eq, nI_leI, nI_ltI, v_pow, v_shr, v_bit, nI_cl, nI_m1e, cBl_ C hp, hb, vN_ C, e]
    unfold heard hnow
    rw [hb3]
  · have hne : ¬ nI (vBl a p) = -nI 1 := by rw [nI_m1e (by omega)]; exact id
    simp (disch := omega) only [v_rc V, v_i0 V, v_i1 V, v_i2 V, v_i3 V, v_i4 V, v_r5 V, v_r6 V, v_r7 V, v_r8 V, v_r9 V, v_r10 V, v_r11 V, v_a1 V, v_a2 V, v_a3 V, v_a4 V, v_a5 V, v_a6 V, x_rc95 X, x_r95_0 X, x_r95_1 X, x_r95_2 X, x_i95_3 X, x_w95_3 X, x_i95_4 X, x_w95_4 X, x_a96 X, x_s96 X, x_a97 X, x_s97 X, x_a98 X, x_s98 X, Option.bind_some, ↓reduceIte, ite_not, fa_lit, nI_add, nI_mulN, nI_an, nI_sub, irm_n, nI_eq, nI_leI, nI_ltI, v_pow, v_shr, v_bit, nI_cl, nI_m1e, cBl_ C hp, hb, hne, e]
    rfl
theorem k_soundOn (V : VaS g v) (C : CP g t v a D) {k d : Nat} (hk : k < vK a) (hd : d < 2 ^ 31) : F_X10_soundOn v (nI k) (nI d) (Em g t) = some (snd a k d, Em g t) := by
  have h2 := wK2 C.1
  have h3 := wCo1 C.1 hk
  have h4 := wCo2 C.1 hk
  have h5 := wN3 C.1
  have hm : d % vCo a k < vCo a k := Nat.mod_lt _ h3
  have h6 : vSd a k (d % vCo a k) ≤ vN a := wSd2 C.1 hk hm
  have h7 : ¬ vCo a k = 0 := by omega
  have h8 : ¬ vCo a k < 1 := by omega
  unfold F_X10_soundOn
  simp (disch := omega) only [v_rc V, v_i0 V, v_i1 V, v_i2 V, v_i3 V, v_i4 V, v_r5 V, v_r6 V, v_r7 V, v_r8 V, v_r9 V, v_r10 V, v_r11 V, v_a1 V, v_a2 V, v_a3 V, v_a4 V, v_a5 V, v_a6 V, Option.bind_some, ↓reduceIte, ite_not, fa_lit, nI_add, nI_mulN, nI_an, nI_sub, irm_n, nI_eq, nI_leI, nI_ltI, v_pow, v_shr, v_bit, nI_cl, nI_m1e, vCo_ C hk, vSd_ C hk hm, vN_ C, h7, h8, Nat.zero_le]
  unfold snd sno
  by_cases hq : vSd a k (d % vCo a k) = vN a
  · rw [if_pos hq, if_pos (by omega)]
  · rw [if_neg hq, if_neg (by omega)]
end XC3
