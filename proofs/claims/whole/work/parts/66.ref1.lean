/-! ===== what the reference's row must be like; its plain questions ===== -/
def W1 (a : Nat → Int32) : Prop := (a 1 = nI (vN a) ∧ 2 ≤ vN a ∧ vN a ≤ 10) ∧ (a 2 = nI (vT a) ∧ vT a ≤ 6) ∧ (a 3 = nI (vK a) ∧ vK a ≤ 6) ∧ (a 4 = nI (vP a) ∧ vP a ≤ 6)
def W2 (a : Nat → Int32) : Prop := ∀ t, t < vT a → (a (11 + t) = nI (vLg a t) ∧ 1 ≤ vLg a t ∧ vLg a t ≤ 9) ∧ ∀ i, i < vLg a t → a (17 + 9 * t + i) = nI (vNt a t i) ∧ vNt a t i < vN a
def W3 (a : Nat → Int32) : Prop := ∀ k, k < vK a → (a (71 + k) = nI (vCo a k) ∧ 1 ≤ vCo a k ∧ vCo a k ≤ 4) ∧ (∀ i, i < vCo a k → a (83 + 4 * k + i) = nI (vSd a k i) ∧ vSd a k i ≤ vN a) ∧ (a (77 + k) = nI (vWy a k) ∧ vWy a k < 2 ^ vK a) ∧ (∀ j, j < vK a → (vWy a k).testBit j = (vWy a j).testBit k) ∧ (vWy a k).testBit k = false
def W4 (a : Nat → Int32) : Prop := ∀ l, l < 2 → a (5 + l) = nI 0 ∨ (a (5 + l) = nI 1 ∧ a (7 + l) = nI (vFr a l) ∧ a (9 + l) = nI (vMa a l) ∧ vFr a l + vMa a l ≤ 900 ∧ okc l (cds a l) [])
def W5 (a : Nat → Int32) (D : Nat) : Prop := (a 107 = nI (vDy a) ∧ vDy a ≤ D) ∧ (a 108 = nI (vFo a) ∧ vFo a < 2 ^ vP a) ∧ ∀ p, p < vP a → (a (109 + p) = nI (vAt a p) ∧ vAt a p < vK a) ∧ (a (115 + p) = nI (vEa a p) ∧ vEa a p ≤ 9) ∧ (a (121 + p) = -nI 1 ∨ (a (121 + p) = nI (vBl a p) ∧ vBl a p < vN a))
def WV (a : Nat → Int32) : Prop := W1 a ∧ W2 a ∧ W3 a ∧ W4 a
def WA (a : Nat → Int32) (D : Nat) : Prop := WV a ∧ W5 a D ∧ D < 2 ^ 30
/-! the reference's answers, of that row -/
def hw (a : Nat → Int32) (p n b : Nat) : Nat → Int32 := fun j => if j = 0 then nI p else if j = 1 then nI n else if j = 2 then nI b else if j = 3 then a (115 + p) else bI ((vFo a).testBit p)
def hears (a : Nat → Int32) (p n b : Nat) : Bool := if a 5 = nI 0 then (!decide (n = b) || (vFo a).testBit p) else decide (ev (hw a p n b) (cds a 0) [] = [nI 1])
def hnow (a : Nat → Int32) (p n : Nat) : Bool := hears a p n (vBl a p)
def heard (a : Nat → Int32) (p : Nat) : Nat := mk (fun n => hnow a p n) (vN a)
def gw (i j : Nat) : Nat → Int32 := fun q => if q = 5 then nI i else if q = 6 then nI j else nI (if i < j then j - i else i - j)
def fol (a : Nat → Int32) (i j : Nat) : Bool := if a 6 = nI 0 then true else decide (ev (gw i j) (cds a 1) [] = [nI 1])
def sno (a : Nat → Int32) (k d : Nat) : Nat := vSd a k (d % vCo a k)
def snd (a : Nat → Int32) (k d : Nat) : Int32 := if sno a k d = vN a then -nI 1 else nI (sno a k d)
def atp (a : Nat → Int32) (k : Nat) : Nat := mk (fun p => decide (vAt a p = k)) (vP a)
def stepo (a : Nat → Int32) (u p : Nat) : Nat := mk (fun i => !hnow a p (vNt a u i)) (vLg a u)
theorem s_or1 {f : Nat → Bool} {n : Nat} (hf : f n = true) : nI (mk f n) ||| nI (2 ^ n) = nI (mk f (n + 1)) := by rw [fa_or, mk_or f n hf]
theorem s_or0 {f : Nat → Bool} {n : Nat} (hf : f n = false) : nI (mk f n) ||| nI 0 = nI (mk f (n + 1)) := by rw [mk_no f n hf, fa_or, Nat.or_zero]
theorem s_mk0 (f : Nat → Bool) : nI 0 = nI (mk f 0) := rfl
theorem bI_z {b : Bool} : (bI b = nI 0) = (b = false) := propext (bI_0 b)
theorem nI_b (b : Bool) : bI b = nI b.toNat := rfl
theorem lg_wide (x : Int32) : x.toInt64.toInt = x.toInt := i64 x
theorem mk_31 {f : Nat → Bool} {n : Nat} (h : n ≤ 30) : mk f n < 2 ^ 31 := Nat.lt_of_lt_of_le (mk_lt f n) (Nat.pow_le_pow_right (by decide) (by omega))
theorem p_31 {m n : Nat} (hm : m < 2 ^ n) (h : n ≤ 30) : m < 2 ^ 31 := Nat.lt_of_lt_of_le hm (Nat.pow_le_pow_right (by decide) (by omega))
section XR1
variable {g : Sk} {t : Tb} {a : Nat → Int32}
variable {D : Nat}
theorem wN (W : WA a D) : a 1 = nI (vN a) := W.1.1.1.1
theorem wN2 (W : WA a D) : 2 ≤ vN a := W.1.1.1.2.1
theorem wN3 (W : WA a D) : vN a ≤ 10 := W.1.1.1.2.2
theorem wT (W : WA a D) : a 2 = nI (vT a) := W.1.1.2.1.1
theorem wT2 (W : WA a D) : vT a ≤ 6 := W.1.1.2.1.2
theorem wK (W : WA a D) : a 3 = nI (vK a) := W.1.1.2.2.1.1
theorem wK2 (W : WA a D) : vK a ≤ 6 := W.1.1.2.2.1.2
theorem wP (W : WA a D) : a 4 = nI (vP a) := W.1.1.2.2.2.1
theorem wP2 (W : WA a D) : vP a ≤ 6 := W.1.1.2.2.2.2
theorem wLg (W : WA a D) {u : Nat} (h : u < vT a) : a (11 + u) = nI (vLg a u) := (W.1.2.1 u h).1.1
theorem wLg1 (W : WA a D) {u : Nat} (h : u < vT a) : 1 ≤ vLg a u := (W.1.2.1 u h).1.2.1
theorem wLg2 (W : WA a D) {u : Nat} (h : u < vT a) : vLg a u ≤ 9 := (W.1.2.1 u h).1.2.2
theorem wNt (W : WA a D) {u i : Nat} (h : u < vT a) (hi : i < vLg a u) : a (17 + 9 * u + i) = nI (vNt a u i) := ((W.1.2.1 u h).2 i hi).1
theorem wNt2 (W : WA a D) {u i : Nat} (h : u < vT a) (hi : i < vLg a u) : vNt a u i < vN a := ((W.1.2.1 u h).2 i hi).2
theorem wCo (W : WA a D) {k : Nat} (h : k < vK a) : a (71 + k) = nI (vCo a k) := (W.1.2.2.1 k h).1.1
theorem wCo1 (W : WA a D) {k : Nat} (h : k < vK a) : 1 ≤ vCo a k := (W.1.2.2.1 k h).1.2.1
theorem wCo2 (W : WA a D) {k : Nat} (h : k < vK a) : vCo a k ≤ 4 := (W.1.2.2.1 k h).1.2.2
theorem wSd (W : WA a D) {k i : Nat} (h : k < vK a) (hi : i < vCo a k) : a (83 + 4 * k + i) = nI (vSd a k i) := ((W.1.2.2.1 k h).2.1 i hi).1
theorem wSd2 (W : WA a D) {k i : Nat} (h : k < vK a) (hi : i < vCo a k) : vSd a k i ≤ vN a := ((W.1.2.2.1 k h).2.1 i hi).2
theorem wWy (W : WA a D) {k : Nat} (h : k < vK a) : a (77 + k) = nI (vWy a k) := (W.1.2.2.1 k h).2.2.1.1
theorem wWy2 (W : WA a D) {k : Nat} (h : k < vK a) : vWy a k < 2 ^ vK a := (W.1.2.2.1 k h).2.2.1.2
theorem wLw (W : WA a D) {l : Nat} (h : l < 2) : a (5 + l) = nI 0 ∨ (a (5 + l) = nI 1 ∧ a (7 + l) = nI (vFr a l) ∧ a (9 + l) = nI (vMa a l) ∧ vFr a l + vMa a l ≤ 900 ∧ okc l (cds a l) []) := W.1.2.2.2 l h
theorem wDy (W : WA a D) : a 107 = nI (vDy a) := W.2.1.1.1
theorem wDy2 (W : WA a D) : vDy a ≤ D := W.2.1.1.2
theorem wD (W : WA a D) : D < 2 ^ 30 := W.2.2
theorem wFo (W : WA a D) : a 108 = nI (vFo a) := W.2.1.2.1.1
theorem wFo2 (W : WA a D) : vFo a < 2 ^ vP a := W.2.1.2.1.2
theorem wFo3 (W : WA a D) : vFo a < 2 ^ 31 := p_31 (wFo2 W) (by have := wP2 W; omega)
theorem wAt (W : WA a D) {p : Nat} (h : p < vP a) : a (109 + p) = nI (vAt a p) := (W.2.1.2.2 p h).1.1
theorem wAt2 (W : WA a D) {p : Nat} (h : p < vP a) : vAt a p < vK a := (W.2.1.2.2 p h).1.2
theorem wEa (W : WA a D) {p : Nat} (h : p < vP a) : a (115 + p) = nI (vEa a p) := (W.2.1.2.2 p h).2.1.1
theorem wEa2 (W : WA a D) {p : Nat} (h : p < vP a) : vEa a p ≤ 9 := (W.2.1.2.2 p h).2.1.2
theorem wBl (W : WA a D) {p : Nat} (h : p < vP a) : a (121 + p) = -nI 1 ∨ (a (121 + p) = nI (vBl a p) ∧ vBl a p < vN a) := (W.2.1.2.2 p h).2.2
theorem wBl2 (W : WA a D) {p : Nat} (h : p < vP a) : vBl a p ≤ vN a := by
  rcases wBl W h with e | e
  · unfold vBl
    rw [if_pos e]
    exact Nat.le_refl _
  · omega
theorem q_isIn {m k : Nat} (hm : m < 2 ^ 31) (hk : k < 32) (h : xH) : F_X12_isIn (nI m).toInt64 (nI k) h = some (bI (m.testBit k), h) := p_isIn hm hk h
theorem q_found (X : Fx g) (W : WA a D) (ha : tA t 184 = a) {p : Nat} (hp : p < vP a) : F_X12_hasFound 183 (nI p) (Em g t) = some (bI ((vFo a).testBit p), Em g t) := by
  have h1 := wFo3 W
  have h2 := wP2 W
  unfold F_X12_hasFound
  simp (disch := omega) only [x_rc183 X, x_i183_0 X, x_w183_0 X, x_r183_1 X, x_r183_2 X, x_r183_3 X, x_r183_4 X, x_i183_5 X, x_w183_5 X, x_i183_6 X, x_w183_6 X, x_i183_7 X, x_w183_7 X, x_i183_8 X, x_w183_8 X, x_i183_9 X, x_w183_9 X, x_i183_10 X, x_w183_10 X, x_i183_11 X, x_w183_11 X, x_i183_12 X, x_w183_12 X, x_i183_13 X, x_w183_13 X, x_i183_14 X, x_w183_14 X, x_i183_15 X, x_w183_15 X, x_r183_16 X, x_r183_17 X, x_r183_18 X, x_i183_19 X, x_w183_19 X, x_i183_20 X, x_w183_20 X, x_r183_21 X, x_r183_22 X, x_r183_23 X, x_r183_24 X, x_r183_25 X, x_i183_26 X, x_w183_26 X, x_r183_27 X, x_r183_28 X, x_r183_29 X, x_i183_30 X, x_w183_30 X, x_r183_31 X, x_r183_32 X, x_r183_33 X, x_r183_34 X, x_r183_35 X, x_r183_36 X, x_a184 X, x_s184 X, x_a185 X, x_s185 X, x_a186 X, x_s186 X, x_a187 X, x_s187 X, x_a188 X, x_s188 X, x_a189 X, x_s189 X, x_a190 X, x_s190 X, x_a191 X, x_s191 X, x_a192 X, x_s192 X, x_a193 X, x_s193 X, x_a194 X, x_s194 X, x_a195 X, x_s195 X, x_a196 X, x_s196 X, x_a197 X, x_s197 X, x_a198 X, x_s198 X, x_a199 X, x_s199 X, x_a200 X, x_s200 X, x_a201 X, x_s201 X, x_a202 X, x_s202 X, x_a203 X, x_s203 X, x_a204 X, x_s204 X, Option.bind_some, ↓reduceIte, ite_not, fa_lit, nI_add, nI_mulN, nI_an, nI_sub, irm_n, nI_eq, nI_leI, nI_ltI, v_pow, v_shr, v_bit, nI_cl, nI_m1e, ha, wFo W, q_isIn, rz_b]
theorem q_rng {x : Int64} {P : Nat} (hP : P ≤ 100) : decide ((0 : Int64).toInt ≤ x.toInt ∧ x.toInt ≤ ((nI P - 1).toInt64).toInt) = decide (0 ≤ x.toInt ∧ x.toInt < P) := p_rng hP rfl
theorem q_person (X : Fx g) (W : WA a D) (ha : tA t 184 = a) (x : Int64) : F_X12_isPerson 183 x (Em g t) = some (bI (decide (0 ≤ x.toInt ∧ x.toInt < vP a)), Em g t) := by
  have h2 := wP2 W
  unfold F_X12_isPerson
  have e : aI (Em g t) 184 4 = some (tA t 184 4) := x_a184 X (k := 4) (by decide)
  simp only [x_r183_1 X, e, Option.bind_some, ha, wP W, p_within, q_rng (show vP a ≤ 100 by omega), rz_b]
theorem q_place (X : Fx g) (W : WA a D) (ha : tA t 184 = a) (x : Int64) : F_X12_isPlace 183 x (Em g t) = some (bI (decide (0 ≤ x.toInt ∧ x.toInt < vK a)), Em g t) := by
  have h2 := wK2 W
  unfold F_X12_isPlace
  have e : aI (Em g t) 184 3 = some (tA t 184 3) := x_a184 X (k := 3) (by decide)
  simp only [x_r183_1 X, e, Option.bind_some, ha, wK W, p_within, q_rng (show vK a ≤ 100 by omega), rz_b]
theorem q_note (X : Fx g) (W : WA a D) (ha : tA t 184 = a) (x : Int64) : F_X12_isNote 183 x (Em g t) = some (bI (decide (0 ≤ x.toInt ∧ x.toInt < vN a)), Em g t) := by
  have h2 := wN3 W
  unfold F_X12_isNote
  have e : aI (Em g t) 184 1 = some (tA t 184 1) := x_a184 X (k := 1) (by decide)
  simp only [x_r183_1 X, e, Option.bind_some, ha, wN W, p_within, q_rng (show vN a ≤ 100 by omega), rz_b]
theorem q_tune (X : Fx g) (W : WA a D) (ha : tA t 184 = a) (x : Int32) : F_X12_isTune 183 x (Em g t) = some (bI (decide (0 ≤ x.toInt ∧ x.toInt < vT a)), Em g t) := by
  have h2 := wT2 W
  unfold F_X12_isTune
  have e : aI (Em g t) 184 2 = some (tA t 184 2) := x_a184 X (k := 2) (by decide)
  simp only [x_r183_1 X, e, Option.bind_some, ha, wT W, p_within, q_rng (show vT a ≤ 100 by omega), rz_b]
  rw [i64]
theorem cds_len (f : Nat → Int32) : ∀ c k, (cdf f k c).length = c
  | 0, _ => rfl
  | c + 1, k => by rw [cdf, List.length_cons, cds_len f c (k + 1)]
theorem q_reckons (X : Fx g) (W : WA a D) (ha : tA t 184 = a) {l : Nat} (hl : l < 2) (hT : ¬ a (5 + l) = nI 0) (w : Nat → Int32) (hw : ∀ j, wok l j → tA t 189 j = w j) : ∃ t', F_X12_reckons 183 (nI l) (Em g t) = some (bI (decide (ev w (cds a l) [] = [nI 1])), Em g t') ∧ Sm g t t' := by
  rcases wLw W hl with h | ⟨_, h1, h2, h3, h4⟩
  · exact absurd h hT
  · have := p_reck X hl h1 h2 h3 w (cds a l) [] FU 0 0 t rfl (by omega) h4 rfl (by omega) ha hw (by
      rw [cds, cds_len]
      show vMa a l < 1000000
      omega)
    exact this
theorem q_hearsBy (X : Fx g) (W : WA a D) (ha : tA t 184 = a) {p n b : Nat} (hp : p < vP a) (hn : n ≤ 20) (hb : b ≤ 20) : ∃ t', F_X12_hearsBy 183 (nI p) (nI n) (nI b) (Em g t) = some (bI (hears a p n b), Em g t') ∧ Sm g t t' := by
  have h2 := wP2 W
  unfold F_X12_hearsBy
  by_cases h5 : a 5 = nI 0
  · simp (disch := omega) only [x_rc183 X, x_i183_0 X, x_w183_0 X, x_r183_1 X, x_r183_2 X, x_r183_3 X, x_r183_4 X, x_i183_5 X, x_w183_5 X, x_i183_6 X, x_w183_6 X, x_i183_7 X, x_w183_7 X, x_i183_8 X, x_w183_8 X, x_i183_9 X, x_w183_9 X, x_i183_10 X, x_w183_10 X, x_i183_11 X, x_w183_11 X, x_i183_12 X, x_w183_12 X, x_i183_13 X, x_w183_13 X, x_i183_14 X, x_w183_14 X, x_i183_15 X, x_w183_15 X, x_r183_16 X, x_r183_17 X, x_r183_18 X, x_i183_19 X, x_w183_19 X, x_i183_20 X, x_w183_20 X, x_r183_21 X, x_r183_22 X, x_r183_23 X, x_r183_24 X, x_r183_25 X, x_i183_26 X, x_w183_26 X, x_r183_27 X, x_r183_28 X, x_r183_29 X, x_i183_30 X, x_w183_30 X, x_r183_31 X, x_r183_32 X, x_r183_33 X, x_r183_34 X, x_r183_35 X, x_r183_36 X, x_a184 X, x_s184 X, x_a185 X, x_s185 X, x_a186 X, x_s186 X, x_a187 X, x_s187 X, x_a188 X, x_s188 X, x_a189 X, x_s189 X, x_a190 X, x_s190 X, x_a191 X, x_s191 X, x_a192 X, x_s192 X, x_a193 X, x_s193 X, x_a194 X, x_s194 X, x_a195 X, x_s195 X, x_a196 X, x_s196 X, x_a197 X, x_s197 X, x_a198 X, x_s198 X, x_a199 X, x_s199 X, x_a200 X, x_s200 X, x_a201 X, x_s201 X, x_a202 X, x_s202 X, x_a203 X, x_s203 X, x_a204 X, x_s204 X, Option.bind_some, ↓reduceIte, ite_not, fa_lit, nI_add, nI_mulN, nI_an, nI_sub, irm_n, nI_eq, nI_leI, nI_ltI, v_pow, v_shr, v_bit, nI_cl, nI_m1e, ha, h5, q_found X W ha hp, bI_z]
    refine ⟨t, ?_, Sm_r⟩
    unfold hears
    rw [if_pos h5]
    by_cases hnb : n = b
    · cases hq : (vFo a).testBit p <;> simp [hnb, bI]
    · simp [hnb, bI]
  · have hh : ∀ z : Int32, ∃ t', F_X12_hearsBy_b82 183 189 (nI 4) z (Em g (wa (wa (wa (wa t 189 0 (nI p)) 189 1 (nI n)) 189 2 (nI b)) 189 3 (a (115 + p)))) = some (bI (decide (ev (fun j => if j = 0 then nI p else if j = 1 then nI n else if j = 2 then nI b else if j = 3 then a (115 + p) else z) (cds a 0) [] = [nI 1])), Em g t') ∧ Sm g t t' := by
      intro z
      unfold F_X12_hearsBy_b82
      simp (disch := omega) only [x_rc183 X, x_i183_0 X, x_w183_0 X, x_r183_1 X, x_r183_2 X, x_r183_3 X, x_r183_4 X, x_i183_5 X, x_w183_5 X, x_i183_6 X, x_w183_6 X, x_i183_7 X, x_w183_7 X, x_i183_8 X, x_w183_8 X, x_i183_9 X, x_w183_9 X, x_i183_10 X, x_w183_10 X, x_i183_11 X, x_w183_11 X, x_i183_12 X, x_w183_12 X, x_i183_13 X, x_w183_13 X, x_i183_14 X, x_w183_14 X, x_i183_15 X, x_w183_15 X, x_r183_16 X, x_r183_17 X, x_r183_18 X, x_i183_19 X, x_w183_19 X, x_i183_20 X, x_w183_20 X, x_r183_21 X, x_r183_22 X, x_r183_23 X, x_r183_24 X, x_r183_25 X, x_i183_26 X, x_w183_26 X, x_r183_27 X, x_r183_28 X, x_r183_29 X, x_i183_30 X, x_w183_30 X, x_r183_31 X, x_r183_32 X, x_r183_33 X, x_r183_34 X, x_r183_35 X, x_r183_36 X, x_a184 X, x_s184 X, x_a185 X, x_s185 X, x_a186 X, x_s186 X, x_a187 X, x_s187 X, x_a188 X, x_s188 X, x_a189 X, x_s189 X, x_a190 X, x_s190 X, x_a191 X, x_s191 X, x_a192 X, x_s192 X, x_a193 X, x_s193 X, x_a194 X, x_s194 X, x_a195 X, x_s195 X, x_a196 X, x_s196 X, x_a197 X, x_s197 X, x_a198 X, x_s198 X, x_a199 X, x_s199 X, x_a200 X, x_s200 X, x_a201 X, x_s201 X, x_a202 X, x_s202 X, x_a203 X, x_s203 X, x_a204 X, x_s204 X, Option.bind_some, ↓reduceIte, ite_not, fa_lit, nI_add, nI_mulN, nI_an, nI_sub, irm_n, nI_eq, nI_leI, nI_ltI, v_pow, v_shr, v_bit, nI_cl, nI_m1e]
      obtain ⟨t', e, hS⟩ := q_reckons (t := wa (wa (wa (wa (wa t 189 0 (nI p)) 189 1 (nI n)) 189 2 (nI b)) 189 3 (a (115 + p))) 189 4 z) X W (by rw [tA_an (by decide), tA_an (by decide), tA_an (by decide), tA_an (by decide), tA_an (by decide), ha]) (l := 0) (by decide) h5 (fun j => if j = 0 then nI p else if j = 1 then nI n else if j = 2 then nI b else if j = 3 then a (115 + p) else z) (fun j hj => by
        have : j < 5 := by rcases hj with h | h <;> omega
        simp only [tA_as]
        rcases (show j = 0 ∨ j = 1 ∨ j = 2 ∨ j = 3 ∨ j = 4 by omega) with e | e | e | e | e <;> subst e <;> simp [upd])
      rw [e]
      refine ⟨t', ?_, Sm_t (Sm_wa (sc_f rfl) (Sm_wa (sc_f rfl) (Sm_wa (sc_f rfl) (Sm_wa (sc_f rfl) (Sm_wa (sc_f rfl) Sm_r))))) hS⟩
      simp only [Option.bind_some, rz_b]
    have ha4 : tA (wa (wa (wa (wa t 189 0 (nI p)) 189 1 (nI n)) 189 2 (nI b)) 189 3 (a (115 + p))) 184 = a := by rw [tA_an (by decide), tA_an (by decide), tA_an (by decide), tA_an (by decide), ha]
    have ha3 : tA (wa (wa (wa t 189 0 (nI p)) 189 1 (nI n)) 189 2 (nI b)) 184 = a := by rw [tA_an (by decide), tA_an (by decide), tA_an (by decide), ha]
    simp (disch := omega) only [x_rc183 X, x_i183_0 X, x_w183_0 X, x_r183_1 X, x_r183_2 X, x_r183_3 X, x_r183_4 X, x_i183_5 X, x_w183_5 X, x_i183_6 X, x_w183_6 X, x_i183_7 X, x_w183_7 X, x_i183_8 X, x_w183_8 X, x_i183_9 X, x_w183_9 X, x_i183_10 X, x_w183_10 X, x_i183_11 X, x_w183_11 X, x_i183_12 X, x_w183_12 X, x_i183_13 X, x_w183_13 X, x_i183_14 X, x_w183_14 X, x_i183_15 X, x_w183_15 X, x_r183_16 X, x_r183_17 X, x_r183_18 X, x_i183_19 X, x_w183_19 X, x_i183_20 X, x_w183_20 X, x_r183_21 X, x_r183_22 X, x_r183_23 X, x_r183_24 X, x_r183_25 X, x_i183_26 X, x_w183_26 X, x_r183_27 X, x_r183_28 X, x_r183_29 X, x_i183_30 X, x_w183_30 X, x_r183_31 X, x_r183_32 X, x_r183_33 X, x_r183_34 X, x_r183_35 X, x_r183_36 X, x_a184 X, x_s184 X, x_a185 X, x_s185 X, x_a186 X, x_s186 X, x_a187 X, x_s187 X, x_a188 X, x_s188 X, x_a189 X, x_s189 X, x_a190 X, x_s190 X, x_a191 X, x_s191 X, x_a192 X, x_s192 X, x_a193 X, x_s193 X, x_a194 X, x_s194 X, x_a195 X, x_s195 X, x_a196 X, x_s196 X, x_a197 X, x_s197 X, x_a198 X, x_s198 X, x_a199 X, x_s199 X, x_a200 X, x_s200 X, x_a201 X, x_s201 X, x_a202 X, x_s202 X, x_a203 X, x_s203 X, x_a204 X, x_s204 X, Option.bind_some, ↓reduceIte, ite_not, fa_lit, nI_add, nI_mulN, nI_an, nI_sub, irm_n, nI_eq, nI_leI, nI_ltI, v_pow, v_shr, v_bit, nI_cl, nI_m1e, ha, ha3, h5, q_found X W ha4 hp, bI_z]
    obtain ⟨t', e, hS⟩ := hh (bI ((vFo a).testBit p))
    refine ⟨t', ?_, hS⟩
    unfold hears
    rw [if_neg h5]
    rw [show hw a p n b = (fun j => if j = 0 then nI p else if j = 1 then nI n else if j = 2 then nI b else if j = 3 then a (115 + p) else bI ((vFo a).testBit p)) from rfl, ← e]
    cases (vFo a).testBit p <;> simp [bI]
theorem q_hearsNow (X : Fx g) (W : WA a D) (ha : tA t 184 = a) {p n : Nat} (hp : p < vP a) (hn : n ≤ 20) : ∃ t', F_X12_hearsNow 183 (nI p) (nI n) (Em g t) = some (bI (hnow a p n), Em g t') ∧ Sm g t t' := by
  have h2 := wP2 W
  have h3 := wBl2 W hp
  have h4 := wN3 W
  unfold F_X12_hearsNow F_X12_hearsNow_b34
  obtain ⟨t', e, hS⟩ := q_hearsBy X W ha hp hn (show vBl a p ≤ 20 by omega)
  refine ⟨t', ?_, hS⟩
  rcases wBl W hp with hb | ⟨hb, hb2⟩
  · have hb3 : vBl a p = vN a := by
      unfold vBl
      rw [if_pos hb]
    rw [hb3] at e
    simp (disch := omega) only [x_rc183 X, x_i183_0 X, x_w183_0 X, x_r183_1 X, x_r183_2 X, x_r183_3 X, x_r183_4 X, x_i183_5 X, x_w183_5 X, x_i183_6 X, x_w183_6 X, x_i183_7 X, x_w183_7 X, x_i183_8 X, x_w183_8 X, x_i183_9 X, x_w183_9 X, x_i183_10 X, x_w183_10 X, x_i183_11 X, x_w183_11 X, x_i183_12 X, x_w183_12 X, x_i183_13 X, x_w183_13 X, x_i183_14 X, x_w183_14 X, x_i183_15 X, x_w183_15 X, x_r183_16 X, x_r183_17 X, x_r183_18 X, x_i183_19 X, x_w183_19 X, x_i183_20 X, x_w183_20 X, x_r183_21 X, x_r183_22 X, x_r183_23 X, x_r183_24 X, x_r183_25 X, x_i183_26 X, x_w183_26 X, x_r183_27 X, x_r183_28 X, x_r183_29 X, x_i183_30 X, x_w183_30 X, x_r183_31 X, x_r183_32 X, x_r183_33 X, x_r183_34 X, x_r183_35 X, x_r183_36 X, x_a184 X, x_s184 X, x_a185 X, x_s185 X, x_a186 X, x_s186 X, x_a187 X, x_s187 X, x_a188 X, x_s188 X, x_a189 X, x_s189 X, x_a190 X, x_s190 X, x_a191 X, x_s191 X, x_a192 X, x_s192 X, x_a193 X, x_s193 X, x_a194 X, x_s194 X, x_a195 X, x_s195 X, x_a196 X, x_s196 X, x_a197 X, x_s197 X, x_a198 X, x_s198 X, x_a199 X, x_s199 X, x_a200 X, x_s200 X, x_a201 X, x_s201 X, x_a202 X, x_s202 X, x_a203 X, x_s203 X, x_a204 X, x_s204 X, Option.bind_some, ↓reduceIte, ite_not, fa_lit, nI_add, nI_mulN, nI_an, nI_sub, irm_n, nI_eq, nI_leI, nI_ltI, v_pow, v_shr, v_bit, nI_cl, nI_m1e, ha, hb, wN W, e, rz_b]
    unfold hnow
    rw [hb3]
  · have hne : ¬ nI (vBl a p) = -nI 1 := by rw [nI_m1e (by omega)]; exact id
    simp (disch := omega) only [x_rc183 X, x_i183_0 X, x_w183_0 X, x_r183_1 X, x_r183_2 X, x_r183_3 X, x_r183_4 X, x_i183_5 X, x_w183_5 X, x_i183_6 X, x_w183_6 X, x_i183_7 X, x_w183_7 X, x_i183_8 X, x_w183_8 X, x_i183_9 X, x_w183_9 X, x_i183_10 X, x_w183_10 X, x_i183_11 X, x_w183_11 X, x_i183_12 X, x_w183_12 X, x_i183_13 X, x_w183_13 X, x_i183_14 X, x_w183_14 X, x_i183_15 X, x_w183_15 X, x_r183_16 X, x_r183_17 X, x_r183_18 X, x_i183_19 X, x_w183_19 X, x_i183_20 X, x_w183_20 X, x_r183_21 X, x_r183_22 X, x_r183_23 X, x_r183_24 X, x_r183_25 X, x_i183_26 X, x_w183_26 X, x_r183_27 X, x_r183_28 X, x_r183_29 X, x_i183_30 X, x_w183_30 X, x_r183_31 X, x_r183_32 X, x_r183_33 X, x_r183_34 X, x_r183_35 X, x_r183_36 X, x_a184 X, x_s184 X, x_a185 X, x_s185 X, x_a186 X, x_s186 X, x_a187 X, x_s187 X, x_a188 X, x_s188 X, x_a189 X, x_s189 X, x_a190 X, x_s190 X, x_a191 X, x_s191 X, x_a192 X, x_s192 X, x_a193 X, x_s193 X, x_a194 X, x_s194 X, x_a195 X, x_s195 X, x_a196 X, x_s196 X, x_a197 X, x_s197 X, x_a198 X, x_s198 X, x_a199 X, x_s199 X, x_a200 X, x_s200 X, x_a201 X, x_s201 X, x_a202 X, x_s202 X, x_a203 X, x_s203 X, x_a204 X, x_s204 X, Option.bind_some, ↓reduceIte, ite_not, fa_lit, nI_add, nI_mulN, nI_an, nI_sub, irm_n, nI_eq, nI_leI, nI_ltI, v_pow, v_shr, v_bit, nI_cl, nI_m1e, ha, hb, hne, e, rz_b]
    rfl
theorem q_heardBy_l (X : Fx g) (W : WA a D) {p : Nat} (hp : p < vP a) : ∀ (d k fuel : Nat) (t : Tb), k + d = vN a → d < fuel → tA t 184 = a → ∃ t', F_X12_heardBy_b4 fuel 183 (nI p) (nI (mk (fun n => hnow a p n) k)) (nI k) (Em g t) = some (nI (heard a p), Em g t') ∧ Sm g t t' := by
  have h4 := wN3 W
  intro d
  induction d with
  | zero =>
    intro k fuel t hk hf ha
    obtain ⟨f, rfl⟩ : ∃ f, fuel = f + 1 := ⟨fuel - 1, by omega⟩
    have hk : k = vN a := by omega
    subst hk
    rw [F_X12_heardBy_b4]
    simp (disch := omega) only [x_rc183 X, x_i183_0 X, x_w183_0 X, x_r183_1 X, x_r183_2 X, x_r183_3 X, x_r183_4 X, x_i183_5 X, x_w183_5 X, x_i183_6 X, x_w183_6 X, x_i183_7 X, x_w183_7 X, x_i183_8 X, x_w183_8 X, x_i183_9 X, x_w183_9 X, x_i183_10 X, x_w183_10 X, x_i183_11 X, x_w183_11 X, x_i183_12 X, x_w183_12 X, x_i183_13 X, x_w183_13 X, x_i183_14 X, x_w183_14 X, x_i183_15 X, x_w183_15 X, x_r183_16 X, x_r183_17 X, x_r183_18 X, x_i183_19 X, x_w183_19 X, x_i183_20 X, x_w183_20 X, x_r183_21 X, x_r183_22 X, x_r183_23 X, x_r183_24 X, x_r183_25 X, x_i183_26 X, x_w183_26 X, x_r183_27 X, x_r183_28 X, x_r183_29 X, x_i183_30 X, x_w183_30 X, x_r183_31 X, x_r183_32 X, x_r183_33 X, x_r183_34 X, x_r183_35 X, x_r183_36 X, x_a184 X, x_s184 X, x_a185 X, x_s185 X, x_a186 X, x_s186 X, x_a187 X, x_s187 X, x_a188 X, x_s188 X, x_a189 X, x_s189 X, x_a190 X, x_s190 X, x_a191 X, x_s191 X, x_a192 X, x_s192 X, x_a193 X, x_s193 X, x_a194 X, x_s194 X, x_a195 X, x_s195 X, x_a196 X, x_s196 X, x_a197 X, x_s197 X, x_a198 X, x_s198 X, x_a199 X, x_s199 X, x_a200 X, x_s200 X, x_a201 X, x_s201 X, x_a202 X, x_s202 X, x_a203 X, x_s203 X, x_a204 X, x_s204 X, Option.bind_some, ↓reduceIte, ite_not, fa_lit, nI_add, nI_mulN, nI_an, nI_sub, irm_n, nI_eq, nI_leI, nI_ltI, v_pow, v_shr, v_bit, nI_cl, nI_m1e, ha, wN W, Nat.le_refl]
    exact ⟨t, rfl, Sm_r⟩
  | succ d ih =>
    intro k fuel t hk hf ha
    obtain ⟨f, rfl⟩ : ∃ f, fuel = f + 1 := ⟨fuel - 1, by omega⟩
    have hk2 : ¬ vN a ≤ k := by omega
    rw [F_X12_heardBy_b4]
    obtain ⟨t1, e1, s1⟩ := q_hearsNow X W ha hp (show k ≤ 20 by omega)
    obtain ⟨t2, e2, s2⟩ := ih (k + 1) f t1 (by omega) (by omega) (by rw [Sm_a X s1, ha])
    refine ⟨t2, ?_, Sm_t s1 s2⟩
    cases hh : hnow a p k
    · simp (disch := omega) only [x_rc183 X, x_i183_0 X, x_w183_0 X, x_r183_1 X, x_r183_2 X, x_r183_3 X, x_r183_4 X, x_i183_5 X, x_w183_5 X, x_i183_6 X, x_w183_6 X, x_i183_7 X, x_w183_7 X, x_i183_8 X, x_w183_8 X, x_i183_9 X, x_w183_9 X, x_i183_10 X, x_w183_10 X, x_i183_11 X, x_w183_11 X, x_i183_12 X, x_w183_12 X, x_i183_13 X, x_w183_13 X, x_i183_14 X, x_w183_14 X, x_i183_15 X, x_w183_15 X, x_r183_16 X, x_r183_17 X, x_r183_18 X, x_i183_19 X, x_w183_19 X, x_i183_20 X, x_w183_20 X, x_r183_21 X, x_r183_22 X, x_r183_23 X, x_r183_24 X, x_r183_25 X, x_i183_26 X, x_w183_26 X, x_r183_27 X, x_r183_28 X, x_r183_29 X, x_i183_30 X, x_w183_30 X, x_r183_31 X, x_r183_32 X, x_r183_33 X, x_r183_34 X, x_r183_35 X, x_r183_36 X, x_a184 X, x_s184 X, x_a185 X, x_s185 X, x_a186 X, x_s186 X, x_a187 X, x_s187 X, x_a188 X, x_s188 X, x_a189 X, x_s189 X, x_a190 X, x_s190 X, x_a191 X, x_s191 X, x_a192 X, x_s192 X, x_a193 X, x_s193 X, x_a194 X, x_s194 X, x_a195 X, x_s195 X, x_a196 X, x_s196 X, x_a197 X, x_s197 X, x_a198 X, x_s198 X, x_a199 X, x_s199 X, x_a200 X, x_s200 X, x_a201 X, x_s201 X, x_a202 X, x_s202 X, x_a203 X, x_s203 X, x_a204 X, x_s204 X, Option.bind_some, ↓reduceIte, ite_not, fa_lit, nI_add, nI_mulN, nI_an, nI_sub, irm_n, nI_eq, nI_leI, nI_ltI, v_pow, v_shr, v_bit, nI_cl, nI_m1e, ha, wN W, hk2, e1, hh, bI_z, F_X12_heardBy_b31]
      rw [← e2, ← s_or0 (f := fun n => hnow a p n) hh]
    · simp (disch := omega) only [x_rc183 X, x_i183_0 X, x_w183_0 X, x_r183_1 X, x_r183_2 X, x_r183_3 X, x_r183_4 X, x_i183_5 X, x_w183_5 X, x_i183_6 X, x_w183_6 X, x_i183_7 X, x_w183_7 X, x_i183_8 X, x_w183_8 X, x_i183_9 X, x_w183_9 X, x_i183_10 X, x_w183_10 X, x_i183_11 X, x_w183_11 X, x_i183_12 X, x_w183_12 X, x_i183_13 X, x_w183_13 X, x_i183_14 X, x_w183_14 X, x_i183_15 X, x_w183_15 X, x_r183_16 X, x_r183_17 X, x_r183_18 X, x_i183_19 X, x_w183_19 X, x_i183_20 X, x_w183_20 X, x_r183_21 X, x_r183_22 X, x_r183_23 X, x_r183_24 X, x_r183_25 X, x_i183_26 X, x_w183_26 X, x_r183_27 X, x_r183_28 X, x_r183_29 X, x_i183_30 X, x_w183_30 X, x_r183_31 X, x_r183_32 X, x_r183_33 X, x_r183_34 X, x_r183_35 X, x_r183_36 X, x_a184 X, x_s184 X, x_a185 X, x_s185 X, x_a186 X, x_s186 X, x_a187 X, x_s187 X, x_a188 X, x_s188 X, x_a189 X, x_s189 X, x_a190 X, x_s190 X, x_a191 X, x_s191 X, x_a192 X, x_s192 X, x_a193 X, x_s193 X, x_a194 X, x_s194 X, x_a195 X, x_s195 X, x_a196 X, x_s196 X, x_a197 X, x_s197 X, x_a198 X, x_s198 X, x_a199 X, x_s199 X, x_a200 X, x_s200 X, x_a201 X, x_s201 X, x_a202 X, x_s202 X, x_a203 X, x_s203 X, x_a204 X, x_s204 X, Option.bind_some, ↓reduceIte, ite_not, fa_lit, nI_add, nI_mulN, nI_an, nI_sub, irm_n, nI_eq, nI_leI, nI_ltI, v_pow, v_shr, v_bit, nI_cl, nI_m1e, ha, wN W, hk2, e1, hh, bI_z, F_X12_heardBy_b31, Bool.true_eq_false]
      rw [← e2, ← s_or1 (f := fun n => hnow a p n) hh]
theorem q_heardBy (X : Fx g) (W : WA a D) (ha : tA t 184 = a) {p : Nat} (hp : p < vP a) : ∃ t', F_X12_heardBy 183 (nI p) (Em g t) = some (nI (heard a p), Em g t') ∧ Sm g t t' := by
  have h4 := wN3 W
  exact q_heardBy_l X W hp (vN a) 0 FU t (by omega) (by show vN a < 1000000; omega) ha
end XR1
