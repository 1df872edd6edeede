/-! ===== small numbers, in the form that the functions have them ===== -/
theorem nI_mulN (a b : Nat) : nI a * nI b = nI (a * b) := pk_mul a b
theorem nI_an {a b : Nat} (h : b ≤ a) : nI a + -nI b = nI (a - b) := by
  rw [← pk_sub h]
  exact (Int32.sub_eq_add_neg _ _).symm
theorem nI_sub {a b : Nat} (h : b ≤ a) : nI a - nI b = nI (a - b) := pk_sub h
theorem irm_n {a b : Nat} (ha : a < 2 ^ 31) (h0 : 0 < b) (hb : b < 2 ^ 31) : irm (nI a) (nI b) = nI (a % b) := pk_rem ha h0 hb
theorem v_pow {i : Nat} (h : i < 31) : nI 1 <<< (nI i &&& nI 31) = nI (2 ^ i) := bb_pow i h
theorem v_shr {a k : Nat} (ha : a < 2 ^ 31) (hk : k < 32) : nI a >>> (nI k &&& nI 31) = nI (a / 2 ^ k) := bb_shr ha hk
theorem v_bit {a k : Nat} : nI (a / 2 ^ k) &&& nI 1 = bI (a.testBit k) := by
  rw [fa_and]
  have h2 : a / 2 ^ k &&& 1 = (a.testBit k).toNat := by
    rw [Nat.testBit_eq_decide_div_mod_eq, Nat.and_one_is_mod]
    have : a / 2 ^ k % 2 < 2 := Nat.mod_lt _ (by decide)
    rcases (show a / 2 ^ k % 2 = 0 ∨ a / 2 ^ k % 2 = 1 by omega) with h | h <;> simp [h]
  rw [h2]
  rfl
theorem nI_cl {n : Nat} (h : n < 2 ^ 31) : (nI n).toNatClampNeg = n := nI_clamp h
theorem nI_m1e {a : Nat} (h : a < 2 ^ 31) : (nI a = -nI 1) = False := by
  apply propext
  constructor
  · intro e
    have := congrArg Int32.toInt e
    rw [nI_toInt h] at this
    have h2 : (-nI 1 : Int32).toInt = -1 := rfl
    omega
  · exact False.elim
/-! ===== the reference's numbers, out of its one row ===== -/
def tn (x : Int32) : Nat := x.toNatClampNeg
def vN (a : Nat → Int32) : Nat := tn (a 1)
def vT (a : Nat → Int32) : Nat := tn (a 2)
def vK (a : Nat → Int32) : Nat := tn (a 3)
def vP (a : Nat → Int32) : Nat := tn (a 4)
def vFr (a : Nat → Int32) (l : Nat) : Nat := tn (a (7 + l))
def vMa (a : Nat → Int32) (l : Nat) : Nat := tn (a (9 + l))
def vLg (a : Nat → Int32) (t : Nat) : Nat := tn (a (11 + t))
def vNt (a : Nat → Int32) (t i : Nat) : Nat := tn (a (17 + 9 * t + i))
def vCo (a : Nat → Int32) (k : Nat) : Nat := tn (a (71 + k))
def vWy (a : Nat → Int32) (k : Nat) : Nat := tn (a (77 + k))
def vSd (a : Nat → Int32) (k i : Nat) : Nat := tn (a (83 + 4 * k + i))
def vDy (a : Nat → Int32) : Nat := tn (a 107)
def vFo (a : Nat → Int32) : Nat := tn (a 108)
def vAt (a : Nat → Int32) (p : Nat) : Nat := tn (a (109 + p))
def vEa (a : Nat → Int32) (p : Nat) : Nat := tn (a (115 + p))
/-- the blank's number; as many as there are notes: none -/
def vBl (a : Nat → Int32) (p : Nat) : Nat := if a (121 + p) = -nI 1 then vN a else tn (a (121 + p))
def vDe (a : Nat → Int32) : Nat := tn (a 127)
/-! ===== a law's steps ===== -/
def cdf (f : Nat → Int32) : Nat → Nat → List Int32
  | _, 0 => []
  | k, c + 1 => f k :: cdf f (k + 1) c
def cds (a : Nat → Int32) (l : Nat) : List Int32 := cdf a (329 + vFr a l) (vMa a l)
def wok (l w : Nat) : Prop := (l = 0 ∧ w < 5) ∨ (l = 1 ∧ 5 ≤ w ∧ w < 8)
def tin (o : Nat) : Bool := decide (7 ≤ o)
def tou (o : Nat) : Bool := decide (3 ≤ o)
def okc (l : Nat) : List Int32 → List Bool → Prop
  | [], ty => ty = [true]
  | c :: cs, ty => (∃ m, m < 1000 ∧ c = nI m ∧ ty.length < 24 ∧ okc l cs (false :: ty)) ∨ (∃ w, wok l w ∧ c = nI (1000 + w) ∧ ty.length < 24 ∧ okc l cs (false :: ty)) ∨ (c = nI 3006 ∧ ∃ r, ty = true :: r ∧ okc l cs (true :: r)) ∨ (∃ o r, o < 9 ∧ o ≠ 6 ∧ c = nI (3000 + o) ∧ ty = tin o :: tin o :: r ∧ okc l cs (tou o :: r))
def clp (v : Int64) : Int32 := if (lg_cmp v 1000000) ≤ 0 then if 0 ≤ (lg_cmp v ((-1000000))) then v.toInt32 else (((-1000000) : Int64)).toInt32 else ((1000000 : Int64)).toInt32
def btw (o : Nat) (x y : Int32) : Int32 := if o = 3 then (if ¬ x = y then nI 0 else nI 1) else if o = 4 then (if y ≤ x then nI 0 else nI 1) else if o = 5 then (if x ≤ y then nI 0 else nI 1) else if o = 7 then x &&& y else if o = 8 then x ||| y else if o = 0 then clp (x.toInt64 + y.toInt64) else if o = 1 then clp (x.toInt64 - y.toInt64) else clp (x.toInt64 * y.toInt64)
def stp (w : Nat → Int32) (c : Nat) : List Int32 → List Int32
  | [] => [if c < 1000 then nI c else w (c - 1000)]
  | [x] => if c < 3000 then [if c < 1000 then nI c else w (c - 1000), x] else [nI 1 - x]
  | y :: x :: r => if c < 3000 then (if c < 1000 then nI c else w (c - 1000)) :: y :: x :: r else if c = 3006 then (nI 1 - y) :: x :: r else btw (c - 3000) x y :: r
def ev (w : Nat → Int32) : List Int32 → List Int32 → List Int32
  | [], st => st
  | c :: cs, st => ev w cs (stp w (tn c) st)
theorem tn_n {n : Nat} (h : n < 2 ^ 31) : tn (nI n) = n := nI_clamp h
theorem stp_num {w : Nat → Int32} {c : Nat} {st : List Int32} (h : c < 1000) : stp w c st = nI c :: st := by
  rcases st with _ | ⟨y, _ | ⟨x, r⟩⟩ <;> simp [stp, h, show c < 3000 by omega]
theorem stp_word {w : Nat → Int32} {c : Nat} {st : List Int32} (h : c < 1000) : stp w (1000 + c) st = w c :: st := by
  rcases st with _ | ⟨y, _ | ⟨x, r⟩⟩ <;> simp [stp, show 1000 + c < 3000 by omega, show ¬ 1000 + c < 1000 by omega]
theorem stp_not {w : Nat → Int32} {y : Int32} {r : List Int32} : stp w 3006 (y :: r) = (nI 1 - y) :: r := by
  rcases r with _ | ⟨x, r⟩ <;> simp [stp]
theorem stp_op {w : Nat → Int32} {o : Nat} {y x : Int32} {r : List Int32} (h6 : o ≠ 6) : stp w (3000 + o) (y :: x :: r) = btw o x y :: r := by
  simp [stp, show ¬ 3000 + o = 3006 by omega, show ¬ 3000 + o < 3000 by omega]
def stk (f : Nat → Int32) : Nat → List Int32
  | 0 => []
  | n + 1 => f n :: stk f n
theorem stk_len (f : Nat → Int32) : ∀ n, (stk f n).length = n
  | 0 => rfl
  | n + 1 => by rw [stk, List.length_cons, stk_len f n]
theorem stk_up (f : Nat → Int32) (x : Int32) {j : Nat} : ∀ n, n ≤ j → stk (upd f j x) n = stk f n
  | 0, _ => rfl
  | n + 1, h => by rw [stk, stk, stk_up f x n (by omega), pk_un (by omega)]
theorem p_btw {o : Nat} (ho : o < 9) (h6 : o ≠ 6) (x y : Int32) (h : xH) : F_X12_between (nI (3000 + o)) x y h = some (btw o x y, h) := by
  have b116 : ∀ v, F_X12_between_b116 v h = some (clp v, h) := by
    intro v
    unfold F_X12_between_b116 clp
    split
    · split <;> rfl
    · rfl
  rcases (show o = 0 ∨ o = 1 ∨ o = 2 ∨ o = 3 ∨ o = 4 ∨ o = 5 ∨ o = 7 ∨ o = 8 by omega) with e | e | e | e | e | e | e | e <;> subst e <;> unfold F_X12_between
  · rw [if_neg (by decide), if_neg (by decide), if_neg (by decide), if_neg (by decide), if_neg (by decide), if_neg (by decide)]
    unfold F_X12_between_b81
    rw [if_neg (by decide)]
    exact b116 _
  · rw [if_neg (by decide), if_neg (by decide), if_neg (by decide), if_neg (by decide), if_neg (by decide), if_neg (by decide)]
    unfold F_X12_between_b81
    rw [if_pos (by decide), if_neg (by decide)]
    exact b116 _
  · rw [if_neg (by decide), if_neg (by decide), if_neg (by decide), if_neg (by decide), if_neg (by decide), if_neg (by decide)]
    unfold F_X12_between_b81
    rw [if_pos (by decide), if_pos (by decide)]
    exact b116 _
  · rw [if_pos (by decide)]
    show _ = some (if ¬ x = y then nI 0 else nI 1, h)
    split <;> rfl
  · rw [if_neg (by decide), if_pos (by decide)]
    show _ = some (if y ≤ x then nI 0 else nI 1, h)
    split <;> rfl
  · rw [if_neg (by decide), if_neg (by decide), if_pos (by decide)]
    show _ = some (if x ≤ y then nI 0 else nI 1, h)
    split <;> rfl
  · rw [if_neg (by decide), if_neg (by decide), if_neg (by decide), if_neg (by decide), if_pos (by decide)]
    rfl
  · rw [if_neg (by decide), if_neg (by decide), if_neg (by decide), if_neg (by decide), if_neg (by decide), if_pos (by decide)]
    rfl
section XLw
variable {g : Sk} {t : Tb} {a : Nat → Int32}
theorem p_reck (X : Fx g) {l fr ma : Nat} (hl : l < 2) (hF : a (7 + l) = nI fr) (hM : a (9 + l) = nI ma) (hb : fr + ma ≤ 900) (w : Nat → Int32) : ∀ (cs : List Int32) (ty : List Bool) (fuel n k : Nat) (t : Tb), cs = cdf a (329 + fr + k) (ma - k) → k ≤ ma → okc l cs ty → ty.length = n → n ≤ 24 → tA t 184 = a → (∀ j, wok l j → tA t 189 j = w j) → cs.length < fuel → ∃ t', F_X12_reckons_b4 fuel 183 (nI l) (nI n) (nI k) (Em g t) = some (bI (decide (ev w cs (stk (tA t 188) n) = [nI 1])), Em g t') ∧ Sm g t t' := by
  intro cs
  induction cs with
  | nil =>
    intro ty fuel n k t hcs hk hok hn h24 ha hw hf
    obtain ⟨f, rfl⟩ : ∃ f, fuel = f + 1 := ⟨fuel - 1, by omega⟩
    have hkm : ma = k := by
      rcases Nat.lt_or_ge k ma with h | h
      · obtain ⟨q, hq⟩ : ∃ q, ma - k = q + 1 := ⟨ma - k - 1, by omega⟩
        rw [hq, cdf] at hcs
        cases hcs
      · omega
    have h1 : ma ≤ k := by omega
    rw [F_X12_reckons_b4]
    have e1 : ty = [true] := hok
    have e2 : n = 1 := by rw [← hn, e1]; rfl
    subst e2
    simp (disch := omega) only [x_rc183 X, x_i183_0 X, x_w183_0 X, x_r183_1 X, x_r183_2 X, x_r183_3 X, x_r183_4 X, x_i183_5 X, x_w183_5 X, x_i183_6 X, x_w183_6 X, x_i183_7 X, x_w183_7 X, x_i183_8 X, x_w183_8 X, x_i183_9 X, x_w183_9 X, x_i183_10 X, x_w183_10 X, x_i183_11 X, x_w183_11 X, x_i183_12 X, x_w183_12 X, x_i183_13 X, x_w183_13 X, x_i183_14 X, x_w183_14 X, x_i183_15 X, x_w183_15 X, x_r183_16 X, x_r183_17 X, x_r183_18 X, x_i183_19 X, x_w183_19 X, x_i183_20 X, x_w183_20 X, x_r183_21 X, x_r183_22 X, x_r183_23 X, x_r183_24 X, x_r183_25 X, x_i183_26 X, x_w183_26 X, x_r183_27 X, x_r183_28 X, x_r183_29 X, x_i183_30 X, x_w183_30 X, x_r183_31 X, x_r183_32 X, x_r183_33 X, x_r183_34 X, x_r183_35 X, x_r183_36 X, x_a184 X, x_s184 X, x_a185 X, x_s185 X, x_a186 X, x_s186 X, x_a187 X, x_s187 X, x_a188 X, x_s188 X, x_a189 X, x_s189 X, x_a190 X, x_s190 X, x_a191 X, x_s191 X, x_a192 X, x_s192 X, x_a193 X, x_s193 X, x_a194 X, x_s194 X, x_a195 X, x_s195 X, x_a196 X, x_s196 X, x_a197 X, x_s197 X, x_a198 X, x_s198 X, x_a199 X, x_s199 X, x_a200 X, x_s200 X, x_a201 X, x_s201 X, x_a202 X, x_s202 X, x_a203 X, x_s203 X, x_a204 X, x_s204 X, Option.bind_some, ↓reduceIte, ite_not, fa_lit, nI_add, nI_mulN, nI_an, nI_sub, irm_n, nI_eq, nI_leI, nI_ltI, v_pow, v_shr, v_bit, nI_cl, nI_m1e, ha, hM, hF, h1]
    refine ⟨t, ?_, Sm_r⟩
    by_cases h : tA t 188 0 = nI 1
    · simp [h, ev, stk, bI]
    · simp [h, ev, stk, bI]
  | cons c cs ih =>
    intro ty fuel n k t hcs hk hok hn h24 ha hw hf
    obtain ⟨f, rfl⟩ : ∃ f, fuel = f + 1 := ⟨fuel - 1, by omega⟩
    have hkm : k < ma := by
      rcases Nat.lt_or_ge k ma with h | h
      · exact h
      · rw [show ma - k = 0 by omega, cdf] at hcs
        cases hcs
    obtain ⟨hc, hcs2⟩ : c = a (329 + fr + k) ∧ cs = cdf a (329 + fr + (k + 1)) (ma - (k + 1)) := by
      rw [show ma - k = (ma - (k + 1)) + 1 by omega, cdf] at hcs
      injection hcs with e1 e2
      exact ⟨e1, e2⟩
    have h1 : ¬ ma ≤ k := by omega
    have hf2 : cs.length < f := by simp only [List.length_cons] at hf; omega
    rw [F_X12_reckons_b4]
    rcases hok with ⟨m, hm, hc2, hty, hok⟩ | ⟨m, hm, hc2, hty, hok⟩ | ⟨hc2, r, hty, hok⟩ | ⟨o, r, ho, h6, hc2, hty, hok⟩
    · rw [hc2] at hc
      have h2 : ¬ 3000 ≤ m := by omega
      have h3 : ¬ 1000 ≤ m := by omega
      simp (disch := omega) only [x_rc183 X, x_i183_0 X, x_w183_0 X, x_r183_1 X, x_r183_2 X, x_r183_3 X, x_r183_4 X, x_i183_5 X, x_w183_5 X, x_i183_6 X, x_w183_6 X, x_i183_7 X, x_w183_7 X, x_i183_8 X, x_w183_8 X, x_i183_9 X, x_w183_9 X, x_i183_10 X, x_w183_10 X, x_i183_11 X, x_w183_11 X, x_i183_12 X, x_w183_12 X, x_i183_13 X, x_w183_13 X, x_i183_14 X, x_w183_14 X, x_i183_15 X, x_w183_15 X, x_r183_16 X, x_r183_17 X, x_r183_18 X, x_i183_19 X, x_w183_19 X, x_i183_20 X, x_w183_20 X, x_r183_21 X, x_r183_22 X, x_r183_23 X, x_r183_24 X, x_r183_25 X, x_i183_26 X, x_w183_26 X, x_r183_27 X, x_r183_28 X, x_r183_29 X, x_i183_30 X, x_w183_30 X, x_r183_31 X, x_r183_32 X, x_r183_33 X, x_r183_34 X, x_r183_35 X, x_r183_36 X, x_a184 X, x_s184 X, x_a185 X, x_s185 X, x_a186 X, x_s186 X, x_a187 X, x_s187 X, x_a188 X, x_s188 X, x_a189 X, x_s189 X, x_a190 X, x_s190 X, x_a191 X, x_s191 X, x_a192 X, x_s192 X, x_a193 X, x_s193 X, x_a194 X, x_s194 X, x_a195 X, x_s195 X, x_a196 X, x_s196 X, x_a197 X, x_s197 X, x_a198 X, x_s198 X, x_a199 X, x_s199 X, x_a200 X, x_s200 X, x_a201 X, x_s201 X, x_a202 X, x_s202 X, x_a203 X, x_s203 X, x_a204 X, x_s204 X, Option.bind_some, ↓reduceIte, ite_not, fa_lit, nI_add, nI_mulN, nI_an, nI_sub, irm_n, nI_eq, nI_leI, nI_ltI, v_pow, v_shr, v_bit, nI_cl, nI_m1e, ha, hM, hF, h1, ← hc, h2, h3]
      obtain ⟨t', e, hS⟩ := ih (false :: ty) f (n + 1) (k + 1) (wa t 188 n (nI m)) hcs2 (by omega) hok (by simp [hn]) (by omega) (by rw [tA_an (by decide), ha]) (fun j hj => by rw [tA_an (by decide), hw j hj]) hf2
      rw [e]
      refine ⟨t', ?_, Sm_t (Sm_wa (sc_f rfl) Sm_r) hS⟩
      rw [tA_as, stk, pk_us, stk_up _ _ _ (Nat.le_refl n), ev, hc2, tn_n (by omega), stp_num hm]
    · rw [hc2] at hc
      have hm8 : m < 8 := by rcases hm with h | h <;> omega
      have h2 : ¬ 3000 ≤ 1000 + m := by omega
      have h3 : 1000 ≤ 1000 + m := by omega
      simp (disch := omega) only [x_rc183 X, x_i183_0 X, x_w183_0 X, x_r183_1 X, x_r183_2 X, x_r183_3 X, x_r183_4 X, x_i183_5 X, x_w183_5 X, x_i183_6 X, x_w183_6 X, x_i183_7 X, x_w183_7 X, x_i183_8 X, x_w183_8 X, x_i183_9 X, x_w183_9 X, x_i183_10 X, x_w183_10 X, x_i183_11 X, x_w183_11 X, x_i183_12 X, x_w183_12 X, x_i183_13 X, x_w183_13 X, x_i183_14 X, x_w183_14 X, x_i183_15 X, x_w183_15 X, x_r183_16 X, x_r183_17 X, x_r183_18 X, x_i183_19 X, x_w183_19 X, x_i183_20 X, x_w183_20 X, x_r183_21 X, x_r183_22 X, x_r183_23 X, x_r183_24 X, x_r183_25 X, x_i183_26 X, x_w183_26 X, x_r183_27 X, x_r183_28 X, x_r183_29 X, x_i183_30 X, x_w183_30 X, x_r183_31 X, x_r183_32 X, x_r183_33 X, x_r183_34 X, x_r183_35 X, x_r183_36 X, x_a184 X, x_s184 X, x_a185 X, x_s185 X, x_a186 X, x_s186 X, x_a187 X, x_s187 X, x_a188 X, x_s188 X, x_a189 X, x_s189 X, x_a190 X, x_s190 X, x_a191 X, x_s191 X, x_a192 X, x_s192 X, x_a193 X, x_s193 X, x_a194 X, x_s194 X, x_a195 X, x_s195 X, x_a196 X, x_s196 X, x_a197 X, x_s197 X, x_a198 X, x_s198 X, x_a199 X, x_s199 X, x_a200 X, x_s200 X, x_a201 X, x_s201 X, x_a202 X, x_s202 X, x_a203 X, x_s203 X, x_a204 X, x_s204 X, Option.bind_some, ↓reduceIte, ite_not, fa_lit, nI_add, nI_mulN, nI_an, nI_sub, irm_n, nI_eq, nI_leI, nI_ltI, v_pow, v_shr, v_bit, nI_cl, nI_m1e, ha, hM, hF, h1, ← hc, h2, h3, Nat.add_sub_cancel_left, hw m hm]
      obtain ⟨t', e, hS⟩ := ih (false :: ty) f (n + 1) (k + 1) (wa t 188 n (w m)) hcs2 (by omega) hok (by simp [hn]) (by omega) (by rw [tA_an (by decide), ha]) (fun j hj => by rw [tA_an (by decide), hw j hj]) hf2
      rw [e]
      refine ⟨t', ?_, Sm_t (Sm_wa (sc_f rfl) Sm_r) hS⟩
      rw [tA_as, stk, pk_us, stk_up _ _ _ (Nat.le_refl n), ev, hc2, tn_n (by omega), stp_word (by omega)]
    · rw [hc2] at hc
      obtain ⟨n', rfl⟩ : ∃ n', n = n' + 1 := ⟨r.length, by rw [← hn, hty]; rfl⟩
      simp (disch := omega) only [x_rc183 X, x_i183_0 X, x_w183_0 X, x_r183_1 X, x_r183_2 X, x_r183_3 X, x_r183_4 X, x_i183_5 X, x_w183_5 X, x_i183_6 X, x_w183_6 X, x_i183_7 X, x_w183_7 X, x_i183_8 X, x_w183_8 X, x_i183_9 X, x_w183_9 X, x_i183_10 X, x_w183_10 X, x_i183_11 X, x_w183_11 X, x_i183_12 X, x_w183_12 X, x_i183_13 X, x_w183_13 X, x_i183_14 X, x_w183_14 X, x_i183_15 X, x_w183_15 X, x_r183_16 X, x_r183_17 X, x_r183_18 X, x_i183_19 X, x_w183_19 X, x_i183_20 X, x_w183_20 X, x_r183_21 X, x_r183_22 X, x_r183_23 X, x_r183_24 X, x_r183_25 X, x_i183_26 X, x_w183_26 X, x_r183_27 X, x_r183_28 X, x_r183_29 X, x_i183_30 X, x_w183_30 X, x_r183_31 X, x_r183_32 X, x_r183_33 X, x_r183_34 X, x_r183_35 X, x_r183_36 X, x_a184 X, x_s184 X, x_a185 X, x_s185 X, x_a186 X, x_s186 X, x_a187 X, x_s187 X, x_a188 X, x_s188 X, x_a189 X, x_s189 X, x_a190 X, x_s190 X, x_a191 X, x_s191 X, x_a192 X, x_s192 X, x_a193 X, x_s193 X, x_a194 X, x_s194 X, x_a195 X, x_s195 X, x_a196 X, x_s196 X, x_a197 X, x_s197 X, x_a198 X, x_s198 X, x_a199 X, x_s199 X, x_a200 X, x_s200 X, x_a201 X, x_s201 X, x_a202 X, x_s202 X, x_a203 X, x_s203 X, x_a204 X, x_s204 X, Option.bind_some, ↓reduceIte, ite_not, fa_lit, nI_add, nI_mulN, nI_an, nI_sub, irm_n, nI_eq, nI_leI, nI_ltI, v_pow, v_shr, v_bit, nI_cl, nI_m1e, ha, hM, hF, h1, ← hc, Nat.reduceLeDiff, Nat.add_sub_cancel]
      obtain ⟨t', e, hS⟩ := ih (true :: r) f (n' + 1) (k + 1) (wa t 188 n' (nI 1 - tA t 188 n')) hcs2 (by omega) hok (by rw [← hn, hty, List.length_cons]) (by omega) (by rw [tA_an (by decide), ha]) (fun j hj => by rw [tA_an (by decide), hw j hj]) hf2
      rw [e]
      refine ⟨t', ?_, Sm_t (Sm_wa (sc_f rfl) Sm_r) hS⟩
      rw [tA_as, stk, pk_us, stk_up _ _ _ (Nat.le_refl n'), ev, hc2, tn_n (by omega), stk, stp_not]
    · rw [hc2] at hc
      obtain ⟨n', rfl⟩ : ∃ n', n = n' + 2 := ⟨r.length, by rw [← hn, hty]; rfl⟩
      have h2 : 3000 ≤ 3000 + o := by omega
      have h3 : ¬ 3000 + o = 3006 := by omega
      simp (disch := omega) only [x_rc183 X, x_i183_0 X, x_w183_0 X, x_r183_1 X, x_r183_2 X, x_r183_3 X, x_r183_4 X, x_i183_5 X, x_w183_5 X, x_i183_6 X, x_w183_6 X, x_i183_7 X, x_w183_7 X, x_i183_8 X, x_w183_8 X, x_i183_9 X, x_w183_9 X, x_i183_10 X, x_w183_10 X, x_i183_11 X, x_w183_11 X, x_i183_12 X, x_w183_12 X, x_i183_13 X, x_w183_13 X, x_i183_14 X, x_w183_14 X, x_i183_15 X, x_w183_15 X, x_r183_16 X, x_r183_17 X, x_r183_18 X, x_i183_19 X, x_w183_19 X, x_i183_20 X, x_w183_20 X, x_r183_21 X, x_r183_22 X, x_r183_23 X, x_r183_24 X, x_r183_25 X, x_i183_26 X, x_w183_26 X, x_r183_27 X, x_r183_28 X, x_r183_29 X, x_i183_30 X, x_w183_30 X, x_r183_31 X, x_r183_32 X, x_r183_33 X, x_r183_34 X, x_r183_35 X, x_r183_36 X, x_a184 X, x_s184 X, x_a185 X, x_s185 X, x_a186 X, x_s186 X, x_a187 X, x_s187 X, x_a188 X, x_s188 X, x_a189 X, x_s189 X, x_a190 X, x_s190 X, x_a191 X, x_s191 X, x_a192 X, x_s192 X, x_a193 X, x_s193 X, x_a194 X, x_s194 X, x_a195 X, x_s195 X, x_a196 X, x_s196 X, x_a197 X, x_s197 X, x_a198 X, x_s198 X, x_a199 X, x_s199 X, x_a200 X, x_s200 X, x_a201 X, x_s201 X, x_a202 X, x_s202 X, x_a203 X, x_s203 X, x_a204 X, x_s204 X, Option.bind_some, ↓reduceIte, ite_not, fa_lit, nI_add, nI_mulN, nI_an, nI_sub, irm_n, nI_eq, nI_leI, nI_ltI, v_pow, v_shr, v_bit, nI_cl, nI_m1e, ha, hM, hF, h1, ← hc, h2, h3, Nat.add_sub_cancel, p_btw ho h6, show n' + 2 - 1 = n' + 1 by omega]
      obtain ⟨t', e, hS⟩ := ih (tou o :: r) f (n' + 1) (k + 1) (wa t 188 n' (btw o (tA t 188 n') (tA t 188 (n' + 1)))) hcs2 (by omega) hok (by rw [List.length_cons]; rw [hty] at hn; simp only [List.length_cons] at hn; omega) (by omega) (by rw [tA_an (by decide), ha]) (fun j hj => by rw [tA_an (by decide), hw j hj]) hf2
      rw [e]
      refine ⟨t', ?_, Sm_t (Sm_wa (sc_f rfl) Sm_r) hS⟩
      rw [tA_as, stk, pk_us, stk_up _ _ _ (Nat.le_refl n'), ev, hc2, tn_n (by omega), stk, stk, stp_op h6]
end XLw
