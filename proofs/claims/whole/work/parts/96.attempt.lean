/-! ===== calls: attempt ===== -/
def mnn (x y : Nat) : Nat := if y ≤ x then y else x
def mib (a : Nat → Int32) (p B n : Nat) : Nat := mnn (pcn (B &&& hbl a p n)) (pcn (an_ B (hbl a p n)))
theorem and_bit1 {A C i j : Nat} (hA : A < 2 ^ 31) (hC : C < 2 ^ 31) (hi : i < 32) (hj : j < 32) : ((nI A >>> (nI i &&& 31)) &&& (nI C >>> (nI j &&& 31))) &&& 1 = nI ((A.testBit i && C.testBit j).toNat) := by
  have e1 : nI A >>> (nI i &&& 31) = nI (A / 2 ^ i) := v_shr hA hi
  have e2 : nI C >>> (nI j &&& 31) = nI (C / 2 ^ j) := v_shr hC hj
  rw [e1, e2, fa_and]
  have h := v_bit (a := (A / 2 ^ i) &&& (C / 2 ^ j)) (k := 0)
  rw [Nat.pow_zero, Nat.div_one, Nat.testBit_and, Nat.testBit_div_two_pow, Nat.testBit_div_two_pow, Nat.zero_add, Nat.zero_add] at h
  exact h
section XAt
variable {g : Sk} {t : Tb} {a : Nat → Int32}
variable {D v x nx p : Nat} {t' t'' t1 t2 : Tb} {f : Nat → Int64}
theorem pcn_31 (m : Nat) : pcn m ≤ 11 := pc_le m 11
theorem lt_nle {x y : Int32} : (¬ x < y) ↔ y ≤ x := by
  rw [fa_lt, fa_le]
  omega
theorem r_att_l (X : Fx g) (W : WA a D) (ha : tA t 184 = a) {B : Nat} (hB : B < 2 ^ (vN a + 1)) (h9 : ∀ n, n < vN a → tA t 191 n = nI (hbl a p n)) : ∀ (d k fuel : Nat) (b v : Int32), k + d = vN a → d < fuel → F_X12_attempt_b35 fuel 183 (nI B) b v (nI k) (Em g t) = some (if B = 0 then b else attl (mib a p B) d k b v, Em g t) := by
  have hN := wN3 W
  have h2k := p2048 (n := vN a + 1) (by omega)
  intro d
  induction d with
  | zero =>
    intro k fuel b v hk hf
    obtain ⟨f2, rfl⟩ : ∃ f, fuel = f + 1 := ⟨fuel - 1, by omega⟩
    have hk : k = vN a := by omega
    subst hk
    rw [F_X12_attempt_b35]
    simp (disch := omega) only [x_rc183 X, x_i183_0 X, x_w183_0 X, x_r183_1 X, x_r183_2 X, x_r183_3 X, x_r183_4 X, x_i183_5 X, x_w183_5 X, x_i183_6 X, x_w183_6 X, x_i183_7 X, x_w183_7 X, x_i183_8 X, x_w183_8 X, x_i183_9 X, x_w183_9 X, x_i183_10 X, x_w183_10 X, x_i183_11 X, x_w183_11 X, x_i183_12 X, x_w183_12 X, x_i183_13 X, x_w183_13 X, x_i183_14 X, x_w183_14 X, x_i183_15 X, x_w183_15 X, x_r183_16 X, x_r183_17 X, x_r183_18 X, x_i183_19 X, x_w183_19 X, x_i183_20 X, x_w183_20 X, x_r183_21 X, x_r183_22 X, x_r183_23 X, x_r183_24 X, x_r183_25 X, x_i183_26 X, x_w183_26 X, x_r183_27 X, x_r183_28 X, x_r183_29 X, x_i183_30 X, x_w183_30 X, x_r183_31 X, x_r183_32 X, x_r183_33 X, x_r183_34 X, x_r183_35 X, x_r183_36 X, x_a184 X, x_s184 X, x_a185 X, x_s185 X, x_a186 X, x_s186 X, x_a187 X, x_s187 X, x_a188 X, x_s188 X, x_a189 X, x_s189 X, x_a190 X, x_s190 X, x_a191 X, x_s191 X, x_a192 X, x_s192 X, x_a193 X, x_s193 X, x_a194 X, x_s194 X, x_a195 X, x_s195 X, x_a196 X, x_s196 X, x_a197 X, x_s197 X, x_a198 X, x_s198 X, x_a199 X, x_s199 X, x_a200 X, x_s200 X, x_a201 X, x_s201 X, x_a202 X, x_s202 X, x_a203 X, x_s203 X, x_a204 X, x_s204 X, Option.bind_some, ↓reduceIte, ite_not, fa_lit, nI_add, nI_mulN, nI_an, nI_sub, irm_n, nI_eq, nI_leI, nI_ltI, v_pow, v_shr, v_bit, nI_cl, nI_m1e, ha, wN W, Nat.le_refl]
    split <;> rfl
  | succ d ih =>
    intro k fuel b v hk hf
    obtain ⟨f2, rfl⟩ : ∃ f, fuel = f + 1 := ⟨fuel - 1, by omega⟩
    have ha1 : aI (Em g t) 184 1 = some (tA t 184 1) := x_a184 X (k := 1) (by decide)
    have c1 : ¬ nI (vN a) ≤ nI k := by rw [nI_leI (by omega) (by omega)]; omega
    have hn1 : nI k + 1 = nI (k + 1) := nI_add k 1
    rw [F_X12_attempt_b35, x_r183_1 X, Option.bind_some, ha1, Option.bind_some, ha, wN W, if_neg c1]
    by_cases hz : B = 0
    · subst hz
      rw [if_pos (show nI 0 = (0 : Int32) from rfl), if_pos rfl]
    · have c2 : ¬ nI B = (0 : Int32) := show ¬ nI B = nI 0 by rw [nI_eq (by omega) (by decide)]; exact hz
      have hl : B &&& hbl a p k ≤ B := Nat.and_le_left
      have hl2 := an_leS B (hbl a p k)
      have b1 := q_bits (m := B &&& hbl a p k) (by omega)
      have b2 := q_bits (m := an_ B (hbl a p k)) (by omega)
      have p1 := pcn_31 (B &&& hbl a p k)
      have p2 := pcn_31 (an_ B (hbl a p k))
      have ihz := fun b v => ih (k + 1) f2 b v (by omega) (by omega)
      simp only [hz, if_false] at ihz
      have hneg : ((-1 : Int32)) = -nI 1 := rfl
      rw [if_neg c2, if_neg hz, x_r183_21 X, Option.bind_some, x_a191 X (by omega), Option.bind_some, h9 k (by omega), fa_and, b1, Option.bind_some, x_r183_21 X, Option.bind_some, x_a191 X (by omega), Option.bind_some, h9 k (by omega), hneg, an_g, b2, Option.bind_some, attl]
      have hs0 : ∀ s0 : Nat, s0 ≤ 11 → mib a p B k = s0 → F_X12_attempt_b97 (F_X12_attempt_b35 f2) 183 (nI B) b v (nI k) (nI s0) (Em g t) = some (if v < nI (mib a p B k) then attl (mib a p B) d (k + 1) (nI k) (nI (mib a p B k)) else attl (mib a p B) d (k + 1) b v, Em g t) := by
        intro s0 hs he
        unfold F_X12_attempt_b97
        rw [he, hn1]
        by_cases c : v < nI s0
        · rw [if_pos c, if_pos c, ihz]
        · rw [if_neg c, if_neg c, ihz]
      by_cases c : nI (pcn (an_ B (hbl a p k))) ≤ nI (pcn (B &&& hbl a p k))
      · rw [if_pos c]
        rw [nI_leI (by omega) (by omega)] at c
        exact hs0 _ p2 (by unfold mib mnn; rw [if_pos c])
      · rw [if_neg c]
        rw [nI_leI (by omega) (by omega)] at c
        exact hs0 _ p1 (by unfold mib mnn; rw [if_neg c])
theorem k_next_i (X : Fx g) {N B n : Nat} (hN : N ≤ 10) (hvN : vN a = N) (hB : B < 2 ^ (N + 1)) (hn : n < N) (h0 : tI t 148 0 = nI N) (h9 : ∀ b, b < N + 1 → tA t 149 b = nI (hnt a p b)) (kk : Nat → Int32 → Int32 → Int32 → Int32 → xH → Option (Int32 × xH)) (b v : Int32) : ∀ (d k fuel : Nat), k + d = N + 1 → d < fuel → F_X9_nextNote_b26 kk fuel 148 (nI B) b v (nI n) (nI (pc (B &&& hbl a p n) k)) (nI k) (Em g t) = if nI (mib a p B n) ≤ v then kk 148 (nI B) b v (nI (n + 1)) (Em g t) else kk 148 (nI B) (nI n) (nI (mib a p B n)) (nI (n + 1)) (Em g t) := by
  have h2k := p2048 (n := N + 1) (by omega)
  have hlt : B &&& hbl a p n ≤ B := Nat.and_le_left
  have hlt2 := an_leS B (hbl a p n)
  intro d
  induction d with
  | zero =>
    intro k fuel hk hf
    obtain ⟨f2, rfl⟩ : ∃ f, fuel = f + 1 := ⟨fuel - 1, by omega⟩
    have hk : k = N + 1 := by omega
    subst hk
    have e1 : pc (B &&& hbl a p n) (N + 1) = pcn (B &&& hbl a p n) := by
      unfold pcn
      rw [pc_hi (n := N + 1) (by omega) 11 (by omega)]
    have e2 : pcn B = pcn (B &&& hbl a p n) + pcn (an_ B (hbl a p n)) := pc_and _ _ _
    have p0 := pcn_31 B
    have hmin : ∀ h : xH, F_J9_min_7cf53 (nI (pcn (B &&& hbl a p n))) (nI (pcn (an_ B (hbl a p n)))) h = some (nI (mib a p B n), h) := by
      intro h
      unfold F_J9_min_7cf53 mib mnn
      simp (disch := omega) only [nI_ltI]
      by_cases c : pcn (an_ B (hbl a p n)) < pcn (B &&& hbl a p n)
      · rw [if_pos c, if_pos (by omega)]
      · rw [if_neg c]
        by_cases c2 : pcn (an_ B (hbl a p n)) ≤ pcn (B &&& hbl a p n)
        · rw [if_pos c2, show pcn (an_ B (hbl a p n)) = pcn (B &&& hbl a p n) by omega]
        · rw [if_neg c2]
    rw [F_X9_nextNote_b26, x_i148_0 X, Option.bind_some, h0, if_pos (by rw [nI_ltI (by omega) (by omega)]; omega), k_bits B (by omega), Option.bind_some, e1]
    rw [show nI (pcn B) - nI (pcn (B &&& hbl a p n)) = nI (pcn (an_ B (hbl a p n))) by rw [nI_sub (by omega)]; exact congrArg nI (by omega), hmin, Option.bind_some, show nI n + 1 = nI (n + 1) from nI_add n 1]
  | succ d ih =>
    intro k fuel hk hf
    obtain ⟨f2, rfl⟩ : ∃ f, fuel = f + 1 := ⟨fuel - 1, by omega⟩
    have hh : hnt a p k < 2 ^ 31 := mk_31 (by omega)
    have eb : nI (pc (B &&& hbl a p n) k) + ((nI B >>> (nI k &&& 31)) &&& (nI (hnt a p k) >>> (nI n &&& 31))) &&& 1 = nI (pc (B &&& hbl a p n) k) + ((nI B >>> (nI k &&& 31)) &&& (nI (hnt a p k) >>> (nI n &&& 31))) &&& 1 := rfl
    have eb2 : nI (pc (B &&& hbl a p n) k) + (((nI B >>> (nI k &&& 31)) &&& (nI (hnt a p k) >>> (nI n &&& 31))) &&& 1) = nI (pc (B &&& hbl a p n) (k + 1)) := by
      rw [and_bit1 (by omega) hh (by omega) (by omega), nI_add, pc, Nat.testBit_and]
      have e4 : (hnt a p k).testBit n = (hbl a p n).testBit k := by
        unfold hnt hbl
        rw [mk_bit, mk_bit, decide_eq_true (by omega), decide_eq_true (by omega)]
      rw [e4]
      cases B.testBit k && (hbl a p n).testBit k <;> rfl
    rw [F_X9_nextNote_b26, x_i148_0 X, Option.bind_some, h0, if_neg (by rw [nI_ltI (by omega) (by omega)]; omega), x_r148_1 X, Option.bind_some, x_a149 X (by omega), Option.bind_some, h9 k (by omega), eb2, show nI k + 1 = nI (k + 1) from nI_add k 1]
    exact ih (k + 1) f2 (by omega) (by omega)
theorem k_next_l (X : Fx g) {N B : Nat} (hN : N ≤ 10) (hvN : vN a = N) (hB : B < 2 ^ (N + 1)) (h0 : tI t 148 0 = nI N) (h9 : ∀ b, b < N + 1 → tA t 149 b = nI (hnt a p b)) : ∀ (d k fuel : Nat) (b v : Int32), k + d = N → d < fuel → F_X9_nextNote_b7 fuel 148 (nI B) b v (nI k) (Em g t) = some (if B = 0 then b else attl (mib a p B) d k b v, Em g t) := by
  have h2k := p2048 (n := N + 1) (by omega)
  intro d
  induction d with
  | zero =>
    intro k fuel b v hk hf
    obtain ⟨f2, rfl⟩ : ∃ f, fuel = f + 1 := ⟨fuel - 1, by omega⟩
    have hk : k = N := by omega
    subst hk
    rw [F_X9_nextNote_b7, x_i148_0 X, Option.bind_some, h0, if_pos (by rw [nI_leI (by omega) (by omega)]; exact Nat.le_refl k)]
    split <;> rfl
  | succ d ih =>
    intro k fuel b v hk hf
    obtain ⟨f2, rfl⟩ : ∃ f, fuel = f + 1 := ⟨fuel - 1, by omega⟩
    rw [F_X9_nextNote_b7, x_i148_0 X, Option.bind_some, h0, if_neg (by rw [nI_leI (by omega) (by omega)]; omega)]
    by_cases hz : B = 0
    · subst hz
      rw [if_pos (show nI 0 = (0 : Int32) from rfl), if_pos rfl]
    · have c2 : ¬ nI B = (0 : Int32) := show ¬ nI B = nI 0 by rw [nI_eq (by omega) (by decide)]; exact hz
      have ihz := fun b v => ih (k + 1) f2 b v (by omega) (by omega)
      simp only [hz, if_false] at ihz
      have hfu : N + 1 < FU := by show N + 1 < 1000000; omega
      have hi := k_next_i (t := t) (p := p) X hN hvN hB (show k < N by omega) h0 h9 (F_X9_nextNote_b7 f2) b v (N + 1) 0 FU (by omega) hfu
      rw [if_neg c2, if_neg hz, attl]
      refine hi.trans ?_
      by_cases c : v < nI (mib a p B k)
      · have c' : ¬ nI (mib a p B k) ≤ v := fun q => absurd c (lt_nle.mpr q)
        rw [if_neg c', if_pos c, ihz]
      · rw [if_pos (lt_nle.mp c), if_neg c, ihz]
theorem ok_attempt {n : Nat} (I : IV g t v a D n nx) (hD : D + 100 < 2 ^ 30) (x y : Int32) : Okc (F_X11_attempt 69 x y) (F_X12_attempt 183 x y) g t D := by
  have X := I.1
  have C := I.2.2.1
  have W := C.1
  have hN := wN3 W
  have hw0 : ∀ t, wI (Em g t) 183 11 0 0 = some (Em g (wi t 183 0 (nI 0))) := fun t => x_w183_0 X
  obtain ⟨r, er, rr, rz⟩ := no_ans I x y
  by_cases h0 : r = nI 0
  · obtain ⟨i, p, m, hi, hp, rfl, rfl, hm1, hm, q1, q2, q3, q4⟩ := rz h0
    subst h0
    obtain ⟨t1, KD, kc, e1, s1, hK, g0, g3, g49, _, _⟩ := k_gather (p := p) X C hp
    have hfu : vN a + 1 < FU := by show vN a + 1 < 1000000; omega
    have hfn : vN a < FU := by show vN a < 1000000; omega
    have hb := k_blby_l (t := t1) (a := a) (p := p) (f := fun j => tJ t (168 + 2 * i) j) X (TyS_x X hi) hN rfl hm g0 (by rw [s1.1 _ 1 (sI_f (by omega))]; exact q2) (fun j hj => by
      rw [show 167 + 2 * i + 1 = 168 + 2 * i by omega, s1.2.2 (168 + 2 * i) (by
        unfold scJ
        simp only [List.contains_eq_mem, decide_eq_false_iff_not, List.mem_cons, List.not_mem_nil, or_false]
        omega)]) q4 g49 (vN a + 1) 0 FU (by omega) hfu
    have hb' : F_X9_blanksBy 148 (167 + 2 * i) (Em g t1) = some (nI (mk (fun b => bok a p b (fun j => tJ t (168 + 2 * i) j) m) (vN a + 1)), Em g t1) := hb
    have hB : mk (fun b => bok a p b (fun j => tJ t (168 + 2 * i) j) m) (vN a + 1) < 2 ^ (vN a + 1) := mk_lt _ _
    have s2 : Sm g t (wi t1 183 0 (nI 0)) := Sm_wi rfl s1
    obtain ⟨t3, e3, s3, k3⟩ := r_blof (t := wi t1 183 0 (nI 0)) (f := fun j => tJ t (168 + 2 * i) j) X W hp hi hm (by rw [Sm_a X s2]; exact I.2.1) (by rw [s2.2.1 203 (sc_x X rfl)]; exact q1) (fun j hj => by rw [s2.2.2 204 rfl]; exact q3 j hj) q4
    generalize mk (fun b => bok a p b (fun j => tJ t (168 + 2 * i) j) m) (vN a + 1) = B at hb' hB e3
    have hc := k_next_l (t := t1) (p := p) (B := B) X hN rfl hB g0 g49 (vN a) 0 FU (-1) (-1) (by omega) hfn
    have hr := r_att_l (t := t3) (p := p) (B := B) X W (by rw [Sm_a X s3, Sm_a X s2]; exact I.2.1) hB k3 (vN a) 0 FU (-1) (-1) (by omega) hfn
    refine ok_0 (r := if B = 0 then -1 else attl (mib a p B) (vN a) 0 (-1) (-1)) (t1 := t1) (t2 := t3) I hD ?_ ?_ s1 (Sm_t (Sm_wi (a := 183) (k := 0) rfl Sm_r) s3)
    · have hc' : F_X9_nextNote 148 (nI B) (Em g t1) = some (if B = 0 then -1 else attl (mib a p B) (vN a) 0 (-1) (-1), Em g t1) := hc
      unfold F_X11_attempt
      rw [x_rc69 X, Option.bind_some, er, Option.bind_some, if_pos (show nI 0 = (0 : Int32) from rfl), x_r69_8 X, Option.bind_some, c_r69 X C.2.2.2.1, Option.bind_some, x_r69_2 X, Option.bind_some, x_rc148 X, Option.bind_some, e1, Option.bind_some, x_r69_8 X, Option.bind_some, Option.bind_some, x_r69_5 X, Option.bind_some, x_tray X hi, Option.bind_some, x_rc148 X, Option.bind_some, hb', Option.bind_some, x_rc148 X, Option.bind_some, hc', Option.bind_some]
    · unfold F_X12_attempt
      rw [hw0, Option.bind_some, x_rc183 X, Option.bind_some, rr _ s2, Option.bind_some, if_pos (show nI 0 = (0 : Int32) from rfl), x_rc183 X, Option.bind_some, e3, Option.bind_some]
      exact hr
  · have h0' : ¬ r = (0 : Int32) := h0
    refine ok_0 (r := r) (t1 := t) (t2 := wi t 183 0 (nI 0)) I hD ?_ ?_ Sm_r (Sm_wi (a := 183) (k := 0) rfl Sm_r)
    · unfold F_X11_attempt
      rw [x_rc69 X, Option.bind_some, er, Option.bind_some, if_neg h0']
    · unfold F_X12_attempt
      rw [hw0, Option.bind_some, x_rc183 X, Option.bind_some, rr _ (Sm_wi (a := 183) (k := 0) rfl Sm_r), Option.bind_some, if_neg h0']
end XAt
