/-! ===== rows that tell the same valley, the same state; what a deed does to a row ===== -/
def Vq (a b : Nat → Int32) : Prop := ∀ i, i < 107 ∨ (329 ≤ i ∧ i < 1229) → b i = a i
/-- a state told from o on, of N notes, K places, P people -/
def WB (a : Nat → Int32) (N K P D o : Nat) : Prop := (a o = nI (tn (a o)) ∧ tn (a o) ≤ D) ∧ (a (o + 1) = nI (tn (a (o + 1))) ∧ tn (a (o + 1)) < 2 ^ P) ∧ ∀ p, p < P → (a (o + 2 + p) = nI (tn (a (o + 2 + p))) ∧ tn (a (o + 2 + p)) < K) ∧ (a (o + 8 + p) = nI (tn (a (o + 8 + p))) ∧ tn (a (o + 8 + p)) ≤ 9) ∧ (a (o + 14 + p) = -nI 1 ∨ (a (o + 14 + p) = nI (tn (a (o + 14 + p))) ∧ tn (a (o + 14 + p)) < N))
/-- m without the bits of f -/
def an_ (m f : Nat) : Nat := m ^^^ (m &&& f)
theorem an_c : ∀ m, m < 64 → ∀ f, f < 64 → nI m &&& (nI f ^^^ -nI 1) = nI (an_ m f) := by decide +kernel
theorem an_bit (m f i : Nat) : (an_ m f).testBit i = (m.testBit i && !f.testBit i) := by
  unfold an_
  rw [Nat.testBit_xor, Nat.testBit_and]
  cases m.testBit i <;> cases f.testBit i <;> rfl
theorem an_le (m f n : Nat) (h : m < 2 ^ n) : an_ m f < 2 ^ n := Nat.xor_lt_two_pow h (Nat.lt_of_le_of_lt Nat.and_le_left h)
theorem an_or (m f : Nat) : f ||| an_ m f = f ||| m := by
  apply Nat.eq_of_testBit_eq
  intro i
  rw [Nat.testBit_or, Nat.testBit_or, an_bit]
  cases m.testBit i <;> cases f.testBit i <;> rfl
theorem an_more (m c s : Nat) (h : ∀ i, s.testBit i = true → c.testBit i = true) : an_ c s ||| an_ m c = an_ (c ||| m) s := by
  apply Nat.eq_of_testBit_eq
  intro i
  have := h i
  rw [Nat.testBit_or, an_bit, an_bit, an_bit, Nat.testBit_or]
  cases hs : s.testBit i
  · cases m.testBit i <;> cases c.testBit i <;> rfl
  · rw [this hs]
    cases m.testBit i <;> rfl
theorem an_self (m : Nat) : an_ m m = 0 := by
  apply Nat.eq_of_testBit_eq
  intro i
  rw [an_bit]
  cases m.testBit i <;> simp
theorem p64 {m P : Nat} (h : m < 2 ^ P) (hP : P ≤ 6) : m < 64 := Nat.lt_of_lt_of_le h (Nat.pow_le_pow_right (n := 2) (by decide) hP)
theorem wa_wr {t : Tb} {b k : Nat} {x : Int32} : wa t b k x = wr t b (upd (tA t b) k x) := rfl
theorem up1_up {α : Type} (f : Nat → α) (b : Nat) (x y : α) : up1 (up1 f b x) b y = up1 f b y := by
  funext c
  by_cases h : c = b
  · subst h
    rw [up1_s, up1_s]
  · rw [up1_n h, up1_n h, up1_n h]
theorem up1_self {α : Type} (f : Nat → α) (b : Nat) : up1 f b (f b) = f := by
  funext c
  by_cases h : c = b
  · subst h
    rw [up1_s]
  · rw [up1_n h]
theorem up1_sw {α : Type} (f : Nat → α) {b c : Nat} (h : b ≠ c) (x y : α) : up1 (up1 f b x) c y = up1 (up1 f c y) b x := by
  funext d
  by_cases hb : d = b
  · subst hb
    rw [up1_n h, up1_s, up1_s]
  · by_cases hc : d = c
    · subst hc
      rw [up1_s, up1_n hb, up1_s]
    · rw [up1_n hc, up1_n hb, up1_n hb, up1_n hc]
theorem wr_wr {t : Tb} {b : Nat} {f h : Nat → Int32} : wr (wr t b f) b h = wr t b h := by
  unfold wr
  show (tI t, up1 (up1 (tA t) b f) b h, tJ t) = _
  rw [up1_up]
theorem wr_self {t : Tb} {b : Nat} : wr t b (tA t b) = t := by
  unfold wr
  rw [up1_self]
  rfl
theorem wr_sw {t : Tb} {b c : Nat} {f h : Nat → Int32} (hn : b ≠ c) : wr (wr t b f) c h = wr (wr t c h) b f := by
  unfold wr
  show (tI t, up1 (up1 (tA t) b f) c h, tJ t) = (tI t, up1 (up1 (tA t) c h) b f, tJ t)
  rw [up1_sw _ hn]
theorem wr_wi {t : Tb} {b c k : Nat} {f : Nat → Int32} {x : Int32} : wi (wr t b f) c k x = wr (wi t c k x) b f := rfl
theorem wa_r {t : Tb} {b k : Nat} {f : Nat → Int32} {x : Int32} : wa (wr t b f) b k x = wr t b (upd f k x) := by rw [wa_wr, tA_rs, wr_wr]
theorem upd_s {f : Nat → Int32} {k : Nat} {x : Int32} : upd f k x k = x := by simp [upd]
theorem upd_n {f : Nat → Int32} {k j : Nat} {x : Int32} (h : j ≠ k) : upd f k x j = f j := by simp [upd, h]
section XW
variable {g : Sk} {t : Tb} {a : Nat → Int32}
variable {D v x : Nat} {b : Nat → Int32}
theorem Vq_r : Vq a a := fun _ _ => rfl
theorem Vq_t {c : Nat → Int32} (h : Vq a b) (h2 : Vq b c) : Vq a c := fun i hi => (h2 i hi).trans (h i hi)
theorem Vq_s (h : Vq a b) : Vq b a := fun i hi => (h i hi).symm
theorem q_vN (q : Vq a b) : vN b = vN a := by unfold vN; rw [q 1 (by omega)]
theorem q_vT (q : Vq a b) : vT b = vT a := by unfold vT; rw [q 2 (by omega)]
theorem q_vK (q : Vq a b) : vK b = vK a := by unfold vK; rw [q 3 (by omega)]
theorem q_vP (q : Vq a b) : vP b = vP a := by unfold vP; rw [q 4 (by omega)]
theorem q_vLg (q : Vq a b) {u : Nat} (h : u < 6) : vLg b u = vLg a u := by unfold vLg; rw [q _ (by omega)]
theorem q_vNt (q : Vq a b) {u i : Nat} (h : u < 6) (hi : i < 9) : vNt b u i = vNt a u i := by unfold vNt; rw [q _ (by omega)]
theorem q_vCo (q : Vq a b) {k : Nat} (h : k < 6) : vCo b k = vCo a k := by unfold vCo; rw [q _ (by omega)]
theorem q_vWy (q : Vq a b) {k : Nat} (h : k < 6) : vWy b k = vWy a k := by unfold vWy; rw [q _ (by omega)]
theorem q_vSd (q : Vq a b) {k i : Nat} (h : k < 6) (hi : i < 4) : vSd b k i = vSd a k i := by unfold vSd; rw [q _ (by omega)]
theorem q_vFr (q : Vq a b) {l : Nat} (h : l < 2) : vFr b l = vFr a l := by unfold vFr; rw [q _ (by omega)]
theorem q_vMa (q : Vq a b) {l : Nat} (h : l < 2) : vMa b l = vMa a l := by unfold vMa; rw [q _ (by omega)]
theorem cdf_c {f h : Nat → Int32} : ∀ (c k : Nat), (∀ j, j < c → h (k + j) = f (k + j)) → cdf h k c = cdf f k c
  | 0, _, _ => rfl
  | c + 1, k, e => by
    have e0 : h k = f k := e 0 (by omega)
    have ih : cdf h (k + 1) c = cdf f (k + 1) c := cdf_c c (k + 1) (fun j hj => by
      have h2 := e (j + 1) (by omega)
      rw [show k + (j + 1) = k + 1 + j by omega] at h2
      exact h2)
    rw [cdf, cdf, e0, ih]
theorem q_cds (q : Vq a b) {l : Nat} (h : l < 2) (hb : vFr a l + vMa a l ≤ 900) : cds b l = cds a l := by
  unfold cds
  rw [q_vFr q h, q_vMa q h]
  exact cdf_c _ _ (fun j hj => q _ (by omega))
theorem WV_q (q : Vq a b) (W : WV a) : WV b := by
  obtain ⟨w1, w2, w3, w4⟩ := W
  have hT := w1.2.1.2
  have hK := w1.2.2.1.2
  refine ⟨?_, ?_, ?_, ?_⟩
  · unfold W1
    rw [q_vN q, q_vT q, q_vK q, q_vP q, q 1 (by omega), q 2 (by omega), q 3 (by omega), q 4 (by omega)]
    exact w1
  · intro u hu
    rw [q_vT q] at hu
    have h := w2 u hu
    rw [q_vLg q (by omega), q _ (by omega), q_vN q]
    refine ⟨h.1, fun i hi => ?_⟩
    rw [q_vNt q (by omega) (by omega), q _ (by omega)]
    exact h.2 i hi
  · intro k hk
    rw [q_vK q] at hk
    have h := w3 k hk
    rw [q_vCo q (by omega), q _ (by omega), q_vN q, q_vK q, q _ (by omega), q_vWy q (by omega)]
    refine ⟨h.1, fun i hi => ?_, h.2.2.1, fun j hj => ?_, h.2.2.2.2⟩
    · rw [q_vSd q (by omega) (by omega), q _ (by omega)]
      exact h.2.1 i hi
    · rw [q_vWy q (by omega)]
      exact h.2.2.2.1 j hj
  · intro l hl
    rw [q (5 + l) (by omega), q (7 + l) (by omega), q (9 + l) (by omega), q_vFr q hl, q_vMa q hl]
    rcases w4 l hl with h | h
    · exact Or.inl h
    · rw [q_cds q hl h.2.2.2.1]
      exact Or.inr h
theorem q_fol (q : Vq a b) (W : WV a) (i j : Nat) : fol b i j = fol a i j := by
  unfold fol
  rw [q 6 (by omega)]
  rcases W.2.2.2 1 (by decide) with h | h
  · rw [if_pos h, if_pos h]
  · rw [q_cds q (by decide) h.2.2.2.1]
theorem VaP_q (q : Vq a b) (W : WV a) (h : VaP g t v a) : VaP g t v b := by
  have hT := W.1.2.1.2
  have hK := W.1.2.2.1.2
  obtain ⟨h1, h2, h3, h4, h5⟩ := h
  refine ⟨?_, ?_, ?_, ?_, ?_⟩
  · rw [q 1 (by omega), q 0 (by omega), q 2 (by omega), q 3 (by omega), q 4 (by omega)]
    exact h1
  · intro u hu
    rw [q_vT q] at hu
    have hl := (W.2.1 u hu).1.2.2
    rw [q _ (by omega), q_vLg q (by omega)]
    refine ⟨(h2 u hu).1, fun i hi => ?_⟩
    rw [q _ (by omega)]
    exact (h2 u hu).2 i hi
  · intro k hk
    rw [q_vK q] at hk
    have hl := (W.2.2.1 k hk).1.2.2
    rw [q _ (by omega), q _ (by omega), q_vCo q (by omega)]
    refine ⟨(h3 k hk).1, (h3 k hk).2.1, fun i hi => ?_⟩
    rw [q _ (by omega)]
    exact (h3 k hk).2.2 i hi
  · intro i hi
    rw [q_vN q] at hi ⊢
    rw [h4 i hi, mk_cong (fun j _ => (q_fol q W i j).symm)]
  · rw [q 5 (by omega)]
    rcases h5 with h5 | ⟨h5, w, hw, hL⟩
    · exact Or.inl h5
    · rcases W.2.2.2 0 (by decide) with h | h
      · exact absurd h h5
      · refine Or.inr ⟨h5, w, hw, ?_⟩
        unfold LwP
        rw [q_vMa q (by decide), q_vFr q (by decide)]
        refine ⟨hL.1, fun k hk => ?_⟩
        rw [q _ (by omega)]
        exact hL.2 k hk
theorem W5_B : W5 a D ↔ WB a (vN a) (vK a) (vP a) D 107 := by
  unfold W5 WB
  refine and_congr Iff.rfl (and_congr Iff.rfl (forall_congr' fun p => imp_congr_right fun _ => and_congr Iff.rfl (and_congr Iff.rfl ?_)))
  show (a (121 + p) = -nI 1 ∨ _) ↔ (a (121 + p) = -nI 1 ∨ _)
  by_cases h : a (121 + p) = -nI 1
  · simp only [h, true_or]
  · have e : vBl a p = tn (a (121 + p)) := by
      unfold vBl
      rw [if_neg h]
    rw [e]
theorem WB_c {N K P o o' : Nat} (hP : P ≤ 6) (e : ∀ k, k < 20 → b (o' + k) = a (o + k)) (h : WB a N K P D o) : WB b N K P D o' := by
  have e0 := e 0 (by decide)
  rw [Nat.add_zero, Nat.add_zero] at e0
  unfold WB
  rw [e0, e 1 (by decide)]
  refine ⟨h.1, h.2.1, fun p hp => ?_⟩
  have h1 := e (2 + p) (by omega)
  have h2 := e (8 + p) (by omega)
  have h3 := e (14 + p) (by omega)
  simp only [← Nat.add_assoc] at h1 h2 h3
  rw [h1, h2, h3]
  exact h.2.2 p hp
theorem WB_m {N K P o D' : Nat} (hD : D ≤ D') (h : WB a N K P D o) : WB a N K P D' o := ⟨⟨h.1.1, Nat.le_trans h.1.2 hD⟩, h.2⟩
theorem WA_m {D' : Nat} (hD : D ≤ D') (h2 : D' < 2 ^ 30) (W : WA a D) : WA a D' := ⟨W.1, ⟨⟨W.2.1.1.1, Nat.le_trans W.2.1.1.2 hD⟩, W.2.1.2⟩, h2⟩
theorem StP_c {P o o' : Nat} (hP : P ≤ 6) (e : ∀ k, k < 20 → b (o' + k) = a (o + k)) (h : StP t x P a o) : StP t x P b o' := by
  have e0 := e 0 (by decide)
  rw [Nat.add_zero, Nat.add_zero] at e0
  unfold StP
  rw [e0, e 1 (by decide)]
  refine ⟨h.1, fun p hp => ?_⟩
  have h1 := e (2 + p) (by omega)
  have h2 := e (8 + p) (by omega)
  have h3 := e (14 + p) (by omega)
  simp only [← Nat.add_assoc] at h1 h2 h3
  rw [h1, h2, h3]
  exact h.2 p hp
theorem WA_q (q : Vq a b) (W : WA a D) (h : WB b (vN a) (vK a) (vP a) D 107) : WA b D := ⟨WV_q q W.1, W5_B.mpr (by rw [q_vN q, q_vK q, q_vP q]; exact h), W.2.2⟩
theorem WA_B (W : WA a D) : WB a (vN a) (vK a) (vP a) D 107 := W5_B.mp W.2.1
end XW
/-! what a deed does -/
def mvr (b : Nat → Int32) (p k : Nat) : Nat → Int32 := upd b (109 + p) (nI k)
def err (b : Nat → Int32) (p e : Nat) : Nat → Int32 := upd b (115 + p) (nI e)
def blr (b : Nat → Int32) (p : Nat) (x : Int32) : Nat → Int32 := upd (upd b (121 + p) x) 108 (nI (an_ (vFo b) (2 ^ p)))
def hit (b : Nat → Int32) (p : Nat) : Bool := decide (¬ b (121 + p) = -nI 1 ∧ snd b (vAt b p) (vDy b) = b (121 + p))
def dyr (b : Nat → Int32) : Nat → Int32 := upd (upd b 108 (nI (vFo b ||| mk (hit b) (vP b)))) 107 (nI (vDy b + 1))
section XW2
variable {g : Sk} {t : Tb} {a : Nat → Int32}
variable {D v x : Nat} {b : Nat → Int32}
theorem Vq_u {k : Nat} {z : Int32} (q : Vq a b) (h1 : 107 ≤ k) (h2 : k < 329) : Vq a (upd b k z) := by
  intro i hi
  rw [upd_n (by omega)]
  exact q i hi
theorem Vq_mv {p k : Nat} (h : p < 6) : Vq b (mvr b p k) := Vq_u Vq_r (by omega) (by omega)
theorem Vq_er {p k : Nat} (h : p < 6) : Vq b (err b p k) := Vq_u Vq_r (by omega) (by omega)
theorem Vq_bl {p : Nat} {z : Int32} (h : p < 6) : Vq b (blr b p z) := Vq_u (Vq_u Vq_r (by omega) (by omega)) (by omega) (by omega)
theorem Vq_dy : Vq b (dyr b) := Vq_u (Vq_u Vq_r (by omega) (by omega)) (by omega) (by omega)
theorem WA_mv (W : WA b D) {p k : Nat} (hp : p < vP b) (hk : k < vK b) : WA (mvr b p k) D := by
  have hP := wP2 W
  have hK := wK2 W
  refine WA_q (Vq_mv (by omega)) W ?_
  have h := WA_B W
  unfold mvr
  refine ⟨?_, ?_, fun q hq => ⟨?_, ?_, ?_⟩⟩
  · rw [upd_n (by omega)]; exact h.1
  · rw [upd_n (by omega)]; exact h.2.1
  · by_cases e : q = p
    · subst e
      rw [show 107 + 2 + q = 109 + q by omega, upd_s, tn_n (by omega)]
      exact ⟨rfl, hk⟩
    · rw [upd_n (by omega)]; exact (h.2.2 q hq).1
  · rw [upd_n (by omega)]; exact (h.2.2 q hq).2.1
  · rw [upd_n (by omega)]; exact (h.2.2 q hq).2.2
theorem WA_er (W : WA b D) {p k : Nat} (hp : p < vP b) (hk : k ≤ 9) : WA (err b p k) D := by
  have hP := wP2 W
  refine WA_q (Vq_er (by omega)) W ?_
  have h := WA_B W
  unfold err
  refine ⟨?_, ?_, fun q hq => ⟨?_, ?_, ?_⟩⟩
  · rw [upd_n (by omega)]; exact h.1
  · rw [upd_n (by omega)]; exact h.2.1
  · rw [upd_n (by omega)]; exact (h.2.2 q hq).1
  · by_cases e : q = p
    · subst e
      rw [show 107 + 8 + q = 115 + q by omega, upd_s, tn_n (by omega)]
      exact ⟨rfl, hk⟩
    · rw [upd_n (by omega)]; exact (h.2.2 q hq).2.1
  · rw [upd_n (by omega)]; exact (h.2.2 q hq).2.2
theorem WA_bl (W : WA b D) {p : Nat} {z : Int32} (hp : p < vP b) (hz : z = -nI 1 ∨ (z = nI (tn z) ∧ tn z < vN b)) : WA (blr b p z) D := by
  have hP := wP2 W
  have hF := an_le (vFo b) (2 ^ p) (vP b) (wFo2 W)
  have hF3 := p_31 hF (by omega)
  refine WA_q (Vq_bl (by omega)) W ?_
  have h := WA_B W
  unfold blr
  refine ⟨?_, ?_, fun q hq => ⟨?_, ?_, ?_⟩⟩
  · rw [upd_n (by omega), upd_n (by omega)]; exact h.1
  · rw [show 107 + 1 = 108 from rfl, upd_s, tn_n hF3]; exact ⟨rfl, hF⟩
  · rw [upd_n (by omega), upd_n (by omega)]; exact (h.2.2 q hq).1
  · rw [upd_n (by omega), upd_n (by omega)]; exact (h.2.2 q hq).2.1
  · rw [upd_n (by omega)]
    by_cases e : q = p
    · subst e
      rw [show 107 + 14 + q = 121 + q by omega, upd_s]
      exact hz
    · rw [upd_n (by omega)]; exact (h.2.2 q hq).2.2
theorem WA_dy (W : WA b D) (hD : D + 1 < 2 ^ 30) : WA (dyr b) (D + 1) := by
  have hP := wP2 W
  have hF : vFo b ||| mk (hit b) (vP b) < 2 ^ vP b := Nat.or_lt_two_pow (wFo2 W) (mk_lt _ _)
  have hF3 := p_31 hF (by omega)
  have hd := wDy2 W
  refine WA_q Vq_dy (WA_m (Nat.le_succ D) hD W) ?_
  have h := WA_B W
  unfold dyr
  refine ⟨?_, ?_, fun q hq => ⟨?_, ?_, ?_⟩⟩
  · rw [upd_s, tn_n (by omega)]; exact ⟨rfl, by omega⟩
  · rw [upd_n (by omega), show 107 + 1 = 108 from rfl, upd_s, tn_n hF3]; exact ⟨rfl, hF⟩
  · rw [upd_n (by omega), upd_n (by omega)]; exact (h.2.2 q hq).1
  · rw [upd_n (by omega), upd_n (by omega)]; exact (h.2.2 q hq).2.1
  · rw [upd_n (by omega), upd_n (by omega)]; exact (h.2.2 q hq).2.2
/-! the same for a state's cells -/
theorem StP_mv {P p k : Nat} (hp : p < P) (hP : P ≤ 6) (h : StP t x P b 107) : StP (wa t (x + 1) p (nI k)) x P (mvr b p k) 107 := by
  unfold mvr StP
  rw [tI_wa, tA_as, tA_an (c := x + 2) (by omega), tA_an (c := x + 3) (by omega)]
  refine ⟨⟨by rw [upd_n (by omega)]; exact h.1.1, by rw [upd_n (by omega)]; exact h.1.2⟩, fun q hq => ⟨?_, ?_, ?_⟩⟩
  · by_cases e : q = p
    · subst e
      rw [upd_s, show 107 + 2 + q = 109 + q by omega, upd_s]
    · rw [upd_n e, upd_n (by omega)]; exact (h.2 q hq).1
  · rw [upd_n (by omega)]; exact (h.2 q hq).2.1
  · rw [upd_n (by omega)]; exact (h.2 q hq).2.2
theorem StP_er {P p k : Nat} (hp : p < P) (hP : P ≤ 6) (h : StP t x P b 107) : StP (wa t (x + 2) p (nI k)) x P (err b p k) 107 := by
  unfold err StP
  rw [tI_wa, tA_as, tA_an (c := x + 1) (by omega), tA_an (c := x + 3) (by omega)]
  refine ⟨⟨by rw [upd_n (by omega)]; exact h.1.1, by rw [upd_n (by omega)]; exact h.1.2⟩, fun q hq => ⟨?_, ?_, ?_⟩⟩
  · rw [upd_n (by omega)]; exact (h.2 q hq).1
  · by_cases e : q = p
    · subst e
      rw [upd_s, show 107 + 8 + q = 115 + q by omega, upd_s]
    · rw [upd_n e, upd_n (by omega)]; exact (h.2 q hq).2.1
  · rw [upd_n (by omega)]; exact (h.2 q hq).2.2
theorem StP_bl {P p : Nat} {z : Int32} (hp : p < P) (hP : P ≤ 6) (h : StP t x P b 107) : StP (wi (wa t (x + 3) p z) x 3 (nI (an_ (vFo b) (2 ^ p)))) x P (blr b p z) 107 := by
  unfold blr StP
  rw [tI_is, tI_ik (by decide), tI_wa, tA_wi, tA_as, tA_an (c := x + 1) (by omega), tA_an (c := x + 2) (by omega)]
  refine ⟨⟨by rw [show 107 + 1 = 108 from rfl, upd_s], by rw [upd_n (by omega), upd_n (by omega)]; exact h.1.2⟩, fun q hq => ⟨?_, ?_, ?_⟩⟩
  · rw [upd_n (by omega), upd_n (by omega)]; exact (h.2 q hq).1
  · rw [upd_n (by omega), upd_n (by omega)]; exact (h.2 q hq).2.1
  · rw [upd_n (k := 108) (by omega)]
    by_cases e : q = p
    · subst e
      rw [upd_s, show 107 + 14 + q = 121 + q by omega, upd_s]
    · rw [upd_n e, upd_n (by omega)]; exact (h.2 q hq).2.2
theorem StP_dy {P : Nat} (hP : P ≤ 6) (hb : vP b = P) (h : StP t x P b 107) : StP (wi (wi t x 3 (nI (vFo b ||| mk (hit b) (vP b)))) x 4 (nI (vDy b + 1))) x P (dyr b) 107 := by
  unfold dyr StP
  rw [tI_is, tI_ik (by decide), tI_is, tA_wi, tA_wi]
  refine ⟨⟨by rw [upd_n (by omega), show 107 + 1 = 108 from rfl, upd_s], by rw [upd_s]⟩, fun q hq => ⟨?_, ?_, ?_⟩⟩
  · rw [upd_n (by omega), upd_n (by omega)]; exact (h.2 q hq).1
  · rw [upd_n (by omega), upd_n (by omega)]; exact (h.2 q hq).2.1
  · rw [upd_n (by omega), upd_n (by omega)]; exact (h.2 q hq).2.2
end XW2
