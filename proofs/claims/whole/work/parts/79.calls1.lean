/-! ===== calls: plain questions, deeds ===== -/
def Okc (fc fr : xH → Option (Int32 × xH)) (g : Sk) (t : Tb) (D : Nat) : Prop := ∃ r g1 t1 g2 t2 v a n nx, fc (Em g t) = some (r, Em g1 t1) ∧ fr (Em g1 t1) = some (r, Em g2 t2) ∧ g1.1 = g.1 ∧ g2.1 = g.1 ∧ gn g1 = gn g ∧ gn g2 = gn g ∧ IV g2 t2 v a (D + 100) n nx
def Pd (b : Nat) : Bool := decide ((95 ≤ b ∧ b ≤ 144) ∨ b = 184)
def dyN : Nat → (Nat → Int32) → (Nat → Int32)
  | 0, b => b
  | d + 1, b => dyN d (dyr b)
section XY
variable {g : Sk} {t : Tb} {a : Nat → Int32}
variable {D v x n nx : Nat} {b c w : Nat → Int32} {t' t1 t2 : Tb}
theorem ok_p {fc fr : xH → Option (Int32 × xH)} {r : Int32} (I : IV g t v a D n nx) (hD : D + 100 < 2 ^ 30) (hc : ∃ t1, fc (Em g t) = some (r, Em g t1) ∧ Sm g t t1) (hr : ∀ t1, IV g t1 v a D n nx → ∃ t2, fr (Em g t1) = some (r, Em g t2) ∧ Sm g t1 t2) : Okc fc fr g t D := by
  obtain ⟨t1, e1, s1⟩ := hc
  have I1 := IV_s I s1
  obtain ⟨t2, e2, s2⟩ := hr t1 I1
  exact ⟨r, g, t1, g, t2, v, a, n, nx, e1, e2, rfl, rfl, rfl, rfl, IV_m (by omega) hD (IV_s I1 s2)⟩
theorem Pd_84 {b : Nat} (h : b < 95 ∨ 144 < b) (h2 : b ≠ 184) : Pd b = false := by
  unfold Pd
  rw [decide_eq_false_iff_not]
  omega
theorem IV_e {D' n' nx' : Nat} (I : IV g t v a D n nx) (hD : D ≤ D') (s : Sw Pd g t t') (q : Vq a c) (hs : ∀ i, 1229 ≤ i → c i = a i) (W : WA c D') (S : StP t' 95 (vP c) c 107) (H : HP t' c D' n' nx') (hc : tA t' 184 = c) : IV g t' v c D' n' nx' := by
  obtain ⟨X, ha, C, _, T, M, R⟩ := I
  refine ⟨X, hc, ⟨W, C.2.1, VaP_q q C.1.1 (VaP_w C.2.1 (fun b hb => Pd_84 (by omega) (by omega)) C.2.2.1 s), C.2.2.2.1, S⟩, H, Tr_w X (fun b hb => Pd_84 (by omega) (by omega)) T s, Im_w X (fun b hb => Pd_84 (by omega) (by omega)) hD W.2.2 hs M s, Rd_w X (fun b hb => Pd_84 (by omega) (by omega)) R s⟩
/-- after a deed that is remembered -/
theorem IV_d {D' n' nx' : Nat} (I : IV g t v a D n nx) (hD : D ≤ D') (hN : Nq a b) (W : WA b D') (s1 : Rg 95 144 t t1) (S : StP t1 95 (vP a) b 107) (H : HP t1 (psh b w) D' n' nx') (s2 : Sw (fun b => decide (b = 184)) g t1 t2) (hc : tA t2 184 = psh b w) : IV g t2 v (psh b w) D' n' nx' := by
  have X := I.1
  have h0 := I.2.2.2.1.1
  have hb : b 127 = nI n := by rw [hN 127 (by decide)]; exact h0.1
  have hP := wP2 W
  have q1 : Vq b (psh b w) := Vq_psh hb h0.2.1
  have ep : vP (psh b w) = vP b := q_vP q1
  have ep2 : vP b = vP a := q_vP (Nq_V hN)
  have e20 : ∀ k, k < 20 → psh b w (107 + k) = b (107 + k) := fun k hk => psh_o hb h0.2.1 (by omega)
  have s3 : Sw Pd g t1 t2 := ⟨fun c k p z => s2.1 c k (by
    unfold Pd at p
    simp only [decide_eq_false_iff_not] at p ⊢
    omega) z, fun c p z => s2.2.1 c (by
    unfold Pd at p
    simp only [decide_eq_false_iff_not] at p ⊢
    omega) z, fun c p z => s2.2.2 c (by
    unfold Pd at p
    simp only [decide_eq_false_iff_not] at p ⊢
    omega) z⟩
  have hpd : ∀ b, 95 ≤ b → b ≤ 144 → Pd b = true := fun b h1 h2 => by
    unfold Pd
    rw [decide_eq_true_eq]
    omega
  have h4 : ∀ b, b ≠ 184 → (fun b => decide (b = 184)) b = false := fun b h => by
    simp only [decide_eq_false_iff_not]
    exact h
  refine IV_e I hD (Sw_t (Sw_g s1 hpd) s3) (Vq_t (Nq_V hN) q1) (fun i hi => ?_) (WA_q q1 W (WB_c hP e20 (WA_B W))) ?_ ?_ hc
  · rw [psh_o hb h0.2.1 (by omega), hN i (by omega)]
  · rw [ep, ep2]
    exact StP_c (by omega) e20 (StP_w rfl rfl (sc_x X rfl) (sc_x X rfl) (sc_x X rfl) (fun b _ _ => h4 b (by omega)) S s2)
  · exact HP_w X (fun b _ _ => h4 b (by omega)) H s2
/-! the plain questions -/
theorem ok_fault (I : IV g t v a D n nx) (hD : D + 100 < 2 ^ 30) (x : Int32) : Okc (F_X11_fault 69 x) (F_X12_fault 183 x) g t D := by
  have R := I.2.2.2.2.2.2
  obtain ⟨t2, e2, s2⟩ := m_fault (t := t) I.1 x
  rw [← R.2.1, ← R.2.2] at e2
  exact ⟨_, g, t, g, t2, v, a, n, nx, c_fault I.1 x, e2, rfl, rfl, rfl, rfl, IV_m (by omega) hD (IV_s I s2)⟩
theorem ok_count (I : IV g t v a D n nx) (hD : D + 100 < 2 ^ 30) (x : Int32) : Okc (F_X11_count 69 x) (F_X12_count 183 x) g t D := by
  obtain ⟨m, _, r1, r2, _⟩ := I.2.2.2.2.2.2.1.1
  obtain ⟨t2, e2, s2⟩ := m_count I.1 I.2.2.1.1 I.2.1 x
  have h := I.2.2.2.1
  rw [r2, ← r1] at e2
  exact ⟨_, g, t, g, t2, v, a, n, nx, c_count I.1 I.2.2.1 (by rw [h.2.1.2, h.1.1]) x, e2, rfl, rfl, rfl, rfl, IV_m (by omega) hD (IV_s I s2)⟩
theorem ok_person (I : IV g t v a D n nx) (hD : D + 100 < 2 ^ 30) (x y : Int32) : Okc (F_X11_person 69 x y) (F_X12_person 183 x y) g t D := ok_p I hD (c_person I.1 I.2.2.1 x y) (fun _ I1 => m_person I1.1 I1.2.2.1.1 I1.2.1 x y)
theorem ok_sounds (I : IV g t v a D n nx) (hD : D + 100 < 2 ^ 30) (x y : Int32) : Okc (F_X11_sounds 69 x y) (F_X12_sounds 183 x y) g t D := ok_p I hD ⟨t, c_sounds I.1 I.2.2.1 x y, Sm_r⟩ (fun _ I1 => m_sounds I1.1 I1.2.2.1.1 I1.2.1 x y)
theorem ok_place (I : IV g t v a D n nx) (hD : D + 100 < 2 ^ 30) (x y : Int32) : Okc (F_X11_place 69 x y) (F_X12_place 183 x y) g t D := ok_p I hD ⟨t, c_place I.1 I.2.2.1 x y, Sm_r⟩ (fun _ I1 => m_place I1.1 I1.2.2.1.1 I1.2.1 x y)
theorem ok_note (I : IV g t v a D n nx) (hD : D + 100 < 2 ^ 30) (x y : Int32) : Okc (F_X11_note 69 x y) (F_X12_note 183 x y) g t D := ok_p I hD ⟨t, c_note I.1 I.2.2.1 x y, Sm_r⟩ (fun _ I1 => m_note I1.1 I1.2.2.1.1 I1.2.1 x y)
theorem ok_steps (I : IV g t v a D n nx) (hD : D + 100 < 2 ^ 30) (x y : Int32) : Okc (F_X11_steps 69 x y) (F_X12_steps 183 x y) g t D := ok_p I hD (c_steps I.1 I.2.2.1 x y) (fun _ I1 => m_steps I1.1 I1.2.2.1.1 I1.2.1 x y)
theorem ok_whole (I : IV g t v a D n nx) (hD : D + 100 < 2 ^ 30) (x : Int32) : Okc (F_X11_whole 69 x) (F_X12_whole 183 x) g t D := ok_p I hD (c_whole I.1 I.2.2.1 x) (fun _ I1 => m_whole I1.1 I1.2.2.1.1 I1.2.1 x)
theorem ok_owners (I : IV g t v a D n nx) (hD : D + 100 < 2 ^ 30) (x : Int32) : Okc (F_X11_owners 69 x) (F_X12_owners 183 x) g t D := ok_p I hD (c_owners I.1 I.2.2.1 x) (fun _ I1 => m_owners I1.1 I1.2.2.1.1 I1.2.1 x)
end XY
