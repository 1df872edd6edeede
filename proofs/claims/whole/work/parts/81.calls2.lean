/-! ===== calls: go, ear, blank, days, undo ===== -/
section XZ
variable {g : Sk} {t : Tb} {a : Nat → Int32}
variable {D v x n nx : Nat} {b c w : Nat → Int32} {t' t1 t2 : Tb}
theorem ok_0 {fc fr : xH → Option (Int32 × xH)} {r : Int32} (I : IV g t v a D n nx) (hD : D + 100 < 2 ^ 30) (e1 : fc (Em g t) = some (r, Em g t1)) (e2 : fr (Em g t1) = some (r, Em g t2)) (s1 : Sm g t t1) (s2 : Sm g t1 t2) : Okc fc fr g t D := ⟨r, g, t1, g, t2, v, a, n, nx, e1, e2, rfl, rfl, rfl, rfl, IV_m (by omega) hD (IV_s (IV_s I s1) s2)⟩
theorem Sm_99 (X : Fx g) (o : Ox 99 t t1) : Sm g t t1 := by
  refine ⟨fun b k h => o.1 b k ?_, fun b h => ?_, fun b _ => o.2.2 b⟩
  · rintro rfl
    simp [scI] at h
  · have hne : ∀ c, c = 100 ∨ c = 101 ∨ c = 102 → b ≠ c := by
      rintro c hc rfl
      have : scF b = true := by rcases hc with e | e | e <;> subst e <;> rfl
      rw [sc_f this] at h
      exact absurd h (by decide)
    exact o.2.1 b (hne 100 (by omega)) (hne 101 (by omega)) (hne 102 (by omega))
/-- a deed on the state that is remembered from the copy -/
theorem cl_deed (X : Fx g) (I : IV g t v a D n nx) (o1 : Ox 99 t t1) (s1 : StP t1 99 (vP a) a 107) (o2 : Ox 95 t1 t2) (s2 : StP t2 95 (vP a) b 107) (hN : Nq a b) {D' : Nat} (hD : D ≤ D') (hw : ∀ k, k < 20 → w k = a (107 + k)) : ∃ t3, F_X2_remember 103 99 (Em g t2) = some ((), Em g t3) ∧ Rg 95 144 t t3 ∧ StP t3 95 (vP a) b 107 ∧ StP t3 99 (vP a) a 107 ∧ HP t3 (psh b w) D' (n10 n) ((nx + 1) % 10) := by
  have W := I.2.2.1.1
  have hP := wP2 W
  have H := I.2.2.2.1
  have r1 : Rg 95 102 t t2 := Rg_t (Rg_o o1 (by decide) (by decide)) (Rg_o o2 (by decide) (by decide))
  have H2 : HP t2 a D' n nx := by
    refine HP_m hD ⟨H.1, ⟨?_, ?_⟩, fun j hj => ⟨(H.2.2 j hj).1, ?_⟩⟩
    · rw [r1.1 103 1 (by decide)]; exact H.2.1.1
    · rw [r1.1 103 2 (by decide)]; exact H.2.1.2
    · exact StP_g (by omega) (H.2.2 j hj).2 r1
  have s1' : StP t2 99 (vP a) a 107 := StP_o (by decide) s1 o2
  obtain ⟨t3, e3, r3, h3⟩ := k_remember X H2 hP (Or.inr rfl) s1' (WB_m hD (WA_B W)) hw hN
  exact ⟨t3, e3, Rg_t (Rg_w r1 (by decide) (by decide)) (Rg_w r3 (by decide) (by decide)), StP_g (by decide) s2 r3, StP_g (by decide) s1' r3, h3⟩
/-- nothing was done -/
theorem IV_n (I : IV g t v a D n nx) (r : Rg 95 102 t t1) (S : StP t1 95 (vP a) a 107) : IV g t1 v a D n nx := by
  have H := I.2.2.2.1
  refine IV_e I (Nat.le_refl D) (Sw_g r (fun b h1 h2 => by unfold Pd; rw [decide_eq_true_eq]; omega)) Vq_r (fun _ _ => rfl) I.2.2.1.1 S ⟨H.1, ⟨?_, ?_⟩, fun j hj => ⟨(H.2.2 j hj).1, ?_⟩⟩ ?_
  · rw [r.1 103 1 (by decide)]; exact H.2.1.1
  · rw [r.1 103 2 (by decide)]; exact H.2.1.2
  · exact StP_g (by omega) (H.2.2 j hj).2 r
  · rw [r.2.1 184 (by decide)]; exact I.2.1
theorem ok_n {fc fr : xH → Option (Int32 × xH)} {r : Int32} (I : IV g t v a D n nx) (hD : D + 100 < 2 ^ 30) (e1 : fc (Em g t) = some (r, Em g t1)) (q : Rg 95 102 t t1) (S : StP t1 95 (vP a) a 107) (hr : ∃ t2, fr (Em g t1) = some (r, Em g t2) ∧ Sm g t1 t2) : Okc fc fr g t D := by
  obtain ⟨t2, e2, s2⟩ := hr
  exact ⟨r, g, t1, g, t2, v, a, n, nx, e1, e2, rfl, rfl, rfl, rfl, IV_m (by omega) hD (IV_s (IV_n I q S) s2)⟩
/-- the row of what was, as the reference keeps it -/
def wsr (a : Nat → Int32) (f : Nat → Int32) : Nat → Int32 := fa_fill (fun k => a (107 + k)) f 20
theorem wsr_k {f : Nat → Int32} {k : Nat} (h : k < 20) : wsr a f k = a (107 + k) := fa_fill_in h
theorem ok_go (I : IV g t v a D n nx) (hD : D + 100 < 2 ^ 30) (x y : Int32) : Okc (F_X11_go 69 x y) (F_X12_go 183 x y) g t D := by
  have X := I.1
  have C := I.2.2.1
  have W := C.1
  have hP := wP2 W
  have hK := wK2 W
  have h0 := I.2.2.2.1.1
  obtain ⟨t1, e1, o1, s1⟩ := k_copyP (t := t) (StS_99 X) (StS_95 X) (by decide) hP C.2.2.2.2
  have C1 := CP_s X C (Sm_99 X o1)
  obtain ⟨t2, e2, o2, s2⟩ := k_move C1 Vq_r W (StS_95 X) C1.2.2.2.2 x y
  by_cases h : wgI a x.toInt y.toInt = 0
  · have hr : (0 ≤ x.toInt ∧ x.toInt < vP a) ∧ (0 ≤ y.toInt ∧ y.toInt < vK a) := by
      unfold wgI at h
      split at h
      · assumption
      · exact absurd h (by decide)
    obtain ⟨p, hp, rfl⟩ : ∃ p, p < vP a ∧ x = nI p := ⟨x.toInt.toNat, by omega, Int32.toInt_inj.mp (by rw [nI_toInt (by omega)]; omega)⟩
    obtain ⟨k, hk, rfl⟩ : ∃ k, k < vK a ∧ y = nI k := ⟨y.toInt.toNat, by omega, Int32.toInt_inj.mp (by rw [nI_toInt (by omega)]; omega)⟩
    rw [if_pos h, tn_n (by omega), tn_n (by omega)] at s2
    rw [h] at e2
    have hN : Nq a (mvr a p k) := Nq_u Nq_r (by omega) (by omega)
    have W2 : WA (mvr a p k) D := WA_mv W hp hk
    have q : Vq a (mvr a p k) := Nq_V hN
    have ep : vP (mvr a p k) = vP a := q_vP q
    have hd : vDy (mvr a p k) = vDy a := by unfold vDy mvr; rw [upd_n (by omega)]
    obtain ⟨t3, e3, r3, s3, s99, h3⟩ := cl_deed (w := wsr a (tA t 190)) X I o1 s1 o2 s2 hN (Nat.le_refl D) (fun _ h => wsr_k h)
    have es : snd (mvr a p k) k (vDy a) = snd a k (vDy a) := by
      have hc := wCo1 W hk
      have hc2 := wCo2 W hk
      have := Nat.mod_lt (vDy a) hc
      unfold snd sno
      rw [q_vN q, q_vCo q (by omega), q_vSd q (by omega) (by omega)]
    have hdy := wDy2 W
    have C3 : CP g t3 v (mvr a p k) D := ⟨W2, C.2.1, VaP_q q W.1 (VaP_w (P := Pd) C.2.1 (fun b hb => Pd_84 (by omega) (by omega)) C.2.2.1 (Sw_g r3 (fun b h1 h2 => by unfold Pd; rw [decide_eq_true_eq]; omega))), C.2.2.2.1, by rw [ep]; exact s3⟩
    have hso := k_soundOn (t := t3) C.2.1 C3 (k := k) (d := vDy a) (by rw [q_vK q]; exact hk) (by omega)
    rw [es] at hso
    have hdy3 : tI t3 95 4 = nI (vDy a) := by rw [s3.1.2]; unfold mvr; rw [upd_n (by omega)]; exact wDy W
    have r184 : tA t3 184 = a := by rw [r3.2.1 184 (by decide)]; exact I.2.1
    have r190 : tA t3 190 = tA t 190 := r3.2.1 190 (by decide)
    refine ⟨snd a k (vDy a), g, t3, g, wr (wr (wi t3 183 0 (nI 0)) 190 (wsr a (tA t 190))) 184 (psh (mvr a p k) (wsr a (tA t 190))), v, _, n10 n, (nx + 1) % 10, ?_, ?_, rfl, rfl, rfl, rfl, IV_m (by omega) hD (IV_d I (Nat.le_refl D) hN W2 r3 s3 h3 (Sw_wr (Sw_wr (Sw_wi Sw_r (Or.inr rfl)) (Or.inr (sc_f rfl))) (Or.inl rfl)) tA_rs)⟩
    · unfold F_X11_go
      simp only [x_rc69 X, x_r69_0 X, x_r69_2 X, x_r69_3 X, x_r69_4 X, x_r69_5 X, x_r69_6 X, x_r69_7 X, x_r69_8 X, x_r69_9 X, x_r69_10 X, x_r69_11 X, x_rc95 X, x_r95_0 X, x_r95_1 X, x_r95_2 X, x_i95_3 X, x_w95_3 X, x_i95_4 X, x_w95_4 X, x_a96 X, x_s96 X, x_a97 X, x_s97 X, x_a98 X, x_s98 X, fa_lit, c_r69 X C.2.2.2.1, z_rc (StS_99 X), x_rc103 X, v_rc C.2.1, Option.bind_some, e1, e2, e3, hdy3, hso, if_true]
    · have ha1 : tA (wi t3 183 0 (nI 0)) 184 = a := r184
      have hk1 := r_keeps (t := wi t3 183 0 (nI 0)) X ha1
      have hwy := r_whyGo (t := wi t3 183 0 (nI 0)) X W ha1 (nI p).toInt64 (nI k).toInt64
      rw [i64, i64, h] at hwy
      rw [tA_wi, r190] at hk1
      have ht1 : tA (wr (wi t3 183 0 (nI 0)) 190 (wsr a (tA t 190))) 184 = a := by rw [tA_rn (by decide)]; exact ha1
      have hnt := r_notes (t := wr (wr (wi t3 183 0 (nI 0)) 190 (wsr a (tA t 190))) 184 (mvr a p k)) (w := wsr a (tA t 190)) X tA_rs (by rw [tA_rn (by decide), tA_rs]) (by unfold vDe; rw [hN 127 (by decide), h0.1, tn_n (by omega)]) (by unfold vDe; rw [hN 127 (by decide), h0.1, tn_n (by omega)]; exact h0.2.1)
      rw [wr_wr] at hnt
      have hb : (mvr a p k) 127 = nI n := by rw [hN 127 (by decide)]; exact h0.1
      have q1 : Vq (mvr a p k) (psh (mvr a p k) (wsr a (tA t 190))) := Vq_psh hb h0.2.1
      have W3 : WA (psh (mvr a p k) (wsr a (tA t 190))) D := WA_q q1 W2 (WB_c (by rw [ep]; exact hP) (fun j hj => psh_o hb h0.2.1 (by omega)) (WA_B W2))
      have hsr := q_soundOf (t := wr (wr (wi t3 183 0 (nI 0)) 190 (wsr a (tA t 190))) 184 (psh (mvr a p k) (wsr a (tA t 190)))) X W3 tA_rs (k := k) (d := vDy a) (by rw [q_vK q1, q_vK q]; exact hk) (by omega)
      have es2 : snd (psh (mvr a p k) (wsr a (tA t 190))) k (vDy a) = snd a k (vDy a) := by
        have hc := wCo1 W hk
        have hc2 := wCo2 W hk
        have := Nat.mod_lt (vDy a) hc
        have q2 := Vq_t q q1
        unfold snd sno
        rw [q_vN q2, q_vCo q2 (by omega), q_vSd q2 (by omega) (by omega)]
      rw [es2] at hsr
      have hd107 : psh (mvr a p k) (wsr a (tA t 190)) 107 = nI (vDy a) := by rw [psh_o hb h0.2.1 (by decide)]; unfold mvr; rw [upd_n (by omega)]; exact wDy W
      have hmv : wa (wr (wi t3 183 0 (nI 0)) 190 (wsr a (tA t 190))) 184 (109 + p) (nI k) = wr (wr (wi t3 183 0 (nI 0)) 190 (wsr a (tA t 190))) 184 (mvr a p k) := by rw [wa_wr, ht1]; rfl
      unfold F_X12_go
      rw [show fa_fill (fun k => a (107 + k)) (tA t 190) 20 = wsr a (tA t 190) from rfl] at hk1
      simp (disch := omega) only [x_rc183 X, x_i183_0 X, x_w183_0 X, x_r183_1 X, x_r183_2 X, x_r183_3 X, x_r183_4 X, x_i183_5 X, x_w183_5 X, x_i183_6 X, x_w183_6 X, x_i183_7 X, x_w183_7 X, x_i183_8 X, x_w183_8 X, x_i183_9 X, x_w183_9 X, x_i183_10 X, x_w183_10 X, x_i183_11 X, x_w183_11 X, x_i183_12 X, x_w183_12 X, x_i183_13 X, x_w183_13 X, x_i183_14 X, x_w183_14 X, x_i183_15 X, x_w183_15 X, x_r183_16 X, x_r183_17 X, x_r183_18 X, x_i183_19 X, x_w183_19 X, x_i183_20 X, x_w183_20 X, x_r183_21 X, x_r183_22 X, x_r183_23 X, x_r183_24 X, x_r183_25 X, x_i183_26 X, x_w183_26 X, x_r183_27 X, x_r183_28 X, x_r183_29 X, x_i183_30 X, x_w183_30 X, x_r183_31 X, x_r183_32 X, x_r183_33 X, x_r183_34 X, x_r183_35 X, x_r183_36 X, x_a184 X, x_s184 X, x_a185 X, x_s185 X, x_a186 X, x_s186 X, x_a187 X, x_s187 X, x_a188 X, x_s188 X, x_a189 X, x_s189 X, x_a190 X, x_s190 X, x_a191 X, x_s191 X, x_a192 X, x_s192 X, x_a193 X, x_s193 X, x_a194 X, x_s194 X, x_a195 X, x_s195 X, x_a196 X, x_s196 X, x_a197 X, x_s197 X, x_a198 X, x_s198 X, x_a199 X, x_s199 X, x_a200 X, x_s200 X, x_a201 X, x_s201 X, x_a202 X, x_s202 X, x_a203 X, x_s203 X, x_a204 X, x_s204 X, Option.bind_some, ↓reduceIte, ite_not, fa_lit, nI_add, hwy, hk1, hmv, hnt, tA_rs, hd107, hsr]
  · rw [if_neg h] at s2
    have hle : wgI a x.toInt y.toInt < 2 ^ 31 := by
      unfold wgI
      split
      · split <;> decide
      · decide
    have r2 : Rg 95 102 t t2 := Rg_t (Rg_o o1 (by decide) (by decide)) (Rg_o o2 (by decide) (by decide))
    refine ok_n (r := -nI 10 - nI (wgI a x.toInt y.toInt)) I hD ?_ r2 s2 ⟨wi t2 183 0 (nI 0), ?_, (Sm_wi (a := 183) (k := 0) rfl Sm_r)⟩
    · unfold F_X11_go
      simp (disch := omega) only [x_rc69 X, x_r69_0 X, x_r69_2 X, x_r69_3 X, x_r69_4 X, x_r69_5 X, x_r69_6 X, x_r69_7 X, x_r69_8 X, x_r69_9 X, x_r69_10 X, x_r69_11 X, x_rc95 X, x_r95_0 X, x_r95_1 X, x_r95_2 X, x_i95_3 X, x_w95_3 X, x_i95_4 X, x_w95_4 X, x_a96 X, x_s96 X, x_a97 X, x_s97 X, x_a98 X, x_s98 X, fa_lit, c_r69 X C.2.2.2.1, z_rc (StS_99 X), Option.bind_some, e1, e2, nI_eq, h, if_false]
    · have r184 : tA (wi t2 183 0 (nI 0)) 184 = a := by rw [tA_wi, r2.2.1 184 (by decide)]; exact I.2.1
      have hwy := r_whyGo (t := wi t2 183 0 (nI 0)) X W r184 x.toInt64 y.toInt64
      rw [i64, i64] at hwy
      unfold F_X12_go
      simp (disch := omega) only [x_w183_0 X, x_rc183 X, fa_lit, Option.bind_some, hwy, nI_eq, h, if_false]
end XZ
