/-! ===== a valley is read, both readers, up to the last line ===== -/
def Kw (v : Nat) (t t' : Tb) : Prop := (∀ b k, b < v → b ≠ 70 → tI t' b k = tI t b k) ∧ tI t' 70 1 = nI 0 ∧ (∀ b, b < v → b ≠ 72 → tA t' b = tA t b) ∧ ∀ b, b < v → tJ t' b = tJ t b
def Kq (s s' : Tb) : Prop := (∀ b k, b ≠ 183 → tI s' b k = tI s b k) ∧ tI s' 183 5 = nI 0 ∧ (∀ b, b ≠ 187 → tA s' b = tA s b) ∧ tJ s' = tJ s
theorem Mor_x {g g' : Sk} (M : Mor g) (G : Gx g g') (h205 : 205 ≤ gn g) (h : gR g' 157 4 = gR g 157 4) : Mor g' := by
  unfold Mor
  rw [h]
  rcases M with M | ⟨q, m1, m2, m3, m4, m5⟩
  · exact Or.inl M
  · exact Or.inr ⟨q, m1, m2, Nat.lt_of_lt_of_le m3 G.2.1, by rw [(G.2.2.1 q m3).1]; exact m4, by rw [(G.2.2.1 q m3).2]; exact m5⟩
theorem Gx_v {g g' g'' : Sk} {v : Nat} (G : Gx g g') (hv : gn g ≤ v) (G2 : Gv v g' g'') : Gx g g'' := by
  have hl := G.2.1
  exact ⟨G2.1.trans G.1, Nat.le_trans hl G2.2.1, fun b hb => ⟨(G2.2.2.1 b (by omega)).1.trans (G.2.2.1 b hb).1, (G2.2.2.1 b (by omega)).2.trans (G.2.2.1 b hb).2⟩, fun b k hb c1 c2 => (G2.2.2.2.1 b k (by omega) (by omega)).trans (G.2.2.2.1 b k hb c1 c2), fun b hb => (G2.2.2.2.2 b (by omega)).trans (G.2.2.2.2 b hb)⟩
section XRv
variable {g g0 : Sk} {t s : Tb} {T : Nat → Int32} {n m : Nat}
def tst (t : Tb) (n : Nat) : Tb := wi (wi (wi (wi (wi t 70 4 (nI n)) 70 1 0) 70 6 0) 70 11 0) 70 12 (-1)
theorem tst_q : Qs 70 [1, 4, 6, 11, 12] t (tst t n) := Qs_w (by decide) (Qs_w (by decide) (Qs_w (by decide) (Qs_w (by decide) (Qs_w (by decide) Qs_r))))
def rdK (h : xH) : Option (Option Nat × xH × Nat × Nat) := (F_X4_advance 70 h).bind fun z44 => (rc z44.2 70 3).bind fun _ => (F_X4_readScale 70 z44.2).bind fun z48 => F_X4_read_b53 FU 70 0 z48.2
theorem rd_c (X : Fx g) (hm : m ≤ 900) (hn : n ≤ m) (c1 : tI t 70 1 = nI m) {g1 : Sk} {t1 : Tb} (h : F_X10_init (gn g) (nO (Em g (tst t n)) 9 [.int 0, .int 0, .int 0, .int 0, .int 0, .null, .null, .null, .null, .null, .null, .null, .null, .null]) = some ((), Em g1 t1, 10, 129)) (hs : oc 3 (gS g1 70)) : F_X4_read 70 (nI n) (Em g t) = (rdK (Em (gsr g1 70 10 (some (gn g))) t1)).map (ac _ 11 143) := by
  have hmin : ∀ h : xH, F_J9_min_7cf53 (nI n) (nI m) h = some (nI n, h) := fun h => by
    unfold F_J9_min_7cf53
    rw [if_neg (by rw [nI_ltI (by omega) (by omega)]; omega)]
  have hw : wQ (Em g1 t1) 70 3 10 (some (gn g)) = some (Em (gsr g1 70 10 (some (gn g))) t1) := m_wQ (by decide) (by decide) rfl hs
  have X5 : ∀ t : Tb, (Em g t).1 = gn g := fun t => rfl
  unfold F_X4_read
  rw [x_i70_1 X, Option.bind_some, c1, hmin, Option.bind_some, x_w70_4 X, Option.bind_some, x_w70_1 X, Option.bind_some, x_w70_6 X, Option.bind_some, x_w70_11 X, Option.bind_some, x_w70_12 X, Option.bind_some, Option.bind_some, X5]
  have h' : F_X10_init (gn g) (nO (Em g (wi (wi (wi (wi (wi t 70 4 (nI n)) 70 1 0) 70 6 0) 70 11 0) 70 12 (-1))) 9 [.int 0, .int 0, .int 0, .int 0, .int 0, .null, .null, .null, .null, .null, .null, .null, .null, .null]) = some ((), Em g1 t1, 10, 129) := h
  have hrc : ∀ t : Tb, rc (Em (gsr g1 70 10 (some (gn g))) t) 70 3 = some () := fun t => y_rc hs (by decide) (by decide)
  rw [h', Option.bind_some]
  dsimp only
  rw [hw, Option.bind_some, hrc, Option.bind_some, ac_2]
  rfl
def sst (s : Tb) (n : Nat) : Tb := wi (wi (wi (wi (wi s 183 0 0) 183 8 (nI n)) 183 5 0) 183 7 0) 183 11 0
theorem sst_q : Qs 183 [0, 5, 7, 8, 11] s (sst s n) := Qs_w (by decide) (Qs_w (by decide) (Qs_w (by decide) (Qs_w (by decide) (Qs_w (by decide) Qs_r))))
theorem rd_m (X0 : Fx g0) (hm : m ≤ 900) (hn : n ≤ m) (m5 : tI s 183 5 = nI m) {s1 : Tb} (h : F_X12_plain 187 (Em g0 (sst s n)) = some ((), Em g0 s1)) : F_X12_valley 183 (nI n) (Em g0 s) = (F_X12_next 183 (Em g0 s1)).bind fun z50 => (rc z50.2 183 11).bind fun _ => scM z50.2 := by
  have hwi : ∀ h : xH, F_X12_within (nI n).toInt64 0 (nI m).toInt64 h = some (bI true, h) := fun h => by
    rw [p_within, i64, i64]
    have h1 : (nI n).toInt ≤ (nI m).toInt := (fa_le _ _).mp ((nI_leI (by omega) (by omega)).mpr hn)
    have h2 : (nI 0).toInt ≤ (nI n).toInt := (fa_le _ _).mp ((nI_leI (by omega) (by omega)).mpr (Nat.zero_le n))
    have e0 : (0 : Int64).toInt = (nI 0).toInt := rfl
    rw [e0, decide_eq_true ⟨h2, h1⟩]
  have h' : F_X12_plain 187 (Em g0 (wi (wi (wi (wi (wi s 183 0 0) 183 8 (nI n)) 183 5 0) 183 7 0) 183 11 0)) = some ((), Em g0 s1) := h
  unfold F_X12_valley
  rw [x_w183_0 X0, Option.bind_some, x_i183_5 X0, Option.bind_some, tI_ik (by decide), m5, hwi, Option.bind_some, if_pos (show ¬ bI true = (0 : Int32) by decide), x_w183_8 X0, Option.bind_some, x_w183_5 X0, Option.bind_some, x_w183_7 X0, Option.bind_some, x_w183_11 X0, Option.bind_some, x_r183_4 X0, Option.bind_some, h', Option.bind_some, x_rc183 X0, Option.bind_some]
  rfl
theorem Dr0_m {g1 : Sk} {t1 : Tb} {a : Nat → Int32} {v : Nat} (ha : ∀ k, k < 1229 → a k = pla k) (r : gR g1 v 12 = none ∧ gR g1 v 13 = none) (i : tI t1 v 1 = nI 0 ∧ tI t1 v 2 = nI 0 ∧ tI t1 v 3 = nI 0 ∧ tI t1 v 4 = nI 0) (j : tI t1 (v + 7) 3 = nI 0 ∧ tI t1 (v + 7) 4 = nI 0) (w : ∀ k, tA t1 (v + 5) k = nI 0) (e : ∀ k, tA t1 (v + 9) k = nI 0) : Dr0 g1 t1 v a := by
  have z : ∀ k, k ≠ 1 → (k < 121 ∨ 127 ≤ k) → k < 1229 → a k = nI 0 := fun k h1 h2 h3 => by
    rw [ha k h3]
    unfold pla
    rw [if_neg (by omega), if_neg h1]
  refine ⟨z 0 (by decide) (by omega) (by omega), ⟨⟨i.2.1, z 2 (by decide) (by omega) (by omega), by omega⟩, fun u hu => absurd hu (by omega)⟩, ⟨⟨i.2.2.1, z 3 (by decide) (by omega) (by omega), by omega⟩, fun u hu => absurd hu (by omega)⟩, ⟨fun _ => 0, fun k hk => ⟨w k, z _ (by omega) (by omega) (by omega)⟩, fun k j h => absurd h (by rw [Nat.zero_testBit]; decide), fun k j => show (0 : Nat).testBit j = (0 : Nat).testBit k by rw [Nat.zero_testBit, Nat.zero_testBit]⟩, ⟨⟨i.2.2.2, z 4 (by decide) (by omega) (by omega), by omega⟩, ⟨j.1, z 108 (by decide) (by omega) (by omega), by decide⟩, ⟨j.2, z 107 (by decide) (by omega) (by omega), z 127 (by decide) (by omega) (by omega)⟩, fun p hp => absurd hp (by omega), fun p _ hp => ⟨e p, z _ (by omega) (by omega) (by omega), ?_⟩⟩, ⟨⟨z 328 (by decide) (by omega) (by omega), by omega⟩, Or.inl ⟨z 5 (by decide) (by omega) (by omega), r.1⟩, Or.inl ⟨z 6 (by decide) (by omega) (by omega), r.2⟩⟩⟩
  rw [ha _ (by omega)]
  unfold pla
  rw [if_pos (by omega)]
theorem vl_read (X : Fx g) (X0 : Fx g0) (hm : m ≤ 900) (hn : n ≤ m) (c1 : tI t 70 1 = nI m) (cT : ∀ k, k < n → tA t 71 k = T k) (m5 : tI s 183 5 = nI m) (mT : ∀ k, k < n → tA s 186 k = T k) : ∃ g' t' s' mc ms, F_X4_read 70 (nI n) (Em g t) = (F_X4_read_b86 70 (Em g' t')).map (ac _ mc ms) ∧ F_X12_valley 183 (nI n) (Em g0 s) = F_X12_valley_b110 183 (Em g0 s') ∧ (Gx g g' ∧ Fx g') ∧ (DS g' (gn g) ∧ ∀ j, 8 ≤ j → j ≤ 10 → gS g' (gn g + j) = 31) ∧ Kw (gn g) t t' ∧ Kq s s' ∧ (mc ≤ 1000 ∧ ms ≤ 12000) ∧ ((∃ b' e' nc', Lv g' t' g0 s' T n b' e' 24 ∧ Dra g' t' (gn g) (tA s' 187) nc') ∨ (∃ f p, Nc t' T n f p ∧ Dd s' T n f p)) := by
  have h205 := x_205 X
  obtain ⟨g1, t1, f1, ⟨a1, a2, a3, a4, a5⟩, ⟨b1, b2, b3⟩, h31, ⟨V, Z⟩, rr, ii, jj, ww, ee⟩ := dr_mk (g := g) (t := tst t n) h205
  have hs : oc 3 (gS g1 70) := by rw [(a3 70 (by omega)).1]; exact Or.inl (x_S X 4 rfl)
  have EC := rd_c X hm hn c1 f1 hs
  obtain ⟨s1, f2, q2, ap⟩ := pl_all (g := g0) (s := sst s n) X0
  have EM := rd_m X0 hm hn m5 f2
  have G2 : Gx g (gsr g1 70 10 (some (gn g))) := ⟨a1, by rw [gsr_n]; omega, a3, fun b k hb h1 h2 => by
    rw [← a4 b k hb]
    by_cases c : b = 70
    · exact gsr_Rk (fun e => h2 ⟨c, e⟩)
    · exact gsr_Ra c, fun b _ => a5 b⟩
  have X2 : Fx (gsr g1 70 10 (some (gn g))) := Fx_x X G2 (Mor_x X.2.2.2.2.2.2 G2 h205 (by rw [gsr_Ra (by decide)]; exact a4 _ _ (by omega)))
  have hR : ∀ b k, gn g ≤ b → gR (gsr g1 70 10 (some (gn g))) b k = gR g1 b k := fun b k hb => gsr_Ra (by omega)
  have D2 : DS (gsr g1 70 10 (some (gn g))) (gn g) := by
    refine ⟨?_, h205, ?_, gsr_Rs⟩
    · unfold VaS
      rw [hR _ _ (Nat.le_refl _), hR _ _ (Nat.le_refl _), hR _ _ (Nat.le_refl _), hR _ _ (Nat.le_refl _), hR _ _ (Nat.le_refl _), hR _ _ (Nat.le_refl _), hR _ _ (Nat.le_refl _)]
      exact V
    · unfold StS
      rw [hR _ _ (by omega), hR _ _ (by omega), hR _ _ (by omega)]
      exact Z
  have A0 : Dr0 (gsr g1 70 10 (some (gn g))) t1 (gn g) (tA s1 187) := Dr0_m ap ⟨by rw [hR _ _ (Nat.le_refl _)]; exact rr.1, by rw [hR _ _ (Nat.le_refl _)]; exact rr.2⟩ ii jj ww ee
  have i70 : ∀ k, tI t1 70 k = tI (tst t n) 70 k := fun k => b1 70 k (by omega)
  have i183 : ∀ k, tI s1 183 k = tI (sst s n) 183 k := fun k => by rw [q2.1]
  have R1 : CR t1 T n := ⟨by omega, by rw [i70]; unfold tst; rw [tI_ik (by decide), tI_ik (by decide), tI_ik (by decide), tI_ik (by decide), tI_is], fun k hk => by rw [b2 71 (by omega), tst_q.2.1]; exact cT k hk⟩
  have M1 : MR s1 T n := ⟨by omega, by rw [i183]; unfold sst; rw [tI_ik (by decide), tI_ik (by decide), tI_ik (by decide), tI_is], fun k hk => by rw [q2.2.1 186 (by decide), sst_q.2.1]; exact mT k hk⟩
  obtain ⟨t2, s2, e1, e2, p1, p2, r⟩ := l_adv0 (g := gsr g1 70 10 (some (gn g))) (g0 := g0) (e0 := 0) X2 X0 R1 M1 (Nat.zero_le _) (by rw [i70]; unfold tst; rw [tI_ik (by decide), tI_ik (by decide), tI_is]; rfl) (by rw [i70]; unfold tst; rw [tI_ik (by decide), tI_is]; rfl) (by rw [i70]; unfold tst; rw [tI_is]; rfl) (by rw [i183]; unfold sst; rw [tI_ik (by decide), tI_is]; rfl) (by rw [i183]; unfold sst; rw [tI_is]; rfl) A0.2.2.2.2.2.1.1
  have A1 : Dr0 (gsr g1 70 10 (some (gn g))) t2 (gn g) (tA s2 187) := by
    rw [p2.2.1]
    have ti : ∀ b k, gn g ≤ b → tI t2 b k = tI t1 b k := fun b k hb => p1.1 b k (fun e => absurd e (by omega))
    have ta : ∀ b, tA t2 b = tA t1 b := fun b => by rw [p1.2.1]
    exact ⟨A0.1, DrT_c A0.2.1 (ti _ _ (Nat.le_refl _)) (ta _) (ta _) rfl (fun _ _ _ => rfl), DrK_c A0.2.2.1 (ti _ _ (Nat.le_refl _)) (ta _) (ta _) rfl (fun _ _ _ => rfl) (fun _ _ _ => rfl), DrW_c A0.2.2.2.1 (ta _) (fun _ _ _ => rfl), DrP_c A0.2.2.2.2.1 (ti _ _ (Nat.le_refl _)) (fun k => ti _ _ (by omega)) (ta _) (ta _) (ta _) rfl (fun _ _ _ => rfl), DrL_c A0.2.2.2.2.2 (fun b _ => ta b) (fun _ _ _ => rfl) (fun _ _ => rfl)⟩
  obtain ⟨t3, s3, e3, e4, K3, K4, r3⟩ := sc_line (T := T) (n := n) X2 X0 D2 A1 (by
    rcases r with ⟨b, e, km, L, _⟩ | ⟨p, _, N1, N2⟩
    · exact Or.inl ⟨b, e, km, L⟩
    · exact Or.inr ⟨p, N1, N2⟩)
  have EC2 : rdK (Em (gsr g1 70 10 (some (gn g))) t1) = F_X4_read_b53 FU 70 (nI 0) (Em (gsr g1 70 10 (some (gn g))) t3) := by
    unfold rdK
    rw [e1, Option.bind_some, x_rc70 X2, Option.bind_some, e3, Option.bind_some]
    rfl
  have EM2 : ((F_X12_next 183 (Em g0 s1)).bind fun z50 => (rc z50.2 183 11).bind fun _ => scM z50.2) = F_X12_valley_b83 FU 183 (Em g0 s3) := by
    rw [e2, Option.bind_some, x_rc183 X0, Option.bind_some]
    exact e4
  obtain ⟨g4, t4, s4, mc, ms, e5, e6, G4, D4, K5, K6, hc, r4⟩ : ∃ g4 t4 s4 mc ms, F_X4_read_b53 FU 70 (nI 0) (Em (gsr g1 70 10 (some (gn g))) t3) = (F_X4_read_b86 70 (Em g4 t4)).map (ac _ mc ms) ∧ F_X12_valley_b83 FU 183 (Em g0 s3) = F_X12_valley_b110 183 (Em g0 s4) ∧ Gv (gn g) (gsr g1 70 10 (some (gn g))) g4 ∧ DS g4 (gn g) ∧ Kv (gn g) t3 t4 ∧ Kn s3 s4 ∧ (mc ≤ n + 4 ∧ ms ≤ 9 * n + 932) ∧ ((∃ b' e' nc', Lv g4 t4 g0 s4 T n b' e' 24 ∧ Dra g4 t4 (gn g) (tA s4 187) nc') ∨ (∃ f p, Nc t4 T n f p ∧ Dd s4 T n f p)) := by
    rcases r3 with ⟨b', e', km', L, hb, A⟩ | ⟨f, p, q, N1, N2⟩
    · obtain ⟨g4, t4, s4, mc, ms, e5, e6, G4, D4, K5, K6, hc, r4⟩ := ln_loop (v := gn g) (n - b') FU FU 0 _ t3 s3 b' e' km' 0 (Nat.le_refl _) (show n - b' + 2 ≤ 1000000 by omega) (show n - b' + 3 ≤ 1000000 by omega) hb (Nat.zero_le _) (Nat.zero_le _) L D2 A
      exact ⟨g4, t4, s4, mc, ms, e5, e6, G4, D4, K5, K6, by omega, r4⟩
    · obtain ⟨s4, e6, K6, d6⟩ := b83_n X0 N2 (fuel := FU) (by decide)
      exact ⟨_, t3, s4, 0, 0, by rw [← ac_0]; exact b53_n X2 N1 (by decide), e6, Gv_r, D2, Kv_r, K6, by omega, Or.inr ⟨f, p, N1, d6⟩⟩
  refine ⟨g4, t4, s4, mc + 11, ms + 143, ?_, ?_, ⟨Gx_v G2 (Nat.le_refl _) G4, Fx_v X2 h205 G4⟩, ⟨D4, fun j h8 h10 => by rw [(G4.2.2.1 (gn g + j) (by rw [gsr_n]; omega)).1]; exact h31 j h8 h10⟩, ?_, ?_, by omega, r4⟩
  · rw [EC, EC2, e5, ac_2]
  · rw [EM, EM2, e6]
  · have KK := Kv_t K3 K5
    refine ⟨fun b k hb h => ?_, ?_, fun b hb h => ?_, fun b hb => ?_⟩
    · rw [KK.1 b k hb (fun e => absurd e h), p1.1 b k (fun e => absurd e h), b1 b k hb, tst_q.1 b k (fun e => absurd e h)]
    · rw [KK.1 70 1 (by omega) (fun _ => by decide), p1.1 70 1 (fun _ => by decide), i70]
      unfold tst
      rw [tI_ik (by decide), tI_ik (by decide), tI_ik (by decide), tI_is]
      rfl
    · rw [KK.2.1 b hb h, p1.2.1, b2 b hb, tst_q.2.1]
    · rw [KK.2.2 b hb, p1.2.2, b3, tst_q.2.2]
  · have KK := Kn_t K4 K6
    refine ⟨fun b k h => ?_, ?_, fun b h => ?_, ?_⟩
    · rw [KK.1 b k (fun e => absurd e h), p2.1 b k (fun e => absurd e h), q2.1, sst_q.1 b k (fun e => absurd e h)]
    · rw [KK.1 183 5 (fun _ => by decide), p2.1 183 5 (fun _ => by decide), i183]
      unfold sst
      rw [tI_ik (by decide), tI_ik (by decide), tI_is]
      rfl
    · rw [KK.2.1 b h, p2.2.1, q2.2.1 b h, sst_q.2.1]
    · rw [KK.2.2, p2.2.2, q2.2.2, sst_q.2.2]
end XRv
