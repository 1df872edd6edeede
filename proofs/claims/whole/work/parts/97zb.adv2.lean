/-! ===== the class's advance ===== -/
theorem sg_b : ∀ m, m < 256 → ∀ j, j < 12 → ((nI m).toInt8.toInt32 = xsb 0 j ↔ nI m = xsb 0 j) := by decide +kernel
theorem sg_256 : ∀ j, j < 12 → (¬ xsb 0 j < 0 ∧ ¬ (255 : Int32) < xsb 0 j) := by decide +kernel
theorem xsl_0 : xsl 0 = 12 := by decide
section XA2
variable {g : Sk} {t t' t'' : Tb} {T : Nat → Int32} {n a : Nat}
theorem s_ixc {m : Nat} (hm : m < 256) : ∀ (d j fuel : Nat), j + d = 12 → d < fuel → ∃ r, F_J1_indexOfChar_4cfef_b7 fuel 1 (nI 12) (nI m).toInt8.toInt32 (nI j) (Em g t) = some (r, Em g t) ∧ ((0 ≤ r) ↔ ∃ k, j ≤ k ∧ k < 12 ∧ nI m = xsb 0 k) := by
  intro d
  induction d with
  | zero =>
    intro j fuel hj hf
    obtain ⟨f, rfl⟩ : ∃ f, fuel = f + 1 := ⟨fuel - 1, by omega⟩
    refine ⟨-1, ?_, ⟨fun h => absurd h (by decide), fun ⟨k, h1, h2, _⟩ => absurd h1 (by omega)⟩⟩
    rw [F_J1_indexOfChar_4cfef_b7, if_pos (by rw [nI_leI (by decide) (by omega)]; omega)]
  | succ d ih =>
    intro j fuel hj hf
    obtain ⟨f, rfl⟩ : ∃ f, fuel = f + 1 := ⟨fuel - 1, by omega⟩
    have hb : aB (Em g t) 1 (nI j) = some (xsb 0 j) := s_aB (i := 0) (by decide) (by rw [xsl_0]; omega)
    rw [F_J1_indexOfChar_4cfef_b7, if_neg (by rw [nI_leI (by decide) (by omega)]; omega), hb, Option.bind_some]
    by_cases c : nI m = xsb 0 j
    · refine ⟨nI j, ?_, ⟨fun _ => ⟨j, Nat.le_refl _, by omega, c⟩, fun _ => show nI 0 ≤ nI j by rw [nI_leI (by decide) (by omega)]; omega⟩⟩
      rw [if_neg (fun h => h ((sg_b m hm j (by omega)).mpr c).symm)]
    · obtain ⟨r, e2, k2⟩ := ih (j + 1) f (by omega) (by omega)
      refine ⟨r, ?_, k2.trans ⟨fun ⟨k, h1, h2⟩ => ⟨k, by omega, h2⟩, fun ⟨k, h1, h2, h3⟩ => ⟨k, ?_, h2, h3⟩⟩⟩
      · rw [if_pos (fun h => c ((sg_b m hm j (by omega)).mp h.symm)), show nI j + 1 = nI (j + 1) from nI_add j 1]
        exact e2
      · have : k ≠ j := fun e => c (by rw [← e]; exact h3)
        omega
theorem s_idx (c : Int32) : ∃ r, F_J0_indexOf_0f7a4 0 c (Em g t) = some (r, Em g t) ∧ ((0 ≤ r) ↔ ∃ k, k < 12 ∧ c = xsb 0 k) := by
  have h1 : fSV (Em g t) 0 = some 1 := if_pos ⟨by decide, by decide⟩
  have h2 : rcS (Em g t) 0 = some () := if_pos ⟨by decide, by decide⟩
  have h3 : fSC (Em g t) 0 = some 0 := if_pos ⟨by decide, by decide⟩
  have h4 : F_J0_isLatin1_aae02 0 (Em g t) = some (1, Em g t) := by
    unfold F_J0_isLatin1_aae02
    rw [if_neg (by decide), h3, Option.bind_some, if_neg (fun h => h rfl)]
  have h5 : F_J0_length_8abf5 0 (Em g t) = some (nI 12, Em g t) := by
    have := s_len (g := g) (t := t) (a := 0) (i := 0) rfl (by decide)
    rw [xsl_0] at this
    exact this
  have h6 : al (Em g t) 1 = some (nI 12) := by
    have := s_al (g := g) (t := t) (i := 0) (by decide)
    rw [xsl_0] at this
    exact this
  have key : ∃ r, F_J1_indexOf_4cfef 1 c 0 (nI 12) (Em g t) = some (r, Em g t) ∧ ((0 ≤ r) ↔ ∃ k, k < 12 ∧ c = xsb 0 k) := by
    unfold F_J1_indexOf_4cfef F_J1_canEncode_9a6ad
    by_cases c1 : c < 0
    · refine ⟨-1, ?_, ⟨fun h => absurd h (by decide), fun ⟨k, k1, k2⟩ => absurd c1 (by rw [k2]; exact (sg_256 k k1).1)⟩⟩
      rw [if_pos c1, Option.bind_some, if_neg (fun h => h rfl)]
    · rw [if_neg c1]
      by_cases c2 : (255 : Int32) < c
      · refine ⟨-1, ?_, ⟨fun h => absurd h (by decide), fun ⟨k, k1, k2⟩ => absurd c2 (by rw [k2]; exact (sg_256 k k1).2)⟩⟩
        rw [if_pos c2, Option.bind_some, if_neg (fun h => h rfl)]
      · obtain ⟨m, hm, rfl⟩ : ∃ m, m < 256 ∧ c = nI m := by
          have d1 : ¬ c < nI 0 := c1
          have d2 : ¬ nI 255 < c := c2
          rw [fa_lt] at d1 d2
          have t0 : (nI 0).toInt = 0 := rfl
          have t2 : (nI 255).toInt = 255 := rfl
          exact ⟨c.toInt.toNat, by omega, Int32.toInt_inj.mp (by rw [nI_toInt (by omega)]; omega)⟩
        obtain ⟨r, e1, k1⟩ := s_ixc (g := g) (t := t) hm 12 0 FU rfl (by decide)
        refine ⟨r, ?_, k1.trans ⟨fun ⟨k, _, h2⟩ => ⟨k, h2⟩, fun ⟨k, h2⟩ => ⟨k, Nat.zero_le _, h2⟩⟩⟩
        have m1 : F_J9_max_7cf53 0 0 (Em g t) = some (0, Em g t) := rfl
        have m2 : F_J9_min_7cf53 (nI 12) (nI 12) (Em g t) = some (nI 12, Em g t) := if_neg (by decide)
        have e1' : F_J1_indexOfChar_4cfef 1 (nI m) 0 (nI 12) (Em g t) = some (r, Em g t) := e1
        rw [if_neg c2, Option.bind_some, if_pos (show ¬ (1 : Int32) = 0 by decide), m1, Option.bind_some, h6, Option.bind_some, m2, Option.bind_some, if_pos (show (0 : Int32) < nI 12 by decide), e1', Option.bind_some]
  obtain ⟨r, e1, k1⟩ := key
  refine ⟨r, ?_, k1⟩
  unfold F_J0_indexOf_0f7a4 F_J0_indexOf_7cf53
  rw [h2, Option.bind_some, Option.bind_some, h4, Option.bind_some, if_neg (show ¬ (1 : Int32) = 0 by decide), h1, Option.bind_some, h2, Option.bind_some, h5, Option.bind_some, e1, Option.bind_some, Option.bind_some]
theorem k_adv0 (X : Fx g) (R : CR t T n) {e0 : Nat} (he0 : e0 ≤ n) (h6 : tI t 70 6 = nI e0) (h11 : tI t 70 11 = nI 0) : ∃ t', F_X4_advance 70 (Em g t) = F_X4_advance_b68 70 (Em g t') ∧ Qs 70 [5] t t' ∧ tI t' 70 5 = nI (skp T n e0) := by
  have h9 := R.1
  have hfu : n - e0 < FU := by show n - e0 < 1000000; omega
  obtain ⟨t1, e1, q1, k1⟩ := k_skip (T := T) (n := n) X (n - e0) e0 FU (wi t 70 5 (nI e0)) (by omega) hfu (CR_q R (Qs_w (S := [5]) (by decide) Qs_r) (by decide)) tI_is
  refine ⟨t1, ?_, Qs_t (Qs_w (by decide) Qs_r) q1, k1⟩
  unfold F_X4_advance
  rw [x_i70_11 X, Option.bind_some, h11, if_pos (show nI 0 = (0 : Int32) from rfl), x_i70_6 X, Option.bind_some, h6, x_w70_5 X, Option.bind_some]
  exact e1
theorem k_68 (X : Fx g) (R : CR t T n) {b : Nat} (hb : b ≤ n) (h5 : tI t 70 5 = nI b) : ∃ t', F_X4_advance_b68 70 (Em g t) = (if b < n then (if bI (ltr (T b)) = 0 then (if bI (dgt (T b)) = 0 then (wI (Em g t') 70 3 7 2).bind fun h248 => (fI h248 70 3 6).bind fun v253 => (fR h248 70 3 0).bind fun v259 => (fI h248 70 3 5).bind fun v263 => (aC h248 v259 v263).bind fun v266 => (rcS h248 0).bind fun _ => (F_J0_indexOf_0f7a4 0 v266 h248).bind fun z267 => if 0 ≤ z267.1 then F_X4_advance_b278 70 70 v253 1 z267.2 else F_X4_advance_b278 70 70 v253 0 z267.2 else (wI (Em g t') 70 3 7 1).bind fun h164 => F_X4_advance_b167 FU 70 h164) else (wI (Em g t') 70 3 7 0).bind fun h113 => F_X4_advance_b116 FU 70 h113) else (wI (Em g t') 70 3 7 3).bind fun h94 => F_X4_advance_b282 70 h94) ∧ Qs 70 [6, 8] t t' ∧ tI t' 70 6 = nI b ∧ tI t' 70 8 = nI 0 := by
  have h9 := R.1
  have q : Qs 70 [6, 8] t (wi (wi t 70 6 (nI b)) 70 8 (nI 0)) := Qs_w (by decide) (Qs_w (by decide) Qs_r)
  have R2 := CR_q R q (by decide)
  refine ⟨wi (wi t 70 6 (nI b)) 70 8 (nI 0), ?_, q, by rw [tI_ik (by decide)]; exact tI_is, tI_is⟩
  have h52 : tI (wi (wi t 70 6 (nI b)) 70 8 (nI 0)) 70 5 = nI b := by rw [tI_ik (by decide), tI_ik (by decide)]; exact h5
  unfold F_X4_advance_b68
  rw [x_i70_5 X, Option.bind_some, h5, x_w70_6 X, Option.bind_some, show (0 : Int32) = nI 0 from rfl, x_w70_8 X, Option.bind_some, x_i70_5 X, Option.bind_some, x_i70_4 X, Option.bind_some, h52, R2.2.1]
  by_cases c : b < n
  · rw [if_pos (by rw [nI_ltI (by omega) (by omega)]; exact c), if_pos c, Option.bind_some, x_rc70 X, Option.bind_some, k_ltr X R2 c, Option.bind_some, x_i70_5 X, Option.bind_some, h52, x_rc70 X, Option.bind_some, k_dgt X R2 c, Option.bind_some]
  · rw [if_neg (by rw [nI_ltI (by omega) (by omega)]; exact c), if_neg c]
theorem k_adv (X : Fx g) (R : CR t T n) {e0 b e km kc vl : Nat} (he0 : e0 ≤ n) (h6 : tI t 70 6 = nI e0) (h11 : tI t 70 11 = nI 0) (h : tk T n e0 b e km kc vl) : ∃ t', F_X4_advance 70 (Em g t) = some ((), Em g t') ∧ Qs 70 [5, 6, 7, 8] t t' ∧ tI t' 70 5 = nI b ∧ tI t' 70 6 = nI e ∧ tI t' 70 7 = nI kc ∧ tI t' 70 8 = nI vl := by
  have h9 := R.1
  obtain ⟨t1, e1, q1, k1⟩ := k_adv0 X R he0 h6 h11
  have hs := skp_le (T := T) he0
  have hbb := tk_b he0 h
  obtain ⟨hb, h⟩ := h
  rw [← hb] at k1 hs
  obtain ⟨t2, e2, q2, k2, k3⟩ := k_68 X (CR_q R q1 (by decide)) hs.2 k1
  have R2 := CR_q (CR_q R q1 (by decide)) q2 (by decide)
  have q12 : Qs 70 [5, 6, 7, 8] t t2 := Qs_t (Qs_m (by decide) q1) (Qs_m (by decide) q2)
  have h52 : tI t2 70 5 = nI b := by rw [q2.1 70 5 (fun _ => by decide)]; exact k1
  rw [e1, e2]
  rcases h with ⟨g1, g2, g3, g4, g5⟩ | ⟨g1, g2, g3, g4, g5, g6⟩ | ⟨g1, g2, g3, g4, g5, g6, g7, g8⟩ | ⟨g1, g2, g3, ⟨j, j1, j2, j3⟩, g4, g5, g6⟩
  · have q3 : Qs 70 [5, 6, 7, 8] t (wi t2 70 7 (nI 3)) := Qs_w (by decide) q12
    refine ⟨wi t2 70 7 (nI 3), ?_, q3, by rw [tI_ik (by decide)]; exact h52, by rw [tI_ik (by decide), k2, g2, g1], by rw [g4]; exact tI_is, by rw [tI_ik (by decide), g5]; exact k3⟩
    rw [if_neg (by omega), show (3 : Int32) = nI 3 from rfl, x_w70_7 X, Option.bind_some]
    exact k_282o X (b := b) (e := b) (kc := 3) (by rw [tI_ik (by decide)]; exact h52) (by rw [tI_ik (by decide)]; exact k2) tI_is (Nat.le_refl _) (by omega) (by decide) (by omega) (by omega)
  · have hfu : n - b < FU := by show n - b < 1000000; omega
    obtain ⟨t3, e3, q3, k4⟩ := k_word X (T := T) (n := n) (n - b) b FU (wi t2 70 7 (nI 0)) (by omega) hfu (CR_q R2 (Qs_w (S := [7]) (by decide) Qs_r) (by decide)) (by rw [tI_ik (by decide)]; exact k2)
    rw [← g3] at k4
    have f5 : tI t3 70 5 = nI b := by rw [q3.1 70 5 (fun _ => by decide), tI_ik (by decide)]; exact h52
    have f7 : tI t3 70 7 = nI 0 := by rw [q3.1 70 7 (fun _ => by decide)]; exact tI_is
    refine ⟨t3, ?_, Qs_t (Qs_w (by decide) q12) (Qs_m (by decide) q3), f5, k4, by rw [g5]; exact f7, by rw [g6, q3.1 70 8 (fun _ => by decide), tI_ik (by decide)]; exact k3⟩
    rw [if_pos g1, g2, if_neg (show ¬ bI true = (0 : Int32) by decide), show (0 : Int32) = nI 0 from rfl, x_w70_7 X, Option.bind_some, e3]
    exact k_282o X f5 k4 f7 hbb.2.1 (by omega) (by decide) (by omega) (by omega)
  · have hfu : n - b < FU := by show n - b < 1000000; omega
    obtain ⟨t3, e3, q3, k4, k5⟩ := k_num X (T := T) (n := n) (b := b) (n - b) b FU (wi t2 70 7 (nI 1)) (by omega) hfu (CR_q R2 (Qs_w (S := [7]) (by decide) Qs_r) (by decide)) (Nat.le_refl _) (fun k h1 h2 => absurd h1 (by omega)) (by rw [tI_ik (by decide)]; exact h52) (by rw [tI_ik (by decide)]; exact k2) (by rw [tI_ik (by decide), Nat.sub_self]; exact k3)
    rw [← g4] at k4 k5
    have f5 : tI t3 70 5 = nI b := by rw [q3.1 70 5 (fun _ => by decide), tI_ik (by decide)]; exact h52
    have f7 : tI t3 70 7 = nI 1 := by rw [q3.1 70 7 (fun _ => by decide)]; exact tI_is
    refine ⟨t3, ?_, Qs_t (Qs_w (by decide) q12) (Qs_m (by decide) q3), f5, k4, by rw [g7]; exact f7, by rw [g8]; exact k5⟩
    rw [if_pos g1, g2, if_pos (show bI false = (0 : Int32) by decide), g3, if_neg (show ¬ bI true = (0 : Int32) by decide), show (1 : Int32) = nI 1 from rfl, x_w70_7 X, Option.bind_some, e3]
    exact k_282o X f5 k4 f7 hbb.2.1 (by omega) (by decide) (fun _ => g5) (by omega)
  · obtain ⟨r, e3, k4⟩ := s_idx (g := g) (t := wi t2 70 7 (nI 2)) (T b)
    have hr : 0 ≤ r := k4.mpr ⟨j, j1, j2⟩
    have f5 : tI (wi (wi t2 70 7 (nI 2)) 70 6 (nI (b + 1))) 70 5 = nI b := by rw [tI_ik (by decide), tI_ik (by decide)]; exact h52
    have f7 : tI (wi (wi t2 70 7 (nI 2)) 70 6 (nI (b + 1))) 70 7 = nI 2 := by rw [tI_ik (by decide)]; exact tI_is
    refine ⟨wi (wi t2 70 7 (nI 2)) 70 6 (nI (b + 1)), ?_, Qs_w (by decide) (Qs_w (by decide) q12), f5, by rw [g4]; exact tI_is, by rw [g5]; exact f7, by rw [g6, tI_ik (by decide), tI_ik (by decide)]; exact k3⟩
    have hrs : rcS (Em g (wi t2 70 7 (nI 2))) 0 = some () := if_pos ⟨by decide, by decide⟩
    rw [if_pos g1, g2, if_pos (show bI false = (0 : Int32) by decide), g3, if_pos (show bI false = (0 : Int32) by decide), show (2 : Int32) = nI 2 from rfl, x_w70_7 X, Option.bind_some, x_i70_6 X, Option.bind_some, x_r70_0 X, Option.bind_some, x_i70_5 X, Option.bind_some, tI_ik (by decide), tI_ik (by decide), h52, k2, x_a71 X (by omega), Option.bind_some, tA_wi, R2.2.2 b g1, hrs, Option.bind_some, e3, Option.bind_some, if_pos hr]
    unfold F_X4_advance_b278
    rw [show nI b + 1 = nI (b + 1) from nI_add b 1, x_w70_6 X, Option.bind_some]
    exact k_282o X f5 tI_is f7 (by omega) (by omega) (by decide) (by omega) (by omega)
theorem k_advb (X : Fx g) (R : CR t T n) {e0 b : Nat} (he0 : e0 ≤ n) (h6 : tI t 70 6 = nI e0) (h11 : tI t 70 11 = nI 0) (h : tb T n e0 b) : ∃ t' e, F_X4_advance 70 (Em g t) = some ((), Em g t') ∧ Qs 70 [5, 6, 7, 8, 11, 12] t t' ∧ tI t' 70 5 = nI b ∧ tI t' 70 6 = nI e ∧ b ≤ e ∧ e ≤ n ∧ tI t' 70 11 = nI 1 ∧ tI t' 70 12 = nI b := by
  have h9 := R.1
  obtain ⟨t1, e1, q1, k1⟩ := k_adv0 X R he0 h6 h11
  have hs := skp_le (T := T) he0
  obtain ⟨hb, g1, g2, h⟩ := h
  rw [← hb] at k1 hs
  obtain ⟨t2, e2, q2, k2, k3⟩ := k_68 X (CR_q R q1 (by decide)) hs.2 k1
  have R2 := CR_q (CR_q R q1 (by decide)) q2 (by decide)
  have q12 : Qs 70 [5, 6, 7, 8, 11, 12] t t2 := Qs_t (Qs_m (by decide) q1) (Qs_m (by decide) q2)
  have h52 : tI t2 70 5 = nI b := by rw [q2.1 70 5 (fun _ => by decide)]; exact k1
  have h112 : tI t2 70 11 = nI 0 := by rw [q2.1 70 11 (fun _ => by decide), q1.1 70 11 (fun _ => by decide)]; exact h11
  rw [e1, e2]
  rcases h with ⟨g3, g4⟩ | ⟨g3, g4⟩
  · have hfu : n - b < FU := by show n - b < 1000000; omega
    obtain ⟨t3, e3, q3, k4, k5⟩ := k_num X (T := T) (n := n) (b := b) (n - b) b FU (wi t2 70 7 (nI 1)) (by omega) hfu (CR_q R2 (Qs_w (S := [7]) (by decide) Qs_r) (by decide)) (Nat.le_refl _) (fun k h1 h2 => absurd h1 (by omega)) (by rw [tI_ik (by decide)]; exact h52) (by rw [tI_ik (by decide)]; exact k2) (by rw [tI_ik (by decide), Nat.sub_self]; exact k3)
    have rl := run_le (p := dgt) (T := T) (n - b) b
    have f5 : tI t3 70 5 = nI b := by rw [q3.1 70 5 (fun _ => by decide), tI_ik (by decide)]; exact h52
    have f7 : tI t3 70 7 = nI 1 := by rw [q3.1 70 7 (fun _ => by decide)]; exact tI_is
    have f11 : tI t3 70 11 = nI 0 := by rw [q3.1 70 11 (fun _ => by decide), tI_ik (by decide)]; exact h112
    refine ⟨wi (wi t3 70 11 (nI 1)) 70 12 (nI b), run dgt T (n - b) b, ?_, Qs_w (by decide) (Qs_w (by decide) (Qs_t (Qs_w (by decide) q12) (Qs_m (by decide) q3))), by rw [tI_ik (by decide), tI_ik (by decide)]; exact f5, by rw [tI_ik (by decide), tI_ik (by decide)]; exact k4, by omega, by omega, by rw [tI_ik (by decide)]; exact tI_is, tI_is⟩
    rw [if_pos g1, g2, if_pos (show bI false = (0 : Int32) by decide), g3, if_neg (show ¬ bI true = (0 : Int32) by decide), show (1 : Int32) = nI 1 from rfl, x_w70_7 X, Option.bind_some, e3]
    exact k_282b X f5 k4 f7 f11 (by omega) (by omega) (Or.inl ⟨rfl, g4⟩)
  · obtain ⟨r, e3, k4⟩ := s_idx (g := g) (t := wi t2 70 7 (nI 2)) (T b)
    have hr : ¬ 0 ≤ r := fun q => by
      obtain ⟨k, q1, q2⟩ := k4.mp q
      exact g4 k q1 q2
    have f5 : tI (wi (wi t2 70 7 (nI 2)) 70 6 (nI b)) 70 5 = nI b := by rw [tI_ik (by decide), tI_ik (by decide)]; exact h52
    have f7 : tI (wi (wi t2 70 7 (nI 2)) 70 6 (nI b)) 70 7 = nI 2 := by rw [tI_ik (by decide)]; exact tI_is
    have f11 : tI (wi (wi t2 70 7 (nI 2)) 70 6 (nI b)) 70 11 = nI 0 := by rw [tI_ik (by decide), tI_ik (by decide)]; exact h112
    refine ⟨wi (wi (wi (wi t2 70 7 (nI 2)) 70 6 (nI b)) 70 11 (nI 1)) 70 12 (nI b), b, ?_, Qs_w (by decide) (Qs_w (by decide) (Qs_w (by decide) (Qs_w (by decide) q12))), by rw [tI_ik (by decide), tI_ik (by decide)]; exact f5, by rw [tI_ik (by decide), tI_ik (by decide)]; exact tI_is, Nat.le_refl _, by omega, by rw [tI_ik (by decide)]; exact tI_is, tI_is⟩
    have hrs : rcS (Em g (wi t2 70 7 (nI 2))) 0 = some () := if_pos ⟨by decide, by decide⟩
    rw [if_pos g1, g2, if_pos (show bI false = (0 : Int32) by decide), g3, if_pos (show bI false = (0 : Int32) by decide), show (2 : Int32) = nI 2 from rfl, x_w70_7 X, Option.bind_some, x_i70_6 X, Option.bind_some, x_r70_0 X, Option.bind_some, x_i70_5 X, Option.bind_some, tI_ik (by decide), tI_ik (by decide), h52, k2, x_a71 X (by omega), Option.bind_some, tA_wi, R2.2.2 b g1, hrs, Option.bind_some, e3, Option.bind_some, if_neg hr]
    unfold F_X4_advance_b278
    rw [show nI b + 0 = nI b from (nI_add b 0), x_w70_6 X, Option.bind_some]
    exact k_282b X f5 tI_is f7 f11 (Nat.le_refl _) (by omega) (Or.inr ⟨rfl, rfl⟩)
/-! is this the token? -/
theorem k_isAt_l (X : Fx g) (R : CR t T n) {a i b e : Nat} (ha : a = 2 * i) (hi : i < 34) (hbe : b ≤ e) (he : e ≤ n) (hl : e - b = xsl i) (h5 : tI t 70 5 = nI b) : ∀ (d k fuel : Nat), k + d = xsl i → d < fuel → (∀ j, j < k → T (b + j) = xsb i j) → F_X4_isAt_b20 fuel 70 a (nI k) (Em g t) = some (bI (decide (∀ k, k < xsl i → T (b + k) = xsb i k)), Em g t) := by
  have h9 := R.1
  have h200 := (xs_b i hi).1
  have hrs : rcS (Em g t) a = some () := if_pos ⟨by omega, by omega⟩
  intro d
  induction d with
  | zero =>
    intro k fuel hk hf h
    obtain ⟨f, rfl⟩ : ∃ f, fuel = f + 1 := ⟨fuel - 1, by omega⟩
    have hk : k = xsl i := by omega
    subst hk
    rw [F_X4_isAt_b20, hrs, Option.bind_some, s_len ha hi, Option.bind_some, if_pos (by rw [nI_leI (by omega) (by omega)]; exact Nat.le_refl _), decide_eq_true h]
    rfl
  | succ d ih =>
    intro k fuel hk hf h
    obtain ⟨f, rfl⟩ : ∃ f, fuel = f + 1 := ⟨fuel - 1, by omega⟩
    rw [F_X4_isAt_b20, hrs, Option.bind_some, s_len ha hi, Option.bind_some, if_neg (by rw [nI_leI (by omega) (by omega)]; omega), x_r70_0 X, Option.bind_some, x_i70_5 X, Option.bind_some, h5, nI_add, x_a71 X (by omega), Option.bind_some, R.2.2 (b + k) (by omega), hrs, Option.bind_some, s_chr ha hi (by omega), Option.bind_some]
    by_cases c : T (b + k) = xsb i k
    · rw [if_pos c, show nI k + 1 = nI (k + 1) from nI_add k 1]
      exact ih (k + 1) f (by omega) (by omega) (fun j hj => by
        by_cases q : j = k
        · rw [q]; exact c
        · exact h j (by omega))
    · rw [if_neg c, decide_eq_false (fun q => c (q k (by omega)))]
      rfl
theorem k_isAt (X : Fx g) (R : CR t T n) {a i b e : Nat} (ha : a = 2 * i) (hi : i < 34) (hbe : b ≤ e) (he : e ≤ n) (h5 : tI t 70 5 = nI b) (h6 : tI t 70 6 = nI e) : F_X4_isAt 70 a (Em g t) = some (bI (eqs T b e i), Em g t) := by
  have h9 := R.1
  have h200 := (xs_b i hi).1
  have hrs : rcS (Em g t) a = some () := if_pos ⟨by omega, by omega⟩
  have hfu : xsl i < FU := by show xsl i < 1000000; omega
  unfold F_X4_isAt eqs
  rw [x_i70_6 X, Option.bind_some, x_i70_5 X, Option.bind_some, h5, h6, hrs, Option.bind_some, s_len ha hi, Option.bind_some, nI_sub hbe]
  by_cases c : e - b = xsl i
  · have key := k_isAt_l X R ha hi hbe he c h5 (xsl i) 0 FU (by omega) hfu (fun j hj => absurd hj (by omega))
    have e1 : decide (e - b = xsl i ∧ ∀ k, k < xsl i → T (b + k) = xsb i k) = decide (∀ k, k < xsl i → T (b + k) = xsb i k) := decide_eq_decide.mpr ⟨fun h => h.2, fun h => ⟨c, h⟩⟩
    rw [if_pos (by rw [c]), e1]
    exact key
  · rw [if_neg (by rw [nI_eq (by omega) (by omega)]; exact c), decide_eq_false (fun h => c h.1)]
    rfl
end XA2
