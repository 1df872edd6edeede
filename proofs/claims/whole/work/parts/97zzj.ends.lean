/-! ===== after the last line: both readers end ===== -/
def Swb (P : Nat → Bool) (g : Sk) (t t' : Tb) : Prop := (∀ b k, b < gn g → P b = false → scI b k = false → tI t' b k = tI t b k) ∧ (∀ b, b < gn g → P b = false → scA g b = false → tA t' b = tA t b) ∧ (∀ b, b < gn g → P b = false → scJ b = false → tJ t' b = tJ t b)
def P70 (b : Nat) : Bool := decide (b = 70 ∨ (95 ≤ b ∧ b ≤ 98) ∨ b = 103)
def VlD (g : Sk) (t : Tb) (g' : Sk) (t' s s' : Tb) : Prop := ∃ f p, Gx g g' ∧ Swb (fun b => decide (b = 70)) g t t' ∧ (tI t' 70 1 = nI 0 ∧ tI t' 70 11 = nI f ∧ tI t' 70 12 = nI p) ∧ ¬ nI f = nI 0 ∧ (∀ b k, b ≠ 183 → tI s' b k = tI s b k) ∧ (tI s' 183 5 = nI 0 ∧ tI s' 183 13 = nI f ∧ tI s' 183 14 = nI p) ∧ (∀ b, b ≠ 187 → tA s' b = tA s b) ∧ tJ s' = tJ s
def VlL (D : Nat) (g : Sk) (t : Tb) (g' : Sk) (t' s s' : Tb) (a : Nat → Int32) : Prop := (∃ gm, Gx g gm ∧ Fx gm ∧ g' = g69 gm (gn g)) ∧ Swb P70 g t t' ∧ (tI t' 70 1 = nI 0 ∧ tI t' 70 11 = nI 0 ∧ tI t' 70 12 = -nI 1) ∧ (tI t' 103 1 = tI t 103 1 ∧ tI t' 103 2 = nI 0) ∧ (VaS g' (gn g) ∧ WA a D ∧ VaP g' t' (gn g) a ∧ StP t' 95 (vP a) a 107 ∧ a 127 = nI 0) ∧ (∀ b k, b ≠ 183 → tI s' b k = tI s b k) ∧ (tI s' 183 5 = nI 0 ∧ tI s' 183 13 = nI 0 ∧ tI s' 183 14 = -nI 1) ∧ (∀ b, b ≠ 187 → b ≠ 184 → tA s' b = tA s b) ∧ tA s' 184 = fa_fill a (tA s 184) 1229 ∧ tJ s' = tJ s
section XEd
variable {g g' g0 : Sk} {t s t' : Tb} {T f b : Nat → Int32} {n m D v x : Nat}
theorem scA_x (G : Gx g g') {c : Nat} (h : c < gn g) : scA g' c = scA g c := by
  unfold scA
  rw [(G.2.2.1 c h).1]
theorem StS_q (G : Gq g g') (hx : x ≠ 69) (Z : StS g x) : StS g' x := by
  obtain ⟨h1, h2, h3, h4, h5, h6⟩ := G
  unfold StS
  rw [h3, h4, h5 x 0 (by omega), h5 x 1 (by omega), h5 x 2 (by omega)]
  exact Z
theorem vl_154 (X0 : Fx g0) (hf : tA s 187 = f) : ∀ (d k fuel : Nat), k + d = 1229 → d < fuel → F_X12_valley_b154 fuel 183 (nI k) (Em g0 (wr s 184 (fa_fill f b k))) = some (f 0, Em g0 (wr s 184 (fa_fill f b 1229))) := by
  have hA : ∀ s : Tb, aI (Em g0 s) 184 0 = some (tA s 184 0) := fun s => x_a184 X0 (k := 0) (by decide)
  intro d
  induction d with
  | zero =>
    intro k fuel hk hfu
    obtain ⟨fu, rfl⟩ : ∃ z, fuel = z + 1 := ⟨fuel - 1, by omega⟩
    have : k = 1229 := by omega
    subst this
    rw [F_X12_valley_b154, if_pos (show (1229 : Int32) ≤ nI 1229 by decide), x_r183_1 X0, Option.bind_some, hA, Option.bind_some, tA_rs, fa_fill_in (by omega)]
  | succ d ih =>
    intro k fuel hk hfu
    obtain ⟨fu, rfl⟩ : ∃ z, fuel = z + 1 := ⟨fuel - 1, by omega⟩
    rw [F_X12_valley_b154, if_neg (show ¬ (1229 : Int32) ≤ nI k from show ¬ nI 1229 ≤ nI k by rw [nI_leI (by decide) (by omega)]; omega), x_r183_1 X0, Option.bind_some, x_r183_4 X0, Option.bind_some, x_a187 X0 (by omega), Option.bind_some, tA_rn (by decide), hf, x_s184 X0 (by omega), Option.bind_some, wa_r, fa_fill_succ, show nI k + 1 = nI (k + 1) from nI_add k 1]
    exact ih (k + 1) fu (by omega) (by omega)
theorem vl_110l (X0 : Fx g0) (h : tI s 183 11 = nI 0) : F_X12_valley_b110 183 (Em g0 s) = some (tA s 187 0, Em g0 (wr (wi (wi s 183 13 (nI 0)) 183 14 (-1)) 184 (fa_fill (tA s 187) (tA s 184) 1229))) := by
  have h2 : wr (wi (wi s 183 13 (nI 0)) 183 14 (-1)) 184 (fa_fill (tA s 187) (tA s 184) 0) = wi (wi s 183 13 (nI 0)) 183 14 (-1) := by
    rw [fa_fill_0]
    exact wr_self (t := wi (wi s 183 13 (nI 0)) 183 14 (-1)) (b := 184)
  have h3 := vl_154 (g0 := g0) (s := wi (wi s 183 13 (nI 0)) 183 14 (-1)) (f := tA s 187) (b := tA s 184) X0 rfl 1229 0 FU (by omega) (by decide)
  rw [h2] at h3
  unfold F_X12_valley_b110 F_X12_valley_b134
  rw [x_i183_11 X0, Option.bind_some, h, x_w183_13 X0, Option.bind_some, x_i183_11 X0, Option.bind_some, tI_ik (by decide), h, if_neg (show ¬ ¬ nI 0 = (0 : Int32) from fun h => h rfl), x_w183_14 X0, Option.bind_some, x_i183_11 X0, Option.bind_some, tI_ik (by decide), tI_ik (by decide), h, if_pos (show nI 0 = (0 : Int32) from rfl)]
  exact h3
theorem vl_110d (X0 : Fx g0) {f p : Nat} (hf : ¬ nI f = nI 0) (h : tI s 183 11 = nI f) (h12 : tI s 183 12 = nI p) : F_X12_valley_b110 183 (Em g0 s) = some (-30 - nI f, Em g0 (wi (wi s 183 13 (nI f)) 183 14 (nI p))) := by
  have hf' : ¬ nI f = (0 : Int32) := hf
  unfold F_X12_valley_b110 F_X12_valley_b134
  rw [x_i183_11 X0, Option.bind_some, h, x_w183_13 X0, Option.bind_some, x_i183_11 X0, Option.bind_some, tI_ik (by decide), h, if_pos hf', x_i183_12 X0, Option.bind_some, tI_ik (by decide), h12, x_w183_14 X0, Option.bind_some, x_i183_11 X0, Option.bind_some, tI_ik (by decide), tI_ik (by decide), h, if_neg hf', Option.bind_some]
theorem vl_one (X : Fx g) (X0 : Fx g0) (hm : m ≤ 900) (hn : n ≤ m) (c1 : tI t 70 1 = nI m) (cT : ∀ k, k < n → tA t 71 k = T k) (m5 : tI s 183 5 = nI m) (mT : ∀ k, k < n → tA s 186 k = T k) (hD : D < 2 ^ 30) : ∃ r g' t' c sl s', F_X11_valley 69 (nI n) (Em g t) = some (r, Em g' t', c, sl) ∧ F_X12_valley 183 (nI n) (Em g0 s) = some (r, Em g0 s') ∧ (c ≤ 1000 ∧ sl ≤ 12000) ∧ Fx g' ∧ g'.1 = g.1 ∧ (VlD g t g' t' s s' ∨ ∃ a, VlL D g t g' t' s s' a) := by
  have h205 := x_205 X
  obtain ⟨g4, t4, s4, mc, ms, e1, e2, ⟨G4, X4⟩, ⟨D4, h31⟩, K1, K2, hc, r⟩ := vl_read (T := T) X X0 hm hn c1 cT m5 mT
  have h0 : ¬ nI n < (0 : Int32) := show ¬ nI n < nI 0 by rw [nI_ltI (by omega) (by decide)]; omega
  have hle : nI n ≤ nI m := (nI_leI (by omega) (by omega)).mpr hn
  have hx : F_X11_valley 69 (nI n) (Em g t) = ((F_X4_read_b86 70 (Em g4 t4)).map (ac _ mc ms)).bind (fun z23 => ((match z23.1 with | none => (fR z23.2.1 69 10 0).bind fun v34 => (fI z23.2.1 v34 3 11).bind fun v37 => some ((((-30) : Int32)) - v37, z23.2.1, 0, 0) | some q28 => (wQ z23.2.1 69 10 1 ((some q28))).bind fun h44 => (fR h44 69 10 2).bind fun v48 => (fR h44 q28 9 11).bind fun v52 => (rc h44 v48 5).bind fun _ => (F_X6_copyFrom v48 v52 h44).bind fun z55 => (fR z55.2 69 10 4).bind fun v59 => (rc z55.2 v59 1).bind fun _ => (F_X2_forget v59 z55.2).bind fun z62 => (fI z62.2 q28 9 1).bind fun v66 => some (v66, z62.2, 0, 0))).map (ac _ z23.2.2.1 z23.2.2.2)) := by
    unfold F_X11_valley
    rw [if_neg h0, x_r69_0 X, Option.bind_some, x_i70_1 X, Option.bind_some, c1, if_pos hle, Option.bind_some, x_rc70 X, Option.bind_some, e1]
    rfl
  have F1 : Swb (fun b => decide (b = 70)) g t t4 := by
    refine ⟨fun b k hb hp _ => K1.1 b k hb (by rw [decide_eq_false_iff_not] at hp; exact hp), fun b hb _ hs => K1.2.2.1 b hb (fun e => ?_), fun b hb _ _ => K1.2.2.2 b hb⟩
    subst e
    rw [show scA g 72 = true by unfold scA; rw [show scF 72 = true from rfl, Bool.or_true]] at hs
    exact absurd hs (by decide)
  rcases r with ⟨b', e', nc', L, A⟩ | ⟨f, p, N1, N2⟩
  · -- live
    have c11 : tI t4 70 11 = nI 0 := L.2.2.2.1.2.2
    have c12 : tI t4 70 12 = -nI 1 := by
      obtain ⟨_, _, _, _, _, _, _, _, _, _, _, _, _, k⟩ := L
      exact k
    have m11 : tI s4 183 11 = nI 0 := L.2.2.2.2.1.2.2.2
    have hv := D4.2.1
    have V4 := D4.1
    obtain ⟨n0, n10⟩ := Dra_N A
    obtain ⟨t5, e5, s5, f5⟩ := st_all V4 hv n10 (Dra_F A) n0
    obtain ⟨P5, S5, a127⟩ := Dra_V A V4 hv h31 s5 f5
    have W := Dra_W (D := D) A hD
    have hP6 := wP2 W
    have G5 : Gq g4 (g69 g4 (gn g)) := Gq_69
    have X5 : Fx (g69 g4 (gn g)) := Fx_q X4 G5
    have V5 : VaS (g69 g4 (gn g)) (gn g) := VaS_q G5 V4
    have Z5 : StS (g69 g4 (gn g)) (gn g + 7) := StS_q G5 (by omega) D4.2.2.1
    obtain ⟨t6, e6, o6, S6⟩ := k_copyP (g := g69 g4 (gn g)) (t := t5) (StS_95 X5) Z5 (by omega) hP6 S5
    have s7 : Sw P70 (g69 g4 (gn g)) t5 (wi t6 103 2 0) := by
      refine ⟨fun b k hp _ => ?_, fun b hp _ => ?_, fun b _ _ => o6.2.2 b⟩
      · unfold P70 at hp
        rw [decide_eq_false_iff_not] at hp
        rw [tI_ia (by omega), o6.1 b k (by omega)]
      · unfold P70 at hp
        rw [decide_eq_false_iff_not] at hp
        rw [tA_wi, o6.2.1 b (by omega) (by omega) (by omega)]
    have P7 : VaP (g69 g4 (gn g)) (wi t6 103 2 0) (gn g) (tA s4 187) := VaP_w V5 (fun b hb => by unfold P70; rw [decide_eq_false_iff_not]; omega) (VaP_G G5 V4 P5) s7
    have S7 : StP (wi t6 103 2 0) 95 (vP (tA s4 187)) (tA s4 187) 107 := by
      unfold StP
      rw [tI_ia (by decide), tI_ia (by decide), tA_wi]
      exact S6
    have i70 : ∀ k, scI 70 k = false → tI (wi t6 103 2 0) 70 k = tI t4 70 k := fun k hk => by
      rw [tI_ia (by decide), o6.1 70 k (by decide), s5.1 70 k (by unfold P6; rw [decide_eq_false_iff_not]; omega) hk]
    have i103 : tI t6 103 1 = tI t4 103 1 := by
      rw [o6.1 103 1 (by decide), s5.1 103 1 (by unfold P6; rw [decide_eq_false_iff_not]; omega) rfl]
    have b86 : F_X4_read_b86 70 (Em g4 t4) = some (some (gn g), Em g4 t5, 0, 0) := by
      unfold F_X4_read_b86
      rw [x_i70_11 X4, Option.bind_some, c11, if_pos (show nI 0 = (0 : Int32) from rfl), d_70 X4 D4, Option.bind_some, v_rc V4, Option.bind_some, e5, Option.bind_some, d_70 X4 D4, Option.bind_some]
    have hfo : ∀ t : Tb, F_X2_forget 103 (Em (g69 g4 (gn g)) t) = some ((), Em (g69 g4 (gn g)) (wi t 103 2 0)) := fun t => by
      unfold F_X2_forget
      rw [x_w103_2 X5, Option.bind_some]
    refine ⟨tA s4 187 0, g69 g4 (gn g), wi t6 103 2 0, mc, ms, wr (wi (wi s4 183 13 (nI 0)) 183 14 (-1)) 184 (fa_fill (tA s4 187) (tA s4 184) 1229), ?_, ?_, hc, X5, G4.1, Or.inr ⟨tA s4 187, ⟨g4, G4, X4, rfl⟩, ?_, ⟨?_, ?_, ?_⟩, ⟨?_, tI_is⟩, ⟨V5, W, P7, S7, a127⟩, ?_, ⟨?_, ?_, ?_⟩, ?_, ?_, ?_⟩⟩
    · rw [hx, b86, Option.map_some, Option.bind_some]
      unfold ac
      dsimp only
      rw [x_w69 X4, Option.bind_some, x_r69_2 X5, Option.bind_some, v_r11 V5, Option.bind_some, x_rc95 X5, Option.bind_some, e6, Option.bind_some, x_r69_4 X5, Option.bind_some, x_rc103 X5, Option.bind_some, hfo, Option.bind_some, v_i1 V5, Option.bind_some, Option.map_some, P7.1.2.1]
      simp only [Nat.zero_add]
    · rw [e2]
      exact vl_110l X0 m11
    · refine ⟨fun b k hb hp hs => ?_, fun b hb hp hs => ?_, fun b hb hp hs => ?_⟩
      · have hp' : ¬ (b = 70 ∨ (95 ≤ b ∧ b ≤ 98) ∨ b = 103) := by
          unfold P70 at hp
          rw [decide_eq_false_iff_not] at hp
          exact hp
        rw [s7.1 b k hp hs, s5.1 b k (by unfold P6; rw [decide_eq_false_iff_not]; omega) hs]
        exact F1.1 b k hb (by rw [decide_eq_false_iff_not]; omega) hs
      · have hp' : ¬ (b = 70 ∨ (95 ≤ b ∧ b ≤ 98) ∨ b = 103) := by
          unfold P70 at hp
          rw [decide_eq_false_iff_not] at hp
          exact hp
        have hs4 : scA g4 b = false := by rw [scA_x G4 hb]; exact hs
        rw [s7.2.1 b hp hs4, s5.2.1 b (by unfold P6; rw [decide_eq_false_iff_not]; omega) hs4]
        exact F1.2.1 b hb (by rw [decide_eq_false_iff_not]; omega) hs
      · have hp' : ¬ (b = 70 ∨ (95 ≤ b ∧ b ≤ 98) ∨ b = 103) := by
          unfold P70 at hp
          rw [decide_eq_false_iff_not] at hp
          exact hp
        rw [s7.2.2 b hp hs, s5.2.2 b (by unfold P6; rw [decide_eq_false_iff_not]; omega) hs]
        exact F1.2.2 b hb (by rw [decide_eq_false_iff_not]; omega) hs
    · rw [i70 1 rfl]; exact K1.2.1
    · rw [i70 11 rfl]; exact c11
    · rw [i70 12 rfl]; exact c12
    · rw [tI_ik (by decide), i103]
      exact K1.1 103 1 (by omega) (by decide)
    · intro b k hb
      rw [tI_wr, tI_ia hb, tI_ia hb]
      exact K2.1 b k hb
    · rw [tI_wr, tI_ik (by decide), tI_ik (by decide)]; exact K2.2.1
    · rw [tI_wr, tI_ik (by decide), tI_is]
    · rw [tI_wr, tI_is]; rfl
    · intro b h1 h2
      rw [tA_rn h2, tA_wi, tA_wi]
      exact K2.2.2.1 b h1
    · rw [tA_rs, K2.2.2.1 184 (by decide)]
    · exact K2.2.2.2
  · have hf := f_nz N1.2.1
    have hf' : ¬ nI f = (0 : Int32) := hf
    have b86 : F_X4_read_b86 70 (Em g4 t4) = some (none, Em g4 t4, 0, 0) := by
      unfold F_X4_read_b86
      rw [x_i70_11 X4, Option.bind_some, N1.2.2.1, if_neg hf']
    refine ⟨-30 - nI f, g4, t4, mc, ms, wi (wi s4 183 13 (nI f)) 183 14 (nI p), ?_, ?_, hc, X4, G4.1, Or.inl ⟨f, p, G4, F1, ⟨K1.2.1, N1.2.2.1, N1.2.2.2.1⟩, hf, ?_, ⟨?_, ?_, tI_is⟩, ?_, ?_⟩⟩
    · rw [hx, b86, Option.map_some, Option.bind_some]
      unfold ac
      dsimp only
      rw [x_r69_0 X4, Option.bind_some, x_i70_11 X4, Option.bind_some, N1.2.2.1, Option.map_some]
      simp only [Nat.zero_add]
    · rw [e2]
      exact vl_110d X0 hf N2.2.2.1 N2.2.2.2
    · intro b k hb
      rw [tI_ia hb, tI_ia hb]
      exact K2.1 b k hb
    · rw [tI_ik (by decide), tI_ik (by decide)]; exact K2.2.1
    · rw [tI_ik (by decide), tI_is]
    · intro b h1
      rw [tA_wi, tA_wi]
      exact K2.2.2.1 b h1
    · exact K2.2.2.2
end XEd
