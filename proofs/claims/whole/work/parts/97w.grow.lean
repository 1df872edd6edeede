/-! ===== the store grows: what held holds; through, throughNote agree ===== -/
def Gx (g g' : Sk) : Prop := g'.1 = g.1 ∧ gn g ≤ gn g' ∧ (∀ b, b < gn g → gS g' b = gS g b ∧ gN g' b = gN g b) ∧ (∀ b k, b < gn g → ¬ (b = 157 ∧ k = 4) → ¬ (b = 70 ∧ k = 10) → gR g' b k = gR g b k) ∧ (∀ b, b < gn g → gQ g' b = gQ g b)
def Lo (g : Sk) (t t' : Tb) : Prop := ∀ b, b < gn g → (∀ k, tI t' b k = tI t b k) ∧ tA t' b = tA t b ∧ tJ t' b = tJ t b
def Mor (g : Sk) : Prop := gR g 157 4 = none ∨ ∃ m, gR g 157 4 = some m ∧ 205 ≤ m ∧ m < gn g ∧ gS g m = 33 ∧ gN g m = 10240
section XGr
variable {g : Sk} {t : Tb} {a : Nat → Int32}
variable {D v w m x n nx : Nat} {g' g'' : Sk} {t' t'' : Tb}
theorem Gx_r : Gx g g := ⟨rfl, Nat.le_refl _, fun _ _ => ⟨rfl, rfl⟩, fun _ _ _ _ _ => rfl, fun _ _ => rfl⟩
theorem Gx_t (h : Gx g g') (h2 : Gx g' g'') : Gx g g'' := by
  have hl := h.2.1
  exact ⟨h2.1.trans h.1, Nat.le_trans h.2.1 h2.2.1, fun b hb => ⟨(h2.2.2.1 b (by omega)).1.trans (h.2.2.1 b hb).1, (h2.2.2.1 b (by omega)).2.trans (h.2.2.1 b hb).2⟩, fun b k hb c1 c2 => (h2.2.2.2.1 b k (by omega) c1 c2).trans (h.2.2.2.1 b k hb c1 c2), fun b hb => (h2.2.2.2.2 b (by omega)).trans (h.2.2.2.2 b hb)⟩
theorem Lo_r : Lo g t t := fun _ _ => ⟨fun _ => rfl, rfl, rfl⟩
theorem Fx_x (X : Fx g) (G : Gx g g') (M : Mor g') : Fx g' := by
  obtain ⟨x1, x2, x3, x4, x5, x6, _⟩ := X
  obtain ⟨h1, h2, h3, h4, h5⟩ := G
  refine ⟨fun a l h => by rw [(h3 a (by omega)).1, (h3 a (by omega)).2]; exact x1 a l h, fun a k l h r => ?_, fun i hi => by rw [h5 104 (by omega)]; exact x3 i hi, fun i hi => by rw [h5 145 (by omega)]; exact x4 i hi, fun i hi => by rw [h5 147 (by omega)]; exact x5 i hi, by omega, M⟩
  rw [h4 a k (by omega) (fun e => r (by rw [e.1, e.2]; rfl)) (fun e => r (by rw [e.1, e.2]; rfl))]
  exact x2 a k l h r
theorem x_205 (X : Fx g) : 205 ≤ gn g := X.2.2.2.2.2.1
theorem LwS_x (G : Gx g g') (L : LwS g w m) : LwS g' w m := by
  obtain ⟨h1, h2, h3, h4, h5⟩ := G
  obtain ⟨⟨l1, l2, l3⟩, l4, ⟨l5, l6, l7⟩, ⟨l8, l9⟩, ⟨l10, l11⟩, ⟨l12, l13⟩⟩ := L
  refine ⟨⟨l1, l2, by omega⟩, by rw [(h3 w (by omega)).1]; exact l4, ⟨?_, ?_, ?_⟩, ⟨?_, ?_⟩, ⟨?_, ?_⟩, ⟨?_, ?_⟩⟩
  · rw [h4 w 0 (by omega) (by omega) (by omega)]; exact l5
  · rw [h4 w 1 (by omega) (by omega) (by omega)]; exact l6
  · rw [h4 w 2 (by omega) (by omega) (by omega)]; exact l7
  · rw [(h3 (w + 1) (by omega)).1]; exact l8
  · rw [(h3 (w + 1) (by omega)).2]; exact l9
  · rw [(h3 (w + 2) (by omega)).1]; exact l10
  · rw [(h3 (w + 2) (by omega)).2]; exact l11
  · rw [(h3 (w + 3) (by omega)).1]; exact l12
  · rw [(h3 (w + 3) (by omega)).2]; exact l13
theorem v_gn (V : VaS g v) : v + 11 ≤ gn g := V.2.2.2.2.2.2.2.2.2
theorem VaS_x (G : Gx g g') (V : VaS g v) : VaS g' v := by
  have hv := V.1
  have hg := v_gn V
  obtain ⟨h1, h2, h3, h4, h5⟩ := G
  obtain ⟨l1, l2, ⟨l3, l4, l5, l6, l7, l8, l9⟩, ⟨a1, b1⟩, ⟨a2, b2⟩, ⟨a3, b3⟩, ⟨a4, b4⟩, ⟨a5, b5⟩, ⟨a6, b6⟩, l10⟩ := V
  refine ⟨l1, by rw [(h3 v (by omega)).1]; exact l2, ⟨?_, ?_, ?_, ?_, ?_, ?_, ?_⟩, ⟨?_, ?_⟩, ⟨?_, ?_⟩, ⟨?_, ?_⟩, ⟨?_, ?_⟩, ⟨?_, ?_⟩, ⟨?_, ?_⟩, by omega⟩
  · rw [h4 v 5 (by omega) (by omega) (by omega)]; exact l3
  · rw [h4 v 6 (by omega) (by omega) (by omega)]; exact l4
  · rw [h4 v 7 (by omega) (by omega) (by omega)]; exact l5
  · rw [h4 v 8 (by omega) (by omega) (by omega)]; exact l6
  · rw [h4 v 9 (by omega) (by omega) (by omega)]; exact l7
  · rw [h4 v 10 (by omega) (by omega) (by omega)]; exact l8
  · rw [h4 v 11 (by omega) (by omega) (by omega)]; exact l9
  · rw [(h3 (v + 1) (by omega)).1]; exact a1
  · rw [(h3 (v + 1) (by omega)).2]; exact b1
  · rw [(h3 (v + 2) (by omega)).1]; exact a2
  · rw [(h3 (v + 2) (by omega)).2]; exact b2
  · rw [(h3 (v + 3) (by omega)).1]; exact a3
  · rw [(h3 (v + 3) (by omega)).2]; exact b3
  · rw [(h3 (v + 4) (by omega)).1]; exact a4
  · rw [(h3 (v + 4) (by omega)).2]; exact b4
  · rw [(h3 (v + 5) (by omega)).1]; exact a5
  · rw [(h3 (v + 5) (by omega)).2]; exact b5
  · rw [(h3 (v + 6) (by omega)).1]; exact a6
  · rw [(h3 (v + 6) (by omega)).2]; exact b6
theorem LwP_x {l : Nat} (G : Gx g g') (L : Lo g t t') (h : LwP g t w a l) : LwP g' t' w a l := by
  have hw := h.1.1.2.2
  refine ⟨LwS_x G h.1, fun k hk => ?_⟩
  rw [(L (w + 1) (by omega)).2.1]
  exact h.2 k hk
theorem VaP_x (G : Gx g g') (L : Lo g t t') (V : VaS g v) (h : VaP g t v a) : VaP g' t' v a := by
  have hv := V.1
  have hg := v_gn V
  unfold VaP
  rw [(L v (by omega)).1, (L v (by omega)).1, (L v (by omega)).1, (L v (by omega)).1, (L v (by omega)).1, (L (v + 1) (by omega)).2.1, (L (v + 2) (by omega)).2.1, (L (v + 3) (by omega)).2.1, (L (v + 4) (by omega)).2.1, (L (v + 5) (by omega)).2.1, (L (v + 6) (by omega)).2.1, G.2.2.2.1 v 12 (by omega) (by omega) (by omega)]
  refine ⟨h.1, h.2.1, h.2.2.1, h.2.2.2.1, ?_⟩
  rcases h.2.2.2.2 with q | ⟨q, w, hw, hL⟩
  · exact Or.inl q
  · exact Or.inr ⟨q, w, hw, LwP_x G L hL⟩
theorem StP_x {P o : Nat} {f : Nat → Int32} (L : Lo g t t') (hx : x + 3 < gn g) (h : StP t x P f o) : StP t' x P f o := by
  unfold StP
  rw [(L x (by omega)).1, (L x (by omega)).1, (L (x + 1) (by omega)).2.1, (L (x + 2) (by omega)).2.1, (L (x + 3) (by omega)).2.1]
  exact h
theorem CP_x (X : Fx g) (G : Gx g g') (L : Lo g t t') (C : CP g t v a D) : CP g' t' v a D := by
  have h2 := x_205 X
  exact ⟨C.1, VaS_x G C.2.1, VaP_x G L C.2.1 C.2.2.1, by rw [G.2.2.2.1 69 1 (by omega) (by omega) (by omega)]; exact C.2.2.2.1, StP_x L (by omega) C.2.2.2.2⟩
theorem HP_x (X : Fx g) (L : Lo g t t') (H : HP t a D n nx) : HP t' a D n nx := by
  have h2 := x_205 X
  obtain ⟨h1, h2', h3⟩ := H
  refine ⟨h1, ?_, fun j hj => ⟨(h3 j hj).1, ?_⟩⟩
  · rw [(L 103 (by omega)).1, (L 103 (by omega)).1]; exact h2'
  · have hm : (nx + 10 - n + j) % 10 < 10 := Nat.mod_lt _ (by decide)
    exact StP_x L (by omega) (h3 j hj).2
theorem Tr_x (X : Fx g) (L : Lo g t t') (T : Tr t) : Tr t' := by
  have h2 := x_205 X
  intro i hi
  rw [(L 202 (by omega)).2.1, (L 203 (by omega)).2.1, (L 204 (by omega)).2.2, (L (167 + 2 * i) (by omega)).1, (L (167 + 2 * i) (by omega)).1, (L (168 + 2 * i) (by omega)).2.2]
  exact T i hi
theorem Im_x (X : Fx g) (G : Gx g g') (L : Lo g t t') (I : Im g t a D) : Im g' t' a D := by
  have h2 := x_205 X
  intro i hi
  rw [(L 185 (by omega)).2.1, G.2.2.2.2 146 (by omega)]
  rcases I i hi with q | ⟨q, v, h1, h3, h4, h5, h6⟩
  · exact Or.inl q
  · exact Or.inr ⟨q, v, h1, VaS_x G h3, h4, VaP_x G L h3 h5, StP_x L (by omega) h6⟩
theorem Rd_x (X : Fx g) (L : Lo g t t') (R : Rd t) : Rd t' := by
  have h2 := x_205 X
  unfold Rd
  rw [(L 70 (by omega)).1, (L 70 (by omega)).1, (L 70 (by omega)).1, (L 183 (by omega)).1, (L 183 (by omega)).1, (L 183 (by omega)).1, (L 71 (by omega)).2.1, (L 186 (by omega)).2.1, (L 196 (by omega)).2.1]
  exact R
theorem IV_x (I : IV g t v a D n nx) (G : Gx g g') (M : Mor g') (L : Lo g t t') : IV g' t' v a D n nx := by
  obtain ⟨X, ha, C, H, T, Mi, R⟩ := I
  have h2 := x_205 X
  exact ⟨Fx_x X G M, by rw [(L 184 (by omega)).2.1]; exact ha, CP_x X G L C, HP_x X L H, Tr_x X L T, Im_x X G L Mi, Rd_x X L R⟩
/-- as Okc, for a call that may make cells -/
def Okv (fc : xH → Option (Int32 × xH × Nat × Nat)) (fr : xH → Option (Int32 × xH)) (g : Sk) (t : Tb) (D : Nat) : Prop := ∃ r g1 t1 c s g2 t2 v a n nx, fc (Em g t) = some (r, Em g1 t1, c, s) ∧ fr (Em g1 t1) = some (r, Em g2 t2) ∧ g1.1 = g.1 ∧ g2.1 = g.1 ∧ c ≤ 1000 ∧ s ≤ 12000 ∧ IV g2 t2 v a (D + 100) n nx
theorem okv_0 {fc : xH → Option (Int32 × xH × Nat × Nat)} {fr : xH → Option (Int32 × xH)} {r : Int32} {t1 t2 : Tb} (I : IV g t v a D n nx) (hD : D + 100 < 2 ^ 30) (e1 : fc (Em g t) = some (r, Em g t1, 0, 0)) (e2 : fr (Em g t1) = some (r, Em g t2)) (s1 : Sm g t t1) (s2 : Sm g t1 t2) : Okv fc fr g t D := ⟨r, g, t1, 0, 0, g, t2, v, a, n, nx, e1, e2, rfl, rfl, by omega, by omega, IV_m (by omega) hD (IV_s (IV_s I s1) s2)⟩
/-! the row 'more' -/
def gmo (g : Sk) : Sk := (g.1, gn g + 1, up1 (gS g) (gn g) 33, up1 (gN g) (gn g) 10240, up2 (gR g) 157 4 (some (gn g)), gQ g)
def tmo (g : Sk) (t : Tb) : Tb := (tI t, up1 (tA t) (gn g) (fun _ => 0), tJ t)
theorem gmo_x : Gx g (gmo g) := by
  refine ⟨rfl, Nat.le_succ _, fun b hb => ⟨up1_n (by omega), up1_n (by omega)⟩, fun b k hb c1 c2 => ?_, fun _ _ => rfl⟩
  show up2 (gR g) 157 4 _ b k = _
  by_cases e : b = 157
  · exact up2_k (fun e2 => c1 ⟨e, e2⟩)
  · exact up2_a e
theorem gmo_m (X : Fx g) : Mor (gmo g) := Or.inr ⟨gn g, show up2 (gR g) 157 4 (some (gn g)) 157 4 = some (gn g) from up2_s, x_205 X, Nat.lt_succ_self _, up1_s, up1_s⟩
theorem gmo_o (X : Fx g) : MoS (gmo g) (gn g) := ⟨show up2 (gR g) 157 4 (some (gn g)) 157 4 = some (gn g) from up2_s, x_205 X, up1_s, up1_s⟩
theorem tmo_l : Lo g t (tmo g t) := fun b hb => ⟨fun _ => rfl, up1_n (by omega), rfl⟩
theorem c_10240 : ((10240 : Int32)).toNatClampNeg = 10240 := nI_cl (n := 10240) (by decide)
theorem c_10240n : ¬ ((10240 : Int32) < 0 ∨ 60000000 < ((10240 : Int32)).toNatClampNeg) := by
  rw [c_10240]
  decide
theorem k_find (I : IV g t v a D n nx) {A z : Nat} (hA : A < 2 ^ vN a) (hz : z < 2 ^ vN a) : ∃ g' t' c s, F_X5_findThrough 157 v (nI A) (nI z) (Em g t) = some (bI (decide (dd (vN a) (fnx a A) z 10 < 1000)), Em g' t', c, s) ∧ g'.1 = g.1 ∧ c ≤ 1 ∧ s ≤ 10240 ∧ IV g' t' v a D n nx ∧ (dd (vN a) (fnx a A) z 10 < 1000 → tI t' 157 1 = nI (dd (vN a) (fnx a A) z 10) ∧ ∀ j, j < dd (vN a) (fnx a A) z 10 → tA t' 158 j = nI (tpk (vN a) (fnx a A) j z 10 (dd (vN a) (fnx a A) z 10))) := by
  have X := I.1
  have W := I.2.2.1.1
  have hN := wN3 W
  have h1k : 2 ^ vN a ≤ 1024 := Nat.pow_le_pow_right (n := 2) (by decide) hN
  have hal := an_leS z A
  have hw1 : wI (Em g t) 157 4 1 0 = some (Em g (wi t 157 1 (nI 0))) := x_w157_1 X
  have s0 : Sm g t (wi t 157 1 (nI 0)) := Sm_wi rfl Sm_r
  have I0 := IV_s I s0
  unfold F_X5_findThrough
  rw [hw1, Option.bind_some, show (-1 : Int32) = -nI 1 from rfl, an_g]
  by_cases hzA : an_ z A = 0
  · rw [if_pos (by rw [hzA]; rfl)]
    by_cases h0 : z = 0
    · subst h0
      refine ⟨g, wi t 157 1 (nI 0), 0, 0, ?_, rfl, by omega, by omega, I0, fun _ => ⟨?_, fun j hj => ?_⟩⟩
      · rw [if_neg (fun h => h rfl), decide_eq_true (by rw [dd_0]; decide)]
        rfl
      · rw [dd_0]; exact tI_is
      · rw [dd_0] at hj; omega
    · rw [if_pos (by rw [nI_z (by omega)]; exact h0)]
      have hq4 : ∀ t, fQ (Em g t) 157 4 4 = some (gR g 157 4) := fun t => y_fQ (Or.inl (x_S X 5 rfl)) rfl (by decide) (by decide) rfl
      rw [hq4, Option.bind_some]
      rcases X.2.2.2.2.2.2 with hm | ⟨q, hm, q1, q2, q3, q4⟩
      · have I1 : IV (gmo g) (tmo g (wi t 157 1 (nI 0))) v a D n nx := IV_x I0 gmo_x (gmo_m X) tmo_l
        have X1 := I1.1
        obtain ⟨t2, e2, s2, k2⟩ := k_thru (t := tmo g (wi t 157 1 (nI 0))) X1 I1.2.2.1.2.1 I1.2.2.1 (gmo_o X) hA hz hzA h0 (show tI (wi t 157 1 (nI 0)) 157 1 = nI 0 from tI_is)
        refine ⟨gmo g, t2, 1, 10240, ?_, rfl, Nat.le_refl _, Nat.le_refl _, IV_s I1 s2, k2⟩
        rw [hm]
        have hnw : nW (Em g (wi t 157 1 (nI 0))) 0 10240 = E g.1 (gn g + 1) (up1 (gS g) (gn g) 33) (up1 (gN g) (gn g) 10240) (tI (wi t 157 1 (nI 0))) (up1 (tA (wi t 157 1 (nI 0))) (gn g) (fun _ => 0)) (tJ (wi t 157 1 (nI 0))) (gR g) (gQ g) := E_nW0 33 (Or.inr (by decide)) (by have := x_205 X; omega)
        have hwq : wQ (E g.1 (gn g + 1) (up1 (gS g) (gn g) 33) (up1 (gN g) (gn g) 10240) (tI (wi t 157 1 (nI 0))) (up1 (tA (wi t 157 1 (nI 0))) (gn g) (fun _ => 0)) (tJ (wi t 157 1 (nI 0))) (gR g) (gQ g)) 157 4 4 (some (gn g)) = some (Em (gmo g) (tmo g (wi t 157 1 (nI 0)))) := E_wQ (by decide) (by decide) rfl (Or.inl (by rw [up1_n (by have := x_205 X; omega)]; exact x_S X 5 rfl))
        have hcl := c_10240
        have hcn := c_10240n
        have e1g : (Em g (wi t 157 1 (nI 0))).1 = gn g := rfl
        dsimp only
        rw [if_neg hcn, hcl, Option.bind_some, hnw, e1g, hwq, Option.bind_some, e2, Option.map_some]
        unfold ac
        rw [Nat.zero_add, Nat.zero_add]
      · obtain ⟨t2, e2, s2, k2⟩ := k_thru (q := q) X I0.2.2.1.2.1 I0.2.2.1 ⟨hm, q1, q3, q4⟩ hA hz hzA h0 tI_is
        refine ⟨g, t2, 0, 0, ?_, rfl, by omega, by omega, IV_s I0 s2, k2⟩
        rw [hm]
        exact e2
  · have hdd : ¬ dd (vN a) (fnx a A) z 10 < 1000 := fun c => hzA (sub_an.mpr (fun i hi => Wk_A (A := A) (fun l m h => by
      unfold fnx at h
      rw [Bool.and_eq_true] at h
      exact h.1) (dd_a c) hi))
    refine ⟨g, wi t 157 1 (nI 0), 0, 0, ?_, rfl, by omega, by omega, I0, fun h => absurd h hdd⟩
    rw [if_neg (by rw [nI_z (by omega)]; exact hzA), decide_eq_false hdd]
    rfl
theorem k_noteAt2 (X : Fx g) {len j : Nat} {f : Nat → Nat} (hlen : len ≤ 82) (hj : j < 2 ^ 31) (h1 : tI t 157 1 = nI len) (h8 : ∀ j, j < len → tA t 158 j = nI (f j)) : F_X5_noteAt 157 (nI j) (Em g t) = some (if j < len then nI (f j) else -nI 1, Em g t) := by
  unfold F_X5_noteAt
  rw [if_neg (show ¬ nI j < (0 : Int32) from show ¬ nI j < nI 0 by rw [nI_ltI hj (by decide)]; omega), x_i157_1 X, Option.bind_some, h1]
  by_cases c : j < len
  · rw [if_pos (by rw [nI_ltI hj (by omega)]; exact c), if_pos c, x_r157_0 X, Option.bind_some, x_a158 X (by omega), Option.bind_some, h8 j c]
  · rw [if_neg (by rw [nI_ltI hj (by omega)]; exact c), if_neg c]
    rfl
end XGr
