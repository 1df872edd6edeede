/-! ===== chance, likeliest agree ===== -/
section XLk
variable {g : Sk} {t : Tb} {a : Nat → Int32}
variable {D v p x n nx : Nat} {t' t'' : Tb}
theorem within_06 (x : Int32) (h : xH) : F_X12_within x.toInt64 0 6 h = some (bI (okx x 7), h) := by
  rw [p_within, i64]
  unfold okx
  have e0 : (0 : Int64).toInt = 0 := rfl
  have e9 : (6 : Int64).toInt = 6 := rfl
  rw [e0, e9]
  congr 3
  exact decide_eq_decide.mpr (by omega)
theorem okx_7 {x : Int32} (h : okx x 7 = false) : x < 0 ∨ ¬ x ≤ (6 : Int32) := by
  unfold okx at h
  rw [decide_eq_false_iff_not] at h
  by_cases c : x < 0
  · exact Or.inl c
  · refine Or.inr (fun c2 => h ?_)
    have c1 : ¬ x < nI 0 := c
    have c3 : x ≤ nI 6 := c2
    rw [fa_lt] at c1
    rw [fa_le] at c3
    have t0 : (nI 0).toInt = 0 := rfl
    have t6 : (nI 6).toInt = 6 := rfl
    omega
theorem ok_chance {n : Nat} (I : IV g t v a D n nx) (hD : D + 100 < 2 ^ 30) (x y z : Int32) : OkL (F_X11_chance 69 x y z) (F_X12_chance 183 x y z) g t D := by
  have X := I.1
  have C := I.2.2.1
  have W := C.1
  have V := C.2.1
  have hP := wP2 W
  have hw0 : ∀ t, wI (Em g t) 183 11 0 0 = some (Em g (wi t 183 0 (nI 0))) := fun t => x_w183_0 X
  have qp : ∀ t1, tA t1 184 = a → F_X12_isPerson 183 x.toInt64 (Em g (wi t1 183 0 (nI 0))) = some (bI (okx x (vP a)), Em g (wi t1 183 0 (nI 0))) := fun t1 h => by
    rw [q_person X W (show tA (wi t1 183 0 (nI 0)) 184 = a from h), lg_wide]; rfl
  have bt : ¬ bI true = (0 : Int32) := by decide
  have bf : ¬ ¬ bI false = (0 : Int32) := by decide
  have bf2 : bI false = (0 : Int32) := by decide
  rcases okx_c x (vP a) (by omega) with hx | ⟨hx, p, hp, rfl⟩
  · refine okL_0 (r := -2) (t1 := t) (t2 := wi t 183 0 (nI 0)) I hD ?_ ?_ Sm_r (Sm_wi (a := 183) (k := 0) rfl Sm_r)
    · unfold F_X11_chance
      rw [c_r69 X C.2.2.2.1, Option.bind_some, v_rc V, Option.bind_some, k_person V C, Option.bind_some, hx, if_pos bf2]
    · unfold F_X12_chance
      rw [hw0, Option.bind_some, x_rc183 X, Option.bind_some, qp t I.2.1, Option.bind_some, hx, if_pos bf2]
  rcases okx_c z 2 (by decide) with hz | ⟨hz, i, hi, rfl⟩
  · have z0 : ¬ z = 0 := fun e => by rw [e] at hz; exact absurd hz (by decide)
    have z1 : ¬ z = (1 : Int32) := fun e => by rw [e] at hz; exact absurd hz (by decide)
    refine okL_0 (r := -2) (t1 := t) (t2 := wi t 183 0 (nI 0)) I hD ?_ ?_ Sm_r (Sm_wi (a := 183) (k := 0) rfl Sm_r)
    · unfold F_X11_chance
      rw [c_r69 X C.2.2.2.1, Option.bind_some, v_rc V, Option.bind_some, k_person V C, Option.bind_some, hx, if_neg bt, if_neg z0, if_neg z1]
    · unfold F_X12_chance
      rw [hw0, Option.bind_some, x_rc183 X, Option.bind_some, qp t I.2.1, Option.bind_some, hx, if_neg bt, within_1, Option.bind_some, hz, if_neg bf]
  have hcl : ∀ r, F_X11_chance_b24 69 (nI p) y (nI i) (Em g t) = r → F_X11_chance 69 (nI p) y (nI i) (Em g t) = r := fun r hr => by
    unfold F_X11_chance
    rw [c_r69 X C.2.2.2.1, Option.bind_some, v_rc V, Option.bind_some, k_person V C, Option.bind_some, hx, if_neg bt]
    by_cases c : nI i = (0 : Int32)
    · rw [if_pos c]; exact hr
    · have : i = 1 := by
        have c' : ¬ nI i = nI 0 := c
        rw [nI_eq (by omega) (by decide)] at c'
        omega
      subst this
      rw [if_neg c, if_pos (show nI 1 = (1 : Int32) from rfl)]; exact hr
  rcases okx_c y 7 (by decide) with hy | ⟨hy, m, hm, rfl⟩
  · refine okL_0 (r := -3) (t1 := t) (t2 := wi t 183 0 (nI 0)) I hD (hcl _ ?_) ?_ Sm_r (Sm_wi (a := 183) (k := 0) rfl Sm_r)
    · unfold F_X11_chance_b24
      rcases okx_7 hy with c | c
      · rw [if_pos c]
      · by_cases c0 : y < 0
        · rw [if_pos c0]
        · rw [if_neg c0, if_neg c]
    · unfold F_X12_chance
      rw [hw0, Option.bind_some, x_rc183 X, Option.bind_some, qp t I.2.1, Option.bind_some, hx, if_neg bt, within_1, Option.bind_some, hz, if_pos bt, within_06, Option.bind_some, hy, if_neg bf]
  have y0 : ¬ nI m < (0 : Int32) := show ¬ nI m < nI 0 by rw [nI_ltI (by omega) (by decide)]; omega
  have y6 : nI m ≤ (6 : Int32) := show nI m ≤ nI 6 by rw [nI_leI (by omega) (by decide)]; omega
  obtain ⟨t1, e1, s1⟩ := k_parts X V C hp (show m ≤ 6 by omega)
  have ha1 : tA t1 184 = a := by rw [Sm_a X s1]; exact I.2.1
  have ple := pff_le W hp m
  obtain ⟨p6, p1⟩ := p60 m (by omega)
  have hgp : 0 < Nat.gcd (pff a p m) (60 ^ m) := Nat.gcd_pos_of_pos_right _ (by omega)
  have hgl : Nat.gcd (pff a p m) (60 ^ m) ≤ 60 ^ m := Nat.gcd_le_right _ (by omega)
  have eg := fun h => k_shared (x := pff a p m) (y := 60 ^ m) h ple p6
  have ec := fun h => r_common (x := pff a p m) (y := 60 ^ m) h ple (by omega) p6
  generalize hG : Nat.gcd (pff a p m) (60 ^ m) = G at hgp hgl eg ec
  have hge : 0 ≤ lg_cmp (lN G) 1 := by
    rw [lg_cmp_ge]
    show lN 1 ≤ lN G
    rw [pk_lLE (by decide) (by omega)]
    omega
  have hne : ¬ lN G = 0 := show ¬ lN G = lN 0 by rw [pk_lEQ (by omega) (by decide)]; omega
  refine okL_0 (r := ldv (if nI i = (0 : Int32) then lN (pff a p m) else lN (60 ^ m)) (lN G)) (t1 := t1) (t2 := wi t1 183 0 (nI 0)) I hD (hcl _ ?_) ?_ s1 (Sm_wi (a := 183) (k := 0) rfl Sm_r)
  · unfold F_X11_chance_b24
    rw [if_neg y0, if_pos y6, x_r69_11 X, Option.bind_some, c_r69 X C.2.2.2.1, Option.bind_some, x_r69_2 X, Option.bind_some, x_rc163 X, Option.bind_some, e1, Option.bind_some, k_inAll _ (by omega), Option.bind_some, eg, Option.bind_some, if_pos hge]
    by_cases c : nI i = (0 : Int32)
    · rw [if_neg (fun h => h c), if_neg hne, if_pos c]
    · rw [if_pos c, if_neg hne, if_neg c]
  · have key : ∀ s0, F_X12_chance_b65 (nI m) (lN (pff a p m)) s0 (Em g (wi t1 183 0 (nI 0))) = some (ldv s0 (lN G), Em g (wi t1 183 0 (nI 0))) := fun s0 => by
      unfold F_X12_chance_b65
      rw [r_wholeOf _ (by omega), Option.bind_some, ec, Option.bind_some, if_neg hne]
    unfold F_X12_chance
    rw [hw0, Option.bind_some, x_rc183 X, Option.bind_some, qp t1 ha1, Option.bind_some, hx, if_neg bt, within_1, Option.bind_some, hz, if_pos bt, within_06, Option.bind_some, hy, if_pos bt, x_rc183 X, Option.bind_some, r_chNow (t := wi t1 183 0 (nI 0)) X W ha1 hp (by omega), Option.bind_some]
    by_cases c : nI i = (0 : Int32)
    · rw [if_neg (fun h => h c), key, if_pos c]
    · rw [if_pos c, r_wholeOf _ (by omega), Option.bind_some, key, if_neg c]
/-! likeliest: the best so far (vP: none) -/
def bsI (P b : Nat) : Int32 := if b = P then -nI 1 else nI b
def lkz (a : Nat → Int32) (m : Nat) : Nat → Nat → Nat → Nat
  | 0, _, b => b
  | d + 1, k, b => lkz a m d (k + 1) (if (vFo a).testBit k = true then b else if b = vP a then k else if pff a k m ≤ pff a b m then b else k)
def mo_ (a : Nat → Int32) (m b : Nat) : Int64 := if b = vP a then -1 else lN (pff a b m)
theorem k_lk_l (X : Fx g) (V : VaS g v) {m : Nat} (hm : m ≤ 6) : ∀ (d k fuel b : Nat) (t : Tb), CP g t v a D → k + d = vP a → d < fuel → (b < k ∨ b = vP a) → ∃ t', F_X11_likeliest_b22 fuel 69 (nI m) (bsI (vP a) b) (mo_ a m b) (nI k) (Em g t) = some (bsI (vP a) (lkz a m d k b), Em g t') ∧ Sm g t t' := by
  intro d
  induction d with
  | zero =>
    intro k fuel b t C hk hf hb
    have hP := wP2 C.1
    obtain ⟨f, rfl⟩ : ∃ f, fuel = f + 1 := ⟨fuel - 1, by omega⟩
    have hk : k = vP a := by omega
    subst hk
    refine ⟨t, ?_, Sm_r⟩
    rw [F_X11_likeliest_b22, c_r69 X C.2.2.2.1, Option.bind_some, v_i4 V, Option.bind_some, vP_ C, if_pos (by rw [nI_leI (by omega) (by omega)]; exact Nat.le_refl _)]
    rfl
  | succ d ih =>
    intro k fuel b t C hk hf hb
    have W := C.1
    have hP := wP2 W
    have hkP : k < vP a := by omega
    obtain ⟨f, rfl⟩ : ∃ f, fuel = f + 1 := ⟨fuel - 1, by omega⟩
    have hle0 := Nat.le_trans (pff_le W hkP m) (p60 m hm).1
    have hmo : lg_cmp (-1) (mo_ a m b) ≤ 0 := by
      rw [lg_cmp_le]
      unfold mo_
      split
      · exact Int64.le_refl _
      · rename_i c
        have hbP : b < vP a := by omega
        have := Nat.le_trans (pff_le W hbP m) (p60 m hm).1
        rw [Int64.le_iff_toInt_le, pk_lT (by omega)]
        have : (-1 : Int64).toInt = -1 := by decide
        omega
    rw [F_X11_likeliest_b22, c_r69 X C.2.2.2.1, Option.bind_some, v_i4 V, Option.bind_some, vP_ C, if_neg (by rw [nI_leI (by omega) (by omega)]; omega), x_r69_2 X, Option.bind_some, x_rc95 X, Option.bind_some, k_found X C hkP, Option.bind_some, lkz]
    cases c : (vFo a).testBit k
    · obtain ⟨t1, e1, s1⟩ := k_parts X V C hkP hm
      have epf : pff a k m = chn a k m (vAt a k) (vDy a) := by unfold pff; rw [c, if_neg (by decide)]
      rw [if_pos (show bI false = (0 : Int32) by decide), if_neg (by decide), x_r69_11 X, Option.bind_some, c_r69 X C.2.2.2.1, Option.bind_some, x_r69_2 X, Option.bind_some, x_rc163 X, Option.bind_some, e1, Option.bind_some]
      unfold F_X11_likeliest_b70
      have hcm : (lg_cmp (lN (pff a k m)) (mo_ a m b) ≤ 0) ↔ ¬ b = vP a ∧ pff a k m ≤ pff a b m := by
        rw [lg_cmp_le]
        unfold mo_
        by_cases cb : b = vP a
        · rw [if_pos cb, Int64.le_iff_toInt_le, pk_lT (by omega)]
          have : (-1 : Int64).toInt = -1 := by decide
          constructor
          · intro h; omega
          · intro h; exact absurd cb h.1
        · have hbP : b < vP a := by omega
          have := Nat.le_trans (pff_le W hbP m) (p60 m hm).1
          rw [if_neg cb, pk_lLE (by omega) (by omega)]
          exact ⟨fun h => ⟨cb, h⟩, fun h => h.2⟩
      by_cases c2 : ¬ b = vP a ∧ pff a k m ≤ pff a b m
      · obtain ⟨t2, e2, s2⟩ := ih (k + 1) f b t1 (CP_s X C s1) (by omega) (by omega) (by omega)
        refine ⟨t2, ?_, Sm_t s1 s2⟩
        rw [if_pos (hcm.mpr c2), show nI k + 1 = nI (k + 1) from nI_add k 1, if_neg c2.1, if_pos c2.2]
        exact e2
      · obtain ⟨t2, e2, s2⟩ := ih (k + 1) f k t1 (CP_s X C s1) (by omega) (by omega) (by omega)
        refine ⟨t2, ?_, Sm_t s1 s2⟩
        have e3 : (if b = vP a then k else if pff a k m ≤ pff a b m then b else k) = k := by
          by_cases cb : b = vP a
          · rw [if_pos cb]
          · rw [if_neg cb, if_neg (fun h => c2 ⟨cb, h⟩)]
        rw [if_neg (fun h => c2 (hcm.mp h)), show nI k + 1 = nI (k + 1) from nI_add k 1, e3]
        have eb : bsI (vP a) k = nI k := if_neg (by omega)
        have em : mo_ a m k = lN (pff a k m) := if_neg (by omega)
        rw [eb, em] at e2
        exact e2
    · obtain ⟨t2, e2, s2⟩ := ih (k + 1) f b t C (by omega) (by omega) (by omega)
      refine ⟨t2, ?_, s2⟩
      rw [if_neg (show ¬ bI true = (0 : Int32) by decide), if_pos rfl]
      unfold F_X11_likeliest_b70
      rw [if_pos hmo, show nI k + 1 = nI (k + 1) from nI_add k 1]
      exact e2
theorem r_lk_l (X : Fx g) (W : WA a D) (ha : tA t 184 = a) {m : Nat} (hm : m ≤ 6) : ∀ (d k fuel b : Nat), k + d = vP a → d < fuel → (b < k ∨ b = vP a) → F_X12_likeliest_b24 fuel 183 (nI m) (bsI (vP a) b) (nI k) (Em g t) = some (bsI (vP a) (lkz a m d k b), Em g t) := by
  have hP := wP2 W
  have h4 : aI (Em g t) 184 4 = some (nI (vP a)) := by
    have : aI (Em g t) 184 4 = some (tA t 184 4) := x_a184 X (k := 4) (by decide)
    rw [this, ha, wP W]
  intro d
  induction d with
  | zero =>
    intro k fuel b hk hf hb
    obtain ⟨f, rfl⟩ : ∃ f, fuel = f + 1 := ⟨fuel - 1, by omega⟩
    have hk : k = vP a := by omega
    subst hk
    rw [F_X12_likeliest_b24, x_r183_1 X, Option.bind_some, h4, Option.bind_some, if_pos (by rw [nI_leI (by omega) (by omega)]; exact Nat.le_refl _)]
    rfl
  | succ d ih =>
    intro k fuel b hk hf hb
    have hkP : k < vP a := by omega
    obtain ⟨f, rfl⟩ : ∃ f, fuel = f + 1 := ⟨fuel - 1, by omega⟩
    have hle0 := Nat.le_trans (pff_le W hkP m) (p60 m hm).1
    have eb : bsI (vP a) k = nI k := if_neg (by omega)
    rw [F_X12_likeliest_b24, x_r183_1 X, Option.bind_some, h4, Option.bind_some, if_neg (by rw [nI_leI (by omega) (by omega)]; omega), x_rc183 X, Option.bind_some, q_found X W ha hkP, Option.bind_some, show nI k + 1 = nI (k + 1) from nI_add k 1, lkz]
    have take := ih (k + 1) f k (by omega) (by omega) (by omega)
    rw [eb] at take
    cases c : (vFo a).testBit k
    · rw [if_neg (show ¬ ¬ bI false = (0 : Int32) by decide), ifb_f]
      unfold F_X12_likeliest_b63
      rw [show nI k + 1 = nI (k + 1) from nI_add k 1]
      by_cases cb : b = vP a
      · rw [if_pos cb, if_pos (show bsI (vP a) b = (-1 : Int32) from if_pos cb)]
        exact take
      · have hbP : b < vP a := by omega
        have e1 : bsI (vP a) b = nI b := if_neg cb
        have hlb := Nat.le_trans (pff_le W hbP m) (p60 m hm).1
        have hm1 : ¬ nI b = (-1 : Int32) := by
          show ¬ nI b = -nI 1
          rw [nI_m1e (by omega)]
          exact id
        rw [if_neg cb, e1, if_neg hm1, x_rc183 X, Option.bind_some, r_chNow X W ha hkP hm, Option.bind_some, x_rc183 X, Option.bind_some, r_chNow X W ha hbP hm, Option.bind_some]
        by_cases c2 : pff a k m ≤ pff a b m
        · rw [if_pos (by rw [lg_cmp_le, pk_lLE (by omega) (by omega)]; exact c2), if_pos c2]
          have := ih (k + 1) f b (by omega) (by omega) (by omega)
          rw [e1] at this
          exact this
        · rw [if_neg (by rw [lg_cmp_le, pk_lLE (by omega) (by omega)]; exact c2), if_neg c2]
          exact take
    · rw [if_pos (show ¬ bI true = (0 : Int32) by decide), if_pos rfl]
      exact ih (k + 1) f b (by omega) (by omega) (by omega)
theorem ok_likeliest {n : Nat} (I : IV g t v a D n nx) (hD : D + 100 < 2 ^ 30) (x : Int32) : Okc (F_X11_likeliest 69 x) (F_X12_likeliest 183 x) g t D := by
  have X := I.1
  have C := I.2.2.1
  have W := C.1
  have V := C.2.1
  have hP := wP2 W
  have hw0 : ∀ t, wI (Em g t) 183 11 0 0 = some (Em g (wi t 183 0 (nI 0))) := fun t => x_w183_0 X
  rcases okx_c x 7 (by decide) with hy | ⟨hy, m, hm, rfl⟩
  · refine ok_0 (r := -nI 3) (t1 := t) (t2 := wi t 183 0 (nI 0)) I hD ?_ ?_ Sm_r (Sm_wi (a := 183) (k := 0) rfl Sm_r)
    · unfold F_X11_likeliest
      rcases okx_7 hy with c | c
      · rw [if_pos c]; rfl
      · by_cases c0 : x < 0
        · rw [if_pos c0]; rfl
        · rw [if_neg c0, if_neg c]; rfl
    · unfold F_X12_likeliest
      rw [hw0, Option.bind_some, within_06, Option.bind_some, hy, if_neg (show ¬ ¬ bI false = (0 : Int32) by decide)]
      rfl
  have y0 : ¬ nI m < (0 : Int32) := show ¬ nI m < nI 0 by rw [nI_ltI (by omega) (by decide)]; omega
  have y6 : nI m ≤ (6 : Int32) := show nI m ≤ nI 6 by rw [nI_leI (by omega) (by decide)]; omega
  have hfu : vP a < FU := by show vP a < 1000000; omega
  have hb0 : bsI (vP a) (vP a) = (-1 : Int32) := if_pos rfl
  have hm0 : mo_ a m (vP a) = (-1 : Int64) := if_pos rfl
  obtain ⟨t1, e1, s1⟩ := k_lk_l X V (show m ≤ 6 by omega) (vP a) 0 FU (vP a) t C (by omega) hfu (Or.inr rfl)
  rw [hb0, hm0] at e1
  have ha1 : tA (wi t1 183 0 (nI 0)) 184 = a := by rw [tA_wi, Sm_a X s1]; exact I.2.1
  have e2 := r_lk_l X W ha1 (show m ≤ 6 by omega) (vP a) 0 FU (vP a) (by omega) hfu (Or.inr rfl)
  rw [hb0] at e2
  refine ok_0 (r := bsI (vP a) (lkz a m (vP a) 0 (vP a))) (t1 := t1) (t2 := wi t1 183 0 (nI 0)) I hD ?_ ?_ s1 (Sm_wi (a := 183) (k := 0) rfl Sm_r)
  · unfold F_X11_likeliest
    rw [if_neg y0, if_pos y6]
    exact e1
  · unfold F_X12_likeliest
    rw [hw0, Option.bind_some, within_06, Option.bind_some, hy, if_pos (show ¬ bI true = (0 : Int32) by decide)]
    exact e2
end XLk
