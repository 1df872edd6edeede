/-! ===== near, route agree ===== -/
def tgt (a : Nat → Int32) (p e n j : Nat) : Prop := ∃ j', j' < vK a ∧ rs a n j j' ∧ fnd a p j' e = true
noncomputable def nxb (a : Nat → Int32) (p k e r to : Nat) : Bool := can a k to && @decide (tgt a p (e + r - 1) (r - 1) to) (Classical.propDecidable _)
noncomputable def fst_ (a : Nat → Int32) (p k e r : Nat) : Nat := fa_first (nxb a p k e r) 6
noncomputable def rtz (a : Nat → Int32) (p : Nat) : Nat → Nat → Nat → Nat → Nat
  | 0, k, _, _ => k
  | c + 1, k, e, r => rtz a p c (fst_ a p k e r) (e + 1) (r - 1)
theorem nxb_iff {a : Nat → Int32} {p k e r to : Nat} : nxb a p k e r to = true ↔ can a k to = true ∧ tgt a p (e + r - 1) (r - 1) to := by
  unfold nxb
  rw [Bool.and_eq_true, @decide_eq_true_iff _ (Classical.propDecidable _)]
section XRp
variable {a : Nat → Int32} {D p : Nat}
theorem nx_ex (W : WA a D) {k e r : Nat} (hk : k < vK a) (hr : soo a p k e = r) (h : r < 268435456) : ∃ to, to < vK a ∧ nxb a p k e r to = true := by
  have q : Rn a p (soo a p k e) k e := soo_a (by omega)
  have h1 : 1 ≤ soo a p k e := soo_1
  rw [hr] at q h1
  obtain ⟨i, i1, j, j1, j2, j3⟩ := q
  have := soo_b W hk (show Rn a p (i + 1) k e from ⟨i, by omega, j, j1, j2, j3⟩)
  have hi : i = r - 1 := by omega
  subst hi
  obtain ⟨m, m1, m2, m3⟩ := j2
  exact ⟨m, m1, nxb_iff.mpr ⟨m2, j, j1, m3, by rw [show e + r - 1 = e + (r - 1) by omega]; exact j3⟩⟩
theorem nx_so (W : WA a D) {k e r to : Nat} (hk : k < vK a) (hr : soo a p k e = r) (h2 : 2 ≤ r) (hto : to < vK a) (h : nxb a p k e r to = true) : soo a p to (e + 1) = r - 1 := by
  obtain ⟨h3, j, j1, j2, j3⟩ := nxb_iff.mp h
  have q1 : soo a p to (e + 1) ≤ r - 1 := soo_b W hto ⟨r - 2, by omega, j, j1, by rw [show r - 2 + 1 = r - 1 by omega]; exact j2, by rw [show e + 1 + (r - 2) = e + r - 1 by omega]; exact j3⟩
  have q2 : soo a p k e ≤ soo a p to (e + 1) + 1 := by
    by_cases c : soo a p to (e + 1) < 268435456
    · exact soo_b W hk (Rn_s.mpr ⟨to, hto, h3, Or.inr (soo_a c)⟩)
    · have := @soo_le a p k e; omega
  omega
noncomputable def fbv (a : Nat → Int32) (p e to : Nat) : Nat := if fnd a p to e = true then 1 else if soo a p to (e + 1) = 268435456 then 268435456 else soo a p to (e + 1) + 1
theorem fbv_iff (W : WA a D) {k e r to : Nat} (hk : k < vK a) (hr : soo a p k e = r) (h : r < 268435456) (hto : to < vK a) (hc : can a k to = true) : fbv a p e to = r ↔ nxb a p k e r to = true := by
  have h1 : 1 ≤ soo a p k e := soo_1
  have h1' : 1 ≤ soo a p to (e + 1) := soo_1
  rw [hr] at h1
  rw [nxb_iff]
  unfold fbv
  constructor
  · intro q
    refine ⟨hc, ?_⟩
    split at q
    · rename_i c
      subst q
      exact ⟨to, hto, rfl, by rw [show e + 1 - 1 = e by omega]; exact c⟩
    · split at q
      · omega
      · obtain ⟨i, i1, j, j1, j2, j3⟩ := soo_a (a := a) (p := p) (k := to) (d := e + 1) (by omega)
        have := soo_b W hto (show Rn a p (i + 1) to (e + 1) from ⟨i, by omega, j, j1, j2, j3⟩)
        have hi : i + 1 = r - 1 := by omega
        refine ⟨j, j1, by rw [← hi]; exact j2, by rw [show e + r - 1 = e + 1 + i by omega]; exact j3⟩
  · rintro ⟨_, q⟩
    by_cases c1 : r = 1
    · subst c1
      obtain ⟨j, j1, j2, j3⟩ := q
      have j2 : j = to := j2
      subst j2
      rw [show e + 1 - 1 = e by omega] at j3
      rw [if_pos j3]
    · have c2 : ¬ fnd a p to e = true := fun c => by
        have := soo_b W hk (Rn_s.mpr ⟨to, hto, hc, Or.inl c⟩ : Rn a p (0 + 1) k e)
        omega
      have := nx_so W hk hr (by omega) hto (nxb_iff.mpr ⟨hc, q⟩)
      rw [if_neg c2, if_neg (by omega)]
      omega
theorem fbn_v (W : WA a D) {e to : Nat} (hto : to < vK a) : fbn a p (sok a p) (6 * (e % 12)) to = fbv a p e to := by
  have e1 : 6 * (e % 12) / 6 = e % 12 := by omega
  unfold fbn fbv
  rw [sok_n W hto, e1, fnd_12 W hto (show e % 12 % 12 = e % 12 by omega), soo_12 (p := p) W hto (show (e % 12 + 1) % 12 = (e + 1) % 12 by omega)]
theorem fst_p (W : WA a D) {k e r : Nat} (hk : k < vK a) (hr : soo a p k e = r) (h : r < 268435456) : fst_ a p k e r < vK a ∧ nxb a p k e r (fst_ a p k e r) = true ∧ ∀ j, j < fst_ a p k e r → nxb a p k e r j = false := by
  have hK := wK2 W
  obtain ⟨to, t1, t2⟩ := nx_ex W hk hr h
  have hno := fa_first_no (nxb a p k e r) 6
  have hle : fst_ a p k e r ≤ to := Nat.le_of_not_lt (fun c => by
    have := hno to c
    rw [t2] at this
    cases this)
  exact ⟨by omega, fa_first_yes (nxb a p k e r) 6 (show fst_ a p k e r < 6 by omega), hno⟩
end XRp
section XRr
variable {g : Sk} {t : Tb} {a : Nat → Int32}
variable {D v p x n nx : Nat} {t' t'' : Tb}
theorem ok_near (I : IV g t v a D n nx) (hD : D + 100 < 2 ^ 30) (x y : Int32) : Okc (F_X11_near 69 x y) (F_X12_near 183 x y) g t D := by
  have X := I.1
  have C := I.2.2.1
  have W := C.1
  have V := C.2.1
  have hK := wK2 W
  have hw0 : ∀ t, wI (Em g t) 183 11 0 0 = some (Em g (wi t 183 0 (nI 0))) := fun t => x_w183_0 X
  have ha0 : tA (wi t 183 0 (nI 0)) 184 = a := I.2.1
  have qp : F_X12_isPerson 183 x.toInt64 (Em g (wi t 183 0 (nI 0))) = some (bI (okx x (vP a)), Em g (wi t 183 0 (nI 0))) := by
    rw [q_person X W ha0, lg_wide]; rfl
  have hw99 : ∀ h : xH, F_X12_within y.toInt64 1 99 h = some (bI (decide (1 ≤ y.toInt ∧ y.toInt ≤ 99)), h) := by
    intro h
    rw [p_within, i64]
    rfl
  have bt : ¬ bI true = (0 : Int32) := by decide
  have bf : ¬ ¬ bI false = (0 : Int32) := by decide
  rcases okx_c x (vP a) (by have := wP2 W; omega) with hx | ⟨hx, i, hi, rfl⟩
  · refine ok_0 (r := -nI 2) (t1 := t) (t2 := wi t 183 0 (nI 0)) I hD ?_ ?_ Sm_r (Sm_wi (a := 183) (k := 0) rfl Sm_r)
    · unfold F_X11_near
      rw [c_r69 X C.2.2.2.1, Option.bind_some, v_rc V, Option.bind_some, k_person V C, Option.bind_some, hx, if_neg bf]
      rfl
    · unfold F_X12_near
      rw [hw0, Option.bind_some, x_rc183 X, Option.bind_some, qp, Option.bind_some, hx, if_neg bf]
      rfl
  have ti1 : (nI 1).toInt = 1 := rfl
  have ti99 : (nI 99).toInt = 99 := rfl
  by_cases h : 1 ≤ y.toInt ∧ y.toInt ≤ 99
  · obtain ⟨m, hm1, hm, rfl⟩ : ∃ m, 1 ≤ m ∧ m ≤ 99 ∧ y = nI m := ⟨y.toInt.toNat, by omega, by omega, Int32.toInt_inj.mp (by rw [nI_toInt (by omega)]; omega)⟩
    have c1 : ¬ nI m < (1 : Int32) := show ¬ nI m < nI 1 by rw [nI_ltI (by omega) (by omega)]; omega
    have c2 : nI m ≤ (99 : Int32) := show nI m ≤ nI 99 by rw [nI_leI (by omega) (by omega)]; omega
    obtain ⟨t2, e2, a2, k2⟩ := r_laysSoon X W ha0 hi
    have hfu : vK a < FU := by show vK a < 1000000; omega
    have key := r_nr_l (t := t2) (n0 := m) X W (by rw [a2.2.1 184 (by decide)]; exact ha0) hi hm k2 (vK a) 0 FU (by omega) hfu
    refine ok_0 (r := nI (mk (nrs a i m) (vK a))) (t1 := t) (t2 := t2) I hD ?_ ?_ Sm_r (Sm_t (Sm_wi (a := 183) (k := 0) rfl Sm_r) (Sm_201 a2))
    · unfold F_X11_near
      rw [c_r69 X C.2.2.2.1, Option.bind_some, v_rc V, Option.bind_some, k_person V C, Option.bind_some, hx, if_pos bt, if_neg c1, if_pos c2, x_r69_11 X, Option.bind_some, c_r69 X C.2.2.2.1, Option.bind_some, x_r69_2 X, Option.bind_some, x_rc163 X, Option.bind_some, k_near X V C hi hm1 hm, Option.bind_some]
    · unfold F_X12_near
      rw [hw0, Option.bind_some, x_rc183 X, Option.bind_some, qp, Option.bind_some, hx, if_pos bt, hw99, Option.bind_some, decide_eq_true h, if_pos bt, x_rc183 X, Option.bind_some, e2, Option.bind_some]
      exact key
  · refine ok_0 (r := -nI 3) (t1 := t) (t2 := wi t 183 0 (nI 0)) I hD ?_ ?_ Sm_r (Sm_wi (a := 183) (k := 0) rfl Sm_r)
    · unfold F_X11_near
      rw [c_r69 X C.2.2.2.1, Option.bind_some, v_rc V, Option.bind_some, k_person V C, Option.bind_some, hx, if_pos bt]
      by_cases c1 : y < (1 : Int32)
      · rw [if_pos c1]; rfl
      · have c2 : ¬ y ≤ (99 : Int32) := fun c2 => h ⟨by
          have : ¬ y < nI 1 := c1
          rw [fa_lt] at this
          omega, by
          have : y ≤ nI 99 := c2
          rw [fa_le] at this
          omega⟩
        rw [if_neg c1, if_neg c2]; rfl
    · unfold F_X12_near
      rw [hw0, Option.bind_some, x_rc183 X, Option.bind_some, qp, Option.bind_some, hx, if_pos bt, hw99, Option.bind_some, decide_eq_false h, if_neg bf]
      rfl
/-! route: the class -/
theorem Sm_164 (h : Ax 164 t t') : Sm g t t' := Ax_m (sc_f rfl) h
def Tgs (t : Tb) (a : Nat → Int32) (p s lo : Nat) : Prop := ∀ dd, lo ≤ dd → dd < s → ∃ m, tA t 164 dd = nI m ∧ m < 2 ^ vK a ∧ ∀ j, j < vK a → (m.testBit j = true ↔ tgt a p (vDy a + s - 1) (s - 1 - dd) j)
theorem k_tgs_l (X : Fx g) (V : VaS g v) (hp : p < vP a) {s : Nat} (hs : s ≤ 18) {y : Int32} : ∀ (c fuel m : Nat) (t : Tb), CP g t v a D → c ≤ s → c < fuel → m < 2 ^ vK a → (∀ j, j < vK a → (m.testBit j = true ↔ tgt a p (vDy a + s - 1) (s - c) j)) → Tgs t a p s c → ∃ t', F_X1_placeOnDay_b52 fuel 163 v 95 (nI p) y (nI m) (nI c - 1) (Em g t) = F_X1_placeOnDay_b91 FU 163 v y (nI (vAt a p)) 0 (Em g t') ∧ Ax 164 t t' ∧ Tgs t' a p s 0 := by
  intro c
  induction c with
  | zero =>
    intro fuel m t C hc hf hm hb T
    have W := C.1
    have hP := wP2 W
    obtain ⟨f, rfl⟩ : ∃ f, fuel = f + 1 := ⟨fuel - 1, by omega⟩
    refine ⟨t, ?_, Ax_r, T⟩
    rw [F_X1_placeOnDay_b52, if_pos (by decide), x_r95_0 X, Option.bind_some, x_a96 X (by omega), Option.bind_some, cAt_ C hp]
  | succ c ih =>
    intro fuel m t C hc hf hm hb T
    have W := C.1
    obtain ⟨f, rfl⟩ : ∃ f, fuel = f + 1 := ⟨fuel - 1, by omega⟩
    have e0 : nI (c + 1) - 1 = nI c := nI_sub (b := 1) (by omega)
    have h0 : ¬ nI c < 0 := show ¬ nI c < nI 0 by rw [nI_ltI (by omega) (by decide)]; omega
    have a1 : Ax 164 t (wa t 164 c (nI m)) := Ax_wa Ax_r
    have C1 : CP g (wa t 164 c (nI m)) v a D := CP_s X C (Sm_164 a1)
    obtain ⟨t2, e2, a2, k2⟩ := ih f (wn a m) (wa t 164 c (nI m)) C1 (by omega) (by omega) (wn_lt W hm) (fun j hj => by
      rw [wn_bit hm, show s - c = (s - (c + 1)) + 1 by omega]
      constructor
      · rintro ⟨q, q1, q2, q3⟩
        obtain ⟨j', j1, j2, j3⟩ := (hb q q1).mp q2
        exact ⟨j', j1, ⟨q, q1, by rw [can_sym W hj q1]; exact q3, j2⟩, j3⟩
      · rintro ⟨j', j1, ⟨q, q1, q2, q3⟩, j3⟩
        exact ⟨q, q1, (hb q q1).mpr ⟨j', j1, q3, j3⟩, by rw [can_sym W q1 hj]; exact q2⟩) (fun dd d1 d2 => by
      by_cases e : dd = c
      · subst e
        exact ⟨m, by rw [tA_as, upd_s], hm, fun j hj => by rw [show s - 1 - dd = s - (dd + 1) by omega]; exact hb j hj⟩
      · obtain ⟨m', m1, m2⟩ := T dd (by omega) d2
        exact ⟨m', by rw [tA_as, upd_n e]; exact m1, m2⟩)
    refine ⟨t2, ?_, Ax_t a1 a2, k2⟩
    rw [F_X1_placeOnDay_b52, e0, if_neg h0, x_r163_0 X, Option.bind_some, x_s164 X (by omega), Option.bind_some, v_rc V, Option.bind_some, k_wn V C1 hm, Option.bind_some, nI_mm]
    exact e2
theorem k_rt_l (X : Fx g) (V : VaS g v) (C : CP g t v a D) {s i : Nat} (hs : s ≤ 18) (his : i < s) (T : Tgs t a p s 0) : ∀ (c dd fuel k : Nat), dd + c = i + 1 → c < fuel → k < vK a → (c ≠ 0 → soo a p k (vDy a + dd) = s - dd) → F_X1_placeOnDay_b91 fuel 163 v (nI i) (nI k) (nI dd) (Em g t) = some (nI (rtz a p c k (vDy a + dd) (s - dd)), Em g t) := by
  have W := C.1
  have hK := wK2 W
  have h64 : 2 ^ vK a ≤ 64 := Nat.pow_le_pow_right (n := 2) (by decide) hK
  intro c
  induction c with
  | zero =>
    intro dd fuel k hd hf hk _
    obtain ⟨f, rfl⟩ : ∃ f, fuel = f + 1 := ⟨fuel - 1, by omega⟩
    rw [F_X1_placeOnDay_b91, if_pos (by rw [nI_ltI (by omega) (by omega)]; omega)]
    rfl
  | succ c ih =>
    intro dd fuel k hd hf hk hso
    have hso := hso (by omega)
    obtain ⟨f, rfl⟩ : ∃ f, fuel = f + 1 := ⟨fuel - 1, by omega⟩
    obtain ⟨m, m1, m2, m3⟩ := T dd (by omega) (by omega)
    have h2k : 2 ^ k < 2 ^ vK a := Nat.pow_lt_pow_right (by decide) hk
    have hw := wn_lt W h2k
    obtain ⟨f1, f2, f3⟩ := fst_p W hk hso (by omega)
    have hbit : (fun j => (m &&& wn a (2 ^ k)).testBit j) = nxb a p k (vDy a + dd) (s - dd) := by
      funext j
      have hiff : (m &&& wn a (2 ^ k)).testBit j = true ↔ nxb a p k (vDy a + dd) (s - dd) j = true := by
        rw [Nat.testBit_and, Bool.and_eq_true, nxb_iff, wn_bit h2k, show vDy a + dd + (s - dd) - 1 = vDy a + s - 1 by omega, show s - dd - 1 = s - 1 - dd by omega]
        constructor
        · rintro ⟨q1, k', _, q3, q4⟩
          rw [Nat.testBit_two_pow, decide_eq_true_eq] at q3
          subst q3
          exact ⟨q4, (m3 j (tb_lt m2 q1)).mp q1⟩
        · rintro ⟨q1, q2⟩
          exact ⟨(m3 j (can_lt W hk q1)).mpr q2, k, hk, by rw [Nat.testBit_two_pow, decide_eq_true rfl], q1⟩
      cases c1 : (m &&& wn a (2 ^ k)).testBit j <;> cases c2 : nxb a p k (vDy a + dd) (s - dd) j
      · rfl
      · rw [c1, c2] at hiff; simp at hiff
      · rw [c1, c2] at hiff; simp at hiff
      · rfl
    have hlow : low (m &&& wn a (2 ^ k)) = fst_ a p k (vDy a + dd) (s - dd) := by
      unfold low fst_
      rw [hbit]
    have hne : m &&& wn a (2 ^ k) ≠ 0 := fun h0 => by
      have := congrFun hbit (fst_ a p k (vDy a + dd) (s - dd))
      rw [f2, h0] at this
      simp at this
    have hle : m &&& wn a (2 ^ k) ≤ m := Nat.and_le_left
    have hno : ¬ nI (m &&& wn a (2 ^ k)) = (0 : Int32) := show ¬ nI _ = nI 0 by rw [nI_eq (by omega) (by decide)]; exact hne
    have hnx : c ≠ 0 → soo a p (fst_ a p k (vDy a + dd) (s - dd)) (vDy a + (dd + 1)) = s - (dd + 1) := fun hc => by
      rw [show vDy a + (dd + 1) = vDy a + dd + 1 by omega, nx_so W hk hso (by omega) f1 f2]
      omega
    rw [F_X1_placeOnDay_b91, if_neg (by rw [nI_ltI (by omega) (by omega)]; omega), x_r163_0 X, Option.bind_some, x_a164 X (by omega), Option.bind_some, v_rc V, Option.bind_some, show (1 : Int32) <<< (nI k &&& 31) = nI (2 ^ k) from v_pow (by omega), k_wn V C h2k, Option.bind_some, m1, fa_and, if_pos hno, k_tz _ (by omega) hne, Option.bind_some, hlow, show nI dd + 1 = nI (dd + 1) from nI_add dd 1, rtz, show s - dd - 1 = s - (dd + 1) by omega, show vDy a + dd + 1 = vDy a + (dd + 1) by omega]
    exact ih (dd + 1) f _ (by omega) (by omega) f1 hnx
/-! route: the reference -/
theorem r_rt_i (X : Fx g) (W : WA a D) (ha : tA t 184 = a) (hp : p < vP a) (hT : ∀ k, k < 72 → k % 6 < vK a → tA t 201 k = nI (sok a p k)) {s i dd k : Nat} (hs : s ≤ 18) (hd : dd ≤ i) (his : i < s) (hk : k < vK a) (hso : soo a p k (vDy a + dd) = s - dd) (kk : Nat → Int32 → Int32 → Int32 → Int32 → Int32 → xH → Option (Int32 × xH)) : ∀ (d to fuel : Nat), to + d = fst_ a p k (vDy a + dd) (s - dd) → d < fuel → F_X12_route_b59 kk fuel 183 (nI p) (nI i) (nI s) (nI k) (nI dd) (nI to) (Em g t) = if dd = i then some (nI (fst_ a p k (vDy a + dd) (s - dd)), Em g t) else kk 183 (nI p) (nI i) (nI s) (nI (fst_ a p k (vDy a + dd) (s - dd))) (nI (dd + 1)) (Em g t) := by
  have hK := wK2 W
  have hdy := wDy2 W
  have hD := wD W
  have hst := stq_lt W hk
  have h64 : 2 ^ vK a ≤ 64 := Nat.pow_le_pow_right (n := 2) (by decide) hK
  obtain ⟨f1, f2, f3⟩ := fst_p W hk hso (by omega)
  have h107 : aI (Em g t) 184 107 = some (nI (vDy a)) := by
    have : aI (Em g t) 184 107 = some (tA t 184 107) := x_a184 X (k := 107) (by decide)
    rw [this, ha, wDy W]
  have e12 : irm (nI (vDy a) + nI dd) 12 = nI ((vDy a + dd) % 12) := by
    rw [nI_add]
    exact irm_n (b := 12) (by omega) (by decide) (by decide)
  have hfb : ∀ to, to < vK a → F_X12_foundBy 183 (nI p) (nI to) (nI ((vDy a + dd) % 12)) (Em g t) = some (nI (fbv a p (vDy a + dd) to), Em g t) := fun to hto => by
    obtain ⟨n1, n2, _⟩ := nix_d (k := 6 * ((vDy a + dd) % 12)) (to := to) (by omega)
    have := r_foundBy (s := sok a p) (k := 6 * ((vDy a + dd) % 12)) X W ha hp ⟨hT _ n1 (by omega), soo_le⟩ (by omega) hto
    rw [fbn_v W hto, show 6 * ((vDy a + dd) % 12) / 6 = (vDy a + dd) % 12 by omega] at this
    exact this
  have hfl : ∀ to, fbv a p (vDy a + dd) to ≤ 268435456 := fun to => by
    have := @soo_le a p to (vDy a + dd + 1)
    unfold fbv
    split
    · omega
    · split <;> omega
  intro d
  induction d with
  | zero =>
    intro to fuel hto hf
    obtain ⟨f, rfl⟩ : ∃ f, fuel = f + 1 := ⟨fuel - 1, by omega⟩
    have hto : to = fst_ a p k (vDy a + dd) (s - dd) := by omega
    have hc := (nxb_iff.mp f2).1
    rw [← hto] at hc f2 f1 ⊢
    have hv : fbv a p (vDy a + dd) to = s - dd := (fbv_iff W hk hso (by omega) f1 hc).mpr f2
    rw [F_X12_route_b59, x_rc183 X, Option.bind_some, r_stepped X W ha hk, Option.bind_some, q_isIn (by omega) (by omega), Option.bind_some, stq_bit, hc, if_neg (show ¬ bI true = (0 : Int32) by decide), x_r183_1 X, Option.bind_some, h107, Option.bind_some, x_rc183 X, Option.bind_some, e12, hfb to f1, Option.bind_some, hv, nI_sub (by omega), if_pos rfl, show nI dd + 1 = nI (dd + 1) from nI_add dd 1]
    by_cases e : dd = i
    · rw [if_neg (fun h => h (by rw [e])), if_pos e]
    · rw [if_pos (show ¬ nI dd = nI i by rw [nI_eq (by omega) (by omega)]; exact e), if_neg e]
  | succ d ih =>
    intro to fuel hto hf
    obtain ⟨f, rfl⟩ : ∃ f, fuel = f + 1 := ⟨fuel - 1, by omega⟩
    have hi := ih (to + 1) f (by omega) (by omega)
    have htK : to < vK a := by omega
    have hn := f3 to (by omega)
    rw [F_X12_route_b59, x_rc183 X, Option.bind_some, r_stepped X W ha hk, Option.bind_some, q_isIn (by omega) (by omega), Option.bind_some, stq_bit, show nI to + 1 = nI (to + 1) from nI_add to 1]
    cases c : can a k to
    · rw [if_pos (show bI false = (0 : Int32) by decide)]
      exact hi
    · have hv : ¬ fbv a p (vDy a + dd) to = s - dd := fun h => by
        have := (fbv_iff W hk hso (by omega) htK c).mp h
        rw [hn] at this
        cases this
      have := hfl to
      rw [if_neg (show ¬ bI true = (0 : Int32) by decide), x_r183_1 X, Option.bind_some, h107, Option.bind_some, x_rc183 X, Option.bind_some, e12, hfb to htK, Option.bind_some, nI_sub (by omega), if_neg (show ¬ nI _ = nI _ by rw [nI_eq (by omega) (by omega)]; exact hv)]
      exact hi
theorem r_rt_l (X : Fx g) (W : WA a D) (ha : tA t 184 = a) (hp : p < vP a) (hT : ∀ k, k < 72 → k % 6 < vK a → tA t 201 k = nI (sok a p k)) {s i : Nat} (hs : s ≤ 18) (his : i < s) : ∀ (c dd fuel k : Nat), dd + c = i → c < fuel → k < vK a → soo a p k (vDy a + dd) = s - dd → F_X12_route_b56 fuel 183 (nI p) (nI i) (nI s) (nI k) (nI dd) (Em g t) = some (nI (rtz a p (c + 1) k (vDy a + dd) (s - dd)), Em g t) := by
  have hK := wK2 W
  intro c
  induction c with
  | zero =>
    intro dd fuel k hd hf hk hso
    obtain ⟨f, rfl⟩ : ∃ f, fuel = f + 1 := ⟨fuel - 1, by omega⟩
    obtain ⟨f1, f2, f3⟩ := fst_p W hk hso (by omega)
    have hfu : fst_ a p k (vDy a + dd) (s - dd) < FU := by show _ < 1000000; omega
    have key := r_rt_i X W ha hp hT hs (show dd ≤ i by omega) his hk hso (F_X12_route_b56 f) (fst_ a p k (vDy a + dd) (s - dd)) 0 FU (by omega) hfu
    rw [if_pos (by omega)] at key
    exact key
  | succ c ih =>
    intro dd fuel k hd hf hk hso
    obtain ⟨f, rfl⟩ : ∃ f, fuel = f + 1 := ⟨fuel - 1, by omega⟩
    obtain ⟨f1, f2, f3⟩ := fst_p W hk hso (by omega)
    have hfu : fst_ a p k (vDy a + dd) (s - dd) < FU := by show _ < 1000000; omega
    have key := r_rt_i X W ha hp hT hs (show dd ≤ i by omega) his hk hso (F_X12_route_b56 f) (fst_ a p k (vDy a + dd) (s - dd)) 0 FU (by omega) hfu
    rw [if_neg (by omega)] at key
    have hnx := nx_so W hk hso (by omega) f1 f2
    have h2 := ih (dd + 1) f _ (by omega) (by omega) f1 (by rw [show vDy a + (dd + 1) = vDy a + dd + 1 by omega, hnx]; omega)
    have h3 : F_X12_route_b56 (f + 1) 183 (nI p) (nI i) (nI s) (nI k) (nI dd) (Em g t) = F_X12_route_b56 f 183 (nI p) (nI i) (nI s) (nI (fst_ a p k (vDy a + dd) (s - dd))) (nI (dd + 1)) (Em g t) := key
    rw [h3, h2, rtz, rtz, rtz, show s - (dd + 1) = s - dd - 1 by omega, show vDy a + (dd + 1) = vDy a + dd + 1 by omega]
theorem ok_route (I : IV g t v a D n nx) (hD : D + 100 < 2 ^ 30) (x y : Int32) : Okc (F_X11_route 69 x y) (F_X12_route 183 x y) g t D := by
  have X := I.1
  have C := I.2.2.1
  have W := C.1
  have V := C.2.1
  have hK := wK2 W
  have hP := wP2 W
  have hdy := wDy2 W
  have hD0 := wD W
  have hw0 : ∀ t, wI (Em g t) 183 11 0 0 = some (Em g (wi t 183 0 (nI 0))) := fun t => x_w183_0 X
  have qp : ∀ t1, tA t1 184 = a → F_X12_isPerson 183 x.toInt64 (Em g (wi t1 183 0 (nI 0))) = some (bI (okx x (vP a)), Em g (wi t1 183 0 (nI 0))) := fun t1 h => by
    rw [q_person X W (show tA (wi t1 183 0 (nI 0)) 184 = a from h), lg_wide]; rfl
  have bt : ¬ bI true = (0 : Int32) := by decide
  have bf : ¬ ¬ bI false = (0 : Int32) := by decide
  rcases okx_c x (vP a) (by omega) with hx | ⟨hx, p, hp, rfl⟩
  · refine ok_0 (r := -nI 2) (t1 := t) (t2 := wi t 183 0 (nI 0)) I hD ?_ ?_ Sm_r (Sm_wi (a := 183) (k := 0) rfl Sm_r)
    · unfold F_X11_route
      rw [c_r69 X C.2.2.2.1, Option.bind_some, v_rc V, Option.bind_some, k_person V C, Option.bind_some, hx, if_neg bf]
      rfl
    · unfold F_X12_route
      rw [hw0, Option.bind_some, x_rc183 X, Option.bind_some, qp t I.2.1, Option.bind_some, hx, if_neg bf]
      rfl
  rcases nn_c y with hy | ⟨hy, i, hi, rfl⟩
  · refine ok_0 (r := -nI 3) (t1 := t) (t2 := wi t 183 0 (nI 0)) I hD ?_ ?_ Sm_r (Sm_wi (a := 183) (k := 0) rfl Sm_r)
    · unfold F_X11_route
      rw [c_r69 X C.2.2.2.1, Option.bind_some, v_rc V, Option.bind_some, k_person V C, Option.bind_some, hx, if_pos bt, if_neg (show ¬ (0 : Int32) ≤ y from hy)]
      rfl
    · unfold F_X12_route
      rw [hw0, Option.bind_some, x_rc183 X, Option.bind_some, qp t I.2.1, Option.bind_some, hx, if_pos bt, if_neg (show ¬ (0 : Int32) ≤ y from hy)]
      rfl
  have hat := wAt2 W hp
  have hy' : (0 : Int32) ≤ nI i := hy
  -- no way
  have no : (∀ z, z = fiv a p → ¬ (18 : Int32) < z ∧ (z = (-1 : Int32) ∨ ¬ nI i < z) ∧ ¬ nI i < z) → Okc (F_X11_route 69 (nI p) (nI i)) (F_X12_route 183 (nI p) (nI i)) g t D := fun hz => by
    obtain ⟨z1, z2, z3⟩ := hz _ rfl
    obtain ⟨t2, e2, a2, _⟩ := r_findsOf (t := wi t 183 0 (nI 0)) X W I.2.1 hp
    refine ok_0 (r := -nI 1) (t1 := t) (t2 := t2) I hD ?_ ?_ Sm_r (Sm_t (Sm_wi (a := 183) (k := 0) rfl Sm_r) (Sm_201 a2))
    · unfold F_X11_route F_X1_placeOnDay
      rw [c_r69 X C.2.2.2.1, Option.bind_some, v_rc V, Option.bind_some, k_person V C, Option.bind_some, hx, if_pos bt, if_pos hy', x_r69_11 X, Option.bind_some, c_r69 X C.2.2.2.1, Option.bind_some, x_r69_2 X, Option.bind_some, x_rc163 X, Option.bind_some, Option.bind_some, k_soonest X V C hp, Option.bind_some, if_neg z1, if_neg z3]
      rfl
    · unfold F_X12_route
      rw [hw0, Option.bind_some, x_rc183 X, Option.bind_some, qp t I.2.1, Option.bind_some, hx, if_pos bt, if_pos hy', x_rc183 X, Option.bind_some, e2, Option.bind_some]
      by_cases c : fiv a p = (-1 : Int32)
      · rw [if_pos c]; rfl
      · rw [if_neg c, if_neg z3]; rfl
  cases cf : (vFo a).testBit p
  · by_cases c1 : soo a p (vAt a p) (vDy a) = 268435456
    · refine no (fun z hz => ?_)
      have : z = -nI 1 := by rw [hz]; unfold fiv soI; rw [cf, if_neg (by decide), if_pos c1]
      subst this
      refine ⟨by decide, Or.inl rfl, fun h => ?_⟩
      have h' : (nI i).toInt < (-nI 1).toInt := Int32.lt_iff_toInt_lt.mp h
      rw [nI_toInt hi] at h'
      have : (-nI 1).toInt = -1 := by decide
      omega
    · have hlt : soo a p (vAt a p) (vDy a) < 268435456 := by have := @soo_le a p (vAt a p) (vDy a); omega
      have h18 := soo_18 hlt
      have h1 : 1 ≤ soo a p (vAt a p) (vDy a) := soo_1
      have hfv : fiv a p = nI (soo a p (vAt a p) (vDy a)) := by unfold fiv soI; rw [cf, if_neg (by decide), if_neg c1]
      generalize hs : soo a p (vAt a p) (vDy a) = s at hlt h18 h1 hfv
      have z1 : ¬ (18 : Int32) < nI s := show ¬ nI 18 < nI s by rw [nI_ltI (by decide) (by omega)]; omega
      by_cases his : i < s
      · have zi : nI i < nI s := by rw [nI_ltI (by omega) (by omega)]; exact his
        have hfu : s < FU := by show s < 1000000; omega
        obtain ⟨t1, e1, a1, T1⟩ := k_tgs_l (y := nI i) X V hp h18 s FU (sgs a p (vDy a + s - 1)) t C (Nat.le_refl _) hfu sgs_lt (fun j hj => by
          rw [sgs_bit, Nat.sub_self]
          exact ⟨fun h => ⟨j, hj, rfl, h.2⟩, fun ⟨j', _, j2, j3⟩ => by
            have j2 : j' = j := j2
            subst j2
            exact ⟨hj, j3⟩⟩) (fun dd d1 d2 => absurd d1 (by omega))
        have C1 := CP_s X C (Sm_164 a1)
        have hfi : i + 1 < FU := by show i + 1 < 1000000; omega
        have e3 := k_rt_l (i := i) X V C1 h18 his T1 (i + 1) 0 FU (vAt a p) (by omega) hfi hat (fun _ => by rw [Nat.add_zero, Nat.sub_zero]; exact hs)
        have ha1 : tA t1 184 = a := by rw [a1.2.1 184 (by decide)]; exact I.2.1
        obtain ⟨t2, e2, a2, k2⟩ := r_findsOf (t := wi t1 183 0 (nI 0)) X W ha1 hp
        have ha2 : tA t2 184 = a := by rw [a2.2.1 184 (by decide)]; exact ha1
        have hfi2 : i < FU := by omega
        have e4 := r_rt_l X W ha2 hp (k2 cf) h18 his i 0 FU (vAt a p) (by omega) hfi2 hat (by rw [Nat.add_zero, Nat.sub_zero]; exact hs)
        refine ok_0 (r := nI (rtz a p (i + 1) (vAt a p) (vDy a + 0) (s - 0))) (t1 := t1) (t2 := t2) I hD ?_ ?_ (Sm_164 a1) (Sm_t (Sm_wi (a := 183) (k := 0) rfl Sm_r) (Sm_201 a2))
        · unfold F_X11_route F_X1_placeOnDay
          rw [c_r69 X C.2.2.2.1, Option.bind_some, v_rc V, Option.bind_some, k_person V C, Option.bind_some, hx, if_pos bt, if_pos hy', x_r69_11 X, Option.bind_some, c_r69 X C.2.2.2.1, Option.bind_some, x_r69_2 X, Option.bind_some, x_rc163 X, Option.bind_some, Option.bind_some, k_soonest X V C hp, Option.bind_some, hfv, if_neg z1, if_pos zi, x_r95_2 X, Option.bind_some, x_a98 X (by omega), Option.bind_some, cBl_ C hp, x_i95_4 X, Option.bind_some, cDy_ C, v_rc V, Option.bind_some, nI_add, show nI (vDy a + s) - 1 = nI (vDy a + s - 1) from nI_sub (b := 1) (by omega), k_sg V C (by omega), Option.bind_some]
          have e1' : F_X1_placeOnDay_b52 FU 163 v 95 (nI p) (nI i) (nI (sgs a p (vDy a + s - 1))) (nI s - 1) (Em g t) = some (nI (rtz a p (i + 1) (vAt a p) (vDy a + 0) (s - 0)), Em g t1) := e1.trans e3
          rw [e1', Option.bind_some]
        · have hm1 : ¬ nI s = (-1 : Int32) := by
            show ¬ nI s = -nI 1
            rw [nI_m1e (by omega)]
            exact id
          have h109 : aI (Em g t2) 184 (nI (109 + p)) = some (nI (vAt a p)) := by rw [x_a184 X (by omega), ha2, wAt W hp]
          unfold F_X12_route
          rw [hw0, Option.bind_some, x_rc183 X, Option.bind_some, qp t1 ha1, Option.bind_some, hx, if_pos bt, if_pos hy', x_rc183 X, Option.bind_some, e2, Option.bind_some, hfv, if_neg hm1, if_pos zi, x_r183_1 X, Option.bind_some, show (109 : Int32) + nI p = nI (109 + p) from nI_add 109 p, h109, Option.bind_some]
          exact e4
      · refine no (fun z hz => ?_)
        rw [hfv] at hz
        subst hz
        have : ¬ nI i < nI s := by rw [nI_ltI (by omega) (by omega)]; exact his
        exact ⟨z1, Or.inr this, this⟩
  · refine no (fun z hz => ?_)
    have : z = nI 0 := by rw [hz]; unfold fiv; rw [cf, if_pos rfl]
    subst this
    have : ¬ nI i < nI 0 := by rw [nI_ltI (by omega) (by omega)]; omega
    exact ⟨by decide, Or.inr this, this⟩
end XRr
