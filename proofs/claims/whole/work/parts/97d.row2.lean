/-! ===== row, rows agree ===== -/
section XRx
variable {g : Sk} {t : Tb} {a : Nat → Int32}
variable {D v x nx p : Nat} {t' t'' t1 t2 : Tb}
def lI (l : Nat) : Int32 := if l = 6 then -nI 1 else nI l
theorem k_nio_l (X : Fx g) (W : WA a D) (h0 : tI t 153 0 = nI (vP a)) (h9 : ∀ p, p < vP a → tA t 154 p = nI (heard a p)) {z U l : Nat} (h1 : tI t 153 1 = nI z) (hz : z < 2 ^ 31) (hU : U < 2 ^ vP a) (hl : l < vP a ∨ l = 6) (h5 : ∀ Y, 0 < Y → Y < 2 ^ vP a → ∀ q, q < vP a → tA t 155 (Y * 6 + q) = nI (En (fitp a z) (vP a) Y q)) : ∀ (d k fuel : Nat), k + d = vP a → d < fuel → (∀ r, r < k → okE (fitp a z) (vP a) U l r = false) → (∃ r, r < vP a ∧ okE (fitp a z) (vP a) U l r = true) → F_X7_nextInOrder_b2 fuel 153 (nI U) (lI l) (nI k) (Em g t) = some (nI (nxt (fitp a z) (vP a) U l), Em g t) ∧ nxt (fitp a z) (vP a) U l < vP a ∧ okE (fitp a z) (vP a) U l (nxt (fitp a z) (vP a) U l) = true := by
  have hP := wP2 W
  have hU31 := p_31 hU (by omega)
  have h64 : 2 ^ vP a ≤ 64 := Nat.pow_le_pow_right (n := 2) (by decide) hP
  intro d
  induction d with
  | zero =>
    intro k fuel hk hf hno hex
    obtain ⟨r, h2, h3⟩ := hex
    rw [hno r (by omega)] at h3
    cases h3
  | succ d ih =>
    intro k fuel hk hf hno hex
    obtain ⟨f, rfl⟩ : ∃ f, fuel = f + 1 := ⟨fuel - 1, by omega⟩
    have hk3 : k < vP a := by omega
    have hn1 : nI k + 1 = nI (k + 1) := nI_add k 1
    have hle := En_le (F := fitp a z) (P := vP a) (U := U ||| 2 ^ k) (l := k) hP
    have hsh : (nI U >>> (nI k &&& 31)) &&& 1 = bI (U.testBit k) := by
      show (nI U >>> (nI k &&& nI 31)) &&& nI 1 = _
      rw [v_shr hU31 (by omega), v_bit]
    have hor : U ||| 2 ^ k < 2 ^ vP a := Nat.or_lt_two_pow hU (Nat.pow_lt_pow_right (by decide) hk3)
    have hpos : 0 < U ||| 2 ^ k := by
      have h2 : 2 ^ k ≤ U ||| 2 ^ k := Nat.right_le_or
      have := Nat.two_pow_pos k
      omega
    have hix : (nI U ||| ((1 : Int32) <<< (nI k &&& 31))) * 6 + nI k = nI ((U ||| 2 ^ k) * 6 + k) := by
      rw [show (1 : Int32) <<< (nI k &&& 31) = nI (2 ^ k) from v_pow (by omega), fa_or, show nI (U ||| 2 ^ k) * 6 = nI ((U ||| 2 ^ k) * 6) from nI_mulN _ 6, nI_add]
    have hskip : okE (fitp a z) (vP a) U l k = false → F_X7_nextInOrder_b2 f 153 (nI U) (lI l) (nI (k + 1)) (Em g t) = some (nI (nxt (fitp a z) (vP a) U l), Em g t) ∧ nxt (fitp a z) (vP a) U l < vP a ∧ okE (fitp a z) (vP a) U l (nxt (fitp a z) (vP a) U l) = true := fun h => ih (k + 1) f (by omega) (by omega) (fun r hr => by
      by_cases e : r = k
      · rw [e]; exact h
      · exact hno r (by omega)) hex
    have h44 : ok1 (fitp a z) U l k = true → F_X7_nextInOrder_b44 (F_X7_nextInOrder_b2 f) 153 (nI U) (lI l) (nI k) (Em g t) = some (nI (nxt (fitp a z) (vP a) U l), Em g t) ∧ nxt (fitp a z) (vP a) U l < vP a ∧ okE (fitp a z) (vP a) U l (nxt (fitp a z) (vP a) U l) = true := by
      intro hok
      unfold F_X7_nextInOrder_b44
      rw [x_r153_3 X, Option.bind_some, hix, x_a155 X (by omega), Option.bind_some, h5 _ hpos hor k hk3, hn1]
      by_cases c : En (fitp a z) (vP a) (U ||| 2 ^ k) k = 0
      · rw [if_pos (show nI (En (fitp a z) (vP a) (U ||| 2 ^ k) k) ≤ (0 : Int32) by rw [c]; decide)]
        exact hskip (by unfold okE; rw [decide_eq_false (by omega), Bool.and_false])
      · have hyes : okE (fitp a z) (vP a) U l k = true := by
          unfold okE
          rw [hok, decide_eq_true (by omega)]
          rfl
        have hnx : nxt (fitp a z) (vP a) U l = k := first_eq hk3 hyes hno
        rw [if_neg (show ¬ nI (En (fitp a z) (vP a) (U ||| 2 ^ k) k) ≤ (0 : Int32) from show ¬ nI _ ≤ nI 0 by rw [nI_leI (by omega) (by decide)]; omega), hnx]
        exact ⟨rfl, hk3, hyes⟩
    rw [F_X7_nextInOrder_b2, x_i153_0 X, Option.bind_some, h0, if_neg (by rw [nI_leI (by omega) (by omega)]; omega), hsh]
    unfold F_X7_nextInOrder_b23
    rw [hn1]
    cases q : U.testBit k
    · rw [if_neg (show ¬ ¬ bI false = (0 : Int32) by decide), if_neg (show ¬ (1 : Int32) = 0 by decide)]
      rcases hl with hl | hl
      · have hlI : lI l = nI l := if_neg (by omega)
        have hneg : ¬ lI l = (-1 : Int32) := by
          rw [hlI]
          show ¬ nI l = -nI 1
          rw [nI_m1e (by omega)]
          exact id
        have hok : ok1 (fitp a z) U l k = fitp a z l k := by
          unfold ok1 fz
          rw [q, decide_eq_false (by omega)]
          rfl
        rw [if_neg hneg, x_rc153 X, Option.bind_some]
        have hft := k_fit X W h9 h1 hz hl hk3
        rw [← hlI] at hft
        rw [hft, Option.bind_some]
        cases qf : fitp a z l k
        · rw [if_pos (show bI false = (0 : Int32) by decide)]
          exact hskip (by unfold okE; rw [hok, qf]; rfl)
        · rw [if_neg (show ¬ bI true = (0 : Int32) by decide)]
          exact h44 (by rw [hok, qf])
      · rw [if_pos (show lI l = (-1 : Int32) by rw [hl]; rfl)]
        exact h44 (by unfold ok1 fz; rw [q, hl]; rfl)
    · rw [if_pos (show ¬ bI true = (0 : Int32) by decide), if_pos (show (0 : Int32) = 0 from rfl)]
      exact hskip (by unfold okE ok1; rw [q]; rfl)
theorem ok_ex {F : Nat → Nat → Bool} {P U l : Nat} (hpc : pc U P < P) (h : 0 < En F P U l) : ∃ r, r < P ∧ okE F P U l r = true := by
  rw [En_s hpc] at h
  apply Classical.byContradiction
  intro hn
  have : smr (fun p => if ok1 F U l p then En F P (U ||| 2 ^ p) p else 0) P 0 = 0 := (smr_0 P 0).mpr (fun q _ hq => by
    show (if ok1 F U l q then _ else 0) = 0
    by_cases c : ok1 F U l q = true
    · rw [if_pos c]
      apply Classical.byContradiction
      intro h2
      apply hn
      refine ⟨q, by omega, ?_⟩
      unfold okE
      rw [c, decide_eq_true (by omega)]
      rfl
    · rw [if_neg c])
  omega
theorem k_ifo_l (X : Fx g) (W : WA a D) (h0 : tI t 153 0 = nI (vP a)) (h9 : ∀ p, p < vP a → tA t 154 p = nI (heard a p)) {z i : Nat} (h1 : tI t 153 1 = nI z) (hz : z < 2 ^ 31) (hi : i < vP a) (h5 : ∀ Y, 0 < Y → Y < 2 ^ vP a → ∀ q, q < vP a → tA t 155 (Y * 6 + q) = nI (En (fitp a z) (vP a) Y q)) : ∀ (d k fuel U l : Nat), k + d = i + 1 → d < fuel → U < 2 ^ vP a → pc U (vP a) = k → (l < vP a ∨ l = 6) → 0 < En (fitp a z) (vP a) U l → F_X7_inFirstOrder_b24 fuel 153 (nI i) (nI U) (lI l) (nI k) (Em g t) = some (if d = 0 then lI l else nI (itr (fitp a z) (vP a) (d - 1) U l), Em g t) := by
  have hP := wP2 W
  intro d
  induction d with
  | zero =>
    intro k fuel U l hk hf hU hpc hl hE
    obtain ⟨f, rfl⟩ : ∃ f, fuel = f + 1 := ⟨fuel - 1, by omega⟩
    rw [F_X7_inFirstOrder_b24, if_pos (by rw [nI_ltI (by omega) (by omega)]; omega), if_pos rfl]
  | succ d ih =>
    intro k fuel U l hk hf hU hpc hl hE
    obtain ⟨f, rfl⟩ : ∃ f, fuel = f + 1 := ⟨fuel - 1, by omega⟩
    have hfp : vP a < FU := by show vP a < 1000000; omega
    obtain ⟨e1, hlt, hok⟩ := k_nio_l (t := t) X W h0 h9 h1 hz hU hl h5 (vP a) 0 FU (by omega) hfp (fun r hr => absurd hr (by omega)) (ok_ex (by omega) hE)
    have e1' : F_X7_nextInOrder 153 (nI U) (lI l) (Em g t) = some (nI (nxt (fitp a z) (vP a) U l), Em g t) := e1
    have hbit : U.testBit (nxt (fitp a z) (vP a) U l) = false := by
      unfold okE ok1 at hok
      rw [Bool.and_eq_true, Bool.and_eq_true, Bool.not_eq_true'] at hok
      exact hok.1.1
    have hE2 : 0 < En (fitp a z) (vP a) (U ||| 2 ^ nxt (fitp a z) (vP a) U l) (nxt (fitp a z) (vP a) U l) := by
      unfold okE at hok
      rw [Bool.and_eq_true, decide_eq_true_eq] at hok
      exact hok.2
    have hneg : ¬ nI (nxt (fitp a z) (vP a) U l) = (-1 : Int32) := by
      show ¬ nI (nxt (fitp a z) (vP a) U l) = -nI 1
      rw [nI_m1e (by omega)]
      exact id
    have hi2 := ih (k + 1) f (U ||| 2 ^ nxt (fitp a z) (vP a) U l) (nxt (fitp a z) (vP a) U l) (by omega) (by omega) (Nat.or_lt_two_pow hU (Nat.pow_lt_pow_right (by decide) hlt)) (by rw [pc_set hbit, hpc, if_pos hlt]) (Or.inl hlt) hE2
    rw [show lI (nxt (fitp a z) (vP a) U l) = nI (nxt (fitp a z) (vP a) U l) from if_neg (by omega)] at hi2
    rw [F_X7_inFirstOrder_b24, if_neg (by rw [nI_ltI (by omega) (by omega)]; omega), x_rc153 X, Option.bind_some, e1', Option.bind_some, if_pos hneg, show (1 : Int32) <<< (nI (nxt (fitp a z) (vP a) U l) &&& 31) = nI (2 ^ nxt (fitp a z) (vP a) U l) from v_pow (by omega), fa_or, show nI k + 1 = nI (k + 1) from nI_add k 1, hi2, if_neg (Nat.succ_ne_zero d), Nat.add_sub_cancel]
    cases d with
    | zero => rw [if_pos rfl, itr]
    | succ d => rw [if_neg (Nat.succ_ne_zero d), Nat.add_sub_cancel, itr]
theorem pc_0 : ∀ k, pc 0 k = 0
  | 0 => rfl
  | k + 1 => by rw [pc, pc_0 k]; simp
theorem r_rows (X : Fx g) (W : WA a D) (ha : tA t 184 = a) {z : Nat} (hz : z < 2 ^ 31) : ∃ t', F_X12_laysRows 183 (nI z) (Em g t) = some (nI (En (fitp a z) (vP a) 0 6), Em g t') ∧ Sm g t t' ∧ (0 < En (fitp a z) (vP a) 0 6 → ∀ j, j < vP a → tA t' 195 j = nI (itr (fitp a z) (vP a) j 0 6)) := by
  have hP := wP2 W
  have hle := En_le (F := fitp a z) (P := vP a) (U := 0) (l := 6) hP
  obtain ⟨t1, e1, s1, k1⟩ := r_hears (t := t) X W ha
  have s2 : Sm g t (wi t1 183 26 (nI 0)) := Sm_wi rfl s1
  obtain ⟨t2, e2, ⟨s3, _, _⟩, c2, _, f2⟩ := r_row X W hz (vP a) 0 100 (wi t1 183 26 (nI 0)) 0 (fun _ => 0) 0 (by omega) (by omega) (Nat.two_pow_pos _) (pc_0 _) (fun j hj => absurd hj (by omega)) (by rw [Sm_a X s2]; exact ha) (fun p hp => k1 p hp) (fun j hj => absurd hj (by omega)) tI_is (by show 0 + En (fitp a z) (vP a) 0 6 < 2 ^ 30; omega)
  rw [Nat.zero_add] at c2
  refine ⟨t2, ?_, Sm_t s2 s3, fun h j hj => ?_⟩
  · have e2' : C_X12_goesRow 100 183 0 0 (nI z) (Em g (wi t1 183 26 (nI 0))) = some ((), Em g t2) := e2
    unfold F_X12_laysRows
    rw [x_rc183 X, Option.bind_some, e1, Option.bind_some, show wI (Em g t1) 183 11 26 0 = some (Em g (wi t1 183 26 (nI 0))) from x_w183_26 X, Option.bind_some, x_rc183 X, Option.bind_some, e2', Option.bind_some, x_i183_26 X, Option.bind_some, c2]
    rfl
  · have := (f2 rfl h).2 j (by omega)
    rw [Nat.zero_add] at this
    exact this
theorem ok_rows {n : Nat} (I : IV g t v a D n nx) (hD : D + 100 < 2 ^ 30) (x : Int32) : Okc (F_X11_rows 69 x) (F_X12_rows 183 x) g t D := by
  have X := I.1
  have C := I.2.2.1
  have W := C.1
  have V := C.2.1
  have hP := wP2 W
  have hN := wN3 W
  have hw0 : ∀ t, wI (Em g t) 183 11 0 0 = some (Em g (wi t 183 0 (nI 0))) := fun t => x_w183_0 X
  rcases oks_c x (vN a) (by omega) with hx | ⟨hx, z, hz, rfl⟩
  · refine ok_0 (r := -nI 3) (t1 := t) (t2 := wi t 183 0 (nI 0)) I hD ?_ ?_ Sm_r (Sm_wi (a := 183) (k := 0) rfl Sm_r)
    · unfold F_X11_rows
      rw [c_r69 X C.2.2.2.1, Option.bind_some, v_rc V, Option.bind_some, k_isNotes V C, Option.bind_some, hx, if_neg (show ¬ ¬ bI false = (0 : Int32) by decide)]
      rfl
    · unfold F_X12_rows
      rw [hw0, Option.bind_some, x_rc183 X, Option.bind_some, q_isNotes (t := wi t 183 0 (nI 0)) X W I.2.1, Option.bind_some, hx, if_pos (show bI false = (0 : Int32) by decide)]
      rfl
  · have hz31 := p_31 hz (by omega)
    obtain ⟨t1, e1, s1, g0, g1, g9⟩ := k_tg X C (nI z)
    obtain ⟨t2, e2, j2, _⟩ := k_ord (t := t1) X W g0 g1 hz31 g9
    have s2 : Sm g t t2 := Sm_t s1 (Ax_m (sc_f rfl) j2)
    have s2' : Sm g t (wi t2 183 0 (nI 0)) := Sm_wi rfl s2
    obtain ⟨t3, e3, s3, _⟩ := r_rows (t := wi t2 183 0 (nI 0)) X W (by rw [Sm_a X s2']; exact I.2.1) hz31
    refine ok_0 (r := nI (En (fitp a z) (vP a) 0 6)) (t1 := t2) (t2 := t3) I hD ?_ ?_ s2 (Sm_t (Sm_wi (a := 183) (k := 0) rfl Sm_r) s3)
    · unfold F_X11_rows
      rw [c_r69 X C.2.2.2.1, Option.bind_some, v_rc V, Option.bind_some, k_isNotes V C, Option.bind_some, hx, if_pos (show ¬ bI true = (0 : Int32) by decide), x_r69_9 X, Option.bind_some, c_r69 X C.2.2.2.1, Option.bind_some, x_r69_2 X, Option.bind_some, x_rc153 X, Option.bind_some, e1, Option.bind_some, x_r69_9 X, Option.bind_some, x_rc153 X, Option.bind_some, e2, Option.bind_some]
    · unfold F_X12_rows
      rw [hw0, Option.bind_some, x_rc183 X, Option.bind_some, q_isNotes X W (by rw [Sm_a X s2']; exact I.2.1), Option.bind_some, hx, if_neg (show ¬ bI true = (0 : Int32) by decide), x_rc183 X, Option.bind_some, e3, Option.bind_some]
theorem ok_row {n : Nat} (I : IV g t v a D n nx) (hD : D + 100 < 2 ^ 30) (x y : Int32) : Okc (F_X11_row 69 x y) (F_X12_row 183 x y) g t D := by
  have X := I.1
  have C := I.2.2.1
  have W := C.1
  have V := C.2.1
  have hP := wP2 W
  have hN := wN3 W
  have hw0 : ∀ t, wI (Em g t) 183 11 0 0 = some (Em g (wi t 183 0 (nI 0))) := fun t => x_w183_0 X
  have bt : ¬ bI true = (0 : Int32) := by decide
  have bf2 : bI false = (0 : Int32) := by decide
  rcases oks_c x (vN a) (by omega) with hx | ⟨hx, z, hz, rfl⟩
  · refine ok_0 (r := -nI 3) (t1 := t) (t2 := wi t 183 0 (nI 0)) I hD ?_ ?_ Sm_r (Sm_wi (a := 183) (k := 0) rfl Sm_r)
    · unfold F_X11_row
      rw [c_r69 X C.2.2.2.1, Option.bind_some, v_rc V, Option.bind_some, k_isNotes V C, Option.bind_some, hx, if_pos bf2]
      rfl
    · unfold F_X12_row
      rw [hw0, Option.bind_some, x_rc183 X, Option.bind_some, q_isNotes (t := wi t 183 0 (nI 0)) X W I.2.1, Option.bind_some, hx, if_pos bf2]
      rfl
  have hz31 := p_31 hz (by omega)
  rcases nn_c y with hy | ⟨hy, i, hi31, rfl⟩
  · refine ok_0 (r := -nI 3) (t1 := t) (t2 := wi t 183 0 (nI 0)) I hD ?_ ?_ Sm_r (Sm_wi (a := 183) (k := 0) rfl Sm_r)
    · unfold F_X11_row
      rw [c_r69 X C.2.2.2.1, Option.bind_some, v_rc V, Option.bind_some, k_isNotes V C, Option.bind_some, hx, if_neg bt, if_neg (show ¬ (0 : Int32) ≤ y from hy)]
      rfl
    · unfold F_X12_row
      rw [hw0, Option.bind_some, x_rc183 X, Option.bind_some, q_isNotes (t := wi t 183 0 (nI 0)) X W I.2.1, Option.bind_some, hx, if_neg bt, if_neg (show ¬ (0 : Int32) ≤ y from hy)]
      rfl
  obtain ⟨t1, e1, s1, g0, g1, g9⟩ := k_tg X C (nI z)
  have chead : F_X11_row 69 (nI z) (nI i) (Em g t) = (F_X7_inFirstOrder 153 (nI i) (Em g t1)).bind fun z39 => some (z39.1, z39.2) := by
    unfold F_X11_row
    rw [c_r69 X C.2.2.2.1, Option.bind_some, v_rc V, Option.bind_some, k_isNotes V C, Option.bind_some, hx, if_neg bt, if_pos (show (0 : Int32) ≤ nI i from hy), x_r69_9 X, Option.bind_some, c_r69 X C.2.2.2.1, Option.bind_some, x_r69_2 X, Option.bind_some, x_rc153 X, Option.bind_some, e1, Option.bind_some, x_r69_9 X, Option.bind_some, x_rc153 X, Option.bind_some]
  have rf : ∀ t2, Sm g t t2 → ∃ t3, F_X12_row 183 (nI z) (nI i) (Em g t2) = some (if En (fitp a z) (vP a) 0 6 = 0 ∨ vP a ≤ i then -nI 1 else nI (itr (fitp a z) (vP a) i 0 6), Em g t3) ∧ Sm g t2 t3 := by
    intro t2 s2
    have s2' : Sm g t (wi t2 183 0 (nI 0)) := Sm_wi rfl s2
    have ha2 : tA (wi t2 183 0 (nI 0)) 184 = a := by rw [Sm_a X s2']; exact I.2.1
    obtain ⟨t3, e3, s3, f3⟩ := r_rows (t := wi t2 183 0 (nI 0)) X W ha2 hz31
    have hle := En_le (F := fitp a z) (P := vP a) (U := 0) (l := 6) hP
    have ha4 : aI (Em g t3) 184 4 = some (nI (vP a)) := by
      have : aI (Em g t3) 184 4 = some (tA t3 184 4) := x_a184 X (k := 4) (by decide)
      rw [this, Sm_a X s3, ha2, wP W]
    refine ⟨t3, ?_, Sm_t (Sm_wi (a := 183) (k := 0) rfl Sm_r) s3⟩
    unfold F_X12_row
    rw [hw0, Option.bind_some, x_rc183 X, Option.bind_some, q_isNotes X W ha2, Option.bind_some, hx, if_neg bt, if_pos (show (0 : Int32) ≤ nI i from hy), x_rc183 X, Option.bind_some, e3, Option.bind_some]
    by_cases c1 : En (fitp a z) (vP a) 0 6 = 0
    · rw [if_pos (show nI (En (fitp a z) (vP a) 0 6) ≤ (0 : Int32) by rw [c1]; decide), if_pos (Or.inl c1)]
      rfl
    · rw [if_neg (show ¬ nI (En (fitp a z) (vP a) 0 6) ≤ (0 : Int32) from show ¬ nI _ ≤ nI 0 by rw [nI_leI (by omega) (by decide)]; omega), x_r183_1 X, Option.bind_some, ha4, Option.bind_some]
      by_cases c2 : vP a ≤ i
      · rw [if_pos (by rw [nI_leI (by omega) hi31]; exact c2), if_pos (Or.inr c2)]
        rfl
      · rw [if_neg (by rw [nI_leI (by omega) hi31]; exact c2), if_neg (by omega), x_r183_25 X, Option.bind_some, x_a195 X (by omega), Option.bind_some, f3 (by omega) i (by omega)]
  by_cases c2 : vP a ≤ i
  · obtain ⟨t3, e3, s3⟩ := rf t1 s1
    rw [if_pos (Or.inr c2)] at e3
    refine ok_0 (r := -nI 1) (t1 := t1) (t2 := t3) I hD ?_ e3 s1 s3
    rw [chead]
    unfold F_X7_inFirstOrder
    rw [x_i153_0 X, Option.bind_some, g0, if_pos (by rw [nI_leI (by omega) hi31]; exact c2)]
    rfl
  · obtain ⟨t2, e2, j2, k2⟩ := k_ord (t := t1) X W g0 g1 hz31 g9
    have s2 : Sm g t t2 := Sm_t s1 (Ax_m (sc_f rfl) j2)
    obtain ⟨t3, e3, s3⟩ := rf t2 s2
    have hle := En_le (F := fitp a z) (P := vP a) (U := 0) (l := 6) hP
    by_cases c1 : En (fitp a z) (vP a) 0 6 = 0
    · rw [if_pos (Or.inl c1)] at e3
      refine ok_0 (r := -nI 1) (t1 := t2) (t2 := t3) I hD ?_ e3 s2 s3
      rw [chead]
      unfold F_X7_inFirstOrder
      rw [x_i153_0 X, Option.bind_some, g0, if_neg (by rw [nI_leI (by omega) hi31]; exact c2), x_rc153 X, Option.bind_some, e2, Option.bind_some, c1, if_neg (show ¬ ¬ nI 0 = (0 : Int32) from fun q => q rfl)]
      rfl
    · rw [if_neg (by omega)] at e3
      have hfu : i + 1 < FU := by show i + 1 < 1000000; omega
      have hl := k_ifo_l (t := t2) X W (by rw [j2.1]; exact g0) (fun p hp => by rw [j2.2.1 154 (by decide)]; exact g9 p hp) (by rw [j2.1]; exact g1) hz31 (show i < vP a by omega) k2 (i + 1) 0 FU 0 6 (by omega) hfu (Nat.two_pow_pos _) (pc_0 _) (Or.inr rfl) (by omega)
      rw [if_neg (Nat.succ_ne_zero i), Nat.add_sub_cancel] at hl
      refine ok_0 (r := nI (itr (fitp a z) (vP a) i 0 6)) (t1 := t2) (t2 := t3) I hD ?_ e3 s2 s3
      have hl' : F_X7_inFirstOrder_b24 FU 153 (nI i) 0 (-1) 0 (Em g t2) = some (nI (itr (fitp a z) (vP a) i 0 6), Em g t2) := hl
      rw [chead]
      unfold F_X7_inFirstOrder
      rw [x_i153_0 X, Option.bind_some, g0, if_neg (by rw [nI_leI (by omega) hi31]; exact c2), x_rc153 X, Option.bind_some, e2, Option.bind_some, if_pos (show ¬ nI (En (fitp a z) (vP a) 0 6) = (0 : Int32) from show ¬ nI _ = nI 0 by rw [nI_eq (by omega) (by decide)]; exact c1), hl', Option.bind_some]
end XRx
