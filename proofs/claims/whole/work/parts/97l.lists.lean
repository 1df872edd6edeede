/-! ===== calls: lists ===== -/
theorem cut_small {s k : Nat} (hk : k < 100) : cutf s (nI k).toInt64 = lN k := by
  have key : ∀ k, k < 100 → (nI k).toInt64 = lN k ∧ (lN k).toInt32.toInt8.toInt32.toInt64 = lN k ∧ (lN k).toInt32.toInt16.toInt32.toInt64 = lN k ∧ (lN k).toInt32.toInt64 = lN k := by decide +kernel
  obtain ⟨h1, h2, h3, h4⟩ := key k hk
  unfold cutf
  rw [h1, h2, h3, h4]
  repeat' split
  all_goals rfl
section XLs
variable {g : Sk} {t : Tb} {a : Nat → Int32}
variable {D v x nx p : Nat} {t' t'' t1 t2 : Tb}
theorem k_ls_l (X : Fx g) {T s cnt len : Nat} {f : Nat → Nat} (Y : TyS g T) (hT : T + 1 ≠ 161 ∧ T ≠ 157) (hs : s < 4) (hc : cnt ≤ len) (hlen : len ≤ 10) (hf9 : ∀ j, j < len → f j < 100) : ∀ (d k fuel : Nat) (t : Tb), k + d = cnt → d < fuel → tI t T 2 = nI s → tI t 157 1 = nI len → (∀ j, j < len → tA t 158 j = nI (f j)) → ∃ t', F_X11_lists_b79 fuel 69 T (nI cnt) (nI k) (Em g t) = some (nI cnt, Em g t') ∧ Jx (T + 1) t t' ∧ (∀ j, k ≤ j → j < cnt → tJ t' (T + 1) j = lN (f j)) ∧ (∀ j, j < k ∨ cnt ≤ j → tJ t' (T + 1) j = tJ t (T + 1) j) := by
  intro d
  induction d with
  | zero =>
    intro k fuel t hk hf h2 h1 h8
    obtain ⟨f2, rfl⟩ : ∃ f, fuel = f + 1 := ⟨fuel - 1, by omega⟩
    have hk : k = cnt := by omega
    subst hk
    refine ⟨t, ?_, Jx_r, fun j q1 q2 => absurd q1 (by omega), fun _ _ => rfl⟩
    rw [F_X11_lists_b79, if_pos (by rw [nI_leI (by omega) (by omega)]; exact Nat.le_refl _)]
  | succ d ih =>
    intro k fuel t hk hf h2 h1 h8
    obtain ⟨f2, rfl⟩ : ∃ f, fuel = f + 1 := ⟨fuel - 1, by omega⟩
    have hna := k_noteAt (t := t) (j := k) X hlen (by omega) h1 h8
    rw [if_pos (by omega)] at hna
    have hp := k_put (t := t) Y hs h2 (show k < 40 by omega) (nI (f k)).toInt64
    rw [cut_small (hf9 k (by omega))] at hp
    have y4 : ∀ t, rc (Em g t) T 7 = some () := fun t => y_rc Y.2.1 Y.1 (by decide)
    obtain ⟨t2, e2, j2, k2, k3⟩ := ih (k + 1) f2 (wj t (T + 1) k (lN (f k))) (by omega) (by omega) h2 h1 h8
    refine ⟨t2, ?_, Jx_t (Jx_wj Jx_r) j2, fun j q1 q2 => ?_, fun j hj => by rw [k3 j (by omega), tJ_js, pk_uLn (by omega)]⟩
    · rw [F_X11_lists_b79, if_neg (by rw [nI_leI (by omega) (by omega)]; omega), x_r69_10 X, Option.bind_some, x_rc157 X, Option.bind_some, hna, Option.bind_some, y4, Option.bind_some, hp, Option.bind_some, show nI k + 1 = nI (k + 1) from nI_add k 1]
      exact e2
    · by_cases e : j = k
      · rw [e, k3 k (by omega), tJ_js, pk_uLs]
      · exact k2 j (by omega) q2
theorem r_ls_l (X : Fx g) {i cnt len : Nat} {f : Nat → Nat} (hi : i < 4) (hc : cnt ≤ len) (hlen : len ≤ 10) (hf9 : ∀ j, j < len → f j < 100) : ∀ (d k fuel : Nat) (t : Tb), k + d = cnt → d < fuel → (∀ j, j < len → tA t 198 j = nI (f j)) → ∃ t', F_X12_lists_b62 fuel 183 (nI i) (nI cnt) (nI k) (Em g t) = some (nI cnt, Em g t') ∧ Jx 204 t t' ∧ (∀ j, k ≤ j → j < cnt → tJ t' 204 (40 * i + j) = lN (f j)) ∧ (∀ q, q < 40 * i + k ∨ 40 * i + cnt ≤ q → tJ t' 204 q = tJ t 204 q) := by
  intro d
  induction d with
  | zero =>
    intro k fuel t hk hf h8
    obtain ⟨f2, rfl⟩ : ∃ f, fuel = f + 1 := ⟨fuel - 1, by omega⟩
    have hk : k = cnt := by omega
    subst hk
    refine ⟨t, ?_, Jx_r, fun j q1 q2 => absurd q1 (by omega), fun _ _ => rfl⟩
    rw [F_X12_lists_b62, if_pos (by rw [nI_leI (by omega) (by omega)]; exact Nat.le_refl _)]
  | succ d ih =>
    intro k fuel t hk hf h8
    obtain ⟨f2, rfl⟩ : ∃ f, fuel = f + 1 := ⟨fuel - 1, by omega⟩
    have hwide : (nI (f k)).toInt64 = lN (f k) := nI_l (by have := hf9 k (by omega); omega)
    obtain ⟨t2, e2, j2, k2, k3⟩ := ih (k + 1) f2 (wj t 204 (40 * i + k) (lN (f k))) (by omega) (by omega) h8
    refine ⟨t2, ?_, Jx_t (Jx_wj Jx_r) j2, fun j q1 q2 => ?_, fun q hq => by rw [k3 q (by omega), tJ_js, pk_uLn (by omega)]⟩
    · rw [F_X12_lists_b62, if_neg (by rw [nI_leI (by omega) (by omega)]; omega), x_r183_36 X, Option.bind_some, x_r183_29 X, Option.bind_some, x_a198 X (by omega), Option.bind_some, h8 k (by omega), hwide, show (40 : Int32) * nI i + nI k = nI (40 * i + k) by rw [show (40 : Int32) * nI i = nI (40 * i) from nI_mulN 40 i, nI_add], x_s204 X (by omega), Option.bind_some, show nI k + 1 = nI (k + 1) from nI_add k 1]
      exact e2
    · by_cases e : j = k
      · rw [e, k3 _ (by omega), tJ_js, pk_uLs]
      · exact k2 j (by omega) q2
theorem lpk_lt {N : Nat} {nx : Nat → Nat → Bool} : ∀ (j U l r : Nat), U < 2 ^ N → Mx N nx U l = r → j < r → lpk N nx j U l r < N
  | 0, U, l, r, hU, hr, h => by
    rw [lpk]
    exact (lfs_p hU hr h).1
  | j + 1, U, l, r, hU, hr, h => by
    obtain ⟨f1, f2, _⟩ := lfs_p hU hr (by omega)
    have hM2 : Mx N nx (U ||| 2 ^ lfs N nx U l r) (lfs N nx U l r) = r - 1 := by
      unfold lok at f2
      rw [Bool.and_eq_true, decide_eq_true_eq] at f2
      omega
    rw [lpk]
    exact lpk_lt j _ _ (r - 1) (Nat.or_lt_two_pow hU (Nat.pow_lt_pow_right (by decide) f1)) hM2 (by omega)
theorem ok_lists {n : Nat} (I : IV g t v a D n nx) (hD : D + 100 < 2 ^ 30) (x y : Int32) : Okc (F_X11_lists 69 x y) (F_X12_lists 183 x y) g t D := by
  have X := I.1
  have C := I.2.2.1
  have W := C.1
  have V := C.2.1
  have hP := wP2 W
  have hN := wN3 W
  have hw0 : ∀ t, wI (Em g t) 183 11 0 0 = some (Em g (wi t 183 0 (nI 0))) := fun t => x_w183_0 X
  have bt : ¬ bI true = (0 : Int32) := by decide
  have bf : ¬ ¬ bI false = (0 : Int32) := by decide
  rcases okx_c x 4 (by decide) with hx | ⟨hx, i, hi, rfl⟩
  · refine ok_0 (r := -nI 2) (t1 := t) (t2 := wi t 183 0 (nI 0)) I hD ?_ ?_ Sm_r (Sm_wi (a := 183) (k := 0) rfl Sm_r)
    · unfold F_X11_lists
      rw [x_rc69 X, Option.bind_some, k_trayAt X, Option.bind_some, hx]
      rfl
    · unfold F_X12_lists
      rw [hw0, Option.bind_some, x_rc183 X, Option.bind_some, r_noTray X, Option.bind_some, hx, ifb_f, if_neg (show ¬ -nI 2 = (0 : Int32) by decide)]
  have Y := TyS_x X hi
  have y1 : ∀ t, fI (Em g t) (167 + 2 * i) 7 1 = some (tI t (167 + 2 * i) 1) := fun t => y_fI Y.2.1 (by omega) (by decide) rfl
  rcases Tr_s I.2.2.2.2.1 hi with q | ⟨sr, m, hne, hsr, hm, q1, q2, q3⟩
  · refine ok_0 (r := -nI 6) (t1 := t) (t2 := wi t 183 0 (nI 0)) I hD ?_ ?_ Sm_r (Sm_wi (a := 183) (k := 0) rfl Sm_r)
    · have h2 : ¬ (0 : Int32) ≤ -nI 1 := by decide
      unfold F_X11_lists
      rw [x_rc69 X, Option.bind_some, k_trayAt X, Option.bind_some, hx, tn_n (by omega)]
      simp only [if_true]
      rw [y1, Option.bind_some, q.2, if_neg h2]
      rfl
    · have e : tA (wi t 183 0 (nI 0)) 202 i = -nI 1 := q.1
      unfold F_X12_lists
      rw [hw0, Option.bind_some, x_rc183 X, Option.bind_some, r_noTray X, Option.bind_some, hx, tn_n (by omega), ifb_t, if_pos e, if_neg (show ¬ -nI 6 = (0 : Int32) by decide)]
  have h20 : (0 : Int32) ≤ nI m := show nI 0 ≤ nI m by rw [nI_leI (by decide) (by omega)]; omega
  rcases oks_c y (vP a) (by omega) with hy | ⟨hy, s, hs, rfl⟩
  · refine ok_0 (r := -nI 3) (t1 := t) (t2 := wi t 183 0 (nI 0)) I hD ?_ ?_ Sm_r (Sm_wi (a := 183) (k := 0) rfl Sm_r)
    · unfold F_X11_lists
      rw [x_rc69 X, Option.bind_some, k_trayAt X, Option.bind_some, hx, tn_n (by omega)]
      simp only [if_true]
      rw [y1, Option.bind_some, q2.2, if_pos h20, c_r69 X C.2.2.2.1, Option.bind_some, v_rc V, Option.bind_some, k_isPeople V C, Option.bind_some, hy, if_neg bf]
      rfl
    · have e : ¬ tA (wi t 183 0 (nI 0)) 202 i = -nI 1 := hne
      unfold F_X12_lists
      rw [hw0, Option.bind_some, x_rc183 X, Option.bind_some, r_noTray X, Option.bind_some, hx, tn_n (by omega), ifb_t, if_neg e, if_pos (show nI 0 = (0 : Int32) from rfl), x_rc183 X, Option.bind_some, q_isPeople (t := wi t 183 0 (nI 0)) X W I.2.1, Option.bind_some, hy, if_neg bf]
      rfl
  have hs31 := p_31 hs (by omega)
  obtain ⟨t1, e1, s1⟩ := k_heardByAll X V C hs31
  obtain ⟨t2, e2, s2, k1, k2⟩ := k_long (t := t1) X V (CP_s X C s1) (A := mk (hall a s (vP a)) (vN a)) (mk_lt _ _)
  have s12 : Sm g t t2 := Sm_t s1 s2
  have hML := Mx_le (N := vN a) (nx := fnx a (mk (hall a s (vP a)) (vN a))) (U := 0) (l := 10)
  have hpl := fun j => lpk_lt (N := vN a) (nx := fnx a (mk (hall a s (vP a)) (vN a))) j 0 10 _ (Nat.two_pow_pos _) rfl
  have rl := fun t3 (ha3 : tA t3 184 = a) => r_long (t := t3) X W ha3 hs31
  generalize hL : Mx (vN a) (fnx a (mk (hall a s (vP a)) (vN a))) 0 10 = len at *
  have hT2 : tI t2 (167 + 2 * i) 2 = nI sr := by rw [s12.1 _ 2 (sI_f (by omega))]; exact q1.2
  have hT1 : tI t2 (167 + 2 * i) 1 = nI m := by rw [s12.1 _ 1 (sI_f (by omega))]; exact q2.2
  have hcnt : ∀ h : xH, F_J9_min_7cf53 (nI len) (nI m) h = some (nI (if m < len then m else len), h) := fun h => by
    unfold F_J9_min_7cf53
    simp (disch := omega) only [nI_ltI]
    split <;> rfl
  have hcl : (if m < len then m else len) ≤ len ∧ (if m < len then m else len) ≤ m := by split <;> omega
  generalize hcd : (if m < len then m else len) = cnt at hcnt hcl
  have hfc : cnt < FU := by show cnt < 1000000; omega
  obtain ⟨t3, e3, j3, k3, k4⟩ := k_ls_l (T := 167 + 2 * i) (len := len) X Y (by omega) hsr hcl.1 (by omega) (fun j hj => by have := hpl j hj; omega) cnt 0 FU t2 (by omega) hfc hT2 k1 k2
  have ha3 : tA (wi t3 183 0 (nI 0)) 184 = a := by rw [tA_wi, j3.2.1, Sm_a X s12]; exact I.2.1
  obtain ⟨t4, e4, s4, k5⟩ := rl (wi t3 183 0 (nI 0)) ha3
  obtain ⟨t5, e5, j5, k6, k7⟩ := r_ls_l (len := len) X hi hcl.1 (by omega) (fun j hj => by have := hpl j hj; omega) cnt 0 FU t4 (by omega) hfc k5
  have hpt : ∀ b, (167 ≤ b ∧ b ≤ 174) ∨ (202 ≤ b ∧ b ≤ 204) → Pt b = true := fun b h => by unfold Pt; rw [decide_eq_true_eq]; exact h
  have sw : Sw Pt g t t5 := Sw_t (Sw_t (Sw_t (Sw_m s12) (Sw_j j3 (hpt _ (by omega)))) (Sw_t (Sw_wi Sw_r (Or.inr rfl)) (Sw_m s4))) (Sw_j j5 rfl)
  have nj : ∀ j, j < 4 → scJ (168 + 2 * j) = false := fun j hj => by
    unfold scJ
    simp only [List.contains_eq_mem, decide_eq_false_iff_not, List.mem_cons, List.not_mem_nil, or_false]
    omega
  have T5 : Tr t5 := by
    intro j hj
    have i1 : ∀ l, tI t5 (167 + 2 * j) l = tI t (167 + 2 * j) l := fun l => by
      rw [j5.1, s4.1 _ l (sI_f (by omega)), tI_ia (by omega), j3.1, s12.1 _ l (sI_f (by omega))]
    have a2 : tA t5 202 = tA t 202 := by rw [j5.2.1, s4.2.1 202 (sc_x X rfl), tA_wi, j3.2.1, s12.2.1 202 (sc_x X rfl)]
    have a3 : tA t5 203 = tA t 203 := by rw [j5.2.1, s4.2.1 203 (sc_x X rfl), tA_wi, j3.2.1, s12.2.1 203 (sc_x X rfl)]
    have b1 : tJ t5 (168 + 2 * j) = tJ t3 (168 + 2 * j) := by rw [j5.2.2 _ (by omega), s4.2.2 _ (nj j hj), tJ_wi]
    have b2 : ∀ q, tJ t4 204 q = tJ t 204 q := fun q => by rw [s4.2.2 204 rfl, tJ_wi, j3.2.2 204 (by omega), s12.2.2 204 rfl]
    rw [i1, i1, a2, a3, b1]
    by_cases e : j = i
    · subst e
      refine Or.inr ⟨sr, m, hsr, hm, q1, q2, fun l hl => ?_⟩
      rw [show 168 + 2 * j = 167 + 2 * j + 1 by omega]
      by_cases c : l < cnt
      · rw [k6 l (by omega) c, k3 l (by omega) c]
      · rw [k7 _ (by omega), b2, k4 l (by omega), show 167 + 2 * j + 1 = 168 + 2 * j by omega, s12.2.2 _ (nj j hj)]
        exact q3 l hl
    · rcases I.2.2.2.2.1 j hj with q | ⟨s', m', p1, p2, p3, p4, p5⟩
      · exact Or.inl q
      · refine Or.inr ⟨s', m', p1, p2, p3, p4, fun l hl => ?_⟩
        rw [k7 _ (by omega), b2, j3.2.2 _ (by omega), s12.2.2 _ (nj j hj)]
        exact p5 l hl
  refine ⟨nI cnt, g, t3, g, t5, v, a, n, nx, ?_, ?_, rfl, rfl, rfl, rfl, IV_m (by omega) hD (IV_tr I sw T5)⟩
  · unfold F_X11_lists
    rw [x_rc69 X, Option.bind_some, k_trayAt X, Option.bind_some, hx, tn_n (by omega)]
    simp only [if_true]
    rw [y1, Option.bind_some, q2.2, if_pos h20, c_r69 X C.2.2.2.1, Option.bind_some, v_rc V, Option.bind_some, k_isPeople V C, Option.bind_some, hy, if_pos bt, x_r69_10 X, Option.bind_some, c_r69 X C.2.2.2.1, Option.bind_some, Option.bind_some, x_r69_2 X, Option.bind_some, v_rc V, Option.bind_some, e1, Option.bind_some, x_rc157 X, Option.bind_some, e2, Option.bind_some, x_r69_10 X, Option.bind_some, x_i157_1 X, Option.bind_some, k1, y1, Option.bind_some, hT1, hcnt, Option.bind_some]
    exact e3
  · have h202 : tA (wi t3 183 0 (nI 0)) 202 i = tA t 202 i := by rw [tA_wi, j3.2.1, s12.2.1 202 (sc_x X rfl)]
    have h203 : tA t4 203 i = nI m := by rw [s4.2.1 203 (sc_x X rfl), tA_wi, j3.2.1, s12.2.1 203 (sc_x X rfl)]; exact q2.1
    have e5' : F_X12_lists_b57 183 (nI i) (nI cnt) (Em g t4) = some (nI cnt, Em g t5) := e5
    unfold F_X12_lists
    rw [hw0, Option.bind_some, x_rc183 X, Option.bind_some, r_noTray X, Option.bind_some, hx, tn_n (by omega), ifb_t, h202, if_neg hne, if_pos (show nI 0 = (0 : Int32) from rfl), x_rc183 X, Option.bind_some, q_isPeople X W ha3, Option.bind_some, hy, if_pos bt, x_rc183 X, Option.bind_some, e4, Option.bind_some, x_r183_35 X, Option.bind_some, x_a203 X hi, Option.bind_some, h203]
    by_cases c : m ≤ len
    · rw [if_pos (by rw [nI_leI (by omega) (by omega)]; exact c), Option.bind_some, x_a203 X hi, Option.bind_some, h203]
      have : m = cnt := by rw [← hcd]; split <;> omega
      rw [this]
      exact e5'
    · rw [if_neg (by rw [nI_leI (by omega) (by omega)]; exact c)]
      have : len = cnt := by rw [← hcd]; split <;> omega
      rw [this]
      exact e5'
end XLs
