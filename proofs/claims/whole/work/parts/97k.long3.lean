/-! ===== calls: longest, longNote, lists ===== -/
def alw (a : Nat → Int32) (A l : Nat) : Nat := if l = 10 then A else mk (fol a l) (vN a)
section XL3
variable {g : Sk} {t : Tb} {a : Nat → Int32}
variable {D v x nx p : Nat} {t' t'' t1 t2 : Tb}
theorem cand_bit (W : WA a D) {A U l r n : Nat} (hA : A < 2 ^ vN a) (hU : U < 2 ^ vN a) (hl : l < vN a ∨ l = 10) (hr : Mx (vN a) (fnx a A) U l = r) (h0 : 0 < r) : (alw a A l &&& bwn (bg A (vN a) (fol a)) U r (2 ^ vN a)).testBit n = true ↔ n < vN a ∧ lok (vN a) (fnx a A) U l r n = true := by
  have hN := wN3 W
  have hx : ∀ m n, m < vN a → fnx a A m n = (A.testBit n && fol a m n) := fun m n hm => r_may_f W hm
  have hxA : ∀ m n, fnx a A m n = true → A.testBit n = true := fun m n h => by
    unfold fnx at h
    rw [Bool.and_eq_true] at h
    exact h.1
  rw [Nat.testBit_and, Bool.and_eq_true, bwn_bit]
  constructor
  · rintro ⟨h1, S, h2, h3, h4, h5⟩
    obtain ⟨hn, _, hnA⟩ := bg_N hN h2 h5
    refine ⟨hn, (lok_bg hN hx hxA hU hr h0 hn).mpr ⟨?_, S, h2, h3, h4, h5⟩⟩
    unfold fnx
    rw [hnA, Bool.true_and]
    unfold alw at h1
    rcases hl with hl | hl
    · rw [if_neg (by omega), mk_bit, Bool.and_eq_true] at h1
      rw [h1.2, Bool.or_true]
    · rw [hl]
      rfl
  · rintro ⟨hn, h⟩
    obtain ⟨h1, S, h2, h3, h4, h5⟩ := (lok_bg hN hx hxA hU hr h0 hn).mp h
    refine ⟨?_, S, h2, h3, h4, h5⟩
    unfold fnx at h1
    rw [Bool.and_eq_true] at h1
    unfold alw
    rcases hl with hl | hl
    · rw [if_neg (by omega), mk_bit, decide_eq_true hn, Bool.true_and]
      have h6 := h1.2
      rw [decide_eq_false (by omega), Bool.false_or] at h6
      exact h6
    · rw [if_pos hl]
      exact h1.1
theorem k_path_l (X : Fx g) (V : VaS g v) {A len : Nat} (hA : A < 2 ^ vN a) (hlen : len ≤ 10) : ∀ (r x5 fuel : Nat) (t : Tb) (U l : Nat), CP g t v a D → x5 + r = len → r < fuel → U < 2 ^ vN a → (l < vN a ∨ l = 10) → Mx (vN a) (fnx a A) U l = r → tI t 157 1 = nI len → (∀ T, 0 < T → T < 2 ^ vN a → tA t 159 T = nI (bg A (vN a) (fol a) T)) → ∃ t', F_X5_findLongest_b79 fuel 157 v (nI U) (nI (alw a A l)) (nI x5) (Em g t) = some ((), Em g t') ∧ Sm g t t' ∧ tI t' 157 1 = nI len ∧ (∀ j, j < x5 → tA t' 158 j = tA t 158 j) ∧ (∀ j, j < r → tA t' 158 (x5 + j) = nI (lpk (vN a) (fnx a A) j U l r)) := by
  intro r
  induction r with
  | zero =>
    intro x5 fuel t U l C hx hf hU hl hr h1 h7
    obtain ⟨f, rfl⟩ : ∃ f, fuel = f + 1 := ⟨fuel - 1, by omega⟩
    refine ⟨t, ?_, Sm_r, h1, fun _ _ => rfl, fun j hj => absurd hj (by omega)⟩
    rw [F_X5_findLongest_b79, x_i157_1 X, Option.bind_some, h1, if_pos (by rw [nI_leI (by omega) (by omega)]; omega)]
  | succ r ih =>
    intro x5 fuel t U l C hx hf hU hl hr h1 h7
    have W := C.1
    have hN := wN3 W
    have h1k : 2 ^ vN a ≤ 1024 := Nat.pow_le_pow_right (n := 2) (by decide) hN
    have hpp := Nat.two_pow_pos (vN a)
    obtain ⟨f, rfl⟩ : ∃ f, fuel = f + 1 := ⟨fuel - 1, by omega⟩
    obtain ⟨f1, f2, f3⟩ := lfs_p hU hr (by omega)
    have hfu : 2 ^ vN a - 1 < FU := by show 2 ^ vN a - 1 < 1000000; omega
    have hbw := k_bw_l (t := t) (A := A) (U := U) (r := r + 1) (fo := fol a) X hN hU (by omega) h7 (2 ^ vN a - 1) 1 FU (by omega) (Nat.le_refl 1) hfu
    have hb1 : bwn (bg A (vN a) (fol a)) U (r + 1) 1 = 0 := by
      have hb0 : bg A (vN a) (fol a) 0 = 0 := by
        rw [bg_eq]
        unfold bgm
        rw [if_neg (fun q => q (Nat.le_zero.mp (an_leS 0 A))), if_pos (Nat.zero_and _)]
      rw [bwn, if_pos (Or.inl hb0)]
      rfl
    rw [hb1] at hbw
    have hbw' : F_X5_beginningsWithout 157 (nI U) (nI (r + 1)) (nI (vN a)) (Em g t) = some (nI (bwn (bg A (vN a) (fol a)) U (r + 1) (2 ^ vN a)), Em g t) := hbw
    have hcb := fun n => cand_bit (n := n) W hA hU hl hr (by omega)
    have halt : alw a A l < 2 ^ vN a := by
      unfold alw
      split
      · exact hA
      · exact mk_lt _ _
    have hcl : alw a A l &&& bwn (bg A (vN a) (fol a)) U (r + 1) (2 ^ vN a) ≤ alw a A l := Nat.and_le_left
    have hc0 : alw a A l &&& bwn (bg A (vN a) (fol a)) U (r + 1) (2 ^ vN a) ≠ 0 := nz_ex.mpr ⟨_, (hcb _).mpr ⟨f1, f2⟩⟩
    have hlw : lw (alw a A l &&& bwn (bg A (vN a) (fol a)) U (r + 1) (2 ^ vN a)) = lfs (vN a) (fnx a A) U l (r + 1) := first_eq (n := 10) (by omega) ((hcb _).mpr ⟨f1, f2⟩) (fun k hk => by
      cases q : (alw a A l &&& bwn (bg A (vN a) (fol a)) U (r + 1) (2 ^ vN a)).testBit k
      · rfl
      · have := ((hcb k).mp q).2
        rw [f3 k hk] at this
        cases this)
    have hM2 : Mx (vN a) (fnx a A) (U ||| 2 ^ lfs (vN a) (fnx a A) U l (r + 1)) (lfs (vN a) (fnx a A) U l (r + 1)) = r := by
      unfold lok at f2
      rw [Bool.and_eq_true, decide_eq_true_eq] at f2
      omega
    have s1 : Sm g t (wa t 158 x5 (nI (lfs (vN a) (fnx a A) U l (r + 1)))) := Sm_wa (sc_f rfl) Sm_r
    have C1 := CP_s X C s1
    obtain ⟨t2, e2, s2, k0, k1, k2⟩ := ih (x5 + 1) f (wa t 158 x5 (nI (lfs (vN a) (fnx a A) U l (r + 1)))) (U ||| 2 ^ lfs (vN a) (fnx a A) U l (r + 1)) (lfs (vN a) (fnx a A) U l (r + 1)) C1 (by omega) (by omega) (Nat.or_lt_two_pow hU (Nat.pow_lt_pow_right (by decide) f1)) (Or.inl f1) hM2 h1 (fun T q1 q2 => by rw [tA_an (by decide)]; exact h7 T q1 q2)
    refine ⟨t2, ?_, Sm_t s1 s2, k0, fun j hj => by rw [k1 j (by omega), tA_as, upd_n (by omega)], fun j hj => ?_⟩
    · have hrd : tA (wa t 158 x5 (nI (lfs (vN a) (fnx a A) U l (r + 1)))) 158 x5 = nI (lfs (vN a) (fnx a A) U l (r + 1)) := by rw [tA_as, upd_s]
      rw [F_X5_findLongest_b79, x_i157_1 X, Option.bind_some, h1, if_neg (by rw [nI_leI (by omega) (by omega)]; omega), Option.bind_some, v_i0 V, Option.bind_some, vN_ C, x_rc157 X, Option.bind_some, nI_sub (show x5 ≤ len by omega), show len - x5 = r + 1 by omega, hbw', Option.bind_some, fa_and, if_pos (show ¬ nI (alw a A l &&& bwn (bg A (vN a) (fol a)) U (r + 1) (2 ^ vN a)) = (0 : Int32) from show ¬ nI _ = nI 0 by rw [nI_eq (by omega) (by decide)]; exact hc0), x_r157_0 X, Option.bind_some, k_tz10 (by omega) hc0, Option.bind_some, hlw, x_s158 X (by omega), Option.bind_some, x_r157_0 X, Option.bind_some, x_a158 X (by omega), Option.bind_some, hrd, v_r10 V, Option.bind_some, Option.bind_some, x_a158 X (by omega), Option.bind_some, hrd, v_a6 V (by omega), Option.bind_some, vFl_ C1 f1, show (1 : Int32) <<< (nI (lfs (vN a) (fnx a A) U l (r + 1)) &&& 31) = nI (2 ^ lfs (vN a) (fnx a A) U l (r + 1)) from v_pow (by omega), fa_or, show nI x5 + 1 = nI (x5 + 1) from nI_add x5 1]
      have hal : alw a A (lfs (vN a) (fnx a A) U l (r + 1)) = mk (fun j => fol a (lfs (vN a) (fnx a A) U l (r + 1)) j) (vN a) := if_neg (by omega)
      rw [hal] at e2
      exact e2
    · cases j with
      | zero => rw [Nat.add_zero, k1 x5 (by omega), tA_as, upd_s, lpk]
      | succ j =>
        rw [show x5 + (j + 1) = x5 + 1 + j by omega, k2 j (by omega), lpk, Nat.add_sub_cancel]
theorem k_long (X : Fx g) (V : VaS g v) (C : CP g t v a D) {A : Nat} (hA : A < 2 ^ vN a) : ∃ t', F_X5_findLongest 157 v (nI A) (Em g t) = some ((), Em g t') ∧ Sm g t t' ∧ tI t' 157 1 = nI (Mx (vN a) (fnx a A) 0 10) ∧ (∀ j, j < Mx (vN a) (fnx a A) 0 10 → tA t' 158 j = nI (lpk (vN a) (fnx a A) j 0 10 (Mx (vN a) (fnx a A) 0 10))) := by
  have W := C.1
  have hN := wN3 W
  have h1k : 2 ^ vN a ≤ 1024 := Nat.pow_le_pow_right (n := 2) (by decide) hN
  have hpp := Nat.two_pow_pos (vN a)
  have hA31 := p_31 hA (by omega)
  have hfu : 2 ^ vN a - 1 < FU := by show 2 ^ vN a - 1 < 1000000; omega
  have s0 : Sm g t (wi t 157 1 (nI 0)) := Sm_wi rfl Sm_r
  have hl1 : lnn (bg A (vN a) (fol a)) 1 = 0 := by
    have hb0 : bg A (vN a) (fol a) 0 = 0 := by
      rw [bg_eq]
      unfold bgm
      rw [if_neg (fun q => q (Nat.le_zero.mp (an_leS 0 A))), if_pos (Nat.zero_and _)]
    rw [lnn, if_pos hb0]
    rfl
  obtain ⟨t1, e1, s1, k1, k2⟩ := k_fl_l (A := A) (a := a) (D := D) X V hA31 (2 ^ vN a - 1) 1 FU (wi t 157 1 (nI 0)) (CP_s X C s0) (by omega) (Nat.le_refl 1) hfu (by rw [tI_is, hl1]) (fun T q1 q2 => absurd q1 (by omega))
  rw [len_eq W] at k1
  have hML := Mx_le (N := vN a) (nx := fnx a A) (U := 0) (l := 10)
  have hfm : Mx (vN a) (fnx a A) 0 10 < FU := by show Mx (vN a) (fnx a A) 0 10 < 1000000; omega
  obtain ⟨t2, e2, s2, k3, _, k4⟩ := k_path_l (A := A) (len := Mx (vN a) (fnx a A) 0 10) (a := a) (D := D) X V hA (by omega) (Mx (vN a) (fnx a A) 0 10) 0 FU t1 0 10 (CP_s X C (Sm_t s0 s1)) (by omega) hfm hpp (Or.inr rfl) rfl k1 k2
  refine ⟨t2, ?_, Sm_t s0 (Sm_t s1 s2), k3, fun j hj => by have := k4 j hj; rw [Nat.zero_add] at this; exact this⟩
  unfold F_X5_findLongest
  rw [show wI (Em g t) 157 4 1 0 = some (Em g (wi t 157 1 (nI 0))) from x_w157_1 X, Option.bind_some]
  have hal : alw a A 10 = A := if_pos rfl
  rw [hal] at e2
  exact e1.trans e2
theorem ok_longest {n : Nat} (I : IV g t v a D n nx) (hD : D + 100 < 2 ^ 30) (x : Int32) : Okc (F_X11_longest 69 x) (F_X12_longest 183 x) g t D := by
  have X := I.1
  have C := I.2.2.1
  have W := C.1
  have V := C.2.1
  have hP := wP2 W
  have hN := wN3 W
  have hw0 : ∀ t, wI (Em g t) 183 11 0 0 = some (Em g (wi t 183 0 (nI 0))) := fun t => x_w183_0 X
  have bt : ¬ bI true = (0 : Int32) := by decide
  have bf : ¬ ¬ bI false = (0 : Int32) := by decide
  have bf2 : bI false = (0 : Int32) := by decide
  rcases oks_c x (vP a) (by omega) with hx | ⟨hx, s, hs, rfl⟩
  · refine ok_0 (r := -nI 3) (t1 := t) (t2 := wi t 183 0 (nI 0)) I hD ?_ ?_ Sm_r (Sm_wi (a := 183) (k := 0) rfl Sm_r)
    · unfold F_X11_longest
      rw [c_r69 X C.2.2.2.1, Option.bind_some, v_rc V, Option.bind_some, k_isPeople V C, Option.bind_some, hx, if_neg bf]
      rfl
    · unfold F_X12_longest
      rw [hw0, Option.bind_some, x_rc183 X, Option.bind_some, q_isPeople (t := wi t 183 0 (nI 0)) X W I.2.1, Option.bind_some, hx, if_pos bf2]
      rfl
  have hs31 := p_31 hs (by omega)
  obtain ⟨t1, e1, s1⟩ := k_heardByAll X V C hs31
  obtain ⟨t2, e2, s2, k1, k2⟩ := k_long (t := t1) X V (CP_s X C s1) (A := mk (hall a s (vP a)) (vN a)) (mk_lt _ _)
  have s12 : Sm g t t2 := Sm_t s1 s2
  have s12' : Sm g t (wi t2 183 0 (nI 0)) := Sm_wi rfl s12
  have ha2 : tA (wi t2 183 0 (nI 0)) 184 = a := by rw [Sm_a X s12']; exact I.2.1
  obtain ⟨t3, e3, s3, _⟩ := r_long (t := wi t2 183 0 (nI 0)) X W ha2 hs31
  refine ok_0 (r := nI (Mx (vN a) (fnx a (mk (hall a s (vP a)) (vN a))) 0 10)) (t1 := t2) (t2 := t3) I hD ?_ ?_ s12 (Sm_t (Sm_wi (a := 183) (k := 0) rfl Sm_r) s3)
  · unfold F_X11_longest
    rw [c_r69 X C.2.2.2.1, Option.bind_some, v_rc V, Option.bind_some, k_isPeople V C, Option.bind_some, hx, if_pos bt, x_r69_10 X, Option.bind_some, c_r69 X C.2.2.2.1, Option.bind_some, Option.bind_some, x_r69_2 X, Option.bind_some, v_rc V, Option.bind_some, e1, Option.bind_some, x_rc157 X, Option.bind_some, e2, Option.bind_some, x_r69_10 X, Option.bind_some, x_i157_1 X, Option.bind_some, k1]
  · unfold F_X12_longest
    rw [hw0, Option.bind_some, x_rc183 X, Option.bind_some, q_isPeople X W ha2, Option.bind_some, hx, if_neg bt, x_rc183 X, Option.bind_some, e3, Option.bind_some]
theorem k_noteAt (X : Fx g) {len j : Nat} {f : Nat → Nat} (hlen : len ≤ 10) (hj : j < 2 ^ 31) (h1 : tI t 157 1 = nI len) (h8 : ∀ j, j < len → tA t 158 j = nI (f j)) : F_X5_noteAt 157 (nI j) (Em g t) = some (if j < len then nI (f j) else -nI 1, Em g t) := by
  unfold F_X5_noteAt
  rw [if_neg (show ¬ nI j < (0 : Int32) from show ¬ nI j < nI 0 by rw [nI_ltI hj (by decide)]; omega), x_i157_1 X, Option.bind_some, h1]
  by_cases c : j < len
  · rw [if_pos (by rw [nI_ltI hj (by omega)]; exact c), if_pos c, x_r157_0 X, Option.bind_some, x_a158 X (by omega), Option.bind_some, h8 j c]
  · rw [if_neg (by rw [nI_ltI hj (by omega)]; exact c), if_neg c]
    rfl
theorem ok_longNote {n : Nat} (I : IV g t v a D n nx) (hD : D + 100 < 2 ^ 30) (x y : Int32) : Okc (F_X11_longNote 69 x y) (F_X12_longNote 183 x y) g t D := by
  have X := I.1
  have C := I.2.2.1
  have W := C.1
  have V := C.2.1
  have hP := wP2 W
  have hN := wN3 W
  have hw0 : ∀ t, wI (Em g t) 183 11 0 0 = some (Em g (wi t 183 0 (nI 0))) := fun t => x_w183_0 X
  have bt : ¬ bI true = (0 : Int32) := by decide
  have bf2 : bI false = (0 : Int32) := by decide
  rcases oks_c x (vP a) (by omega) with hx | ⟨hx, s, hs, rfl⟩
  · refine ok_0 (r := -nI 3) (t1 := t) (t2 := wi t 183 0 (nI 0)) I hD ?_ ?_ Sm_r (Sm_wi (a := 183) (k := 0) rfl Sm_r)
    · unfold F_X11_longNote
      rw [c_r69 X C.2.2.2.1, Option.bind_some, v_rc V, Option.bind_some, k_isPeople V C, Option.bind_some, hx, if_pos bf2]
      rfl
    · unfold F_X12_longNote
      rw [hw0, Option.bind_some, x_rc183 X, Option.bind_some, q_isPeople (t := wi t 183 0 (nI 0)) X W I.2.1, Option.bind_some, hx, if_pos bf2]
      rfl
  have hs31 := p_31 hs (by omega)
  rcases nn_c y with hy | ⟨hy, j, hj, rfl⟩
  · refine ok_0 (r := -nI 3) (t1 := t) (t2 := wi t 183 0 (nI 0)) I hD ?_ ?_ Sm_r (Sm_wi (a := 183) (k := 0) rfl Sm_r)
    · unfold F_X11_longNote
      rw [c_r69 X C.2.2.2.1, Option.bind_some, v_rc V, Option.bind_some, k_isPeople V C, Option.bind_some, hx, if_neg bt, if_neg (show ¬ (0 : Int32) ≤ y from hy)]
      rfl
    · unfold F_X12_longNote
      rw [hw0, Option.bind_some, x_rc183 X, Option.bind_some, q_isPeople (t := wi t 183 0 (nI 0)) X W I.2.1, Option.bind_some, hx, if_neg bt, if_neg (show ¬ (0 : Int32) ≤ y from hy)]
      rfl
  obtain ⟨t1, e1, s1⟩ := k_heardByAll X V C hs31
  obtain ⟨t2, e2, s2, k1, k2⟩ := k_long (t := t1) X V (CP_s X C s1) (A := mk (hall a s (vP a)) (vN a)) (mk_lt _ _)
  have s12 : Sm g t t2 := Sm_t s1 s2
  have s12' : Sm g t (wi t2 183 0 (nI 0)) := Sm_wi rfl s12
  have ha2 : tA (wi t2 183 0 (nI 0)) 184 = a := by rw [Sm_a X s12']; exact I.2.1
  obtain ⟨t3, e3, s3, k3⟩ := r_long (t := wi t2 183 0 (nI 0)) X W ha2 hs31
  have hML := Mx_le (N := vN a) (nx := fnx a (mk (hall a s (vP a)) (vN a))) (U := 0) (l := 10)
  generalize hL : Mx (vN a) (fnx a (mk (hall a s (vP a)) (vN a))) 0 10 = len at *
  have hna := k_noteAt (t := t2) (j := j) X (show len ≤ 10 by omega) hj k1 k2
  refine ok_0 (r := if j < len then nI (lpk (vN a) (fnx a (mk (hall a s (vP a)) (vN a))) j 0 10 len) else -nI 1) (t1 := t2) (t2 := t3) I hD ?_ ?_ s12 (Sm_t (Sm_wi (a := 183) (k := 0) rfl Sm_r) s3)
  · unfold F_X11_longNote
    rw [c_r69 X C.2.2.2.1, Option.bind_some, v_rc V, Option.bind_some, k_isPeople V C, Option.bind_some, hx, if_neg bt, if_pos (show (0 : Int32) ≤ nI j from hy), x_r69_10 X, Option.bind_some, c_r69 X C.2.2.2.1, Option.bind_some, Option.bind_some, x_r69_2 X, Option.bind_some, v_rc V, Option.bind_some, e1, Option.bind_some, x_rc157 X, Option.bind_some, e2, Option.bind_some, x_r69_10 X, Option.bind_some, x_rc157 X, Option.bind_some, hna, Option.bind_some]
  · unfold F_X12_longNote
    rw [hw0, Option.bind_some, x_rc183 X, Option.bind_some, q_isPeople X W ha2, Option.bind_some, hx, if_neg bt, if_pos (show (0 : Int32) ≤ nI j from hy), x_rc183 X, Option.bind_some, e3, Option.bind_some]
    by_cases c : j < len
    · rw [if_neg (by rw [nI_leI (by omega) hj]; omega), if_pos c, x_r183_29 X, Option.bind_some, x_a198 X (by omega), Option.bind_some, k3 j c]
    · rw [if_pos (by rw [nI_leI (by omega) hj]; omega), if_neg c]
      rfl
end XL3
