/-! ===== calls: through, throughNote ===== -/
section XTc
variable {g : Sk} {t : Tb} {a : Nat → Int32}
variable {D v w m nx : Nat} {g' g'' : Sk} {t' t'' : Tb}
theorem thI_c {N z l : Nat} {nx : Nat → Nat → Bool} : thI (dd N nx z l) = if dd N nx z l < 1000 then nI (dd N nx z l) else -nI 1 := by
  have := @dd_le N nx z l
  unfold thI
  by_cases c : dd N nx z l < 1000
  · rw [if_neg (by omega), if_pos c]
  · rw [if_pos (by omega), if_neg c]
theorem ok_through {n : Nat} (I : IV g t v a D n nx) (hD : D + 100 < 2 ^ 30) (x y : Int32) : Okv (F_X11_through 69 x y) (F_X12_through 183 x y) g t D := by
  have X := I.1
  have C := I.2.2.1
  have W := C.1
  have V := C.2.1
  have hP := wP2 W
  have hN := wN3 W
  have hw0 : ∀ g t, Fx g → wI (Em g t) 183 11 0 0 = some (Em g (wi t 183 0 (nI 0))) := fun g t X => x_w183_0 X
  have bt : ¬ bI true = (0 : Int32) := by decide
  have bf : ¬ ¬ bI false = (0 : Int32) := by decide
  have bf2 : bI false = (0 : Int32) := by decide
  rcases oks_c x (vP a) (by omega) with hx | ⟨hx, s, hs, rfl⟩
  · refine okv_0 (r := -nI 3) (t1 := t) (t2 := wi t 183 0 (nI 0)) I hD ?_ ?_ Sm_r (Sm_wi (a := 183) (k := 0) rfl Sm_r)
    · unfold F_X11_through
      rw [c_r69 X C.2.2.2.1, Option.bind_some, v_rc V, Option.bind_some, k_isPeople V C, Option.bind_some, hx, if_pos bf2]
      rfl
    · unfold F_X12_through
      rw [hw0 g t X, Option.bind_some, x_rc183 X, Option.bind_some, q_isPeople (t := wi t 183 0 (nI 0)) X W I.2.1, Option.bind_some, hx, if_pos bf2]
      rfl
  rcases oks_c y (vN a) (by omega) with hy | ⟨hy, z, hz, rfl⟩
  · refine okv_0 (r := -nI 3) (t1 := t) (t2 := wi t 183 0 (nI 0)) I hD ?_ ?_ Sm_r (Sm_wi (a := 183) (k := 0) rfl Sm_r)
    · unfold F_X11_through
      rw [c_r69 X C.2.2.2.1, Option.bind_some, v_rc V, Option.bind_some, k_isPeople V C, Option.bind_some, hx, if_neg bt, c_r69 X C.2.2.2.1, Option.bind_some, v_rc V, Option.bind_some, k_isNotes V C, Option.bind_some, hy, if_neg bf]
      rfl
    · unfold F_X12_through
      rw [hw0 g t X, Option.bind_some, x_rc183 X, Option.bind_some, q_isPeople (t := wi t 183 0 (nI 0)) X W I.2.1, Option.bind_some, hx, if_neg bt, x_rc183 X, Option.bind_some, q_isNotes (t := wi t 183 0 (nI 0)) X W I.2.1, Option.bind_some, hy, if_pos bf2]
      rfl
  have hs31 := p_31 hs (by omega)
  obtain ⟨t1, e1, s1⟩ := k_heardByAll X V C hs31
  have I1 := IV_s I s1
  obtain ⟨g2, t2, c, sl, e2, hg2, hc, hsl, I2, k2⟩ := k_find (A := mk (hall a s (vP a)) (vN a)) I1 (mk_lt _ _) hz
  have X2 := I2.1
  have ha2 : tA (wi t2 183 0 (nI 0)) 184 = a := I2.2.1
  obtain ⟨t3, e3, s3, _⟩ := r_thru (t := wi t2 183 0 (nI 0)) X2 W ha2 hs31 hz
  refine ⟨thI (dd (vN a) (fnx a (mk (hall a s (vP a)) (vN a))) z 10), g2, t2, c, sl, g2, t3, v, a, n, nx, ?_, ?_, hg2, hg2, by omega, by omega, IV_m (by omega) hD (IV_s I2 (Sm_t (Sm_wi (a := 183) (k := 0) rfl Sm_r) s3))⟩
  · unfold F_X11_through
    rw [c_r69 X C.2.2.2.1, Option.bind_some, v_rc V, Option.bind_some, k_isPeople V C, Option.bind_some, hx, if_neg bt, c_r69 X C.2.2.2.1, Option.bind_some, v_rc V, Option.bind_some, k_isNotes V C, Option.bind_some, hy, if_pos bt, x_r69_10 X, Option.bind_some, c_r69 X C.2.2.2.1, Option.bind_some, Option.bind_some, x_r69_2 X, Option.bind_some, v_rc V, Option.bind_some, e1, Option.bind_some, x_rc157 X, Option.bind_some, e2, Option.bind_some, thI_c]
    by_cases hd : dd (vN a) (fnx a (mk (hall a s (vP a)) (vN a))) z 10 < 1000
    · rw [decide_eq_true hd, if_neg bt, if_pos hd, x_r69_10 X2, Option.bind_some, x_i157_1 X2, Option.bind_some, (k2 hd).1, Option.map_some]
      unfold ac
      rw [Nat.zero_add, Nat.zero_add]
    · rw [decide_eq_false hd, if_pos bf2, if_neg hd, Option.map_some]
      unfold ac
      rw [Nat.zero_add, Nat.zero_add]
      rfl
  · unfold F_X12_through
    rw [hw0 g2 t2 X2, Option.bind_some, x_rc183 X2, Option.bind_some, q_isPeople X2 W ha2, Option.bind_some, hx, if_neg bt, x_rc183 X2, Option.bind_some, q_isNotes X2 W ha2, Option.bind_some, hy, if_neg bt, x_rc183 X2, Option.bind_some, e3, Option.bind_some]
theorem ok_throughNote {n : Nat} (I : IV g t v a D n nx) (hD : D + 100 < 2 ^ 30) (x y i : Int32) : Okv (F_X11_throughNote 69 x y i) (F_X12_throughNote 183 x y i) g t D := by
  have X := I.1
  have C := I.2.2.1
  have W := C.1
  have V := C.2.1
  have hP := wP2 W
  have hN := wN3 W
  have hw0 : ∀ g t, Fx g → wI (Em g t) 183 11 0 0 = some (Em g (wi t 183 0 (nI 0))) := fun g t X => x_w183_0 X
  have bt : ¬ bI true = (0 : Int32) := by decide
  have bf2 : bI false = (0 : Int32) := by decide
  rcases oks_c x (vP a) (by omega) with hx | ⟨hx, s, hs, rfl⟩
  · refine okv_0 (r := -nI 3) (t1 := t) (t2 := wi t 183 0 (nI 0)) I hD ?_ ?_ Sm_r (Sm_wi (a := 183) (k := 0) rfl Sm_r)
    · unfold F_X11_throughNote
      rw [c_r69 X C.2.2.2.1, Option.bind_some, v_rc V, Option.bind_some, k_isPeople V C, Option.bind_some, hx, if_pos bf2]
      rfl
    · unfold F_X12_throughNote
      rw [hw0 g t X, Option.bind_some, x_rc183 X, Option.bind_some, q_isPeople (t := wi t 183 0 (nI 0)) X W I.2.1, Option.bind_some, hx, if_pos bf2]
      rfl
  rcases oks_c y (vN a) (by omega) with hy | ⟨hy, z, hz, rfl⟩
  · refine okv_0 (r := -nI 3) (t1 := t) (t2 := wi t 183 0 (nI 0)) I hD ?_ ?_ Sm_r (Sm_wi (a := 183) (k := 0) rfl Sm_r)
    · unfold F_X11_throughNote
      rw [c_r69 X C.2.2.2.1, Option.bind_some, v_rc V, Option.bind_some, k_isPeople V C, Option.bind_some, hx, if_neg bt, c_r69 X C.2.2.2.1, Option.bind_some, v_rc V, Option.bind_some, k_isNotes V C, Option.bind_some, hy, if_pos bf2]
      rfl
    · unfold F_X12_throughNote
      rw [hw0 g t X, Option.bind_some, x_rc183 X, Option.bind_some, q_isPeople (t := wi t 183 0 (nI 0)) X W I.2.1, Option.bind_some, hx, if_neg bt, x_rc183 X, Option.bind_some, q_isNotes (t := wi t 183 0 (nI 0)) X W I.2.1, Option.bind_some, hy, if_pos bf2]
      rfl
  rcases nn_c i with hi | ⟨hi, j, hj, rfl⟩
  · refine okv_0 (r := -nI 3) (t1 := t) (t2 := wi t 183 0 (nI 0)) I hD ?_ ?_ Sm_r (Sm_wi (a := 183) (k := 0) rfl Sm_r)
    · unfold F_X11_throughNote
      rw [c_r69 X C.2.2.2.1, Option.bind_some, v_rc V, Option.bind_some, k_isPeople V C, Option.bind_some, hx, if_neg bt, c_r69 X C.2.2.2.1, Option.bind_some, v_rc V, Option.bind_some, k_isNotes V C, Option.bind_some, hy, if_neg bt, if_neg (show ¬ (0 : Int32) ≤ i from hi)]
      rfl
    · unfold F_X12_throughNote
      rw [hw0 g t X, Option.bind_some, x_rc183 X, Option.bind_some, q_isPeople (t := wi t 183 0 (nI 0)) X W I.2.1, Option.bind_some, hx, if_neg bt, x_rc183 X, Option.bind_some, q_isNotes (t := wi t 183 0 (nI 0)) X W I.2.1, Option.bind_some, hy, if_neg bt, if_neg (show ¬ (0 : Int32) ≤ i from hi)]
      rfl
  have hi' : (0 : Int32) ≤ nI j := hi
  have hs31 := p_31 hs (by omega)
  obtain ⟨t1, e1, s1⟩ := k_heardByAll X V C hs31
  have I1 := IV_s I s1
  obtain ⟨g2, t2, c, sl, e2, hg2, hc, hsl, I2, k2⟩ := k_find (A := mk (hall a s (vP a)) (vN a)) I1 (mk_lt _ _) hz
  have X2 := I2.1
  have ha2 : tA (wi t2 183 0 (nI 0)) 184 = a := I2.2.1
  obtain ⟨t3, e3, s3, k3⟩ := r_thru (t := wi t2 183 0 (nI 0)) X2 W ha2 hs31 hz
  have hbd := dd_bd (N := vN a) (nx := fnx a (mk (hall a s (vP a)) (vN a))) (S := z) (l := 10) hN
  rw [thI_c] at e3
  generalize hdd : dd (vN a) (fnx a (mk (hall a s (vP a)) (vN a))) z 10 = dv at e2 k2 e3 k3 hbd
  have fin : ∀ r, (dv < 1000 → r = if j < dv then nI (tpk (vN a) (fnx a (mk (hall a s (vP a)) (vN a))) j z 10 dv) else -nI 1) → (¬ dv < 1000 → r = -nI 1) → Okv (F_X11_throughNote 69 (nI s) (nI z) (nI j)) (F_X12_throughNote 183 (nI s) (nI z) (nI j)) g t D := fun r r1 r2 => by
    refine ⟨r, g2, t2, c, sl, g2, t3, v, a, n, nx, ?_, ?_, hg2, hg2, by omega, by omega, IV_m (by omega) hD (IV_s I2 (Sm_t (Sm_wi (a := 183) (k := 0) rfl Sm_r) s3))⟩
    · unfold F_X11_throughNote
      rw [c_r69 X C.2.2.2.1, Option.bind_some, v_rc V, Option.bind_some, k_isPeople V C, Option.bind_some, hx, if_neg bt, c_r69 X C.2.2.2.1, Option.bind_some, v_rc V, Option.bind_some, k_isNotes V C, Option.bind_some, hy, if_neg bt, if_pos hi', x_r69_10 X, Option.bind_some, c_r69 X C.2.2.2.1, Option.bind_some, Option.bind_some, x_r69_2 X, Option.bind_some, v_rc V, Option.bind_some, e1, Option.bind_some, x_rc157 X, Option.bind_some, e2, Option.bind_some]
      by_cases hd : dv < 1000
      · have hb := hbd hd
        rw [decide_eq_true hd, if_neg bt, x_r69_10 X2, Option.bind_some, x_rc157 X2, Option.bind_some, k_noteAt2 X2 (by omega) hj (k2 hd).1 (k2 hd).2, Option.bind_some, Option.map_some, r1 hd]
        unfold ac
        rw [Nat.zero_add, Nat.zero_add]
      · rw [decide_eq_false hd, if_pos bf2, Option.map_some, r2 hd]
        unfold ac
        rw [Nat.zero_add, Nat.zero_add]
        rfl
    · unfold F_X12_throughNote
      rw [hw0 g2 t2 X2, Option.bind_some, x_rc183 X2, Option.bind_some, q_isPeople X2 W ha2, Option.bind_some, hx, if_neg bt, x_rc183 X2, Option.bind_some, q_isNotes X2 W ha2, Option.bind_some, hy, if_neg bt, if_pos hi', x_rc183 X2, Option.bind_some, e3, Option.bind_some]
      by_cases hd : dv < 1000
      · have hb := hbd hd
        rw [if_pos hd, r1 hd]
        by_cases cj : j < dv
        · rw [if_neg (by rw [nI_leI (by omega) hj]; omega), if_pos cj, x_r183_29 X2, Option.bind_some, x_a198 X2 (by omega), Option.bind_some, k3 hd j cj]
        · rw [if_pos (by rw [nI_leI (by omega) hj]; omega), if_neg cj]
          rfl
      · rw [if_neg hd, if_pos (show -nI 1 ≤ nI j from Int32.le_iff_toInt_le.mpr (by
          have : (-nI 1).toInt = -1 := by decide
          rw [nI_toInt hj]
          omega)), r2 hd]
        rfl
  by_cases hd : dv < 1000
  · exact fin _ (fun _ => rfl) (fun h => absurd hd h)
  · exact fin (-nI 1) (fun h => absurd h hd) (fun _ => rfl)
end XTc
