/-! ===== told deeds one after another, deeds by draws: the reference and the class ===== -/
def tls (f : Nat → Int64) : Nat → Nat → (Nat → Int32) → Nat × Nat × (Nat → Int32)
  | 0, j, b => (j, 0, b)
  | d + 1, j, b => if wyN b (f j) = 0 then tls f d (j + 1) (doR b (f j)) else (j, wyN b (f j), b)
def nxs (s : Int32) : Int32 := nI 1103515245 * s + nI 12345
def dru (s : Int32) (n : Nat) : Int32 := irm (ush s (nI 16)) (nI n)
def drz (s : Int32) : Int32 × Int32 := if dru (nxs s) 5 = nI 0 then (-nI 1, nxs s) else if nI 3 ≤ dru (nxs s) 5 then (nI 100 * (dru (nxs s) 5 - nI 2) + nI 10 * dru (nxs (nxs s)) 6 + dru (nxs (nxs (nxs s))) 10, nxs (nxs (nxs s))) else (nI 10 * dru (nxs (nxs s)) 6 + dru (nxs (nxs (nxs s))) 6, nxs (nxs (nxs s)))
def yrs : Nat → Int32 → Nat → (Nat → Int32) → Nat × Int32 × (Nat → Int32)
  | 0, s, c, b => (c, s, b)
  | d + 1, s, c, b => if wyN b (drz s).1.toInt64 = 0 then yrs d (drz s).2 (c + 1) (doR b (drz s).1.toInt64) else yrs d (drz s).2 c b
section XT
variable {g : Sk} {t : Tb} {a : Nat → Int32}
variable {D v x : Nat} {b w : Nat → Int32} {t' t'' : Tb}
theorem doR_ok {z : Int64} (h : wyN b z = 0) : z = -1 ∨ ∃ m, m < 300 ∧ z = lN m ∧ z ≠ -1 ∧ wn3 b m = 0 ∧ doR b z = dn3 b m := by
  rcases dn_c z with q | ⟨q, m, hm, rfl⟩ | ⟨q, hb⟩
  · exact Or.inl q
  · have ht : (lN m).toInt = (m : Int) := pk_lT (by omega)
    refine Or.inr ⟨m, hm, rfl, q, ?_, ?_⟩
    · unfold wyN at h
      rw [if_neg q, ht, if_pos (by omega), Int.toNat_natCast] at h
      exact h
    · unfold doR
      rw [if_neg q, ht, Int.toNat_natCast]
  · unfold wyN at h
    rw [if_neg q, if_neg hb] at h
    exact absurd h (by decide)
theorem wn3_p {m : Nat} (hm : m < 300) (h : wn3 b m = 0) : m % 100 / 10 < vP b ∧ (m < 100 → m % 10 < vK b) ∧ (200 ≤ m → m % 10 < vN b) := by
  unfold wn3 at h
  by_cases c1 : m < 100
  · rw [if_pos c1] at h
    unfold wgI at h
    by_cases c : ((0 : Int) ≤ ((m / 10 : Nat) : Int) ∧ ((m / 10 : Nat) : Int) < vP b) ∧ (0 : Int) ≤ ((m % 10 : Nat) : Int) ∧ ((m % 10 : Nat) : Int) < vK b
    · rw [Nat.mod_eq_of_lt c1]
      exact ⟨by omega, by omega, by omega⟩
    · rw [if_neg c] at h
      exact absurd h (by decide)
  · rw [if_neg c1] at h
    by_cases c2 : m < 200
    · rw [if_pos c2] at h
      by_cases c : m % 100 / 10 < vP b
      · exact ⟨c, by omega, by omega⟩
      · rw [if_neg c] at h
        exact absurd h (by decide)
    · rw [if_neg c2] at h
      by_cases c : m % 100 / 10 < vP b ∧ m % 10 < vN b
      · exact ⟨c.1, by omega, fun _ => c.2⟩
      · rw [if_neg c] at h
        exact absurd h (by decide)
theorem doR_N (W : WA b D) {z : Int64} (h : wyN b z = 0) : Nq b (doR b z) := by
  have hP := wP2 W
  rcases doR_ok h with q | ⟨m, hm, _, _, hw, e⟩
  · subst q
    exact Nq_u (Nq_u Nq_r (by decide) (by decide)) (by decide) (by decide)
  · have hp := (wn3_p hm hw).1
    rw [e]
    unfold dn3
    split
    · exact Nq_u Nq_r (by omega) (by omega)
    · split
      · exact Nq_u Nq_r (by omega) (by omega)
      · exact Nq_u (Nq_u Nq_r (by omega) (by omega)) (by omega) (by omega)
theorem doR_W (W : WA b D) (hD : D + 1 < 2 ^ 30) {z : Int64} (h : wyN b z = 0) : WA (doR b z) (D + 1) := by
  rcases doR_ok h with q | ⟨m, hm, _, _, hw, e⟩
  · subst q
    exact WA_dy W hD
  · have hp := wn3_p hm hw
    rw [e]
    refine WA_m (Nat.le_succ D) hD ?_
    unfold dn3
    by_cases c1 : m < 100
    · rw [if_pos c1]
      exact WA_mv W (by have := hp.1; rw [Nat.mod_eq_of_lt c1] at this; exact this) (hp.2.1 c1)
    · rw [if_neg c1]
      by_cases c2 : m < 200
      · rw [if_pos c2]
        exact WA_er W hp.1 (by omega)
      · rw [if_neg c2]
        exact WA_bl W hp.1 (Or.inr ⟨by rw [tn_n (by omega)], by rw [tn_n (by omega)]; exact hp.2.2 (by omega)⟩)
theorem tls_NW (f : Nat → Int64) : ∀ (d j : Nat) (b : Nat → Int32) (D : Nat), WA b D → D + d < 2 ^ 30 → Nq b (tls f d j b).2.2 ∧ WA (tls f d j b).2.2 (D + d)
  | 0, _, _, _, W, _ => ⟨Nq_r, W⟩
  | d + 1, j, b, D, W, hD => by
    rw [tls]
    by_cases h : wyN b (f j) = 0
    · rw [if_pos h]
      have := tls_NW f d (j + 1) (doR b (f j)) (D + 1) (doR_W W (by omega) h) (by omega)
      rw [show D + (d + 1) = D + 1 + d by omega]
      exact ⟨Nq_t (doR_N W h) this.1, this.2⟩
    · rw [if_neg h]
      exact ⟨Nq_r, WA_m (by omega) hD W⟩
theorem tls_end (f : Nat → Int64) : ∀ (d j : Nat) (b : Nat → Int32), ((tls f d j b).2.1 = 0 ∧ (tls f d j b).1 = j + d) ∨ (¬ (tls f d j b).2.1 = 0 ∧ j ≤ (tls f d j b).1 ∧ (tls f d j b).1 < j + d ∧ wyN (tls f d j b).2.2 (f (tls f d j b).1) = (tls f d j b).2.1)
  | 0, _, _ => Or.inl ⟨rfl, rfl⟩
  | d + 1, j, b => by
    rw [tls]
    by_cases h : wyN b (f j) = 0
    · rw [if_pos h]
      rcases tls_end f d (j + 1) (doR b (f j)) with q | q
      · exact Or.inl ⟨q.1, by rw [q.2]; omega⟩
      · exact Or.inr ⟨q.1, by omega, by omega, q.2.2.2⟩
    · rw [if_neg h]
      exact Or.inr ⟨h, Nat.le_refl _, by omega, rfl⟩
theorem wyN_le (b : Nat → Int32) (z : Int64) : wyN b z ≤ 2 := by
  unfold wyN wn3 wgI
  repeat' split
  all_goals omega
theorem yrs_NW : ∀ (d : Nat) (s : Int32) (c : Nat) (b : Nat → Int32) (D : Nat), WA b D → D + d < 2 ^ 30 → (Nq b (yrs d s c b).2.2 ∧ WA (yrs d s c b).2.2 (D + d)) ∧ c ≤ (yrs d s c b).1 ∧ (yrs d s c b).1 ≤ c + d
  | 0, _, _, _, _, W, _ => ⟨⟨Nq_r, W⟩, Nat.le_refl _, Nat.le_refl _⟩
  | d + 1, s, c, b, D, W, hD => by
    rw [yrs]
    by_cases h : wyN b (drz s).1.toInt64 = 0
    · rw [if_pos h]
      have := yrs_NW d (drz s).2 (c + 1) (doR b (drz s).1.toInt64) (D + 1) (doR_W W (by omega) h) (by omega)
      rw [show D + (d + 1) = D + 1 + d by omega]
      exact ⟨⟨Nq_t (doR_N W h) this.1.1, this.1.2⟩, by omega, by omega⟩
    · rw [if_neg h]
      have := yrs_NW d (drz s).2 c b D W (by omega)
      exact ⟨⟨this.1.1, WA_m (by omega) hD this.1.2⟩, by omega, by omega⟩
/-! the reference -/
theorem r_does (X : Fx g) (W : WA a D) (ha : tA t 184 = a) {z : Int64} (h : wyN a z = 0) : F_X12_does 183 z.toInt32 (Em g t) = some ((), Em g (wr t 184 (doR a z))) := by
  have hP := wP2 W
  unfold F_X12_does
  rcases doR_ok h with q | ⟨m, hm, hz, hz2, hw, e⟩
  · subst q
    rw [show (-1 : Int64).toInt32 = -nI 1 from rfl]
    simp only [fa_lit, not_true_eq_false, if_false, x_rc183 X, Option.bind_some, r_goes X W ha]
    rfl
  · have hp := wn3_p hm hw
    rw [e, hz, lN_i m]
    have i2 : irm (nI m) (nI 100) = nI (m % 100) := irm_n (by omega) (by decide) (by decide)
    have i3 : irm (nI m) (nI 10) = nI (m % 10) := irm_n (by omega) (by decide) (by decide)
    have i4 : idv (nI (m % 100)) (nI 10) = nI (m % 100 / 10) := r_idv (by omega) (by decide) (by decide)
    unfold dn3
    by_cases c1 : m < 100
    · have c1' : ¬ 100 ≤ m := by omega
      simp (disch := omega) only [x_rc183 X, x_i183_0 X, x_w183_0 X, x_r183_1 X, x_r183_2 X, x_r183_3 X, x_r183_4 X, x_i183_5 X, x_w183_5 X, x_i183_6 X, x_w183_6 X, x_i183_7 X, x_w183_7 X, x_i183_8 X, x_w183_8 X, x_i183_9 X, x_w183_9 X, x_i183_10 X, x_w183_10 X, x_i183_11 X, x_w183_11 X, x_i183_12 X, x_w183_12 X, x_i183_13 X, x_w183_13 X, x_i183_14 X, x_w183_14 X, x_i183_15 X, x_w183_15 X, x_r183_16 X, x_r183_17 X, x_r183_18 X, x_i183_19 X, x_w183_19 X, x_i183_20 X, x_w183_20 X, x_r183_21 X, x_r183_22 X, x_r183_23 X, x_r183_24 X, x_r183_25 X, x_i183_26 X, x_w183_26 X, x_r183_27 X, x_r183_28 X, x_r183_29 X, x_i183_30 X, x_w183_30 X, x_r183_31 X, x_r183_32 X, x_r183_33 X, x_r183_34 X, x_r183_35 X, x_r183_36 X, x_a184 X, x_s184 X, x_a185 X, x_s185 X, x_a186 X, x_s186 X, x_a187 X, x_s187 X, x_a188 X, x_s188 X, x_a189 X, x_s189 X, x_a190 X, x_s190 X, x_a191 X, x_s191 X, x_a192 X, x_s192 X, x_a193 X, x_s193 X, x_a194 X, x_s194 X, x_a195 X, x_s195 X, x_a196 X, x_s196 X, x_a197 X, x_s197 X, x_a198 X, x_s198 X, x_a199 X, x_s199 X, x_a200 X, x_s200 X, x_a201 X, x_s201 X, x_a202 X, x_s202 X, x_a203 X, x_s203 X, x_a204 X, x_s204 X, Option.bind_some, ↓reduceIte, ite_not, fa_lit, nI_m1e, not_false_eq_true, nI_leI, c1', c1, i2, i3, i4, nI_add, wa_wr, ha]
      rw [Nat.mod_eq_of_lt c1]
      rfl
    · have c1' : 100 ≤ m := by omega
      by_cases c2 : m < 200
      · have c2' : ¬ 200 ≤ m := by omega
        simp (disch := omega) only [x_rc183 X, x_i183_0 X, x_w183_0 X, x_r183_1 X, x_r183_2 X, x_r183_3 X, x_r183_4 X, x_i183_5 X, x_w183_5 X, x_i183_6 X, x_w183_6 X, x_i183_7 X, x_w183_7 X, x_i183_8 X, x_w183_8 X, x_i183_9 X, x_w183_9 X, x_i183_10 X, x_w183_10 X, x_i183_11 X, x_w183_11 X, x_i183_12 X, x_w183_12 X, x_i183_13 X, x_w183_13 X, x_i183_14 X, x_w183_14 X, x_i183_15 X, x_w183_15 X, x_r183_16 X, x_r183_17 X, x_r183_18 X, x_i183_19 X, x_w183_19 X, x_i183_20 X, x_w183_20 X, x_r183_21 X, x_r183_22 X, x_r183_23 X, x_r183_24 X, x_r183_25 X, x_i183_26 X, x_w183_26 X, x_r183_27 X, x_r183_28 X, x_r183_29 X, x_i183_30 X, x_w183_30 X, x_r183_31 X, x_r183_32 X, x_r183_33 X, x_r183_34 X, x_r183_35 X, x_r183_36 X, x_a184 X, x_s184 X, x_a185 X, x_s185 X, x_a186 X, x_s186 X, x_a187 X, x_s187 X, x_a188 X, x_s188 X, x_a189 X, x_s189 X, x_a190 X, x_s190 X, x_a191 X, x_s191 X, x_a192 X, x_s192 X, x_a193 X, x_s193 X, x_a194 X, x_s194 X, x_a195 X, x_s195 X, x_a196 X, x_s196 X, x_a197 X, x_s197 X, x_a198 X, x_s198 X, x_a199 X, x_s199 X, x_a200 X, x_s200 X, x_a201 X, x_s201 X, x_a202 X, x_s202 X, x_a203 X, x_s203 X, x_a204 X, x_s204 X, Option.bind_some, ↓reduceIte, ite_not, fa_lit, nI_m1e, not_false_eq_true, nI_leI, c1', c1, c2', c2, i2, i3, i4, nI_add, wa_wr, ha]
        rfl
      · have c2' : 200 ≤ m := by omega
        simp (disch := omega) only [x_rc183 X, x_i183_0 X, x_w183_0 X, x_r183_1 X, x_r183_2 X, x_r183_3 X, x_r183_4 X, x_i183_5 X, x_w183_5 X, x_i183_6 X, x_w183_6 X, x_i183_7 X, x_w183_7 X, x_i183_8 X, x_w183_8 X, x_i183_9 X, x_w183_9 X, x_i183_10 X, x_w183_10 X, x_i183_11 X, x_w183_11 X, x_i183_12 X, x_w183_12 X, x_i183_13 X, x_w183_13 X, x_i183_14 X, x_w183_14 X, x_i183_15 X, x_w183_15 X, x_r183_16 X, x_r183_17 X, x_r183_18 X, x_i183_19 X, x_w183_19 X, x_i183_20 X, x_w183_20 X, x_r183_21 X, x_r183_22 X, x_r183_23 X, x_r183_24 X, x_r183_25 X, x_i183_26 X, x_w183_26 X, x_r183_27 X, x_r183_28 X, x_r183_29 X, x_i183_30 X, x_w183_30 X, x_r183_31 X, x_r183_32 X, x_r183_33 X, x_r183_34 X, x_r183_35 X, x_r183_36 X, x_a184 X, x_s184 X, x_a185 X, x_s185 X, x_a186 X, x_s186 X, x_a187 X, x_s187 X, x_a188 X, x_s188 X, x_a189 X, x_s189 X, x_a190 X, x_s190 X, x_a191 X, x_s191 X, x_a192 X, x_s192 X, x_a193 X, x_s193 X, x_a194 X, x_s194 X, x_a195 X, x_s195 X, x_a196 X, x_s196 X, x_a197 X, x_s197 X, x_a198 X, x_s198 X, x_a199 X, x_s199 X, x_a200 X, x_s200 X, x_a201 X, x_s201 X, x_a202 X, x_s202 X, x_a203 X, x_s203 X, x_a204 X, x_s204 X, Option.bind_some, ↓reduceIte, ite_not, fa_lit, nI_m1e, not_false_eq_true, nI_leI, c1', c1, c2', c2, i2, i3, i4, r_blanks1 X W ha hp.1]
theorem r_tells_l (X : Fx g) {i n : Nat} (hi : i < 4) (hn : n ≤ 40) (hm : tA t 203 i = nI n) (f : Nat → Int64) (hf0 : ∀ j, j < n → tJ t 204 (40 * i + j) = f j) : ∀ (d j fuel : Nat) (b : Nat → Int32) (D : Nat), j + d = n → d < fuel → WA b D → D + d < 2 ^ 30 → F_X12_tells_b7 fuel 183 (nI i) (nI j) (Em g (wr (wi t 183 19 (nI 0)) 184 b)) = some (nI (tls f d j b).1, Em g (wr (wi t 183 19 (nI (tls f d j b).2.1)) 184 (tls f d j b).2.2)) := by
  intro d
  induction d with
  | zero =>
    intro j fuel b D hj hf W hD
    obtain ⟨f2, rfl⟩ : ∃ f, fuel = f + 1 := ⟨fuel - 1, by omega⟩
    have hj : j = n := by omega
    subst hj
    rw [F_X12_tells_b7]
    simp (disch := omega) only [x_rc183 X, x_i183_0 X, x_w183_0 X, x_r183_1 X, x_r183_2 X, x_r183_3 X, x_r183_4 X, x_i183_5 X, x_w183_5 X, x_i183_6 X, x_w183_6 X, x_i183_7 X, x_w183_7 X, x_i183_8 X, x_w183_8 X, x_i183_9 X, x_w183_9 X, x_i183_10 X, x_w183_10 X, x_i183_11 X, x_w183_11 X, x_i183_12 X, x_w183_12 X, x_i183_13 X, x_w183_13 X, x_i183_14 X, x_w183_14 X, x_i183_15 X, x_w183_15 X, x_r183_16 X, x_r183_17 X, x_r183_18 X, x_i183_19 X, x_w183_19 X, x_i183_20 X, x_w183_20 X, x_r183_21 X, x_r183_22 X, x_r183_23 X, x_r183_24 X, x_r183_25 X, x_i183_26 X, x_w183_26 X, x_r183_27 X, x_r183_28 X, x_r183_29 X, x_i183_30 X, x_w183_30 X, x_r183_31 X, x_r183_32 X, x_r183_33 X, x_r183_34 X, x_r183_35 X, x_r183_36 X, x_a184 X, x_s184 X, x_a185 X, x_s185 X, x_a186 X, x_s186 X, x_a187 X, x_s187 X, x_a188 X, x_s188 X, x_a189 X, x_s189 X, x_a190 X, x_s190 X, x_a191 X, x_s191 X, x_a192 X, x_s192 X, x_a193 X, x_s193 X, x_a194 X, x_s194 X, x_a195 X, x_s195 X, x_a196 X, x_s196 X, x_a197 X, x_s197 X, x_a198 X, x_s198 X, x_a199 X, x_s199 X, x_a200 X, x_s200 X, x_a201 X, x_s201 X, x_a202 X, x_s202 X, x_a203 X, x_s203 X, x_a204 X, x_s204 X, Option.bind_some, ↓reduceIte, ite_not, fa_lit, nI_add, nI_mulN, nI_an, nI_sub, irm_n, nI_eq, nI_leI, nI_ltI, v_pow, v_shr, v_bit, nI_cl, nI_m1e, tA_rn, tA_wi, hm, Nat.le_refl]
    rfl
  | succ d ih =>
    intro j fuel b D hj hf W hD
    obtain ⟨f2, rfl⟩ : ∃ f, fuel = f + 1 := ⟨fuel - 1, by omega⟩
    have hj2 : ¬ n ≤ j := by omega
    have hw := r_whyNot (t := wr (wi t 183 19 (nI 0)) 184 b) X W tA_rs (f j)
    have hwl := wyN_le b (f j)
    rw [F_X12_tells_b7, tls]
    by_cases h : wyN b (f j) = 0
    · have hd := r_does (t := wr (wi t 183 19 (nI 0)) 184 b) X W tA_rs h
      rw [if_pos h, ← ih (j + 1) f2 (doR b (f j)) (D + 1) (by omega) (by omega) (doR_W W (by omega) h) (by omega)]
      rw [h] at hw
      simp (disch := omega) only [x_rc183 X, x_i183_0 X, x_w183_0 X, x_r183_1 X, x_r183_2 X, x_r183_3 X, x_r183_4 X, x_i183_5 X, x_w183_5 X, x_i183_6 X, x_w183_6 X, x_i183_7 X, x_w183_7 X, x_i183_8 X, x_w183_8 X, x_i183_9 X, x_w183_9 X, x_i183_10 X, x_w183_10 X, x_i183_11 X, x_w183_11 X, x_i183_12 X, x_w183_12 X, x_i183_13 X, x_w183_13 X, x_i183_14 X, x_w183_14 X, x_i183_15 X, x_w183_15 X, x_r183_16 X, x_r183_17 X, x_r183_18 X, x_i183_19 X, x_w183_19 X, x_i183_20 X, x_w183_20 X, x_r183_21 X, x_r183_22 X, x_r183_23 X, x_r183_24 X, x_r183_25 X, x_i183_26 X, x_w183_26 X, x_r183_27 X, x_r183_28 X, x_r183_29 X, x_i183_30 X, x_w183_30 X, x_r183_31 X, x_r183_32 X, x_r183_33 X, x_r183_34 X, x_r183_35 X, x_r183_36 X, x_a184 X, x_s184 X, x_a185 X, x_s185 X, x_a186 X, x_s186 X, x_a187 X, x_s187 X, x_a188 X, x_s188 X, x_a189 X, x_s189 X, x_a190 X, x_s190 X, x_a191 X, x_s191 X, x_a192 X, x_s192 X, x_a193 X, x_s193 X, x_a194 X, x_s194 X, x_a195 X, x_s195 X, x_a196 X, x_s196 X, x_a197 X, x_s197 X, x_a198 X, x_s198 X, x_a199 X, x_s199 X, x_a200 X, x_s200 X, x_a201 X, x_s201 X, x_a202 X, x_s202 X, x_a203 X, x_s203 X, x_a204 X, x_s204 X, Option.bind_some, ↓reduceIte, ite_not, fa_lit, nI_add, nI_mulN, nI_an, nI_sub, irm_n, nI_eq, nI_leI, nI_ltI, v_pow, v_shr, v_bit, nI_cl, nI_m1e, tA_rn, tA_wi, tJ_wr, tJ_wi, hm, hj2, hf0 j (by omega), hw, wr_wi, wi_wi, tI_wr, tI_is, hd, wr_wr]
    · rw [if_neg h]
      simp (disch := omega) only [x_rc183 X, x_i183_0 X, x_w183_0 X, x_r183_1 X, x_r183_2 X, x_r183_3 X, x_r183_4 X, x_i183_5 X, x_w183_5 X, x_i183_6 X, x_w183_6 X, x_i183_7 X, x_w183_7 X, x_i183_8 X, x_w183_8 X, x_i183_9 X, x_w183_9 X, x_i183_10 X, x_w183_10 X, x_i183_11 X, x_w183_11 X, x_i183_12 X, x_w183_12 X, x_i183_13 X, x_w183_13 X, x_i183_14 X, x_w183_14 X, x_i183_15 X, x_w183_15 X, x_r183_16 X, x_r183_17 X, x_r183_18 X, x_i183_19 X, x_w183_19 X, x_i183_20 X, x_w183_20 X, x_r183_21 X, x_r183_22 X, x_r183_23 X, x_r183_24 X, x_r183_25 X, x_i183_26 X, x_w183_26 X, x_r183_27 X, x_r183_28 X, x_r183_29 X, x_i183_30 X, x_w183_30 X, x_r183_31 X, x_r183_32 X, x_r183_33 X, x_r183_34 X, x_r183_35 X, x_r183_36 X, x_a184 X, x_s184 X, x_a185 X, x_s185 X, x_a186 X, x_s186 X, x_a187 X, x_s187 X, x_a188 X, x_s188 X, x_a189 X, x_s189 X, x_a190 X, x_s190 X, x_a191 X, x_s191 X, x_a192 X, x_s192 X, x_a193 X, x_s193 X, x_a194 X, x_s194 X, x_a195 X, x_s195 X, x_a196 X, x_s196 X, x_a197 X, x_s197 X, x_a198 X, x_s198 X, x_a199 X, x_s199 X, x_a200 X, x_s200 X, x_a201 X, x_s201 X, x_a202 X, x_s202 X, x_a203 X, x_s203 X, x_a204 X, x_s204 X, Option.bind_some, ↓reduceIte, ite_not, fa_lit, nI_add, nI_mulN, nI_an, nI_sub, irm_n, nI_eq, nI_leI, nI_ltI, v_pow, v_shr, v_bit, nI_cl, nI_m1e, tA_rn, tA_wi, tJ_wr, tJ_wi, hm, hj2, hf0 j (by omega), hw, wr_wi, wi_wi, tI_wr, tI_is, h]
theorem r_tells (X : Fx g) {i n : Nat} (hi : i < 4) (hn : n ≤ 40) (ha : tA t 184 = a) (hm : tA t 203 i = nI n) (f : Nat → Int64) (hf0 : ∀ j, j < n → tJ t 204 (40 * i + j) = f j) (W : WA a D) (hD : D + n < 2 ^ 30) : F_X12_tells 183 (nI i) (Em g t) = some (nI (tls f n 0 a).1, Em g (wr (wi t 183 19 (nI (tls f n 0 a).2.1)) 184 (tls f n 0 a).2.2)) := by
  have h := r_tells_l X hi hn hm f hf0 n 0 FU a D (by omega) (by show n < 1000000; omega) W hD
  rw [← h]
  unfold F_X12_tells
  simp only [x_rc183 X, x_i183_0 X, x_w183_0 X, x_r183_1 X, x_r183_2 X, x_r183_3 X, x_r183_4 X, x_i183_5 X, x_w183_5 X, x_i183_6 X, x_w183_6 X, x_i183_7 X, x_w183_7 X, x_i183_8 X, x_w183_8 X, x_i183_9 X, x_w183_9 X, x_i183_10 X, x_w183_10 X, x_i183_11 X, x_w183_11 X, x_i183_12 X, x_w183_12 X, x_i183_13 X, x_w183_13 X, x_i183_14 X, x_w183_14 X, x_i183_15 X, x_w183_15 X, x_r183_16 X, x_r183_17 X, x_r183_18 X, x_i183_19 X, x_w183_19 X, x_i183_20 X, x_w183_20 X, x_r183_21 X, x_r183_22 X, x_r183_23 X, x_r183_24 X, x_r183_25 X, x_i183_26 X, x_w183_26 X, x_r183_27 X, x_r183_28 X, x_r183_29 X, x_i183_30 X, x_w183_30 X, x_r183_31 X, x_r183_32 X, x_r183_33 X, x_r183_34 X, x_r183_35 X, x_r183_36 X, x_a184 X, x_s184 X, x_a185 X, x_s185 X, x_a186 X, x_s186 X, x_a187 X, x_s187 X, x_a188 X, x_s188 X, x_a189 X, x_s189 X, x_a190 X, x_s190 X, x_a191 X, x_s191 X, x_a192 X, x_s192 X, x_a193 X, x_s193 X, x_a194 X, x_s194 X, x_a195 X, x_s195 X, x_a196 X, x_s196 X, x_a197 X, x_s197 X, x_a198 X, x_s198 X, x_a199 X, x_s199 X, x_a200 X, x_s200 X, x_a201 X, x_s201 X, x_a202 X, x_s202 X, x_a203 X, x_s203 X, x_a204 X, x_s204 X, Option.bind_some, ↓reduceIte, ite_not, fa_lit]
  rw [show wr (wi t 183 19 (nI 0)) 184 a = wi t 183 19 (nI 0) by
    rw [← ha]
    exact wr_self (t := wi t 183 19 (nI 0))]
theorem r_draw (X : Fx g) {n : Nat} (h0 : n ≠ 0) (hn : n < 2 ^ 31) {s : Int32} : F_X12_draw 183 (nI n) (Em g (wi t 183 20 s)) = some (dru (nxs s) n, Em g (wi t 183 20 (nxs s))) := by
  unfold F_X12_draw
  simp (disch := omega) only [x_rc183 X, x_i183_0 X, x_w183_0 X, x_r183_1 X, x_r183_2 X, x_r183_3 X, x_r183_4 X, x_i183_5 X, x_w183_5 X, x_i183_6 X, x_w183_6 X, x_i183_7 X, x_w183_7 X, x_i183_8 X, x_w183_8 X, x_i183_9 X, x_w183_9 X, x_i183_10 X, x_w183_10 X, x_i183_11 X, x_w183_11 X, x_i183_12 X, x_w183_12 X, x_i183_13 X, x_w183_13 X, x_i183_14 X, x_w183_14 X, x_i183_15 X, x_w183_15 X, x_r183_16 X, x_r183_17 X, x_r183_18 X, x_i183_19 X, x_w183_19 X, x_i183_20 X, x_w183_20 X, x_r183_21 X, x_r183_22 X, x_r183_23 X, x_r183_24 X, x_r183_25 X, x_i183_26 X, x_w183_26 X, x_r183_27 X, x_r183_28 X, x_r183_29 X, x_i183_30 X, x_w183_30 X, x_r183_31 X, x_r183_32 X, x_r183_33 X, x_r183_34 X, x_r183_35 X, x_r183_36 X, x_a184 X, x_s184 X, x_a185 X, x_s185 X, x_a186 X, x_s186 X, x_a187 X, x_s187 X, x_a188 X, x_s188 X, x_a189 X, x_s189 X, x_a190 X, x_s190 X, x_a191 X, x_s191 X, x_a192 X, x_s192 X, x_a193 X, x_s193 X, x_a194 X, x_s194 X, x_a195 X, x_s195 X, x_a196 X, x_s196 X, x_a197 X, x_s197 X, x_a198 X, x_s198 X, x_a199 X, x_s199 X, x_a200 X, x_s200 X, x_a201 X, x_s201 X, x_a202 X, x_s202 X, x_a203 X, x_s203 X, x_a204 X, x_s204 X, Option.bind_some, ↓reduceIte, ite_not, fa_lit, nI_eq, h0, tI_is, wi_wi]
  rfl
theorem r_drawn (X : Fx g) {s : Int32} : F_X12_drawn 183 (Em g (wi t 183 20 s)) = some ((drz s).1, Em g (wi t 183 20 (drz s).2)) := by
  unfold F_X12_drawn drz
  simp (disch := omega) only [x_rc183 X, Option.bind_some, fa_lit, r_draw X]
  by_cases h : dru (nxs s) 5 = nI 0
  · rw [if_pos h, if_neg (fun q => q h)]
  · rw [if_neg h, if_pos h]
    by_cases h3 : nI 3 ≤ dru (nxs s) 5
    · rw [if_pos h3, if_pos h3]
    · rw [if_neg h3, if_neg h3]
theorem r_year_l (X : Fx g) {n : Nat} (hn : n ≤ 40) (hw : tA t 190 = w) {nd : Nat} (hnd : nd ≤ 10) : ∀ (d k fuel c : Nat) (s : Int32) (b : Nat → Int32) (D : Nat), k + d = n → d < fuel → c ≤ k → WA b D → D + d < 2 ^ 30 → b 127 = nI nd → F_X12_year_b34 fuel 183 (nI n) (nI c) (nI k) (Em g (wr (wi t 183 20 s) 184 b)) = some (nI (yrs d s c b).1, Em g (wr (wi t 183 20 (yrs d s c b).2.1) 184 (if (yrs d s c b).1 = 0 then (yrs d s c b).2.2 else psh (yrs d s c b).2.2 w))) := by
  intro d
  induction d with
  | zero =>
    intro k fuel c s b D hk hf hc W hD hb
    obtain ⟨f2, rfl⟩ : ∃ f, fuel = f + 1 := ⟨fuel - 1, by omega⟩
    have hk : k = n := by omega
    subst hk
    have hde : vDe b = nd := by
      unfold vDe
      rw [hb, tn_n (by omega)]
    have hnt := r_notes (t := wr (wi t 183 20 s) 184 b) (w := w) X tA_rs (by rw [tA_rn (by decide)]; exact hw) (by rw [hde]; exact hb) (by omega)
    rw [F_X12_year_b34]
    by_cases h : c = 0
    · subst h
      simp (disch := omega) only [Option.bind_some, ↓reduceIte, ite_not, fa_lit, nI_add, nI_mulN, nI_an, nI_sub, irm_n, nI_eq, nI_leI, nI_ltI, v_pow, v_shr, v_bit, nI_cl, nI_m1e, Nat.le_refl]
      rfl
    · have h2 : ¬ c ≤ 0 := by omega
      simp (disch := omega) only [x_rc183 X, Option.bind_some, ↓reduceIte, ite_not, fa_lit, nI_add, nI_mulN, nI_an, nI_sub, irm_n, nI_eq, nI_leI, nI_ltI, v_pow, v_shr, v_bit, nI_cl, nI_m1e, Nat.le_refl, h2, hnt, wr_wr]
      rw [show yrs 0 s c b = (c, s, b) from rfl]
      simp only [h, if_false]
  | succ d ih =>
    intro k fuel c s b D hk hf hc W hD hb
    obtain ⟨f2, rfl⟩ : ∃ f, fuel = f + 1 := ⟨fuel - 1, by omega⟩
    have hk2 : ¬ n ≤ k := by omega
    have hdr := r_drawn (t := wr t 184 b) X (s := s)
    have hwn := r_whyNot (t := wi (wr t 184 b) 183 20 (drz s).2) (a := b) X W tA_rs (drz s).1.toInt64
    have hwl := wyN_le b (drz s).1.toInt64
    rw [F_X12_year_b34, yrs]
    by_cases h : wyN b (drz s).1.toInt64 = 0
    · have hd := r_does (t := wi (wr t 184 b) 183 20 (drz s).2) (a := b) X W tA_rs h
      rw [lg_l2i_i2l] at hd
      rw [if_pos h, ← ih (k + 1) f2 (c + 1) (drz s).2 (doR b (drz s).1.toInt64) (D + 1) (by omega) (by omega) (by omega) (doR_W W (by omega) h) (by omega) (by rw [doR_N W h 127 (by decide)]; exact hb)]
      rw [h] at hwn
      rw [wr_wi] at hdr hwn hd
      rw [wr_wr] at hd
      simp (disch := omega) only [x_rc183 X, Option.bind_some, ↓reduceIte, ite_not, fa_lit, nI_add, nI_mulN, nI_an, nI_sub, irm_n, nI_eq, nI_leI, nI_ltI, v_pow, v_shr, v_bit, nI_cl, nI_m1e, hk2, hdr, wr_wi, hwn, hd]
    · rw [if_neg h, ← ih (k + 1) f2 c (drz s).2 b D (by omega) (by omega) (by omega) W (by omega) hb]
      rw [wr_wi] at hdr hwn
      simp (disch := omega) only [x_rc183 X, Option.bind_some, ↓reduceIte, ite_not, fa_lit, nI_add, nI_mulN, nI_an, nI_sub, irm_n, nI_eq, nI_leI, nI_ltI, v_pow, v_shr, v_bit, nI_cl, nI_m1e, hk2, hdr, wr_wi, hwn, h]
/-! the class -/
def Cv (g : Sk) (v x : Nat) (t0 : Tb) (b0 : Nat → Int32) (D0 : Nat) : Prop := ∀ t b D, Ox x t0 t → Nq b0 b → D0 ≤ D → WA b D → StP t x (vP b) b 107 → ∃ a, CP g t v a D ∧ Vq a b
def TyS (g : Sk) (T : Nat) : Prop := 69 ≤ T ∧ oc 7 (gS g T) ∧ gR g T 0 = some (T + 1) ∧ gS g (T + 1) = 21 ∧ gN g (T + 1) = 40
theorem VaP_o (V : VaS g v) (hx : x = 95 ∨ x = 99) (h : VaP g t v a) (s : Ox x t t') : VaP g t' v a := by
  have h1 := V.1
  unfold VaP
  rw [s.1 v 0 (by omega), s.1 v 1 (by omega), s.1 v 2 (by omega), s.1 v 3 (by omega), s.1 v 4 (by omega), s.2.1 (v + 1) (by omega) (by omega) (by omega), s.2.1 (v + 2) (by omega) (by omega) (by omega), s.2.1 (v + 3) (by omega) (by omega) (by omega), s.2.1 (v + 4) (by omega) (by omega) (by omega), s.2.1 (v + 5) (by omega) (by omega) (by omega), s.2.1 (v + 6) (by omega) (by omega) (by omega)]
  refine ⟨h.1, h.2.1, h.2.2.1, h.2.2.2.1, ?_⟩
  rcases h.2.2.2.2 with q | ⟨q, w, hw, hL⟩
  · exact Or.inl q
  · have hw2 := hL.1.1.1
    refine Or.inr ⟨q, w, hw, hL.1, fun k hk => ?_⟩
    rw [s.2.1 (w + 1) (by omega) (by omega) (by omega)]
    exact hL.2 k hk
theorem Cv_95 (C : CP g t v b D) : Cv g v 95 t b D := by
  intro t1 b1 D1 o n hD W S
  refine ⟨b1, ⟨W, C.2.1, VaP_q (Nq_V n) C.1.1 (VaP_o C.2.1 (Or.inl rfl) C.2.2.1 o), C.2.2.2.1, S⟩, Vq_r⟩
theorem Cv_99 (C : CP g t v a D) (q : Vq a b) : Cv g v 99 t b D := by
  intro t1 b1 D1 o n hD W S
  exact ⟨a, ⟨WA_m hD W.2.2 C.1, C.2.1, VaP_o C.2.1 (Or.inr rfl) C.2.2.1 o, C.2.2.2.1, StP_o (by omega) C.2.2.2.2 o⟩, Vq_t q (Nq_V n)⟩
theorem k_doAll_l (Z : StS g x) {t0 : Tb} {b0 : Nat → Int32} {D0 : Nat} (K : Cv g v x t0 b0 D0) {T n : Nat} (Y : TyS g T) (hT : T ≠ x) (hn : n ≤ 40) (hm : tI t0 T 1 = nI n) (f : Nat → Int64) (hf0 : ∀ j, j < n → tJ t0 (T + 1) j = f j) : ∀ (d j fuel : Nat) (t : Tb) (b : Nat → Int32) (D : Nat), Ox x t0 t → Nq b0 b → D0 ≤ D → WA b D → D + d < 2 ^ 30 → StP t x (vP b) b 107 → j + d = n → d < fuel → ∃ t', F_X0_doAll_b2 fuel v x T (nI j) (Em g t) = some (nI (tls f d j b).1, Em g t') ∧ Ox x t t' ∧ StP t' x (vP b) (tls f d j b).2.2 107 := by
  have y1 : ∀ t, fI (Em g t) T 7 1 = some (tI t T 1) := fun t => y_fI Y.2.1 Y.1 (by decide) rfl
  have y2 : ∀ t, fR (Em g t) T 7 0 = some (T + 1) := fun t => y_fR Y.2.1 Y.2.2.1 Y.1 (by decide) rfl
  have y3 : ∀ t k, k < 40 → aJ (Em g t) (T + 1) (nI k) = some (tJ t (T + 1) k) := fun t k hk => y_aJ Y.2.2.2.1 Y.2.2.2.2 (by have := Y.1; omega) (by decide) hk
  intro d
  induction d with
  | zero =>
    intro j fuel t b D o nq hD W hb S hj hf
    obtain ⟨f2, rfl⟩ : ∃ f, fuel = f + 1 := ⟨fuel - 1, by omega⟩
    have hj : j = n := by omega
    subst hj
    have hm2 : tI t T 1 = nI j := by rw [o.1 T 1 hT]; exact hm
    refine ⟨t, ?_, Ox_r, S⟩
    rw [F_X0_doAll_b2]
    simp (disch := omega) only [Option.bind_some, ↓reduceIte, ite_not, fa_lit, nI_add, nI_mulN, nI_an, nI_sub, irm_n, nI_eq, nI_leI, nI_ltI, v_pow, v_shr, v_bit, nI_cl, nI_m1e, y1, hm2, Nat.le_refl]
    rfl
  | succ d ih =>
    intro j fuel t b D o nq hD W hb S hj hf
    obtain ⟨f2, rfl⟩ : ∃ f, fuel = f + 1 := ⟨fuel - 1, by omega⟩
    have hm2 : tI t T 1 = nI n := by rw [o.1 T 1 hT]; exact hm
    have hf2 : tJ t (T + 1) j = f j := by rw [o.2.2]; exact hf0 j (by omega)
    have hj2 : ¬ n ≤ j := by omega
    obtain ⟨a, C, q⟩ := K t b D o nq hD W S
    obtain ⟨t1, e1, o1, s1⟩ := k_doOne C q W Z S (f j)
    have hwl := wyN_le b (f j)
    rw [F_X0_doAll_b2, tls]
    by_cases h : wyN b (f j) = 0
    · rw [if_pos h] at s1
      have nn := doR_N W h
      have ep : vP (doR b (f j)) = vP b := q_vP (Nq_V nn)
      obtain ⟨t2, e2, o2, s2⟩ := ih (j + 1) f2 t1 (doR b (f j)) (D + 1) (Ox_t o o1) (Nq_t nq nn) (by omega) (doR_W W (by omega) h) (by omega) (by rw [ep]; exact s1) (by omega) (by omega)
      rw [if_pos h]
      refine ⟨t2, ?_, Ox_t o1 o2, by rw [ep] at s2; exact s2⟩
      rw [h] at e1
      simp (disch := omega) only [Option.bind_some, ↓reduceIte, ite_not, fa_lit, nI_add, nI_mulN, nI_an, nI_sub, irm_n, nI_eq, nI_leI, nI_ltI, v_pow, v_shr, v_bit, nI_cl, nI_m1e, y1, y2, y3, hm2, hf2, hj2, e1]
      exact e2
    · rw [if_neg h] at s1
      rw [if_neg h]
      refine ⟨t1, ?_, o1, s1⟩
      simp (disch := omega) only [Option.bind_some, ↓reduceIte, ite_not, fa_lit, nI_add, nI_mulN, nI_an, nI_sub, irm_n, nI_eq, nI_leI, nI_ltI, v_pow, v_shr, v_bit, nI_cl, nI_m1e, y1, y2, y3, hm2, hf2, hj2, e1, h]
theorem k_draws_l (Z : StS g x) {t0 : Tb} {b0 : Nat → Int32} {D0 : Nat} (K : Cv g v x t0 b0 D0) {n : Nat} (hn : n ≤ 40) : ∀ (d k fuel c : Nat) (s : Int32) (t : Tb) (b : Nat → Int32) (D : Nat), Ox x t0 t → Nq b0 b → D0 ≤ D → WA b D → D + d < 2 ^ 30 → StP t x (vP b) b 107 → k + d = n → d < fuel → c ≤ k → ∃ t', F_X0_doByDraws_b9 fuel v x (nI n) s (nI c) (nI k) (Em g t) = some (nI (yrs d s c b).1, Em g t') ∧ Ox x t t' ∧ StP t' x (vP b) (yrs d s c b).2.2 107 := by
  intro d
  induction d with
  | zero =>
    intro k fuel c s t b D o nq hD W hb S hk hf hc
    obtain ⟨f2, rfl⟩ : ∃ f, fuel = f + 1 := ⟨fuel - 1, by omega⟩
    have hk : k = n := by omega
    subst hk
    refine ⟨t, ?_, Ox_r, S⟩
    rw [F_X0_doByDraws_b9]
    simp (disch := omega) only [Option.bind_some, ↓reduceIte, ite_not, fa_lit, nI_add, nI_mulN, nI_an, nI_sub, irm_n, nI_eq, nI_leI, nI_ltI, v_pow, v_shr, v_bit, nI_cl, nI_m1e, Nat.le_refl]
    rfl
  | succ d ih =>
    intro k fuel c s t b D o nq hD W hb S hk hf hc
    obtain ⟨f2, rfl⟩ : ∃ f, fuel = f + 1 := ⟨fuel - 1, by omega⟩
    have hk2 : ¬ n ≤ k := by omega
    obtain ⟨a, C, q⟩ := K t b D o nq hD W S
    obtain ⟨t1, e1, o1, s1⟩ := k_doOne C q W Z S (drz s).1.toInt64
    have hwl := wyN_le b (drz s).1.toInt64
    have hin : ∃ t', F_X0_doByDraws_b96 (F_X0_doByDraws_b9 f2) v x (nI n) (drz s).2 (nI c) (nI k) (drz s).1 (Em g t) = some (nI (yrs (d + 1) s c b).1, Em g t') ∧ Ox x t t' ∧ StP t' x (vP b) (yrs (d + 1) s c b).2.2 107 := by
      unfold F_X0_doByDraws_b96
      rw [yrs]
      by_cases h : wyN b (drz s).1.toInt64 = 0
      · rw [if_pos h] at s1
        have nn := doR_N W h
        have ep : vP (doR b (drz s).1.toInt64) = vP b := q_vP (Nq_V nn)
        obtain ⟨t2, e2, o2, s2⟩ := ih (k + 1) f2 (c + 1) (drz s).2 t1 (doR b (drz s).1.toInt64) (D + 1) (Ox_t o o1) (Nq_t nq nn) (by omega) (doR_W W (by omega) h) (by omega) (by rw [ep]; exact s1) (by omega) (by omega) (by omega)
        rw [if_pos h]
        refine ⟨t2, ?_, Ox_t o1 o2, by rw [ep] at s2; exact s2⟩
        rw [h] at e1
        simp (disch := omega) only [Option.bind_some, ↓reduceIte, ite_not, fa_lit, nI_add, nI_mulN, nI_an, nI_sub, irm_n, nI_eq, nI_leI, nI_ltI, v_pow, v_shr, v_bit, nI_cl, nI_m1e, e1]
        exact e2
      · rw [if_neg h] at s1
        obtain ⟨t2, e2, o2, s2⟩ := ih (k + 1) f2 c (drz s).2 t1 b D (Ox_t o o1) nq hD W (by omega) s1 (by omega) (by omega) (by omega)
        rw [if_neg h]
        refine ⟨t2, ?_, Ox_t o1 o2, s2⟩
        simp (disch := omega) only [Option.bind_some, ↓reduceIte, ite_not, fa_lit, nI_add, nI_mulN, nI_an, nI_sub, irm_n, nI_eq, nI_leI, nI_ltI, v_pow, v_shr, v_bit, nI_cl, nI_m1e, e1, h]
        exact e2
    obtain ⟨t', e, o2, s2⟩ := hin
    refine ⟨t', ?_, o2, s2⟩
    rw [← e]
    have hx1 : (nI 1103515245) * s + nI 12345 = nxs s := rfl
    have hx2 : (nI 1103515245) * (nxs s) + nI 12345 = nxs (nxs s) := rfl
    have hx3 : (nI 1103515245) * (nxs (nxs s)) + nI 12345 = nxs (nxs (nxs s)) := rfl
    have hu : ∀ s n, irm (ush s (nI 16)) (nI n) = dru s n := fun _ _ => rfl
    have h10 : ¬ nI 10 = nI 0 := by decide
    have h6 : ¬ nI 6 = nI 0 := by decide
    rw [F_X0_doByDraws_b9]
    unfold F_X0_nextSeed F_X0_kindOfDeed F_X0_doByDraws_b92
    unfold drz
    simp only [fa_lit, nI_leI (show n < 2 ^ 31 by omega) (show k < 2 ^ 31 by omega), hk2, if_false, Option.bind_some, hx1, hx2, hx3, hu, h10, h6]
    by_cases h0 : dru (nxs s) 5 = nI 0
    · rw [if_pos h0, if_pos h0]
    · rw [if_neg h0, if_neg h0]
      by_cases h3 : nI 3 ≤ dru (nxs s) 5
      · simp only [h3, if_true, Option.bind_some]
        rw [Int32.mul_comm (nI 100), Int32.mul_comm (nI 10)]
      · simp only [h3, if_false, Option.bind_some]
        rw [Int32.mul_comm (nI 10), show ∀ y : Int32, nI 0 + y = y from fun y => Int32.zero_add y]
end XT
