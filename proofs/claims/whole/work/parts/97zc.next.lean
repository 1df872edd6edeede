/-! ===== the reference's tokens ===== -/
def MR (s : Tb) (T : Nat → Int32) (n : Nat) : Prop := n ≤ 900 ∧ tI s 183 8 = nI n ∧ ∀ k, k < n → tA s 186 k = T k
def sT (T : Nat → Int32) (n k : Nat) : Int32 := if n ≤ k then -nI 1 else T k
def kps (j : Nat) : Nat := ([1, 7, 12, 18, 22, 29, 32, 38, 42, 48, 54, 59, 63, 68, 73, 76, 81, 85, 88, 92] : List Nat).getD j 0
theorem kp_c : xsl 32 = 92 ∧ ∀ j, j < 19 → (kps (j + 1) = kps j + xsl (ksi j) + 1 ∧ kps j + xsl (ksi j) < 92 ∧ xsb 32 (kps j + xsl (ksi j)) = nI 32 ∧ ksi j < 34 ∧ xsl (ksi j) < 20 ∧ ∀ i, i < xsl (ksi j) → (xsb 32 (kps j + i) = xsb (ksi j) i ∧ xsb (ksi j) i ≠ nI 32)) := by decide +kernel
theorem sg_c : xsl 33 = 12 ∧ ∀ j, j < 12 → (xsb 33 j = xsb 0 j ∧ ∀ i, i < 12 → xsb 0 j = xsb 0 i → j = i) := by decide +kernel
def nxE (x0 : Nat) (h : xH) : Option (Unit × xH) := (fI h x0 11 6).bind fun v49 => (wI h x0 11 7 v49).bind fun h52 => (fI h52 x0 11 6).bind fun v56 => (fI h52 x0 11 8).bind fun v60 => if v56 < v60 then (fI h52 x0 11 6).bind fun v77 => (rc h52 x0 11).bind fun _ => (F_X12_see x0 v77 h52).bind fun z80 => (F_X12_isSmall z80.1 z80.2).bind fun z83 => if z83.1 = 0 then (fI z83.2 x0 11 6).bind fun v129 => (rc z83.2 x0 11).bind fun _ => (F_X12_see x0 v129 z83.2).bind fun z132 => (F_X12_isDigit z132.1 z132.2).bind fun z135 => if z135.1 = 0 then (fI z135.2 x0 11 7).bind fun v238 => (wI z135.2 x0 11 7 (v238 + 1)).bind fun h243 => (wI h243 x0 11 9 25).bind fun h249 => F_X12_next_b254 FU x0 0 h249 else (wI z135.2 x0 11 10 0).bind fun h143 => F_X12_next_b146 FU x0 h143 else F_X12_next_b89 FU x0 z83.2 else (wI h52 x0 11 9 24).bind fun h69 => some ((), h69)
def nxW (x0 : Nat) (h : xH) : Option (Unit × xH) := (rc h x0 11).bind fun _ => (F_X12_keyAt x0 h).bind fun z118 => (wI z118.2 x0 11 9 z118.1).bind fun h121 => some ((), h121)
theorem r_small (x : Int32) (h : xH) : F_X12_isSmall x h = some (bI (ltr x), h) := by
  unfold F_X12_isSmall ltr
  by_cases c1 : x < (97 : Int32)
  · rw [if_pos c1, decide_eq_false (fun h => absurd c1 (Int32.not_lt.mpr h.1))]; rfl
  · rw [if_neg c1]
    by_cases c2 : (122 : Int32) < x
    · rw [if_pos c2, decide_eq_false (fun h => absurd c2 (Int32.not_lt.mpr h.2))]; rfl
    · rw [if_neg c2, decide_eq_true ⟨Int32.not_lt.mp c1, Int32.not_lt.mp c2⟩]; rfl
theorem r_digit (x : Int32) (h : xH) : F_X12_isDigit x h = some (bI (dgt x), h) := by
  unfold F_X12_isDigit dgt
  by_cases c1 : x < (48 : Int32)
  · rw [if_pos c1, decide_eq_false (fun h => absurd c1 (Int32.not_lt.mpr h.1))]; rfl
  · rw [if_neg c1]
    by_cases c2 : (57 : Int32) < x
    · rw [if_pos c2, decide_eq_false (fun h => absurd c2 (Int32.not_lt.mpr h.2))]; rfl
    · rw [if_neg c2, decide_eq_true ⟨Int32.not_lt.mp c1, Int32.not_lt.mp c2⟩]; rfl
section XNx
variable {g : Sk} {s s' s'' : Tb} {T : Nat → Int32} {n a : Nat} {S S' : List Nat}
theorem MR_q (h : MR s T n) (q : Qs 183 S s s') (h8 : 8 ∉ S) : MR s' T n := ⟨h.1, by rw [q.1 183 8 (fun _ => h8)]; exact h.2.1, fun k hk => by rw [q.2.1]; exact h.2.2 k hk⟩
theorem r_see (X : Fx g) (R : MR s T n) {k : Nat} (hk : k < 2 ^ 31) : F_X12_see 183 (nI k) (Em g s) = some (sT T n k, Em g s) := by
  have h9 := R.1
  unfold F_X12_see sT
  rw [x_i183_8 X, Option.bind_some, R.2.1]
  by_cases c : n ≤ k
  · rw [if_pos (by rw [nI_leI (by omega) hk]; exact c), if_pos c]; rfl
  · rw [if_neg (by rw [nI_leI (by omega) hk]; exact c), if_neg c, x_r183_3 X, Option.bind_some, x_a186 X (by omega), Option.bind_some, R.2.2 k (by omega)]
theorem r_sk (X : Fx g) : ∀ (d b fuel : Nat) (s : Tb), b + d = n → d < fuel → MR s T n → tI s 183 6 = nI b → ∃ s', F_X12_next_b8 fuel 183 (Em g s) = nxE 183 (Em g s') ∧ Qs 183 [6] s s' ∧ tI s' 183 6 = nI (run spc T d b) := by
  intro d
  induction d with
  | zero =>
    intro b fuel s hb hf R h6
    have h9 := R.1
    obtain ⟨f, rfl⟩ : ∃ f, fuel = f + 1 := ⟨fuel - 1, by omega⟩
    refine ⟨s, ?_, Qs_r, h6⟩
    have hm : sT T n b = -nI 1 := if_pos (by omega)
    rw [F_X12_next_b8, x_i183_6 X, Option.bind_some, h6, x_rc183 X, Option.bind_some, r_see X R (by omega), Option.bind_some, hm, if_neg (show ¬ -nI 1 = (10 : Int32) by decide), x_i183_6 X, Option.bind_some, h6, x_rc183 X, Option.bind_some, r_see X R (by omega), Option.bind_some, hm, if_pos (show ¬ -nI 1 = (32 : Int32) by decide)]
    rfl
  | succ d ih =>
    intro b fuel s hb hf R h6
    have h9 := R.1
    obtain ⟨f, rfl⟩ : ∃ f, fuel = f + 1 := ⟨fuel - 1, by omega⟩
    have hm : sT T n b = T b := if_neg (by omega)
    have head : F_X12_next_b8 (f + 1) 183 (Em g s) = if T b = (10 : Int32) then F_X12_next_b34 (F_X12_next_b8 f) 183 (Em g s) else if ¬ T b = (32 : Int32) then nxE 183 (Em g s) else F_X12_next_b34 (F_X12_next_b8 f) 183 (Em g s) := by
      rw [F_X12_next_b8, x_i183_6 X, Option.bind_some, h6, x_rc183 X, Option.bind_some, r_see X R (by omega), Option.bind_some, hm, x_i183_6 X, Option.bind_some, h6, x_rc183 X, Option.bind_some, r_see X R (by omega), Option.bind_some, hm]
      rfl
    have go : spc (T b) = true → ∃ s', F_X12_next_b34 (F_X12_next_b8 f) 183 (Em g s) = nxE 183 (Em g s') ∧ Qs 183 [6] s s' ∧ tI s' 183 6 = nI (run spc T (d + 1) b) := fun hs => by
      obtain ⟨t2, e2, q2, k2⟩ := ih (b + 1) f (wi s 183 6 (nI (b + 1))) (by omega) (by omega) (MR_q R (Qs_w (S := [6]) (by decide) Qs_r) (by decide)) tI_is
      refine ⟨t2, ?_, Qs_t (Qs_w (by decide) Qs_r) q2, by rw [run, if_pos hs]; exact k2⟩
      unfold F_X12_next_b34
      rw [x_i183_6 X, Option.bind_some, h6, show nI b + 1 = nI (b + 1) from nI_add b 1, x_w183_6 X, Option.bind_some]
      exact e2
    rw [head]
    by_cases c1 : T b = nI 10
    · rw [if_pos (show T b = (10 : Int32) from c1)]
      exact go (decide_eq_true (Or.inl c1))
    · rw [if_neg (show ¬ T b = (10 : Int32) from c1)]
      by_cases c2 : T b = nI 32
      · rw [if_neg (show ¬ ¬ T b = (32 : Int32) from fun h => h c2)]
        exact go (decide_eq_true (Or.inr c2))
      · rw [if_pos (show ¬ T b = (32 : Int32) from c2)]
        refine ⟨s, rfl, Qs_r, ?_⟩
        rw [run, if_neg (fun h => by
          unfold spc at h
          rw [decide_eq_true_eq] at h
          rcases h with h | h
          · exact c1 h
          · exact c2 h)]
        exact h6
theorem r_wd (X : Fx g) : ∀ (d e fuel : Nat) (s : Tb), e + d = n → d < fuel → MR s T n → tI s 183 7 = nI e → ∃ s', F_X12_next_b89 fuel 183 (Em g s) = nxW 183 (Em g s') ∧ Qs 183 [7] s s' ∧ tI s' 183 7 = nI (run ltr T d e) := by
  intro d
  induction d with
  | zero =>
    intro e fuel s hb hf R h7
    have h9 := R.1
    obtain ⟨f, rfl⟩ : ∃ f, fuel = f + 1 := ⟨fuel - 1, by omega⟩
    refine ⟨s, ?_, Qs_r, h7⟩
    have hm : sT T n e = -nI 1 := if_pos (by omega)
    rw [F_X12_next_b89, x_i183_7 X, Option.bind_some, h7, x_rc183 X, Option.bind_some, r_see X R (by omega), Option.bind_some, hm, r_small, Option.bind_some, if_pos (show bI (ltr (-nI 1)) = (0 : Int32) by decide)]
    rfl
  | succ d ih =>
    intro e fuel s hb hf R h7
    have h9 := R.1
    obtain ⟨f, rfl⟩ : ∃ f, fuel = f + 1 := ⟨fuel - 1, by omega⟩
    have hm : sT T n e = T e := if_neg (by omega)
    rw [F_X12_next_b89, x_i183_7 X, Option.bind_some, h7, x_rc183 X, Option.bind_some, r_see X R (by omega), Option.bind_some, hm, r_small, Option.bind_some, run]
    cases c : ltr (T e)
    · refine ⟨s, ?_, Qs_r, by rw [if_neg (by decide)]; exact h7⟩
      rw [if_pos (show bI false = (0 : Int32) by decide)]
      rfl
    · obtain ⟨t2, e2, q2, k2⟩ := ih (e + 1) f (wi s 183 7 (nI (e + 1))) (by omega) (by omega) (MR_q R (Qs_w (S := [7]) (by decide) Qs_r) (by decide)) tI_is
      refine ⟨t2, ?_, Qs_t (Qs_w (by decide) Qs_r) q2, by rw [if_pos rfl]; exact k2⟩
      rw [if_neg (show ¬ bI true = (0 : Int32) by decide), x_i183_7 X, Option.bind_some, h7, show nI e + 1 = nI (e + 1) from nI_add e 1, x_w183_7 X, Option.bind_some]
      exact e2
/-! the keywords -/
theorem r_k97 {j : Nat} (hj : j < 19) (k4 : Nat → Int32 → Int32 → xH → Option (Int32 × xH)) : ∀ (d i fuel : Nat), i + d = xsl (ksi j) → d < fuel → F_X12_keyAt_b97 k4 fuel 183 (nI j) (nI (kps j + i)) (Em g s) = k4 183 (nI (j + 1)) (nI (kps (j + 1))) (Em g s) := by
  obtain ⟨l32, kc⟩ := kp_c
  obtain ⟨c1, c2, c3, c4, c5, c6⟩ := kc j hj
  have hrs : rcS (Em g s) 64 = some () := if_pos ⟨by decide, by decide⟩
  intro d
  induction d with
  | zero =>
    intro i fuel hi hf
    obtain ⟨f, rfl⟩ : ∃ f, fuel = f + 1 := ⟨fuel - 1, by omega⟩
    have hi : i = xsl (ksi j) := by omega
    rw [F_X12_keyAt_b97, hrs, Option.bind_some, s_chr (i := 32) rfl (by decide) (by rw [l32, hi]; exact c2), Option.bind_some, hi, c3, if_pos (show nI 32 = (32 : Int32) from rfl), show nI j + 1 = nI (j + 1) from nI_add j 1, show nI (kps j + xsl (ksi j)) + 1 = nI (kps j + xsl (ksi j) + 1) from nI_add _ 1, c1]
  | succ d ih =>
    intro i fuel hi hf
    obtain ⟨f, rfl⟩ : ∃ f, fuel = f + 1 := ⟨fuel - 1, by omega⟩
    obtain ⟨d1, d2⟩ := c6 i (by omega)
    rw [F_X12_keyAt_b97, hrs, Option.bind_some, s_chr (i := 32) rfl (by decide) (by rw [l32]; omega), Option.bind_some, d1, if_neg (show ¬ xsb (ksi j) i = (32 : Int32) from d2), show nI (kps j + i) + 1 = nI (kps j + (i + 1)) from nI_add _ 1]
    exact ih (i + 1) f (by omega) (by omega)
theorem r_k15 (X : Fx g) (R : MR s T n) {j b e : Nat} (hj : j < 19) (he : e ≤ n) (h6 : tI s 183 6 = nI b) (h7 : tI s 183 7 = nI e) (k4 : Nat → Int32 → Int32 → xH → Option (Int32 × xH)) : ∀ (d i fuel : Nat), i + d = xsl (ksi j) → d < fuel → b + i ≤ e → (∀ i', i' < i → T (b + i') = xsb (ksi j) i') → F_X12_keyAt_b15 k4 fuel 183 (nI j) (nI (kps j)) (nI i) (Em g s) = if eqs T b e (ksi j) = true then some (nI j, Em g s) else F_X12_keyAt_b97 k4 FU 183 (nI j) (nI (kps j)) (Em g s) := by
  have h9 := R.1
  obtain ⟨l32, kc⟩ := kp_c
  obtain ⟨c1, c2, c3, c4, c5, c6⟩ := kc j hj
  have hrs : rcS (Em g s) 64 = some () := if_pos ⟨by decide, by decide⟩
  have no69 : ∀ i, i < xsl (ksi j) → F_X12_keyAt_b69 k4 183 (nI j) (nI (kps j)) (nI i) (Em g s) = F_X12_keyAt_b97 k4 FU 183 (nI j) (nI (kps j)) (Em g s) := fun i hi => by
    obtain ⟨d1, d2⟩ := c6 i hi
    unfold F_X12_keyAt_b69
    rw [hrs, Option.bind_some, nI_add, s_chr (i := 32) rfl (by decide) (by rw [l32]; omega), Option.bind_some, d1, if_pos (show ¬ xsb (ksi j) i = (32 : Int32) from d2)]
  intro d
  induction d with
  | zero =>
    intro i fuel hi hf hb h
    obtain ⟨f, rfl⟩ : ∃ f, fuel = f + 1 := ⟨fuel - 1, by omega⟩
    have hi : i = xsl (ksi j) := by omega
    subst hi
    rw [F_X12_keyAt_b15, hrs, Option.bind_some, nI_add, s_chr (i := 32) rfl (by decide) (by rw [l32]; exact c2), Option.bind_some, c3, if_pos (show nI 32 = (32 : Int32) from rfl)]
    unfold F_X12_keyAt_b69
    rw [hrs, Option.bind_some, nI_add, s_chr (i := 32) rfl (by decide) (by rw [l32]; exact c2), Option.bind_some, c3, if_neg (show ¬ ¬ nI 32 = (32 : Int32) from fun h => h rfl), x_i183_6 X, Option.bind_some, x_i183_7 X, Option.bind_some, h6, h7, nI_add]
    by_cases c : b + xsl (ksi j) = e
    · have he : eqs T b e (ksi j) = true := by unfold eqs; exact decide_eq_true ⟨by omega, h⟩
      rw [if_neg (fun q => q (by rw [c])), if_pos he]
    · have he : ¬ eqs T b e (ksi j) = true := fun q => by
        unfold eqs at q
        rw [decide_eq_true_eq] at q
        omega
      rw [if_pos (show ¬ nI _ = nI e by rw [nI_eq (by omega) (by omega)]; exact c), if_neg he]
  | succ d ih =>
    intro i fuel hi hf hb h
    obtain ⟨f, rfl⟩ : ∃ f, fuel = f + 1 := ⟨fuel - 1, by omega⟩
    obtain ⟨d1, d2⟩ := c6 i (by omega)
    rw [F_X12_keyAt_b15, hrs, Option.bind_some, nI_add, s_chr (i := 32) rfl (by decide) (by rw [l32]; omega), Option.bind_some, d1, if_neg (show ¬ xsb (ksi j) i = (32 : Int32) from d2), x_i183_6 X, Option.bind_some, x_i183_7 X, Option.bind_some, h6, h7, nI_add]
    by_cases c : e ≤ b + i
    · have he : ¬ eqs T b e (ksi j) = true := fun q => by
        unfold eqs at q
        rw [decide_eq_true_eq] at q
        omega
      rw [if_pos (by rw [nI_leI (by omega) (by omega)]; exact c), if_neg he]
      exact no69 i (by omega)
    · rw [if_neg (by rw [nI_leI (by omega) (by omega)]; exact c), x_r183_3 X, Option.bind_some, Option.bind_some, nI_add, x_a186 X (by omega), Option.bind_some, R.2.2 (b + i) (by omega), hrs, Option.bind_some, s_chr (i := 32) rfl (by decide) (by rw [l32]; omega), Option.bind_some, d1]
      by_cases c7 : T (b + i) = xsb (ksi j) i
      · rw [if_neg (fun q => q c7), show nI i + 1 = nI (i + 1) from nI_add i 1]
        exact ih (i + 1) f (by omega) (by omega) (by omega) (fun i' hi' => by
          by_cases q : i' = i
          · rw [q]; exact c7
          · exact h i' (by omega))
      · have he : ¬ eqs T b e (ksi j) = true := fun q => by
          unfold eqs at q
          rw [decide_eq_true_eq] at q
          exact c7 (q.2 i (by omega))
        rw [if_pos c7, if_neg he]
        exact no69 i (by omega)
theorem r_key_l (X : Fx g) (R : MR s T n) {b e : Nat} (hbe : b ≤ e) (he : e ≤ n) (h6 : tI s 183 6 = nI b) (h7 : tI s 183 7 = nI e) : ∀ (d j fuel : Nat), j + d = 19 → d < fuel → F_X12_keyAt_b4 fuel 183 (nI j) (nI (kps j)) (Em g s) = some (nI (kwz T b e d j), Em g s) := by
  obtain ⟨l32, kc⟩ := kp_c
  have hrs : rcS (Em g s) 64 = some () := if_pos ⟨by decide, by decide⟩
  have hlen : F_J0_length_8abf5 64 (Em g s) = some (nI 92, Em g s) := by
    have := s_len (g := g) (t := s) (a := 64) (i := 32) rfl (by decide)
    rw [l32] at this
    exact this
  intro d
  induction d with
  | zero =>
    intro j fuel hj hf
    obtain ⟨f, rfl⟩ : ∃ f, fuel = f + 1 := ⟨fuel - 1, by omega⟩
    have hj : j = 19 := by omega
    subst hj
    rw [F_X12_keyAt_b4, hrs, Option.bind_some, hlen, Option.bind_some, if_pos (show nI 92 ≤ nI (kps 19) by decide), kwz]
    rfl
  | succ d ih =>
    intro j fuel hj hf
    obtain ⟨f, rfl⟩ : ∃ f, fuel = f + 1 := ⟨fuel - 1, by omega⟩
    obtain ⟨c1, c2, c3, c4, c5, c6⟩ := kc j (by omega)
    have hfu : xsl (ksi j) < FU := by show xsl (ksi j) < 1000000; omega
    have key := r_k15 X R (j := j) (by omega) he h6 h7 (F_X12_keyAt_b4 f) (xsl (ksi j)) 0 FU (by omega) hfu (by omega) (fun i' h => absurd h (by omega))
    have key' : F_X12_keyAt_b15 (F_X12_keyAt_b4 f) FU 183 (nI j) (nI (kps j)) 0 (Em g s) = _ := key
    rw [F_X12_keyAt_b4, hrs, Option.bind_some, hlen, Option.bind_some, if_neg (by rw [nI_leI (by decide) (by omega)]; omega), key', kwz]
    by_cases c : eqs T b e (ksi j) = true
    · rw [if_pos c, if_pos c]
    · rw [if_neg c, if_neg c]
      have := r_k97 (g := g) (s := s) (j := j) (by omega) (F_X12_keyAt_b4 f) (xsl (ksi j)) 0 FU (by omega) hfu
      rw [Nat.add_zero] at this
      rw [this]
      exact ih (j + 1) f (by omega) (by omega)
theorem r_key (X : Fx g) (R : MR s T n) {b e : Nat} (hbe : b ≤ e) (he : e ≤ n) (h6 : tI s 183 6 = nI b) (h7 : tI s 183 7 = nI e) : F_X12_keyAt 183 (Em g s) = some (nI (kwz T b e 19 0), Em g s) := r_key_l X R hbe he h6 h7 19 0 FU rfl (by decide)
/-! numbers -/
theorem r_num (X : Fx g) {b : Nat} : ∀ (d e fuel : Nat) (s : Tb), e + d = n → d < fuel → MR s T n → b ≤ e → (∀ k, b ≤ k → k < e → dgt (T k) = true) → tI s 183 6 = nI b → tI s 183 7 = nI e → tI s 183 10 = nI (nvl T b (e - b)) → ∃ s', F_X12_next_b146 fuel 183 (Em g s) = some ((), Em g s') ∧ Qs 183 [7, 9, 10] s s' ∧ tI s' 183 7 = nI (run dgt T d e) ∧ tI s' 183 10 = nI (nvl T b (run dgt T d e - b)) ∧ tI s' 183 9 = nI (if run dgt T d e - b ≤ 3 then 23 else 25) := by
  intro d
  have fin : ∀ (e f : Nat) (s : Tb), e ≤ n → MR s T n → b ≤ e → tI s 183 6 = nI b → tI s 183 7 = nI e → tI s 183 10 = nI (nvl T b (e - b)) → dgt (sT T n e) = false → ∃ s', F_X12_next_b146 (f + 1) 183 (Em g s) = some ((), Em g s') ∧ Qs 183 [7, 9, 10] s s' ∧ tI s' 183 7 = nI e ∧ tI s' 183 10 = nI (nvl T b (e - b)) ∧ tI s' 183 9 = nI (if e - b ≤ 3 then 23 else 25) := fun e f s hen R hbe h6 h7 h10 hd => by
    have h9 := R.1
    have head : ∀ z, (if e - b ≤ 3 then z = nI 23 else z = nI 25) → F_X12_next_b146 (f + 1) 183 (Em g s) = some ((), Em g (wi s 183 9 z)) := fun z hz => by
      rw [F_X12_next_b146, x_i183_7 X, Option.bind_some, h7, x_rc183 X, Option.bind_some, r_see X R (by omega), Option.bind_some, r_digit, Option.bind_some, hd, if_pos (show bI false = (0 : Int32) by decide), x_i183_7 X, Option.bind_some, x_i183_6 X, Option.bind_some, h6, h7, nI_sub hbe]
      by_cases c : e - b ≤ 3
      · rw [if_pos c] at hz
        rw [if_pos (show nI (e - b) ≤ (3 : Int32) from show nI (e - b) ≤ nI 3 by rw [nI_leI (by omega) (by decide)]; exact c), show (23 : Int32) = nI 23 from rfl, x_w183_9 X, Option.bind_some, hz]
      · rw [if_neg c] at hz
        rw [if_neg (show ¬ nI (e - b) ≤ (3 : Int32) from show ¬ nI (e - b) ≤ nI 3 by rw [nI_leI (by omega) (by decide)]; exact c), show (25 : Int32) = nI 25 from rfl, x_w183_9 X, Option.bind_some, hz]
    refine ⟨_, head (nI (if e - b ≤ 3 then 23 else 25)) (by split <;> rfl), Qs_w (by decide) Qs_r, by rw [tI_ik (by decide)]; exact h7, by rw [tI_ik (by decide)]; exact h10, tI_is⟩
  induction d with
  | zero =>
    intro e fuel s hb hf R hbe hd h6 h7 h10
    obtain ⟨f, rfl⟩ : ∃ f, fuel = f + 1 := ⟨fuel - 1, by omega⟩
    exact fin e f s (by omega) R hbe h6 h7 h10 (by rw [show sT T n e = -nI 1 from if_pos (by omega)]; decide)
  | succ d ih =>
    intro e fuel s hb hf R hbe hd h6 h7 h10
    have h9 := R.1
    obtain ⟨f, rfl⟩ : ∃ f, fuel = f + 1 := ⟨fuel - 1, by omega⟩
    have hm : sT T n e = T e := if_neg (by omega)
    cases c : dgt (T e)
    · rw [run, if_neg (by rw [c]; decide)]
      exact fin e f s (by omega) R hbe h6 h7 h10 (by rw [hm]; exact c)
    · obtain ⟨d1, d2, d3⟩ := dgt_n c
      have hlt := nvl_lt (T := T) (b := b) (e - b) (fun k hk => hd (b + k) (by omega) (by omega))
      have hst : nvl T b (e + 1 - b) = if e - b < 3 then nvl T b (e - b) * 10 + (tn (T e) - 48) else nvl T b (e - b) := by
        rw [show e + 1 - b = (e - b) + 1 by omega, nvl, show b + (e - b) = e by omega]
      rw [run, if_pos c, F_X12_next_b146, x_i183_7 X, Option.bind_some, h7, x_rc183 X, Option.bind_some, r_see X R (by omega), Option.bind_some, r_digit, Option.bind_some, hm, c, if_neg (show ¬ bI true = (0 : Int32) by decide), x_i183_7 X, Option.bind_some, x_i183_6 X, Option.bind_some, h6, h7, nI_sub hbe]
      have hdd : ∀ k, b ≤ k → k < e + 1 → dgt (T k) = true := fun k h1 h2 => by
        by_cases q : k = e
        · rw [q]; exact c
        · exact hd k h1 (by omega)
      by_cases c3 : 3 ≤ e - b
      · obtain ⟨t2, e2, q2, r2⟩ := ih (e + 1) f (wi s 183 7 (nI (e + 1))) (by omega) (by omega) (MR_q R (Qs_w (S := [7]) (by decide) Qs_r) (by decide)) (by omega) hdd (by rw [tI_ik (by decide)]; exact h6) tI_is (by rw [tI_ik (by decide), hst, if_neg (by omega)]; exact h10)
        refine ⟨t2, ?_, Qs_t (Qs_w (by decide) Qs_r) q2, r2⟩
        rw [if_pos (show (3 : Int32) ≤ nI (e - b) from show nI 3 ≤ nI (e - b) by rw [nI_leI (by decide) (by omega)]; exact c3)]
        unfold F_X12_next_b196
        rw [x_i183_7 X, Option.bind_some, h7, show nI e + 1 = nI (e + 1) from nI_add e 1, x_w183_7 X, Option.bind_some]
        exact e2
      · obtain ⟨t2, e2, q2, r2⟩ := ih (e + 1) f (wi (wi s 183 10 (nI (nvl T b (e + 1 - b)))) 183 7 (nI (e + 1))) (by omega) (by omega) (MR_q R (Qs_w (S := [7, 10]) (by decide) (Qs_w (by decide) Qs_r)) (by decide)) (by omega) hdd (by rw [tI_ik (by decide), tI_ik (by decide)]; exact h6) tI_is (by rw [tI_ik (by decide)]; exact tI_is)
        refine ⟨t2, ?_, Qs_t (Qs_w (by decide) (Qs_w (by decide) Qs_r)) q2, r2⟩
        have hv : ((10 : Int32) * nI (nvl T b (e - b)) + T e) - 48 = nI (nvl T b (e + 1 - b)) := by
          have e1 : (10 : Int32) * nI (nvl T b (e - b)) = nI (10 * nvl T b (e - b)) := nI_mulN 10 _
          rw [hst, if_pos (by omega), e1, d1, nI_add, tn_n (by omega)]
          exact (nI_sub (b := 48) (by omega)).trans (congrArg nI (by omega))
        rw [if_neg (show ¬ (3 : Int32) ≤ nI (e - b) from show ¬ nI 3 ≤ nI (e - b) by rw [nI_leI (by decide) (by omega)]; exact c3), x_i183_10 X, Option.bind_some, h10, Option.bind_some, x_rc183 X, Option.bind_some, r_see X R (by omega), Option.bind_some, hm, hv, x_w183_10 X, Option.bind_some]
        unfold F_X12_next_b196
        rw [x_i183_7 X, Option.bind_some, tI_ik (by decide), h7, show nI e + 1 = nI (e + 1) from nI_add e 1, x_w183_7 X, Option.bind_some]
        exact e2
/-! signs -/
theorem r_sg (X : Fx g) {b : Nat} (hb : b < n) : ∀ (d k fuel : Nat) (s : Tb), k + d = 12 → d < fuel → MR s T n → tI s 183 6 = nI b → ∃ s', F_X12_next_b254 fuel 183 (nI k) (Em g s) = some ((), Em g s') ∧ Qs 183 [9] s s' ∧ ((∀ j, k ≤ j → j < 12 → T b ≠ xsb 0 j) → tI s' 183 9 = tI s 183 9) ∧ (∀ j, k ≤ j → j < 12 → T b = xsb 0 j → tI s' 183 9 = nI (30 + j)) := by
  obtain ⟨l33, sc⟩ := sg_c
  intro d
  induction d with
  | zero =>
    intro k fuel s hk hf R h6
    obtain ⟨f, rfl⟩ : ∃ f, fuel = f + 1 := ⟨fuel - 1, by omega⟩
    have hrs : rcS (Em g s) 66 = some () := if_pos ⟨by decide, by decide⟩
    refine ⟨s, ?_, Qs_r, fun _ => rfl, fun j h1 h2 => absurd h1 (by omega)⟩
    rw [F_X12_next_b254, hrs, Option.bind_some, s_len (i := 33) rfl (by decide), Option.bind_some, l33, if_pos (by rw [nI_leI (by decide) (by omega)]; omega)]
  | succ d ih =>
    intro k fuel s hk hf R h6
    have h9 := R.1
    obtain ⟨f, rfl⟩ : ∃ f, fuel = f + 1 := ⟨fuel - 1, by omega⟩
    have hrs : rcS (Em g s) 66 = some () := if_pos ⟨by decide, by decide⟩
    have hm : sT T n b = T b := if_neg (by omega)
    obtain ⟨s1, s2⟩ := sc k (by omega)
    rw [F_X12_next_b254, hrs, Option.bind_some, s_len (i := 33) rfl (by decide), Option.bind_some, l33, if_neg (by rw [nI_leI (by decide) (by omega)]; omega), x_i183_6 X, Option.bind_some, h6, x_rc183 X, Option.bind_some, r_see X R (by omega), Option.bind_some, hm, hrs, Option.bind_some, s_chr (i := 33) rfl (by decide) (by rw [l33]; omega), Option.bind_some, s1, show nI k + 1 = nI (k + 1) from nI_add k 1]
    by_cases c : T b = xsb 0 k
    · obtain ⟨t2, e2, q2, m1, m2⟩ := ih (k + 1) f (wi s 183 9 (nI (30 + k))) (by omega) (by omega) (MR_q R (Qs_w (S := [9]) (by decide) Qs_r) (by decide)) (by rw [tI_ik (by decide)]; exact h6)
      refine ⟨t2, ?_, Qs_t (Qs_w (by decide) Qs_r) q2, fun h => absurd c (h k (Nat.le_refl _) (by omega)), fun j h1 h2 h3 => ?_⟩
      · rw [if_neg (fun q => q c), show (30 : Int32) + nI k = nI (30 + k) from nI_add 30 k, x_w183_9 X, Option.bind_some]
        exact e2
      · have : k = j := s2 j h2 (by rw [← c]; exact h3)
        subst this
        rw [m1 (fun j j1 j2 j3 => by
          have := s2 j j2 (by rw [← c]; exact j3)
          omega)]
        exact tI_is
    · obtain ⟨t2, e2, q2, m1, m2⟩ := ih (k + 1) f s (by omega) (by omega) R h6
      refine ⟨t2, ?_, q2, fun h => m1 (fun j j1 j2 => h j (by omega) j2), fun j h1 h2 h3 => ?_⟩
      · rw [if_pos c]
        exact e2
      · have : j ≠ k := fun e => c (by rw [← e]; exact h3)
        exact m2 j (by omega) h2 h3
/-! next -/
theorem r_nx0 (X : Fx g) (R : MR s T n) {e0 : Nat} (he0 : e0 ≤ n) (h7 : tI s 183 7 = nI e0) : ∃ s', F_X12_next 183 (Em g s) = nxE 183 (Em g s') ∧ Qs 183 [6] s s' ∧ tI s' 183 6 = nI (skp T n e0) := by
  have h9 := R.1
  have hfu : n - e0 < FU := by show n - e0 < 1000000; omega
  obtain ⟨t1, e1, q1, k1⟩ := r_sk (T := T) (n := n) X (n - e0) e0 FU (wi s 183 6 (nI e0)) (by omega) hfu (MR_q R (Qs_w (S := [6]) (by decide) Qs_r) (by decide)) tI_is
  refine ⟨t1, ?_, Qs_t (Qs_w (by decide) Qs_r) q1, k1⟩
  unfold F_X12_next
  rw [x_i183_7 X, Option.bind_some, h7, x_w183_6 X, Option.bind_some]
  exact e1
theorem r_nxE (X : Fx g) (R : MR s T n) {b : Nat} (hb : b ≤ n) (h6 : tI s 183 6 = nI b) : nxE 183 (Em g s) = if b < n then (if bI (ltr (T b)) = 0 then (if bI (dgt (T b)) = 0 then F_X12_next_b254 FU 183 0 (Em g (wi (wi (wi s 183 7 (nI b)) 183 7 (nI (b + 1))) 183 9 (nI 25))) else F_X12_next_b146 FU 183 (Em g (wi (wi s 183 7 (nI b)) 183 10 (nI 0)))) else F_X12_next_b89 FU 183 (Em g (wi s 183 7 (nI b)))) else some ((), Em g (wi (wi s 183 7 (nI b)) 183 9 (nI 24))) := by
  have h9 := R.1
  have R2 : MR (wi s 183 7 (nI b)) T n := MR_q R (Qs_w (a := 183) (S := [7]) (k := 7) (x := nI b) (by decide) Qs_r) (by decide)
  have h62 : tI (wi s 183 7 (nI b)) 183 6 = nI b := by rw [tI_ik (by decide)]; exact h6
  unfold nxE
  rw [x_i183_6 X, Option.bind_some, h6, x_w183_7 X, Option.bind_some, x_i183_6 X, Option.bind_some, x_i183_8 X, Option.bind_some, h62, R2.2.1]
  by_cases c : b < n
  · have hm : sT T n b = T b := if_neg (by omega)
    rw [if_pos (by rw [nI_ltI (by omega) (by omega)]; exact c), if_pos c, Option.bind_some, x_rc183 X, Option.bind_some, r_see X R2 (by omega), Option.bind_some, hm, r_small, Option.bind_some, x_i183_6 X, Option.bind_some, h62, x_rc183 X, Option.bind_some, r_see X R2 (by omega), Option.bind_some, hm, r_digit, Option.bind_some, x_i183_7 X, Option.bind_some, tI_is, show nI b + 1 = nI (b + 1) from nI_add b 1, x_w183_7 X, Option.bind_some, show (25 : Int32) = nI 25 from rfl, x_w183_9 X, Option.bind_some, show wI (Em g (wi s 183 7 (nI b))) 183 11 10 0 = some (Em g (wi (wi s 183 7 (nI b)) 183 10 (nI 0))) from x_w183_10 X, Option.bind_some]
  · rw [if_neg (by rw [nI_ltI (by omega) (by omega)]; exact c), if_neg c, show (24 : Int32) = nI 24 from rfl, x_w183_9 X, Option.bind_some]
theorem r_next (X : Fx g) (R : MR s T n) {e0 b e km kc vl : Nat} (he0 : e0 ≤ n) (h7 : tI s 183 7 = nI e0) (h : tk T n e0 b e km kc vl) : ∃ s', F_X12_next 183 (Em g s) = some ((), Em g s') ∧ Qs 183 [6, 7, 9, 10] s s' ∧ tI s' 183 6 = nI b ∧ tI s' 183 7 = nI e ∧ tI s' 183 9 = nI km ∧ (km = 23 → tI s' 183 10 = nI vl) := by
  have h9 := R.1
  obtain ⟨t1, e1, q1, k1⟩ := r_nx0 X R he0 h7
  have hs := skp_le (T := T) he0
  have hbb := tk_b he0 h
  obtain ⟨hb, h⟩ := h
  rw [← hb] at k1 hs
  have R1 := MR_q R q1 (by decide)
  rw [e1, r_nxE X R1 hs.2 k1]
  have q1' : Qs 183 [6, 7, 9, 10] s t1 := Qs_m (by decide) q1
  rcases h with ⟨g1, g2, g3, g4, g5⟩ | ⟨g1, g2, g3, g4, g5, g6⟩ | ⟨g1, g2, g3, g4, g5, g6, g7, g8⟩ | ⟨g1, g2, g3, ⟨j, j1, j2, j3⟩, g4, g5, g6⟩
  · refine ⟨wi (wi t1 183 7 (nI b)) 183 9 (nI 24), ?_, Qs_w (by decide) (Qs_w (by decide) q1'), by rw [tI_ik (by decide), tI_ik (by decide)]; exact k1, by rw [tI_ik (by decide), g2, ← g1]; exact tI_is, by rw [g3]; exact tI_is, fun q => by omega⟩
    rw [if_neg (by omega)]
  · have hfu : n - b < FU := by show n - b < 1000000; omega
    obtain ⟨t3, e3, q3, k4⟩ := r_wd X (T := T) (n := n) (n - b) b FU (wi t1 183 7 (nI b)) (by omega) hfu (MR_q R1 (Qs_w (S := [7]) (by decide) Qs_r) (by decide)) tI_is
    rw [← g3] at k4
    have f6 : tI t3 183 6 = nI b := by rw [q3.1 183 6 (fun _ => by decide), tI_ik (by decide)]; exact k1
    have R3 := MR_q (MR_q R1 (Qs_w (a := 183) (S := [7]) (k := 7) (x := nI b) (by decide) Qs_r) (by decide)) q3 (by decide)
    refine ⟨wi t3 183 9 (nI km), ?_, Qs_w (by decide) (Qs_t (Qs_w (by decide) q1') (Qs_m (by decide) q3)), by rw [tI_ik (by decide)]; exact f6, by rw [tI_ik (by decide)]; exact k4, tI_is, fun q => by
      rcases kwz_c (T := T) (b := b) (e := e) 19 0 with ⟨w1, _⟩ | ⟨_, w2, _⟩ <;> omega⟩
    rw [if_pos g1, g2, if_neg (show ¬ bI true = (0 : Int32) by decide), e3]
    unfold nxW
    rw [x_rc183 X, Option.bind_some, r_key X R3 hbb.2.1 hbb.2.2.1 f6 k4, Option.bind_some, ← g4, x_w183_9 X, Option.bind_some]
  · have hfu : n - b < FU := by show n - b < 1000000; omega
    obtain ⟨t3, e3, q3, k4, k5, k6⟩ := r_num X (T := T) (n := n) (b := b) (n - b) b FU (wi (wi t1 183 7 (nI b)) 183 10 (nI 0)) (by omega) hfu (MR_q R1 (Qs_w (S := [7, 10]) (by decide) (Qs_w (by decide) Qs_r)) (by decide)) (Nat.le_refl _) (fun k h1 h2 => absurd h1 (by omega)) (by rw [tI_ik (by decide), tI_ik (by decide)]; exact k1) (by rw [tI_ik (by decide)]; exact tI_is) (by rw [Nat.sub_self]; exact tI_is)
    rw [← g4] at k4 k5 k6
    rw [if_pos g5] at k6
    refine ⟨t3, ?_, Qs_t (Qs_w (by decide) (Qs_w (by decide) q1')) (Qs_m (by decide) q3), by rw [q3.1 183 6 (fun _ => by decide), tI_ik (by decide), tI_ik (by decide)]; exact k1, k4, by rw [g6]; exact k6, fun _ => by rw [g8]; exact k5⟩
    rw [if_pos g1, g2, if_pos (show bI false = (0 : Int32) by decide), g3, if_neg (show ¬ bI true = (0 : Int32) by decide), e3]
  · obtain ⟨t3, e3, q3, m1, m2⟩ := r_sg X (T := T) g1 12 0 FU (wi (wi (wi t1 183 7 (nI b)) 183 7 (nI (b + 1))) 183 9 (nI 25)) rfl (by decide) (MR_q R1 (Qs_w (S := [7, 9]) (by decide) (Qs_w (by decide) (Qs_w (by decide) Qs_r))) (by decide)) (by rw [tI_ik (by decide), tI_ik (by decide), tI_ik (by decide)]; exact k1)
    refine ⟨t3, ?_, Qs_t (Qs_w (by decide) (Qs_w (by decide) (Qs_w (by decide) q1'))) (Qs_m (by decide) q3), by rw [q3.1 183 6 (fun _ => by decide), tI_ik (by decide), tI_ik (by decide), tI_ik (by decide)]; exact k1, by rw [q3.1 183 7 (fun _ => by decide), tI_ik (by decide), g4]; exact tI_is, by rw [j3]; exact m2 j (Nat.zero_le _) j1 j2, fun q => by omega⟩
    rw [if_pos g1, g2, if_pos (show bI false = (0 : Int32) by decide), g3, if_pos (show bI false = (0 : Int32) by decide)]
    exact e3
theorem r_nextb (X : Fx g) (R : MR s T n) {e0 b : Nat} (he0 : e0 ≤ n) (h7 : tI s 183 7 = nI e0) (h : tb T n e0 b) : ∃ s' e, F_X12_next 183 (Em g s) = some ((), Em g s') ∧ Qs 183 [6, 7, 9, 10] s s' ∧ tI s' 183 6 = nI b ∧ tI s' 183 7 = nI e ∧ e ≤ n ∧ tI s' 183 9 = nI 25 := by
  have h9 := R.1
  obtain ⟨t1, e1, q1, k1⟩ := r_nx0 X R he0 h7
  have hs := skp_le (T := T) he0
  obtain ⟨hb, g1, g2, h⟩ := h
  rw [← hb] at k1 hs
  have R1 := MR_q R q1 (by decide)
  rw [e1, r_nxE X R1 hs.2 k1]
  have q1' : Qs 183 [6, 7, 9, 10] s t1 := Qs_m (by decide) q1
  rcases h with ⟨g3, g4⟩ | ⟨g3, g4⟩
  · have hfu : n - b < FU := by show n - b < 1000000; omega
    have rl := run_le (p := dgt) (T := T) (n - b) b
    obtain ⟨t3, e3, q3, k4, k5, k6⟩ := r_num X (T := T) (n := n) (b := b) (n - b) b FU (wi (wi t1 183 7 (nI b)) 183 10 (nI 0)) (by omega) hfu (MR_q R1 (Qs_w (S := [7, 10]) (by decide) (Qs_w (by decide) Qs_r)) (by decide)) (Nat.le_refl _) (fun k h1 h2 => absurd h1 (by omega)) (by rw [tI_ik (by decide), tI_ik (by decide)]; exact k1) (by rw [tI_ik (by decide)]; exact tI_is) (by rw [Nat.sub_self]; exact tI_is)
    rw [if_neg (by omega)] at k6
    refine ⟨t3, _, ?_, Qs_t (Qs_w (by decide) (Qs_w (by decide) q1')) (Qs_m (by decide) q3), by rw [q3.1 183 6 (fun _ => by decide), tI_ik (by decide), tI_ik (by decide)]; exact k1, k4, by omega, k6⟩
    rw [if_pos g1, g2, if_pos (show bI false = (0 : Int32) by decide), g3, if_neg (show ¬ bI true = (0 : Int32) by decide), e3]
  · obtain ⟨t3, e3, q3, m1, m2⟩ := r_sg X (T := T) g1 12 0 FU (wi (wi (wi t1 183 7 (nI b)) 183 7 (nI (b + 1))) 183 9 (nI 25)) rfl (by decide) (MR_q R1 (Qs_w (S := [7, 9]) (by decide) (Qs_w (by decide) (Qs_w (by decide) Qs_r))) (by decide)) (by rw [tI_ik (by decide), tI_ik (by decide), tI_ik (by decide)]; exact k1)
    refine ⟨t3, b + 1, ?_, Qs_t (Qs_w (by decide) (Qs_w (by decide) (Qs_w (by decide) q1'))) (Qs_m (by decide) q3), by rw [q3.1 183 6 (fun _ => by decide), tI_ik (by decide), tI_ik (by decide), tI_ik (by decide)]; exact k1, by rw [q3.1 183 7 (fun _ => by decide), tI_ik (by decide)]; exact tI_is, by omega, by rw [m1 (fun j _ j2 => g4 j j2)]; exact tI_is⟩
    rw [if_pos g1, g2, if_pos (show bI false = (0 : Int32) by decide), g3, if_pos (show bI false = (0 : Int32) by decide)]
    exact e3
end XNx
