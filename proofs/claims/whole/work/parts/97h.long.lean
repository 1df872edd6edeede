/-! ===== the longest tune: pure, the reference ===== -/
def smx (f : Nat → Nat) : Nat → Nat
  | 0 => 0
  | n + 1 => if f n ≤ smx f n then smx f n else f n
def mxs (N : Nat) (nx : Nat → Nat → Bool) : Nat → Nat → Nat → Nat
  | 0, _, _ => 0
  | d + 1, U, l => smx (fun n => if !U.testBit n && nx l n then 1 + mxs N nx d (U ||| 2 ^ n) n else 0) N
def Mx (N : Nat) (nx : Nat → Nat → Bool) (U l : Nat) : Nat := mxs N nx (N - pc U N) U l
theorem smx_c {f h : Nat → Nat} : ∀ {n : Nat}, (∀ k, k < n → f k = h k) → smx f n = smx h n
  | 0, _ => rfl
  | n + 1, e => by rw [smx, smx, e n (by omega), smx_c (fun k hk => e k (by omega))]
theorem smx_ge {f : Nat → Nat} : ∀ {n k : Nat}, k < n → f k ≤ smx f n
  | 0, _, h => absurd h (by omega)
  | n + 1, k, h => by
    rw [smx]
    by_cases e : k = n
    · subst e
      split <;> omega
    · have := smx_ge (f := f) (n := n) (k := k) (by omega)
      split <;> omega
theorem smx_at {f : Nat → Nat} : ∀ {n : Nat}, smx f n = 0 ∨ ∃ k, k < n ∧ f k = smx f n
  | 0 => Or.inl rfl
  | n + 1 => by
    rw [smx]
    split
    · rcases smx_at (f := f) (n := n) with h | ⟨k, h1, h2⟩
      · exact Or.inl h
      · exact Or.inr ⟨k, by omega, h2⟩
    · exact Or.inr ⟨n, by omega, rfl⟩
theorem Mx_s {N : Nat} {nx : Nat → Nat → Bool} {U l : Nat} (hU : U < 2 ^ N) : Mx N nx U l = smx (fun n => if !U.testBit n && nx l n then 1 + Mx N nx (U ||| 2 ^ n) n else 0) N := by
  have hl := pc_le U N
  by_cases h : pc U N = N
  · have hf := (full_bits hU).mp h
    unfold Mx
    rw [h, Nat.sub_self, mxs]
    have : ∀ k, k < N → (if !U.testBit k && nx l k then 1 + mxs N nx (N - pc (U ||| 2 ^ k) N) (U ||| 2 ^ k) k else 0) = 0 := fun k hk => by
      rw [hf, Nat.testBit_two_pow_sub_one, decide_eq_true hk]
      rfl
    have key : ∀ n, n ≤ N → smx (fun n => if !U.testBit n && nx l n then 1 + mxs N nx (N - pc (U ||| 2 ^ n) N) (U ||| 2 ^ n) n else 0) n = 0 := by
      intro n
      induction n with
      | zero => intro _; rfl
      | succ n ih =>
        intro hn
        rw [smx, ih (by omega), this n (by omega)]
        rfl
    exact (key N (Nat.le_refl N)).symm
  · unfold Mx
    obtain ⟨d, hd⟩ : ∃ d, N - pc U N = d + 1 := ⟨N - pc U N - 1, by omega⟩
    rw [hd, mxs]
    apply smx_c
    intro k hk
    by_cases c : (!U.testBit k && nx l k) = true
    · have hb : U.testBit k = false := by
        rw [Bool.and_eq_true, Bool.not_eq_true'] at c
        exact c.1
      rw [if_pos c, if_pos c, pc_set hb, if_pos hk, show N - (pc U N + 1) = d by omega]
    · rw [if_neg c, if_neg c]
theorem mxs_le {N : Nat} {nx : Nat → Nat → Bool} : ∀ (d U l : Nat), mxs N nx d U l ≤ d
  | 0, _, _ => Nat.le_refl 0
  | d + 1, U, l => by
    rw [mxs]
    rcases smx_at (f := fun n => if !U.testBit n && nx l n then 1 + mxs N nx d (U ||| 2 ^ n) n else 0) (n := N) with h | ⟨k, _, h⟩
    · rw [h]; omega
    · rw [← h]
      show (if !U.testBit k && nx l k then 1 + mxs N nx d (U ||| 2 ^ k) k else 0) ≤ d + 1
      have := mxs_le (nx := nx) (N := N) d (U ||| 2 ^ k) k
      split <;> omega
theorem Mx_le {N : Nat} {nx : Nat → Nat → Bool} {U l : Nat} : Mx N nx U l ≤ N := by
  unfold Mx
  have := mxs_le (N := N) (nx := nx) (N - pc U N) U l
  omega
def lok (N : Nat) (nx : Nat → Nat → Bool) (U l r n : Nat) : Bool := !U.testBit n && nx l n && decide (Mx N nx (U ||| 2 ^ n) n + 1 = r)
def lfs (N : Nat) (nx : Nat → Nat → Bool) (U l r : Nat) : Nat := fa_first (lok N nx U l r) N
def lpk (N : Nat) (nx : Nat → Nat → Bool) : Nat → Nat → Nat → Nat → Nat
  | 0, U, l, r => lfs N nx U l r
  | j + 1, U, l, r => lpk N nx j (U ||| 2 ^ lfs N nx U l r) (lfs N nx U l r) (r - 1)
theorem lok_ex {N : Nat} {nx : Nat → Nat → Bool} {U l r : Nat} (hU : U < 2 ^ N) (hr : Mx N nx U l = r) (h0 : 0 < r) : ∃ n, n < N ∧ lok N nx U l r n = true := by
  rw [Mx_s hU] at hr
  rcases smx_at (f := fun n => if !U.testBit n && nx l n then 1 + Mx N nx (U ||| 2 ^ n) n else 0) (n := N) with h | ⟨k, hk, h⟩
  · omega
  · refine ⟨k, hk, ?_⟩
    have h2 : (if !U.testBit k && nx l k then 1 + Mx N nx (U ||| 2 ^ k) k else 0) = r := h.trans hr
    unfold lok
    by_cases c : (!U.testBit k && nx l k) = true
    · rw [if_pos c] at h2
      rw [c, decide_eq_true (by omega)]
      rfl
    · rw [if_neg c] at h2
      omega
theorem lfs_p {N : Nat} {nx : Nat → Nat → Bool} {U l r : Nat} (hU : U < 2 ^ N) (hr : Mx N nx U l = r) (h0 : 0 < r) : lfs N nx U l r < N ∧ lok N nx U l r (lfs N nx U l r) = true ∧ ∀ k, k < lfs N nx U l r → lok N nx U l r k = false := by
  obtain ⟨n, hn, h⟩ := lok_ex hU hr h0
  have hlt : lfs N nx U l r < N := by
    rcases Nat.lt_or_ge (lfs N nx U l r) N with q | q
    · exact q
    · have := fa_first_no (lok N nx U l r) N n (by unfold lfs at q; omega)
      rw [h] at this
      cases this
  exact ⟨hlt, fa_first_yes _ N hlt, fun k hk => fa_first_no _ N k hk⟩
section XLo
variable {g : Sk} {t : Tb} {a : Nat → Int32}
variable {D v x nx p : Nat} {t' t'' t1 t2 : Tb}
theorem r_la_l (X : Fx g) (W : WA a D) {A U l : Nat} (hA : A < 2 ^ 31) (hU : U < 2 ^ vN a) (hl : l ≤ 10) (h7 : ∀ t', tA t' 197 = tA t 197 → ∀ n, n < vN a → U.testBit n = false → tA t' 197 (11 * (U ||| 2 ^ n) + n) = nI (Mx (vN a) (fnx a A) (U ||| 2 ^ n) n)) : ∀ (d k fuel : Nat) (t1 : Tb), k + d = vN a → d < fuel → tA t1 184 = a → tI t1 183 30 = nI A → tA t1 197 = tA t 197 → ∃ t', F_X12_longestAt_b5 fuel 183 (nI U) (nI l) (nI (smx (fun n => if !U.testBit n && fnx a A l n then 1 + Mx (vN a) (fnx a A) (U ||| 2 ^ n) n else 0) k)) (nI k) (Em g t1) = some (nI (smx (fun n => if !U.testBit n && fnx a A l n then 1 + Mx (vN a) (fnx a A) (U ||| 2 ^ n) n else 0) (vN a)), Em g t') ∧ Sn g t1 t' := by
  have hN := wN3 W
  have h1k : 2 ^ vN a ≤ 1024 := Nat.pow_le_pow_right (n := 2) (by decide) hN
  have hb : ∀ k, smx (fun n => if !U.testBit n && fnx a A l n then 1 + Mx (vN a) (fnx a A) (U ||| 2 ^ n) n else 0) k ≤ 11 := by
    intro k
    rcases smx_at (f := fun n => if !U.testBit n && fnx a A l n then 1 + Mx (vN a) (fnx a A) (U ||| 2 ^ n) n else 0) (n := k) with h | ⟨j, _, h⟩
    · rw [h]; omega
    · rw [← h]
      have := Mx_le (N := vN a) (nx := fnx a A) (U := U ||| 2 ^ j) (l := j)
      show (if !U.testBit j && fnx a A l j then 1 + Mx (vN a) (fnx a A) (U ||| 2 ^ j) j else 0) ≤ 11
      split <;> omega
  intro d
  induction d with
  | zero =>
    intro k fuel t1 hk hf ha h30 h97
    obtain ⟨f, rfl⟩ : ∃ f, fuel = f + 1 := ⟨fuel - 1, by omega⟩
    have hk : k = vN a := by omega
    subst hk
    have ha1 : aI (Em g t1) 184 1 = some (nI (vN a)) := by
      have : aI (Em g t1) 184 1 = some (tA t1 184 1) := x_a184 X (k := 1) (by decide)
      rw [this, ha, wN W]
    refine ⟨t1, ?_, Sn_r⟩
    rw [F_X12_longestAt_b5, x_r183_1 X, Option.bind_some, ha1, Option.bind_some, if_pos (by rw [nI_leI (by omega) (by omega)]; exact Nat.le_refl _)]
  | succ d ih =>
    intro k fuel t1 hk hf ha h30 h97
    obtain ⟨f, rfl⟩ : ∃ f, fuel = f + 1 := ⟨fuel - 1, by omega⟩
    have hk3 : k < vN a := by omega
    have ha1 : aI (Em g t1) 184 1 = some (nI (vN a)) := by
      have : aI (Em g t1) 184 1 = some (tA t1 184 1) := x_a184 X (k := 1) (by decide)
      rw [this, ha, wN W]
    have hn1 : nI k + 1 = nI (k + 1) := nI_add k 1
    have hsk := hb k
    have keep : ∀ t2, Sn g t1 t2 → (if !U.testBit k && fnx a A l k then 1 + Mx (vN a) (fnx a A) (U ||| 2 ^ k) k else 0) ≤ smx (fun n => if !U.testBit n && fnx a A l n then 1 + Mx (vN a) (fnx a A) (U ||| 2 ^ n) n else 0) k → ∃ t', F_X12_longestAt_b5 f 183 (nI U) (nI l) (nI (smx (fun n => if !U.testBit n && fnx a A l n then 1 + Mx (vN a) (fnx a A) (U ||| 2 ^ n) n else 0) k)) (nI (k + 1)) (Em g t2) = some (nI (smx (fun n => if !U.testBit n && fnx a A l n then 1 + Mx (vN a) (fnx a A) (U ||| 2 ^ n) n else 0) (vN a)), Em g t') ∧ Sn g t1 t' := by
      intro t2 s2 hle
      obtain ⟨t3, e3, s3⟩ := ih (k + 1) f t2 (by omega) (by omega) (by rw [Sm_a X (Sn_m s2)]; exact ha) (by rw [s2.1]; exact h30) (by rw [s2.2.1 197 (sn_x X rfl)]; exact h97)
      rw [smx, if_pos hle] at e3
      exact ⟨t3, e3, Sn_t s2 s3⟩
    rw [F_X12_longestAt_b5, x_r183_1 X, Option.bind_some, ha1, Option.bind_some, if_neg (by rw [nI_leI (by omega) (by omega)]; omega), q_isIn (by omega) (by omega), Option.bind_some, hn1]
    cases q : U.testBit k
    · rw [if_neg (show ¬ ¬ bI false = (0 : Int32) by decide), x_rc183 X, Option.bind_some]
      obtain ⟨t2, e2, s2⟩ := q_may (t := t1) (A := A) (m := l) (n := k) X W ha hA h30 hl (by omega)
      rw [e2, Option.bind_some]
      cases qf : fnx a A l k
      · rw [if_neg (show ¬ ¬ bI false = (0 : Int32) by decide)]
        exact keep t2 s2 (by rw [q, qf]; exact Nat.zero_le _)
      · have hor : U ||| 2 ^ k < 2 ^ vN a := Nat.or_lt_two_pow hU (Nat.pow_lt_pow_right (by decide) hk3)
        have hML := Mx_le (N := vN a) (nx := fnx a A) (U := U ||| 2 ^ k) (l := k)
        have hix : ∀ h : xH, F_X12_tuneAt (nI U ||| ((1 : Int32) <<< (nI k &&& 31))) (nI k) h = some (nI (11 * (U ||| 2 ^ k) + k), h) := fun h => by
          unfold F_X12_tuneAt
          rw [show (1 : Int32) <<< (nI k &&& 31) = nI (2 ^ k) from v_pow (by omega), fa_or, show (11 : Int32) * nI (U ||| 2 ^ k) = nI (11 * (U ||| 2 ^ k)) from nI_mulN 11 _, nI_add]
        have h97' := h7 t2 (by rw [s2.2.1 197 (sn_x X rfl)]; exact h97) k hk3 q
        rw [if_pos (show ¬ bI true = (0 : Int32) by decide), x_r183_28 X, Option.bind_some, hix, Option.bind_some, x_a197 X (by omega), Option.bind_some, h97', show (1 : Int32) + nI (Mx (vN a) (fnx a A) (U ||| 2 ^ k) k) = nI (1 + Mx (vN a) (fnx a A) (U ||| 2 ^ k) k) from nI_add 1 _]
        have hterm : (if !U.testBit k && fnx a A l k then 1 + Mx (vN a) (fnx a A) (U ||| 2 ^ k) k else 0) = 1 + Mx (vN a) (fnx a A) (U ||| 2 ^ k) k := by rw [q, qf]; rfl
        by_cases c : 1 + Mx (vN a) (fnx a A) (U ||| 2 ^ k) k ≤ smx (fun n => if !U.testBit n && fnx a A l n then 1 + Mx (vN a) (fnx a A) (U ||| 2 ^ n) n else 0) k
        · rw [if_pos (by rw [nI_leI (by omega) (by omega)]; exact c)]
          exact keep t2 s2 (by rw [hterm]; exact c)
        · rw [if_neg (by rw [nI_leI (by omega) (by omega)]; exact c)]
          obtain ⟨t3, e3, s3⟩ := ih (k + 1) f t2 (by omega) (by omega) (by rw [Sm_a X (Sn_m s2)]; exact ha) (by rw [s2.1]; exact h30) (by rw [s2.2.1 197 (sn_x X rfl)]; exact h97)
          rw [smx, if_neg (by rw [hterm]; exact c), hterm] at e3
          exact ⟨t3, e3, Sn_t s2 s3⟩
    · rw [if_pos (show ¬ bI true = (0 : Int32) by decide)]
      exact keep t1 Sn_r (by rw [q]; exact Nat.zero_le _)
/-- one row of the table: all the last notes of U -/
theorem r_ll_i (X : Fx g) (W : WA a D) {A U : Nat} (hA : A < 2 ^ 31) (hU : U < 2 ^ vN a) (kk : Nat → Int32 → xH → Option (Int32 × xH)) : ∀ (d l fuel : Nat) (t : Tb), l + d = 11 → d < fuel → tA t 184 = a → tI t 183 30 = nI A → (∀ Y, U < Y → Y < 2 ^ vN a → ∀ n, Y.testBit n = true → tA t 197 (11 * Y + n) = nI (Mx (vN a) (fnx a A) Y n)) → (∀ n, n < l → U.testBit n = true → tA t 197 (11 * U + n) = nI (Mx (vN a) (fnx a A) U n)) → ∃ t', F_X12_laysLongest_b22 kk fuel 183 (nI U) (nI l) (Em g t) = kk 183 (nI U + (-1)) (Em g t') ∧ Sm g t t' ∧ tI t' 183 30 = nI A ∧ (∀ Y, U ≤ Y → Y < 2 ^ vN a → ∀ n, Y.testBit n = true → tA t' 197 (11 * Y + n) = nI (Mx (vN a) (fnx a A) Y n)) ∧ (U = 0 → (l ≤ 10 ∨ tA t 197 10 = nI (Mx (vN a) (fnx a A) 0 10)) → tA t' 197 10 = nI (Mx (vN a) (fnx a A) 0 10)) := by
  have hN := wN3 W
  have h1k : 2 ^ vN a ≤ 1024 := Nat.pow_le_pow_right (n := 2) (by decide) hN
  have hlt : ∀ Y n, Y < 2 ^ vN a → Y.testBit n = true → n < vN a := fun Y n hY h => by
    rcases Nat.lt_or_ge n (vN a) with q | q
    · exact q
    · rw [testBit_ge hY q] at h; cases h
  intro d
  induction d with
  | zero =>
    intro l fuel t hl hf ha h30 hY hq
    obtain ⟨f, rfl⟩ : ∃ f, fuel = f + 1 := ⟨fuel - 1, by omega⟩
    have hl : l = 11 := by omega
    subst hl
    refine ⟨t, ?_, Sm_r, h30, fun Y h1 h2 n h3 => ?_, fun _ h => by
      rcases h with h | h
      · exact absurd h (by decide)
      · exact h⟩
    · rw [F_X12_laysLongest_b22, if_pos (show (10 : Int32) < nI 11 by decide)]
    · have hn := hlt Y n h2 h3
      by_cases e : Y = U
      · rw [e] at h3 ⊢; exact hq n (by omega) h3
      · exact hY Y (by omega) h2 n h3
  | succ d ih =>
    intro l fuel t hl hf ha h30 hY hq
    obtain ⟨f, rfl⟩ : ∃ f, fuel = f + 1 := ⟨fuel - 1, by omega⟩
    have hn1 : nI l + 1 = nI (l + 1) := nI_add l 1
    have c10 : ¬ (10 : Int32) < nI l := show ¬ nI 10 < nI l by rw [nI_ltI (by decide) (by omega)]; omega
    have hfn : vN a < FU := by show vN a < 1000000; omega
    -- passing over, and writing
    have skip : (l ≤ 9 → U.testBit l = false) → (l = 10 → U ≠ 0) → ∃ t', F_X12_laysLongest_b22 kk f 183 (nI U) (nI (l + 1)) (Em g t) = kk 183 (nI U + (-1)) (Em g t') ∧ Sm g t t' ∧ tI t' 183 30 = nI A ∧ (∀ Y, U ≤ Y → Y < 2 ^ vN a → ∀ n, Y.testBit n = true → tA t' 197 (11 * Y + n) = nI (Mx (vN a) (fnx a A) Y n)) ∧ (U = 0 → (l ≤ 10 ∨ tA t 197 10 = nI (Mx (vN a) (fnx a A) 0 10)) → tA t' 197 10 = nI (Mx (vN a) (fnx a A) 0 10)) := by
      intro hb hz
      obtain ⟨t2, e2, s2, k1, k2, k3⟩ := ih (l + 1) f t (by omega) (by omega) ha h30 hY (fun n hn h => by
        by_cases e : n = l
        · rw [e] at h
          rw [hb (by have := hlt U l hU h; omega)] at h
          cases h
        · exact hq n (by omega) h)
      refine ⟨t2, e2, s2, k1, k2, fun h1 h2 => ?_⟩
      by_cases e : l = 10
      · exact absurd h1 (hz e)
      · exact k3 h1 (Or.inl (by omega))
    have write : (l ≤ 9 → U.testBit l = true) → (l = 10 → U = 0) → ∃ t', F_X12_laysLongest_b50 kk (F_X12_laysLongest_b22 kk f) 183 (nI U) (nI l) (Em g t) = kk 183 (nI U + (-1)) (Em g t') ∧ Sm g t t' ∧ tI t' 183 30 = nI A ∧ (∀ Y, U ≤ Y → Y < 2 ^ vN a → ∀ n, Y.testBit n = true → tA t' 197 (11 * Y + n) = nI (Mx (vN a) (fnx a A) Y n)) ∧ (U = 0 → (l ≤ 10 ∨ tA t 197 10 = nI (Mx (vN a) (fnx a A) 0 10)) → tA t' 197 10 = nI (Mx (vN a) (fnx a A) 0 10)) := by
      intro hb hz
      obtain ⟨t1, e1, s1⟩ := r_la_l (t := t) (A := A) (U := U) (l := l) X W hA hU (by omega) (fun t' h n hn hbn => by
        rw [h]
        refine hY (U ||| 2 ^ n) ?_ (Nat.or_lt_two_pow hU (Nat.pow_lt_pow_right (by decide) hn)) n (by rw [fb_bit_set, decide_eq_true rfl, Bool.or_true])
        have h3 : U ≤ U ||| 2 ^ n := Nat.left_le_or
        have h4 : U ≠ U ||| 2 ^ n := by
          intro e
          have := fb_bit_set U n n
          rw [← e, hbn] at this
          simp at this
        omega) (vN a) 0 FU t (by omega) hfn ha h30 rfl
      rw [← Mx_s hU] at e1
      have e1' : F_X12_longestAt 183 (nI U) (nI l) (Em g t) = some (nI (Mx (vN a) (fnx a A) U l), Em g t1) := e1
      have s2 : Sm g t (wa t1 197 (11 * U + l) (nI (Mx (vN a) (fnx a A) U l))) := Sm_wa (sc_f rfl) (Sn_m s1)
      have h97 : tA t1 197 = tA t 197 := s1.2.1 197 (sn_x X rfl)
      obtain ⟨t2, e2, s3, k1, k2, k3⟩ := ih (l + 1) f (wa t1 197 (11 * U + l) (nI (Mx (vN a) (fnx a A) U l))) (by omega) (by omega) (by rw [Sm_a X s2]; exact ha) (by rw [tI_wa, s1.1]; exact h30) (fun Y h1 h2 n h3 => by
        have hn := hlt Y n h2 h3
        rw [tA_as, upd_n (by omega), h97]
        exact hY Y h1 h2 n h3) (fun n hn h => by
        rw [tA_as]
        by_cases e : n = l
        · rw [e, upd_s]
        · rw [upd_n (by omega), h97]
          exact hq n (by omega) h)
      refine ⟨t2, ?_, Sm_t s2 s3, k1, k2, fun h1 h2 => ?_⟩
      · unfold F_X12_laysLongest_b50 F_X12_tuneAt
        rw [x_r183_28 X, Option.bind_some, Option.bind_some, x_rc183 X, Option.bind_some, e1', Option.bind_some, show (11 : Int32) * nI U = nI (11 * U) from nI_mulN 11 U, nI_add, x_s197 X (by omega), Option.bind_some, hn1]
        exact e2
      · by_cases e : l = 10
        · refine k3 h1 (Or.inr ?_)
          rw [tA_as, h1, e, show 11 * 0 + 10 = 10 from rfl, upd_s]
        · exact k3 h1 (Or.inl (by omega))
    rw [F_X12_laysLongest_b22, if_neg c10, hn1]
    by_cases e10 : l = 10
    · rw [if_neg (show ¬ ¬ nI l = (10 : Int32) from fun h => h (by rw [e10]; rfl))]
      by_cases hz : U = 0
      · rw [if_neg (show ¬ ¬ nI U = (0 : Int32) from fun h => h (by rw [hz]; rfl))]
        exact write (fun h => by omega) (fun _ => hz)
      · rw [if_pos (show ¬ nI U = (0 : Int32) from show ¬ nI U = nI 0 by rw [nI_eq (by omega) (by decide)]; exact hz)]
        exact skip (fun h => by omega) (fun _ => hz)
    · rw [if_pos (show ¬ nI l = (10 : Int32) from show ¬ nI l = nI 10 by rw [nI_eq (by omega) (by decide)]; exact e10), q_isIn (by omega) (by omega), Option.bind_some]
      cases q : U.testBit l
      · rw [if_pos (show bI false = (0 : Int32) by decide)]
        exact skip (fun _ => q) (fun h => absurd h e10)
      · rw [if_neg (show ¬ bI true = (0 : Int32) by decide)]
        exact write (fun _ => q) (fun h => absurd h e10)
/-- the tune laid out, note by note -/
theorem r_lt_i (X : Fx g) (W : WA a D) {A U l r len x5 : Nat} (hA : A < 2 ^ 31) (hU : U < 2 ^ vN a) (hl : l ≤ 10) (hr : Mx (vN a) (fnx a A) U l = r) (h0 : 0 < r) (hx : x5 + r = len) (hlen : len ≤ 10) (kk : Nat → Int32 → Int32 → Int32 → Int32 → xH → Option (Int32 × xH)) : ∀ (d k fuel : Nat) (t : Tb), k + d = lfs (vN a) (fnx a A) U l r → d < fuel → tA t 184 = a → tI t 183 30 = nI A → (∀ Y, 0 < Y → Y < 2 ^ vN a → ∀ n, Y.testBit n = true → tA t 197 (11 * Y + n) = nI (Mx (vN a) (fnx a A) Y n)) → ∃ t', F_X12_laysLongest_b109 kk fuel 183 (nI U) (nI l) (nI len) (nI x5) (nI k) (Em g t) = kk 183 (nI (U ||| 2 ^ lfs (vN a) (fnx a A) U l r)) (nI (lfs (vN a) (fnx a A) U l r)) (nI len) (nI (x5 + 1)) (Em g (wa t' 198 x5 (nI (lfs (vN a) (fnx a A) U l r)))) ∧ Sn g t t' := by
  have hN := wN3 W
  have h1k : 2 ^ vN a ≤ 1024 := Nat.pow_le_pow_right (n := 2) (by decide) hN
  obtain ⟨f1, f2, f3⟩ := lfs_p hU hr h0
  intro d
  induction d with
  | zero =>
    intro k fuel t hk hf ha h30 h7
    obtain ⟨f, rfl⟩ : ∃ f, fuel = f + 1 := ⟨fuel - 1, by omega⟩
    have hk : k = lfs (vN a) (fnx a A) U l r := by omega
    rw [← hk] at f1 f2 f3 ⊢
    unfold lok at f2
    rw [Bool.and_eq_true, Bool.and_eq_true, Bool.not_eq_true', decide_eq_true_eq] at f2
    obtain ⟨⟨g1, g2⟩, g3⟩ := f2
    obtain ⟨t1, e1, s1⟩ := q_may (t := t) (A := A) (m := l) (n := k) X W ha hA h30 hl (by omega)
    rw [g2] at e1
    have hor : U ||| 2 ^ k < 2 ^ vN a := Nat.or_lt_two_pow hU (Nat.pow_lt_pow_right (by decide) f1)
    have hpos : 0 < U ||| 2 ^ k := by
      have h2 : 2 ^ k ≤ U ||| 2 ^ k := Nat.right_le_or
      have := Nat.two_pow_pos k
      omega
    have h97 := h7 (U ||| 2 ^ k) hpos hor k (by rw [fb_bit_set, decide_eq_true rfl, Bool.or_true])
    have hor2 : nI U ||| ((1 : Int32) <<< (nI k &&& 31)) = nI (U ||| 2 ^ k) := by
      rw [show (1 : Int32) <<< (nI k &&& 31) = nI (2 ^ k) from v_pow (by omega), fa_or]
    have hsub : (nI len - nI x5) - 1 = nI (r - 1) := by
      rw [nI_sub (by omega), show nI (len - x5) - 1 = nI (len - x5 - 1) from nI_sub (b := 1) (by omega)]
      exact congrArg nI (by omega)
    refine ⟨t1, ?_, s1⟩
    rw [F_X12_laysLongest_b109, q_isIn (by omega) (by omega), Option.bind_some, g1, if_neg (show ¬ ¬ bI false = (0 : Int32) by decide), x_rc183 X, Option.bind_some, e1, Option.bind_some, if_neg (show ¬ bI true = (0 : Int32) by decide), x_r183_28 X, Option.bind_some, hor2]
    unfold F_X12_tuneAt
    rw [Option.bind_some, show (11 : Int32) * nI (U ||| 2 ^ k) = nI (11 * (U ||| 2 ^ k)) from nI_mulN 11 _, nI_add, x_a197 X (by omega), Option.bind_some, s1.2.1 197 (sn_x X rfl), h97, hsub, if_pos (congrArg nI (by omega)), x_r183_29 X, Option.bind_some, x_s198 X (by omega), Option.bind_some, show nI x5 + 1 = nI (x5 + 1) from nI_add x5 1]
  | succ d ih =>
    intro k fuel t hk hf ha h30 h7
    obtain ⟨f, rfl⟩ : ∃ f, fuel = f + 1 := ⟨fuel - 1, by omega⟩
    have hkl : k < lfs (vN a) (fnx a A) U l r := by omega
    have hno := f3 k hkl
    have hkN : k < vN a := by omega
    have hn1 : nI k + 1 = nI (k + 1) := nI_add k 1
    have nxt : ∀ t1, Sn g t t1 → ∃ t', F_X12_laysLongest_b109 kk f 183 (nI U) (nI l) (nI len) (nI x5) (nI (k + 1)) (Em g t1) = kk 183 (nI (U ||| 2 ^ lfs (vN a) (fnx a A) U l r)) (nI (lfs (vN a) (fnx a A) U l r)) (nI len) (nI (x5 + 1)) (Em g (wa t' 198 x5 (nI (lfs (vN a) (fnx a A) U l r)))) ∧ Sn g t t' := by
      intro t1 s1
      obtain ⟨t2, e2, s2⟩ := ih (k + 1) f t1 (by omega) (by omega) (by rw [Sm_a X (Sn_m s1)]; exact ha) (by rw [s1.1]; exact h30) (fun Y h1 h2 n h3 => by rw [s1.2.1 197 (sn_x X rfl)]; exact h7 Y h1 h2 n h3)
      exact ⟨t2, e2, Sn_t s1 s2⟩
    rw [F_X12_laysLongest_b109, q_isIn (by omega) (by omega), Option.bind_some, hn1]
    cases q : U.testBit k
    · obtain ⟨t1, e1, s1⟩ := q_may (t := t) (A := A) (m := l) (n := k) X W ha hA h30 hl (by omega)
      rw [if_neg (show ¬ ¬ bI false = (0 : Int32) by decide), x_rc183 X, Option.bind_some, e1, Option.bind_some]
      cases qf : fnx a A l k
      · rw [if_pos (show bI false = (0 : Int32) by decide)]
        exact nxt t1 s1
      · have hor : U ||| 2 ^ k < 2 ^ vN a := Nat.or_lt_two_pow hU (Nat.pow_lt_pow_right (by decide) hkN)
        have hpos : 0 < U ||| 2 ^ k := by
          have h2 : 2 ^ k ≤ U ||| 2 ^ k := Nat.right_le_or
          have := Nat.two_pow_pos k
          omega
        have h97 := h7 (U ||| 2 ^ k) hpos hor k (by rw [fb_bit_set, decide_eq_true rfl, Bool.or_true])
        have hML := Mx_le (N := vN a) (nx := fnx a A) (U := U ||| 2 ^ k) (l := k)
        have hor2 : nI U ||| ((1 : Int32) <<< (nI k &&& 31)) = nI (U ||| 2 ^ k) := by
          rw [show (1 : Int32) <<< (nI k &&& 31) = nI (2 ^ k) from v_pow (by omega), fa_or]
        have hsub : (nI len - nI x5) - 1 = nI (r - 1) := by
          rw [nI_sub (by omega), show nI (len - x5) - 1 = nI (len - x5 - 1) from nI_sub (b := 1) (by omega)]
          exact congrArg nI (by omega)
        have hne : ¬ nI (Mx (vN a) (fnx a A) (U ||| 2 ^ k) k) = nI (r - 1) := by
          rw [nI_eq (by omega) (by omega)]
          intro e
          unfold lok at hno
          rw [q, qf, decide_eq_true (by omega)] at hno
          cases hno
        rw [if_neg (show ¬ bI true = (0 : Int32) by decide), x_r183_28 X, Option.bind_some, hor2]
        unfold F_X12_tuneAt
        rw [Option.bind_some, show (11 : Int32) * nI (U ||| 2 ^ k) = nI (11 * (U ||| 2 ^ k)) from nI_mulN 11 _, nI_add, x_a197 X (by omega), Option.bind_some, s1.2.1 197 (sn_x X rfl), h97, hsub, if_neg hne]
        exact nxt t1 s1
    · rw [if_pos (show ¬ bI true = (0 : Int32) by decide)]
      exact nxt t Sn_r
theorem r_lt_l (X : Fx g) (W : WA a D) {A len : Nat} (hA : A < 2 ^ 31) (hlen : len ≤ 10) : ∀ (r x5 fuel : Nat) (t : Tb) (U l : Nat), x5 + r = len → r < fuel → U < 2 ^ vN a → l ≤ 10 → Mx (vN a) (fnx a A) U l = r → tA t 184 = a → tI t 183 30 = nI A → (∀ Y, 0 < Y → Y < 2 ^ vN a → ∀ n, Y.testBit n = true → tA t 197 (11 * Y + n) = nI (Mx (vN a) (fnx a A) Y n)) → ∃ t', F_X12_laysLongest_b99 fuel 183 (nI U) (nI l) (nI len) (nI x5) (Em g t) = some (nI len, Em g t') ∧ Sm g t t' ∧ (∀ j, j < x5 → tA t' 198 j = tA t 198 j) ∧ (∀ j, j < r → tA t' 198 (x5 + j) = nI (lpk (vN a) (fnx a A) j U l r)) := by
  have hN := wN3 W
  intro r
  induction r with
  | zero =>
    intro x5 fuel t U l hx hf hU hl hr ha h30 h7
    obtain ⟨f, rfl⟩ : ∃ f, fuel = f + 1 := ⟨fuel - 1, by omega⟩
    refine ⟨t, ?_, Sm_r, fun _ _ => rfl, fun j hj => absurd hj (by omega)⟩
    rw [F_X12_laysLongest_b99, if_pos (by rw [nI_leI (by omega) (by omega)]; omega)]
  | succ r ih =>
    intro x5 fuel t U l hx hf hU hl hr ha h30 h7
    obtain ⟨f, rfl⟩ : ∃ f, fuel = f + 1 := ⟨fuel - 1, by omega⟩
    obtain ⟨f1, f2, f3⟩ := lfs_p hU hr (by omega)
    have hfu : lfs (vN a) (fnx a A) U l (r + 1) < FU := by show lfs (vN a) (fnx a A) U l (r + 1) < 1000000; omega
    obtain ⟨t1, e1, s1⟩ := r_lt_i (x5 := x5) (len := len) X W hA hU hl hr (by omega) hx hlen (F_X12_laysLongest_b99 f) (lfs (vN a) (fnx a A) U l (r + 1)) 0 FU t (by omega) hfu ha h30 h7
    have hM2 : Mx (vN a) (fnx a A) (U ||| 2 ^ lfs (vN a) (fnx a A) U l (r + 1)) (lfs (vN a) (fnx a A) U l (r + 1)) = r := by
      unfold lok at f2
      rw [Bool.and_eq_true, decide_eq_true_eq] at f2
      omega
    have s2 : Sm g t (wa t1 198 x5 (nI (lfs (vN a) (fnx a A) U l (r + 1)))) := Sm_wa (sc_f rfl) (Sn_m s1)
    obtain ⟨t2, e2, s3, k1, k2⟩ := ih (x5 + 1) f (wa t1 198 x5 (nI (lfs (vN a) (fnx a A) U l (r + 1)))) (U ||| 2 ^ lfs (vN a) (fnx a A) U l (r + 1)) (lfs (vN a) (fnx a A) U l (r + 1)) (by omega) (by omega) (Nat.or_lt_two_pow hU (Nat.pow_lt_pow_right (by decide) f1)) (by omega) hM2 (by rw [Sm_a X s2]; exact ha) (by rw [tI_wa, s1.1]; exact h30) (fun Y h1 h2 n h3 => by rw [tA_an (by decide), s1.2.1 197 (sn_x X rfl)]; exact h7 Y h1 h2 n h3)
    refine ⟨t2, ?_, Sm_t s2 s3, fun j hj => by rw [k1 j (by omega), tA_as, upd_n (by omega), s1.2.1 198 (sn_x X rfl)], fun j hj => ?_⟩
    · rw [F_X12_laysLongest_b99, if_neg (by rw [nI_leI (by omega) (by omega)]; omega)]
      exact e1.trans e2
    · cases j with
      | zero => rw [Nat.add_zero, k1 x5 (by omega), tA_as, upd_s, lpk]
      | succ j =>
        rw [show x5 + (j + 1) = x5 + 1 + j by omega, k2 j (by omega), lpk, Nat.add_sub_cancel]
theorem r_ll_l (X : Fx g) (W : WA a D) {A : Nat} (hA : A < 2 ^ 31) : ∀ (U fuel : Nat) (t : Tb), U < 2 ^ vN a → U + 1 < fuel → tA t 184 = a → tI t 183 30 = nI A → (∀ Y, U < Y → Y < 2 ^ vN a → ∀ n, Y.testBit n = true → tA t 197 (11 * Y + n) = nI (Mx (vN a) (fnx a A) Y n)) → ∃ t', F_X12_laysLongest_b16 fuel 183 (nI U) (Em g t) = some (nI (Mx (vN a) (fnx a A) 0 10), Em g t') ∧ Sm g t t' ∧ (∀ j, j < Mx (vN a) (fnx a A) 0 10 → tA t' 198 j = nI (lpk (vN a) (fnx a A) j 0 10 (Mx (vN a) (fnx a A) 0 10))) := by
  have hN := wN3 W
  have h1k : 2 ^ vN a ≤ 1024 := Nat.pow_le_pow_right (n := 2) (by decide) hN
  intro U
  induction U with
  | zero =>
    intro fuel t hU hf ha h30 hY
    obtain ⟨f, rfl⟩ : ∃ f, fuel = f + 1 := ⟨fuel - 1, by omega⟩
    obtain ⟨f, rfl⟩ : ∃ k, f = k + 1 := ⟨f - 1, by omega⟩
    obtain ⟨t1, e1, s1, k1, k2, k3⟩ := r_ll_i (A := A) (U := 0) X W hA hU (F_X12_laysLongest_b16 (f + 1)) 11 0 FU t (by omega) (by decide) ha h30 hY (fun n hn => absurd hn (by omega))
    have h10 := k3 rfl (Or.inl (by decide))
    have hML := Mx_le (N := vN a) (nx := fnx a A) (U := 0) (l := 10)
    have hfm : Mx (vN a) (fnx a A) 0 10 < FU := by show Mx (vN a) (fnx a A) 0 10 < 1000000; omega
    obtain ⟨t2, e2, s2, _, k4⟩ := r_lt_l (A := A) (len := Mx (vN a) (fnx a A) 0 10) X W hA (by omega) (Mx (vN a) (fnx a A) 0 10) 0 FU t1 0 10 (by omega) hfm hU (by decide) rfl (by rw [Sm_a X s1]; exact ha) k1 (fun Y h1 h2 => k2 Y (by omega) h2)
    refine ⟨t2, ?_, Sm_t s1 s2, fun j hj => by have := k4 j hj; rw [Nat.zero_add] at this; exact this⟩
    have hb2 : F_X12_laysLongest_b16 (f + 1) 183 (nI 0 + (-1)) (Em g t1) = some (nI (Mx (vN a) (fnx a A) 0 10), Em g t2) := by
      rw [F_X12_laysLongest_b16, if_pos (show nI 0 + (-1 : Int32) < 0 by decide), x_r183_28 X, Option.bind_some]
      unfold F_X12_tuneAt
      rw [Option.bind_some, show (11 : Int32) * 0 + 10 = nI 10 from rfl, x_a197 X (by decide), Option.bind_some, h10]
      exact e2
    rw [F_X12_laysLongest_b16, if_neg (show ¬ nI 0 < (0 : Int32) by decide)]
    exact e1.trans hb2
  | succ U ih =>
    intro fuel t hU hf ha h30 hY
    obtain ⟨f, rfl⟩ : ∃ f, fuel = f + 1 := ⟨fuel - 1, by omega⟩
    obtain ⟨t1, e1, s1, k1, k2, _⟩ := r_ll_i (A := A) (U := U + 1) X W hA hU (F_X12_laysLongest_b16 f) 11 0 FU t (by omega) (by decide) ha h30 hY (fun n hn => absurd hn (by omega))
    obtain ⟨t2, e2, s2, k3⟩ := ih f t1 (by omega) (by omega) (by rw [Sm_a X s1]; exact ha) k1 (fun Y h1 h2 => k2 Y (by omega) h2)
    refine ⟨t2, ?_, Sm_t s1 s2, k3⟩
    have hsub : nI (U + 1) + (-1 : Int32) = nI U := by
      have := nI_an (a := U + 1) (b := 1) (by omega)
      rw [Nat.add_sub_cancel] at this
      exact this
    rw [hsub] at e1
    rw [F_X12_laysLongest_b16, if_neg (show ¬ nI (U + 1) < (0 : Int32) from show ¬ nI (U + 1) < nI 0 by rw [nI_ltI (by omega) (by decide)]; omega)]
    exact e1.trans e2
theorem r_long (X : Fx g) (W : WA a D) (ha : tA t 184 = a) {s : Nat} (hs : s < 2 ^ 31) : ∃ t', F_X12_laysLongest 183 (nI s) (Em g t) = some (nI (Mx (vN a) (fnx a (mk (hall a s (vP a)) (vN a))) 0 10), Em g t') ∧ Sm g t t' ∧ (∀ j, j < Mx (vN a) (fnx a (mk (hall a s (vP a)) (vN a))) 0 10 → tA t' 198 j = nI (lpk (vN a) (fnx a (mk (hall a s (vP a)) (vN a))) j 0 10 (Mx (vN a) (fnx a (mk (hall a s (vP a)) (vN a))) 0 10))) := by
  have hN := wN3 W
  have h1k : 2 ^ vN a ≤ 1024 := Nat.pow_le_pow_right (n := 2) (by decide) hN
  have hpp := Nat.two_pow_pos (vN a)
  have hA : mk (hall a s (vP a)) (vN a) < 2 ^ 31 := mk_31 (by omega)
  obtain ⟨t1, e1, s1, k1⟩ := r_all (t := t) X W ha hs
  have ha1 : tA t1 184 = a := by rw [Sm_a X s1]; exact ha
  have hfu : 2 ^ vN a - 1 + 1 < FU := by show 2 ^ vN a - 1 + 1 < 1000000; omega
  obtain ⟨t2, e2, s2, k2⟩ := r_ll_l (A := mk (hall a s (vP a)) (vN a)) X W hA (2 ^ vN a - 1) FU t1 (by omega) hfu ha1 k1 (fun Y h1 h2 => absurd h1 (by omega))
  refine ⟨t2, ?_, Sm_t s1 s2, k2⟩
  have a1 : aI (Em g t1) 184 1 = some (nI (vN a)) := by
    have : aI (Em g t1) 184 1 = some (tA t1 184 1) := x_a184 X (k := 1) (by decide)
    rw [this, ha1, wN W]
  have hsh : ((1 : Int32) <<< (nI (vN a) &&& 31)) - 1 = nI (2 ^ vN a - 1) := by
    rw [show (1 : Int32) <<< (nI (vN a) &&& 31) = nI (2 ^ vN a) from v_pow (by omega), show nI (2 ^ vN a) - 1 = nI (2 ^ vN a - 1) from nI_sub (b := 1) (by omega)]
  unfold F_X12_laysLongest
  rw [x_rc183 X, Option.bind_some, e1, Option.bind_some, x_r183_1 X, Option.bind_some, a1, Option.bind_some, hsh]
  exact e2
end XLo
