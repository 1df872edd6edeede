/-! ===== through: the reference's table and path ===== -/
def Tt (g : Sk) (t t' : Tb) : Prop := (∀ a k, tI t' a k = tI t a k) ∧ (∀ b, b ≠ 197 → snA g b = false → tA t' b = tA t b) ∧ (∀ b, tJ t' b = tJ t b)
def nx7 (z U n : Nat) : Nat := 11 * (U ||| (2 ^ n &&& z)) + n
def fwn (nx : Nat → Nat → Bool) (z : Nat) (s : Nat → Nat) (k n : Nat) : Nat := if nx (k % 11) n = true then (if s (nx7 z (k / 11) n) = 268435456 then 268435456 else 1 + s (nx7 z (k / 11) n)) else 268435456
def gv (n : Nat) : Nat := if n < 1000 then n else 268435456
noncomputable def drk (N : Nat) (nx : Nat → Nat → Bool) (z k : Nat) : Nat := gv (dd N nx (an_ z (k / 11)) (k % 11))
def okk (N z k : Nat) : Prop := k < 11 * 2 ^ N ∧ an_ (k / 11) z = 0
def Tth (t : Tb) (s : Nat → Nat) : Prop := ∀ k, k < 11264 → tA t 197 k = nI (s k) ∧ s k ≤ 268435456
def lot (N : Nat) (nx : Nat → Nat → Bool) (z : Nat) (s : Nat → Nat) : Prop := ∀ k, okk N z k → drk N nx z k ≤ s k
def ext (N : Nat) (nx : Nat → Nat → Bool) (z : Nat) (s : Nat → Nat) (i n : Nat) : Prop := ∀ k, k < n → okk N z k → drk N nx z k ≤ i → s k = drk N nx z k
def fxt (N : Nat) (nx : Nat → Nat → Bool) (z : Nat) (s : Nat → Nat) (n : Nat) : Prop := ∀ k, k < n → okk N z k → ∀ m, m < N → s k ≤ fwn nx z s k m
theorem an_an {z U n : Nat} : an_ z (U ||| (2 ^ n &&& z)) = an_ (an_ z U) (2 ^ n) := by
  apply Nat.eq_of_testBit_eq
  intro j
  rw [an_bit, an_bit, an_bit, Nat.testBit_or, Nat.testBit_and]
  cases z.testBit j <;> cases U.testBit j <;> cases (2 ^ n).testBit j <;> rfl
theorem sub_or {z U n : Nat} (h : an_ U z = 0) : an_ (U ||| (2 ^ n &&& z)) z = 0 := by
  rw [sub_an] at h ⊢
  intro i hi
  rw [Nat.testBit_or, Nat.testBit_and, Bool.or_eq_true, Bool.and_eq_true] at hi
  rcases hi with hi | hi
  · exact h i hi
  · exact hi.2
theorem sub_lt {z U N : Nat} (h : an_ U z = 0) (hz : z < 2 ^ N) : U < 2 ^ N := by
  apply Nat.lt_of_testBit_lt' hz
  exact h
where
  Nat.lt_of_testBit_lt' {z U N : Nat} (hz : z < 2 ^ N) (h : an_ U z = 0) : U < 2 ^ N := by
    have e : U = U &&& z := by
      apply Nat.eq_of_testBit_eq
      intro j
      rw [Nat.testBit_and]
      cases c : U.testBit j
      · rfl
      · rw [sub_an.mp h j c]; rfl
    rw [e]
    exact Nat.lt_of_le_of_lt Nat.and_le_right hz
theorem an_full {z U : Nat} : an_ z U = 0 ↔ U &&& z = z := by
  rw [sub_an]
  constructor
  · intro h
    apply Nat.eq_of_testBit_eq
    intro j
    rw [Nat.testBit_and]
    cases c : z.testBit j
    · rw [Bool.and_false]
    · rw [h j c]; rfl
  · intro h i hi
    rw [← h, Nat.testBit_and, Bool.and_eq_true] at hi
    exact hi.1
section XTh
variable {N z : Nat} {nx : Nat → Nat → Bool} {s : Nat → Nat}
theorem gv_le {n : Nat} : gv n ≤ 268435456 := by unfold gv; split <;> omega
theorem nx7_d {U n : Nat} (hn : n < 11) : nx7 z U n / 11 = U ||| (2 ^ n &&& z) ∧ nx7 z U n % 11 = n := by unfold nx7; omega
theorem nx7_ok (hN : N ≤ 10) (hz : z < 2 ^ N) {k n : Nat} (hk : okk N z k) (hn : n < N) : okk N z (nx7 z (k / 11) n) ∧ nx7 z (k / 11) n < 11264 := by
  obtain ⟨d1, d2⟩ := nx7_d (z := z) (U := k / 11) (show n < 11 by omega)
  have h1k : 2 ^ N ≤ 1024 := Nat.pow_le_pow_right (n := 2) (by decide) hN
  have hs := sub_or (n := n) hk.2
  have hl := sub_lt hs hz
  have : nx7 z (k / 11) n < 11 * 2 ^ N := by unfold nx7; omega
  exact ⟨⟨this, by rw [d1]; exact hs⟩, by omega⟩
theorem drk_n {k n : Nat} (hn : n < 11) : drk N nx z (nx7 z (k / 11) n) = gv (dd N nx (an_ (an_ z (k / 11)) (2 ^ n)) n) := by
  obtain ⟨d1, d2⟩ := nx7_d (z := z) (U := k / 11) hn
  unfold drk
  rw [d1, d2, an_an]
theorem fwn_ge (hN : N ≤ 10) (hz : z < 2 ^ N) (A : lot N nx z s) (hs : ∀ k, k < 11264 → s k ≤ 268435456) {k n : Nat} (hk : okk N z k) (hn : n < N) : drk N nx z k ≤ fwn nx z s k n := by
  obtain ⟨o1, o2⟩ := nx7_ok hN hz hk hn
  have h1 : drk N nx z k ≤ 268435456 := gv_le
  unfold fwn
  split
  · rename_i c
    split
    · exact h1
    · rename_i c2
      have q1 := A _ o1
      have q2 := hs _ o2
      rw [drk_n (show n < 11 by omega)] at q1
      have q3 := dd_s (S := an_ z (k / 11)) hn c
      have q4 : dd N nx (an_ (an_ z (k / 11)) (2 ^ n)) n < 1000 := by
        unfold gv at q1
        split at q1
        · assumption
        · omega
      have q5 := dd_bd hN q4
      unfold gv at q1
      rw [if_pos q4] at q1
      unfold drk gv
      rw [if_pos (by omega)]
      omega
  · exact h1
theorem fwn_ex (hN : N ≤ 10) (hz : z < 2 ^ N) {i : Nat} (B : ext N nx z s i 11264) (hi : i < 900) {k : Nat} (hk : okk N z k) (h0 : 1 ≤ drk N nx z k) (h : drk N nx z k ≤ i + 1) : ∃ n, n < N ∧ fwn nx z s k n ≤ drk N nx z k := by
  have hlt : dd N nx (an_ z (k / 11)) (k % 11) < 1000 := by
    unfold drk gv at h
    split at h
    · assumption
    · omega
  have he : drk N nx z k = dd N nx (an_ z (k / 11)) (k % 11) := by unfold drk gv; rw [if_pos hlt]
  have hS : an_ z (k / 11) ≠ 0 := fun e => by rw [e, dd_0] at he; omega
  obtain ⟨m, m1, m2, m3⟩ := dd_ex hS hlt
  obtain ⟨o1, o2⟩ := nx7_ok hN hz hk m1
  have hd := drk_n (N := N) (nx := nx) (z := z) (k := k) (n := m) (by omega)
  have hg : gv (dd N nx (an_ (an_ z (k / 11)) (2 ^ m)) m) = dd N nx (an_ (an_ z (k / 11)) (2 ^ m)) m := by unfold gv; rw [if_pos (by omega)]
  rw [hg] at hd
  have e := B _ o2 o1 (by omega)
  refine ⟨m, m1, ?_⟩
  unfold fwn
  rw [if_pos m2, e, hd, if_neg (by omega)]
  omega
theorem ext_s (hN : N ≤ 10) (hz : z < 2 ^ N) (A : lot N nx z s) {i : Nat} (hi : i < 900) (B : ext N nx z s i 11264) {k : Nat} (hk1 : k < 11264) (hk : okk N z k) (F : ∀ m, m < N → s k ≤ fwn nx z s k m) (h : drk N nx z k ≤ i + 1) : s k = drk N nx z k := by
  by_cases c : drk N nx z k ≤ i
  · exact B k hk1 hk c
  · obtain ⟨n, n1, n2⟩ := fwn_ex hN hz B hi hk (by omega) h
    have := F n n1
    have := A k hk
    omega
theorem fxt_a (hN : N ≤ 10) (hz : z < 2 ^ N) (A : lot N nx z s) (B0 : ext N nx z s 0 11264) (F : fxt N nx z s 11264) : ∀ i, i < 900 → ext N nx z s i 11264
  | 0, _ => B0
  | i + 1, h => fun k hk hko q => ext_s hN hz A (by omega) (fxt_a hN hz A B0 F i (by omega)) hk hko (F k hk hko) q
theorem ext_m {i j n : Nat} (h : j ≤ i) (B : ext N nx z s i n) : ext N nx z s j n := fun k hk hko q => B k hk hko (by omega)
theorem ext_all (hN : N ≤ 10) (A : lot N nx z s) (hs : ∀ k, k < 11264 → s k ≤ 268435456) {i : Nat} (hi : 46 ≤ i) (B : ext N nx z s i 11264) : ∀ k, k < 11264 → okk N z k → s k = drk N nx z k := by
  intro k hk hko
  by_cases c : dd N nx (an_ z (k / 11)) (k % 11) < 1000
  · have h1 := dd_bd hN c
    have : drk N nx z k = dd N nx (an_ z (k / 11)) (k % 11) := by unfold drk gv; rw [if_pos c]
    exact B k hk hko (by omega)
  · have : drk N nx z k = 268435456 := by unfold drk gv; rw [if_neg c]
    have := A k hko
    have := hs k hk
    omega
end XTh
section XTr
variable {g : Sk} {t : Tb} {a : Nat → Int32}
variable {D p : Nat} {t' t'' : Tb}
theorem Tt_r : Tt g t t := ⟨fun _ _ => rfl, fun _ _ _ => rfl, fun _ => rfl⟩
theorem Tt_t (h : Tt g t t') (h2 : Tt g t' t'') : Tt g t t'' := ⟨fun a k => (h2.1 a k).trans (h.1 a k), fun b p q => (h2.2.1 b p q).trans (h.2.1 b p q), fun b => (h2.2.2 b).trans (h.2.2 b)⟩
theorem Tt_n (h : Sn g t t') : Tt g t t' := ⟨h.1, fun b _ q => h.2.1 b q, h.2.2⟩
theorem Tt_wa {k : Nat} {x : Int32} (h : Tt g t t') : Tt g t (wa t' 197 k x) := ⟨h.1, fun b p q => (tA_an p).trans (h.2.1 b p q), h.2.2⟩
theorem Tt_a (X : Fx g) (h : Tt g t t') : tA t' 184 = tA t 184 := h.2.1 184 (by decide) (sn_x X rfl)
theorem Tt_m (h : Tt g t t') : Sm g t t' := by
  refine ⟨fun a k _ => h.1 a k, fun b hb => ?_, fun b _ => h.2.2 b⟩
  refine h.2.1 b ?_ ?_
  · rintro rfl
    rw [sc_f rfl] at hb
    cases hb
  · cases hq : snA g b
    · rfl
    · unfold snA at hq
      rw [Bool.or_eq_true, Bool.or_eq_true] at hq
      rcases hq with (q | q) | q
      · rw [sc_30 (by simpa using q)] at hb; exact absurd hb (by decide)
      · have e : b = 188 := by simpa using q
        subst e
        rw [sc_f rfl] at hb; exact absurd hb (by decide)
      · have e : b = 189 := by simpa using q
        subst e
        rw [sc_f rfl] at hb; exact absurd hb (by decide)
theorem nx7_I {z U n : Nat} (hn : n < 31) (h : xH) : F_X12_tuneAt (nI U ||| (((1 : Int32) <<< (nI n &&& 31)) &&& nI z)) (nI n) h = some (nI (nx7 z U n), h) := by
  unfold F_X12_tuneAt nx7
  rw [show (1 : Int32) <<< (nI n &&& 31) = nI (2 ^ n) from v_pow hn, fa_and, fa_or, show (11 : Int32) * nI (U ||| (2 ^ n &&& z)) = nI (11 * (U ||| (2 ^ n &&& z))) from nI_mulN 11 _, nI_add]
theorem r_fewBy (X : Fx g) (W : WA a D) (ha : tA t 184 = a) {A z k n : Nat} {s : Nat → Nat} (hA : A < 2 ^ 31) (h30 : tI t 183 30 = nI A) (hk : k < 11264) (hn : n < 10) (hj : nx7 z (k / 11) n < 11264) (hs : tA t 197 (nx7 z (k / 11) n) = nI (s (nx7 z (k / 11) n)) ∧ s (nx7 z (k / 11) n) ≤ 268435456) : ∃ t', F_X12_fewestBy 183 (nI (k / 11)) (nI (k % 11)) (nI z) (nI n) (Em g t) = some (nI (fwn (fnx a A) z s k n), Em g t') ∧ Sn g t t' := by
  obtain ⟨t1, e1, s1⟩ := q_may (t := t) (A := A) (m := k % 11) (n := n) X W ha hA h30 (by omega) (by omega)
  refine ⟨t1, ?_, s1⟩
  unfold F_X12_fewestBy fwn
  rw [x_rc183 X, Option.bind_some, e1, Option.bind_some]
  cases c : fnx a A (k % 11) n
  · rw [if_neg (show ¬ ¬ bI false = (0 : Int32) by decide), ifb_f]
    rfl
  · rw [if_pos (show ¬ bI true = (0 : Int32) by decide), ifb_t, x_r183_28 X, Option.bind_some, nx7_I (by omega), Option.bind_some, x_a197 X hj, Option.bind_some, s1.2.1 197 (sn_x X rfl), hs.1]
    by_cases c2 : s (nx7 z (k / 11) n) = 268435456
    · rw [if_neg (fun h => h (by rw [c2]; rfl)), if_pos c2]
      rfl
    · rw [if_pos (show ¬ nI (s (nx7 z (k / 11) n)) = (268435456 : Int32) from show ¬ nI (s (nx7 z (k / 11) n)) = nI 268435456 by rw [nI_eq (by omega) (by decide)]; exact c2), if_neg c2, show (1 : Int32) + nI (s (nx7 z (k / 11) n)) = nI (1 + s (nx7 z (k / 11) n)) from nI_add 1 _]
theorem Tth_u {s : Nat → Nat} (T : Tth t s) {k x : Nat} (hx : x ≤ 268435456) : Tth (wa t 197 k (nI x)) (fun j => if j = k then x else s j) := by
  intro j hj
  rw [tA_as]
  by_cases e : j = k
  · subst e
    rw [upd_s]
    dsimp only
    rw [if_pos rfl]
    exact ⟨rfl, hx⟩
  · rw [upd_n e]
    dsimp only
    rw [if_neg e]
    exact T j hj
theorem Tth_n (X : Fx g) {s : Nat → Nat} (T : Tth t s) (h : Sn g t t') : Tth t' s := fun k hk => by rw [h.2.1 197 (sn_x X rfl)]; exact T k hk
theorem fwn_le {nx : Nat → Nat → Bool} {N z : Nat} {s : Nat → Nat} (hN : N ≤ 10) (hz : z < 2 ^ N) (hs : ∀ k, k < 11264 → s k ≤ 268435456) {k n : Nat} (hk : okk N z k) (hn : n < N) : fwn nx z s k n ≤ 268435456 := by
  have := hs _ (nx7_ok hN hz hk hn).2
  unfold fwn
  split
  · split <;> omega
  · omega
theorem fwn_u {nx : Nat → Nat → Bool} {z : Nat} {s : Nat → Nat} {k n x : Nat} (hx : x ≤ s k) (h : x ≤ fwn nx z s k n) (hx2 : x ≤ 268435456) : x ≤ fwn nx z (fun j => if j = k then x else s j) k n := by
  unfold fwn at h ⊢
  by_cases c : nx (k % 11) n = true
  · rw [if_pos c] at h ⊢
    by_cases e : nx7 z (k / 11) n = k
    · have e' : (fun j => if j = k then x else s j) (nx7 z (k / 11) n) = x := if_pos e
      rw [e']
      split <;> omega
    · have e' : (fun j => if j = k then x else s j) (nx7 z (k / 11) n) = s (nx7 z (k / 11) n) := if_neg e
      rw [e']
      exact h
  · rw [if_neg c]
    exact hx2
theorem r_tt_i (X : Fx g) (W : WA a D) {A z k : Nat} (hA : A < 2 ^ 31) (hz : z < 2 ^ vN a) (hk : k < 11264) (hko : okk (vN a) z k) (k45 : Nat → Int32 → Int32 → xH → Option (Int32 × xH)) (kk : Nat → Int32 → Int32 → Int32 → xH → Option (Int32 × xH)) : ∀ (d n fuel : Nat) (t : Tb) (s : Nat → Nat) (y : Int32), n + d = vN a → d < fuel → tA t 184 = a → tI t 183 30 = nI A → Tth t s → lot (vN a) (fnx a A) z s → (∀ j, j < n → s k ≤ fwn (fnx a A) z s k j) → ∃ t' s' y', F_X12_laysThrough_b86 k45 kk fuel 183 (nI z) y (nI k) (nI n) (Em g t) = kk 183 (nI z) y' (nI (k + 1)) (Em g t') ∧ Tt g t t' ∧ Tth t' s' ∧ lot (vN a) (fnx a A) z s' ∧ (∀ j, j < vN a → s' k ≤ fwn (fnx a A) z s' k j) ∧ (∀ j, s' j ≤ s j) ∧ ((s' = s ∧ y' = y) ∨ (y' = nI 1 ∧ s' k < s k)) := by
  have hN := wN3 W
  have e11 : irm (nI k) 11 = nI (k % 11) := irm_n (b := 11) (by omega) (by decide) (by decide)
  have d11 : idv (nI k) 11 = nI (k / 11) := r_idv (d := 11) (by omega) (by decide) (by decide)
  have h1 : ∀ t, tA t 184 = a → aI (Em g t) 184 1 = some (nI (vN a)) := fun t ha => by
    have : aI (Em g t) 184 1 = some (tA t 184 1) := x_a184 X (k := 1) (by decide)
    rw [this, ha, wN W]
  intro d
  induction d with
  | zero =>
    intro n fuel t s y hn hf ha h30 T L F
    obtain ⟨f, rfl⟩ : ∃ f, fuel = f + 1 := ⟨fuel - 1, by omega⟩
    have hn : n = vN a := by omega
    subst hn
    refine ⟨t, s, y, ?_, Tt_r, T, L, F, fun _ => Nat.le_refl _, Or.inl ⟨rfl, rfl⟩⟩
    rw [F_X12_laysThrough_b86, x_r183_1 X, Option.bind_some, h1 t ha, Option.bind_some, if_pos (by rw [nI_leI (by omega) (by omega)]; exact Nat.le_refl _), show nI k + 1 = nI (k + 1) from nI_add k 1]
  | succ d ih =>
    intro n fuel t s y hn hf ha h30 T L F
    obtain ⟨f, rfl⟩ : ∃ f, fuel = f + 1 := ⟨fuel - 1, by omega⟩
    have hnN : n < vN a := by omega
    have hn1 : nI n + 1 = nI (n + 1) := nI_add n 1
    have hs : ∀ k, k < 11264 → s k ≤ 268435456 := fun j hj => (T j hj).2
    obtain ⟨o1, o2⟩ := nx7_ok hN hz hko hnN
    obtain ⟨t1, e1, s1⟩ := r_fewBy (t := t) (s := s) X W ha hA h30 hk (show n < 10 by omega) o2 (T _ o2)
    have ha1 : tA t1 184 = a := by rw [Sm_a X (Sn_m s1)]; exact ha
    have h301 : tI t1 183 30 = nI A := by rw [s1.1]; exact h30
    have T1 := Tth_n X T s1
    have hfl := fwn_le (nx := fnx a A) hN hz hs hko hnN
    have hsk := hs k hk
    by_cases c2 : fwn (fnx a A) z s k n < s k
    · obtain ⟨t2, e2, s2⟩ := r_fewBy (t := t1) (s := s) X W ha1 hA h301 hk (show n < 10 by omega) o2 (T1 _ o2)
      have ha2 : tA t2 184 = a := by rw [Sm_a X (Sn_m s2)]; exact ha1
      have T2 := Tth_n X T1 s2
      have hge := fwn_ge hN hz L hs hko hnN
      obtain ⟨t3, s3, y3, e3, a3, T3, L3, F3, m3, o3⟩ := ih (n + 1) f (wa t2 197 k (nI (fwn (fnx a A) z s k n))) (fun j => if j = k then fwn (fnx a A) z s k n else s j) 1 (by omega) (by omega) (by rw [tA_an (by decide)]; exact ha2) (by rw [tI_wa, s2.1]; exact h301) (Tth_u T2 hfl) (fun j hj => by
        by_cases e : j = k
        · subst e; dsimp only; rw [if_pos rfl]; exact hge
        · dsimp only; rw [if_neg e]; exact L j hj) (fun j hj => by
        rw [if_pos rfl]
        refine fwn_u (by omega) ?_ hfl
        by_cases e : j = n
        · rw [e]; exact Nat.le_refl _
        · have := F j (by omega); omega)
      have mk0 := m3 k
      rw [if_pos rfl] at mk0
      refine ⟨t3, s3, y3, ?_, Tt_t (Tt_wa (Tt_t (Tt_n s1) (Tt_n s2))) a3, T3, L3, F3, fun j => ?_, Or.inr ⟨?_, by omega⟩⟩
      · rw [F_X12_laysThrough_b86, x_r183_1 X, Option.bind_some, h1 t ha, Option.bind_some, if_neg (by rw [nI_leI (by omega) (by omega)]; omega), x_rc183 X, Option.bind_some, d11, e11, e1, Option.bind_some, x_r183_28 X, Option.bind_some, x_a197 X hk, Option.bind_some, (T1 k hk).1, if_pos (by rw [nI_ltI (by omega) (by omega)]; exact c2), Option.bind_some, x_rc183 X, Option.bind_some, e2, Option.bind_some, x_s197 X hk, Option.bind_some, hn1]
        exact e3
      · have := m3 j
        by_cases e : j = k
        · subst e; rw [if_pos rfl] at this; omega
        · rw [if_neg e] at this; exact this
      · rcases o3 with ⟨_, q⟩ | ⟨q, _⟩
        · rw [q]; rfl
        · exact q
    · obtain ⟨t3, s3, y3, e3, a3, r3⟩ := ih (n + 1) f t1 s y (by omega) (by omega) ha1 h301 T1 L (fun j hj => by
        by_cases e : j = n
        · rw [e]; omega
        · exact F j (by omega))
      refine ⟨t3, s3, y3, ?_, Tt_t (Tt_n s1) a3, r3⟩
      rw [F_X12_laysThrough_b86, x_r183_1 X, Option.bind_some, h1 t ha, Option.bind_some, if_neg (by rw [nI_leI (by omega) (by omega)]; omega), x_rc183 X, Option.bind_some, d11, e11, e1, Option.bind_some, x_r183_28 X, Option.bind_some, x_a197 X hk, Option.bind_some, (T1 k hk).1, if_neg (by rw [nI_ltI (by omega) (by omega)]; exact c2), hn1]
      exact e3
theorem sh_11 {n : Nat} (h : n ≤ 10) : (11 : Int32) <<< (nI n &&& 31) = nI (11 * 2 ^ n) := by
  have key : ∀ n, n ≤ 10 → (11 : Int32) <<< (nI n &&& 31) = nI (11 * 2 ^ n) := by decide +kernel
  exact key n h
theorem r_tt_l (X : Fx g) (W : WA a D) {A z i : Nat} (hA : A < 2 ^ 31) (hz : z < 2 ^ vN a) (hi : i < 800) (kk : Nat → Int32 → Int32 → xH → Option (Int32 × xH)) : ∀ (d k fuel : Nat) (t : Tb) (s : Nat → Nat) (y : Int32), k + d = 11 * 2 ^ vN a → d < fuel → tA t 184 = a → tI t 183 30 = nI A → Tth t s → lot (vN a) (fnx a A) z s → ext (vN a) (fnx a A) z s i 11264 → ext (vN a) (fnx a A) z s (i + 1) k → (y = nI 0 ∨ y = nI 1) → (y = nI 0 → fxt (vN a) (fnx a A) z s k) → ∃ t' s' y', F_X12_laysThrough_b54 kk fuel 183 (nI z) y (nI k) (Em g t) = kk 183 (nI z) y' (Em g t') ∧ Tt g t t' ∧ Tth t' s' ∧ lot (vN a) (fnx a A) z s' ∧ ext (vN a) (fnx a A) z s' (i + 1) 11264 ∧ (y' = nI 0 ∨ y' = nI 1) ∧ (y' = nI 0 → fxt (vN a) (fnx a A) z s' 11264) ∧ (∀ j, s' j ≤ s j) ∧ (y' = nI 1 → y = nI 1 ∨ ∃ j, j < 11264 ∧ okk (vN a) z j ∧ s' j < s j) := by
  have hN := wN3 W
  have h1k : 2 ^ vN a ≤ 1024 := Nat.pow_le_pow_right (n := 2) (by decide) hN
  have h1 : ∀ t, tA t 184 = a → aI (Em g t) 184 1 = some (nI (vN a)) := fun t ha => by
    have : aI (Em g t) 184 1 = some (tA t 184 1) := x_a184 X (k := 1) (by decide)
    rw [this, ha, wN W]
  intro d
  induction d with
  | zero =>
    intro k fuel t s y hk hf ha h30 T L B B2 hy F
    obtain ⟨f, rfl⟩ : ∃ f, fuel = f + 1 := ⟨fuel - 1, by omega⟩
    have hk : k = 11 * 2 ^ vN a := by omega
    subst hk
    refine ⟨t, s, y, ?_, Tt_r, T, L, fun j _ hj q => B2 j hj.1 hj q, hy, fun q j _ hj => F q j hj.1 hj, fun _ => Nat.le_refl _, fun h => Or.inl h⟩
    rw [F_X12_laysThrough_b54, x_r183_1 X, Option.bind_some, h1 t ha, Option.bind_some, sh_11 hN, if_pos (by rw [nI_leI (by omega) (by omega)]; exact Nat.le_refl _)]
  | succ d ih =>
    intro k fuel t s y hk hf ha h30 T L B B2 hy F
    obtain ⟨f, rfl⟩ : ∃ f, fuel = f + 1 := ⟨fuel - 1, by omega⟩
    have hk72 : k < 11264 := by omega
    have d11 : idv (nI k) 11 = nI (k / 11) := r_idv (d := 11) (by omega) (by decide) (by decide)
    have hfu : vN a < FU := by show vN a < 1000000; omega
    have han := an_leS (k / 11) z
    have head : F_X12_laysThrough_b54 kk (f + 1) 183 (nI z) y (nI k) (Em g t) = if nI (an_ (k / 11) z) = 0 then F_X12_laysThrough_b86 kk (F_X12_laysThrough_b54 kk f) FU 183 (nI z) y (nI k) 0 (Em g t) else F_X12_laysThrough_b54 kk f 183 (nI z) y (nI (k + 1)) (Em g t) := by
      rw [F_X12_laysThrough_b54, x_r183_1 X, Option.bind_some, h1 t ha, Option.bind_some, sh_11 hN, if_neg (by rw [nI_leI (by omega) (by omega)]; omega), d11, show (-1 : Int32) = -nI 1 from rfl, an_g, show nI k + 1 = nI (k + 1) from nI_add k 1]
    rw [head]
    by_cases hko : an_ (k / 11) z = 0
    · have hok : okk (vN a) z k := ⟨by omega, hko⟩
      obtain ⟨t1, s1, y1, e1, a1, T1, L1, F1, m1, o1⟩ := r_tt_i X W hA hz hk72 hok kk (F_X12_laysThrough_b54 kk f) (vN a) 0 FU t s y (by omega) hfu ha h30 T L (fun j hj => absurd hj (by omega))
      have e1' : F_X12_laysThrough_b86 kk (F_X12_laysThrough_b54 kk f) FU 183 (nI z) y (nI k) 0 (Em g t) = F_X12_laysThrough_b54 kk f 183 (nI z) y1 (nI (k + 1)) (Em g t1) := e1
      have up : ∀ c n, ext (vN a) (fnx a A) z s c n → ext (vN a) (fnx a A) z s1 c n := fun c n q j hj hjo hq => by
        have := q j hj hjo hq
        have := m1 j
        have := L1 j hjo
        omega
      have B1 := up i 11264 B
      obtain ⟨t2, s2, y2, e2, a2, r2⟩ := ih (k + 1) f t1 s1 y1 (by omega) (by omega) (by rw [Tt_a X a1]; exact ha) (by rw [a1.1]; exact h30) T1 L1 B1 (fun j hj hjo hq => by
        by_cases e : j = k
        · subst e; exact ext_s hN hz L1 (by omega) B1 hk72 hjo F1 hq
        · exact up (i + 1) k B2 j (by omega) hjo hq) (by
        rcases o1 with ⟨_, q⟩ | ⟨q, _⟩
        · rw [q]; exact hy
        · exact Or.inr q) (fun hz2 j hj hjo => by
        rcases o1 with ⟨q1, q2⟩ | ⟨q, _⟩
        · by_cases e : j = k
          · subst e; exact F1
          · rw [q1]; exact F (by rw [← q2]; exact hz2) j (by omega) hjo
        · rw [q] at hz2; exact absurd hz2 (by decide))
      obtain ⟨T2, L2, B3, hy2, F2, m2, o2⟩ := r2
      rw [if_pos (by rw [hko]; rfl)]
      refine ⟨t2, s2, y2, e1'.trans e2, Tt_t a1 a2, T2, L2, B3, hy2, F2, fun j => Nat.le_trans (m2 j) (m1 j), fun q => ?_⟩
      rcases o2 q with c | ⟨j, j1, j2, j3⟩
      · rcases o1 with ⟨_, q2⟩ | ⟨_, q2⟩
        · exact Or.inl (by rw [← q2]; exact c)
        · exact Or.inr ⟨k, hk72, hok, by have := m2 k; omega⟩
      · exact Or.inr ⟨j, j1, j2, by have := m1 j; omega⟩
    · rw [if_neg (by rw [nI_z (by omega)]; exact hko)]
      exact ih (k + 1) f t s y (by omega) (by omega) ha h30 T L B (fun j hj hjo hq => by
        by_cases e : j = k
        · subst e; exact absurd hjo.2 hko
        · exact B2 j (by omega) hjo hq) hy (fun hz2 j hj hjo => by
        by_cases e : j = k
        · subst e; exact absurd hjo.2 hko
        · exact F hz2 j (by omega) hjo)
/-! the path -/
def Txt (t : Tb) (a : Nat → Int32) (A z : Nat) : Prop := ∀ k, k < 11264 → okk (vN a) z k → tA t 197 k = nI (drk (vN a) (fnx a A) z k)
theorem fwn_tb (W : WA a D) {A z U l r n : Nat} (hU : an_ U z = 0) (hl : l ≤ 10) (hr : r ≤ 46) (hn : n < vN a) : fwn (fnx a A) z (drk (vN a) (fnx a A) z) (11 * U + l) n = r ↔ tbl (vN a) (fnx a A) (an_ z U) l r n = true := by
  have hN := wN3 W
  have h1 : (11 * U + l) / 11 = U := by omega
  have h2 : (11 * U + l) % 11 = l := by omega
  have hd := drk_n (N := vN a) (nx := fnx a A) (z := z) (k := 11 * U + l) (n := n) (by omega)
  rw [h1] at hd
  have hl2 := @dd_le (vN a) (fnx a A) (an_ (an_ z U) (2 ^ n)) n
  rw [tbl_iff]
  unfold fwn
  rw [h1, h2, hd]
  unfold gv
  constructor
  · intro h
    by_cases c : fnx a A l n = true
    · refine ⟨c, ?_⟩
      rw [if_pos c] at h
      by_cases c1 : dd (vN a) (fnx a A) (an_ (an_ z U) (2 ^ n)) n < 1000
      · rw [if_pos c1, if_neg (by omega)] at h
        omega
      · rw [if_neg c1, if_pos rfl] at h
        omega
    · rw [if_neg c] at h
      omega
  · rintro ⟨h3, h4⟩
    rw [if_pos h3, if_pos (show dd (vN a) (fnx a A) (an_ (an_ z U) (2 ^ n)) n < 1000 by omega), if_neg (by omega)]
    omega
theorem r_tp_i (X : Fx g) (W : WA a D) {A z U l r len x5 : Nat} (hA : A < 2 ^ 31) (hz : z < 2 ^ vN a) (hU : an_ U z = 0) (hl : l ≤ 10) (hr : dd (vN a) (fnx a A) (an_ z U) l = r) (h0 : 0 < r) (hx : x5 + r = len) (hlen : len ≤ 46) (kk : Nat → Int32 → Int32 → Int32 → Int32 → Int32 → xH → Option (Int32 × xH)) : ∀ (d k fuel : Nat) (t : Tb), k + d = tfs (vN a) (fnx a A) (an_ z U) l r → d < fuel → tA t 184 = a → tI t 183 30 = nI A → Txt t a A z → ∃ t', F_X12_laysThrough_b211 kk fuel 183 (nI z) (nI U) (nI l) (nI len) (nI x5) (nI k) (Em g t) = kk 183 (nI z) (nI (U ||| (2 ^ tfs (vN a) (fnx a A) (an_ z U) l r &&& z))) (nI (tfs (vN a) (fnx a A) (an_ z U) l r)) (nI len) (nI (x5 + 1)) (Em g (wa t' 198 x5 (nI (tfs (vN a) (fnx a A) (an_ z U) l r)))) ∧ Sn g t t' := by
  have hN := wN3 W
  have h1k : 2 ^ vN a ≤ 1024 := Nat.pow_le_pow_right (n := 2) (by decide) hN
  have hUl := sub_lt hU hz
  have h1 : (11 * U + l) / 11 = U := by omega
  have h2 : (11 * U + l) % 11 = l := by omega
  have hok : okk (vN a) z (11 * U + l) := ⟨by omega, by rw [h1]; exact hU⟩
  obtain ⟨f1, f2, f3⟩ := tfs_p hr h0 (by omega)
  have hsub : nI len - nI x5 = nI r := by rw [nI_sub (by omega)]; exact congrArg nI (by omega)
  have hfb : ∀ t n, tA t 184 = a → tI t 183 30 = nI A → Txt t a A z → n < vN a → ∃ t', F_X12_fewestBy 183 (nI U) (nI l) (nI z) (nI n) (Em g t) = some (nI (fwn (fnx a A) z (drk (vN a) (fnx a A) z) (11 * U + l) n), Em g t') ∧ Sn g t t' := fun t n ha h30 T hn => by
    obtain ⟨o1, o2⟩ := nx7_ok hN hz hok hn
    have := r_fewBy (t := t) (k := 11 * U + l) (s := drk (vN a) (fnx a A) z) X W ha hA h30 (by omega) (show n < 10 by omega) o2 ⟨T _ o2 o1, gv_le⟩
    rw [h1, h2] at this
    exact this
  intro d
  induction d with
  | zero =>
    intro k fuel t hk hf ha h30 T
    obtain ⟨f, rfl⟩ : ∃ f, fuel = f + 1 := ⟨fuel - 1, by omega⟩
    have hk : k = tfs (vN a) (fnx a A) (an_ z U) l r := by omega
    rw [← hk] at f1 f2 f3 ⊢
    obtain ⟨t1, e1, s1⟩ := hfb t k ha h30 T f1
    rw [(fwn_tb W hU hl (by omega) f1).mpr f2] at e1
    refine ⟨t1, ?_, s1⟩
    rw [F_X12_laysThrough_b211, x_rc183 X, Option.bind_some, e1, Option.bind_some, hsub, if_pos rfl, x_r183_29 X, Option.bind_some, x_s198 X (by omega), Option.bind_some, show (1 : Int32) <<< (nI k &&& 31) = nI (2 ^ k) from v_pow (by omega), fa_and, fa_or, show nI x5 + 1 = nI (x5 + 1) from nI_add x5 1]
  | succ d ih =>
    intro k fuel t hk hf ha h30 T
    obtain ⟨f, rfl⟩ : ∃ f, fuel = f + 1 := ⟨fuel - 1, by omega⟩
    have hno := f3 k (by omega)
    have hkN : k < vN a := by omega
    obtain ⟨t1, e1, s1⟩ := hfb t k ha h30 T hkN
    have hne : ¬ fwn (fnx a A) z (drk (vN a) (fnx a A) z) (11 * U + l) k = r := fun h => by
      have := (fwn_tb W hU hl (by omega) hkN).mp h
      rw [hno] at this
      cases this
    have hfl := fwn_le (nx := fnx a A) (s := drk (vN a) (fnx a A) z) hN hz (fun _ _ => gv_le) hok hkN
    obtain ⟨t2, e2, s2⟩ := ih (k + 1) f t1 (by omega) (by omega) (by rw [Sm_a X (Sn_m s1)]; exact ha) (by rw [s1.1]; exact h30) (fun j hj hjo => by rw [s1.2.1 197 (sn_x X rfl)]; exact T j hj hjo)
    refine ⟨t2, ?_, Sn_t s1 s2⟩
    rw [F_X12_laysThrough_b211, x_rc183 X, Option.bind_some, e1, Option.bind_some, hsub, if_neg (show ¬ nI _ = nI r by rw [nI_eq (by omega) (by omega)]; exact hne), show nI k + 1 = nI (k + 1) from nI_add k 1]
    exact e2
theorem r_tp_l (X : Fx g) (W : WA a D) {A z len : Nat} (hA : A < 2 ^ 31) (hz : z < 2 ^ vN a) (hlen : len ≤ 46) : ∀ (r x5 fuel : Nat) (t : Tb) (U l : Nat), x5 + r = len → r < fuel → an_ U z = 0 → l ≤ 10 → dd (vN a) (fnx a A) (an_ z U) l = r → tA t 184 = a → tI t 183 30 = nI A → Txt t a A z → ∃ t', F_X12_laysThrough_b201 fuel 183 (nI z) (nI U) (nI l) (nI len) (nI x5) (Em g t) = some (nI len, Em g t') ∧ Sm g t t' ∧ (∀ j, j < x5 → tA t' 198 j = tA t 198 j) ∧ (∀ j, j < r → tA t' 198 (x5 + j) = nI (tpk (vN a) (fnx a A) j (an_ z U) l r)) := by
  have hN := wN3 W
  intro r
  induction r with
  | zero =>
    intro x5 fuel t U l hx hf hU hl hr ha h30 T
    obtain ⟨f, rfl⟩ : ∃ f, fuel = f + 1 := ⟨fuel - 1, by omega⟩
    refine ⟨t, ?_, Sm_r, fun _ _ => rfl, fun j hj => absurd hj (by omega)⟩
    rw [F_X12_laysThrough_b201, if_pos (by rw [nI_leI (by omega) (by omega)]; omega)]
  | succ r ih =>
    intro x5 fuel t U l hx hf hU hl hr ha h30 T
    obtain ⟨f, rfl⟩ : ∃ f, fuel = f + 1 := ⟨fuel - 1, by omega⟩
    obtain ⟨f1, f2, f3⟩ := tfs_p hr (by omega) (by omega)
    have hfu : tfs (vN a) (fnx a A) (an_ z U) l (r + 1) < FU := by show tfs (vN a) (fnx a A) (an_ z U) l (r + 1) < 1000000; omega
    obtain ⟨t1, e1, s1⟩ := r_tp_i (x5 := x5) (len := len) X W hA hz hU hl hr (by omega) hx hlen (F_X12_laysThrough_b201 f) (tfs (vN a) (fnx a A) (an_ z U) l (r + 1)) 0 FU t (by omega) hfu ha h30 T
    have hM2 : dd (vN a) (fnx a A) (an_ z (U ||| (2 ^ tfs (vN a) (fnx a A) (an_ z U) l (r + 1) &&& z))) (tfs (vN a) (fnx a A) (an_ z U) l (r + 1)) = r := by
      rw [an_an]
      have := (tbl_iff.mp f2).2
      omega
    have s2 : Sm g t (wa t1 198 x5 (nI (tfs (vN a) (fnx a A) (an_ z U) l (r + 1)))) := Sm_wa (sc_f rfl) (Sn_m s1)
    obtain ⟨t2, e2, s3, k1, k2⟩ := ih (x5 + 1) f (wa t1 198 x5 (nI (tfs (vN a) (fnx a A) (an_ z U) l (r + 1)))) (U ||| (2 ^ tfs (vN a) (fnx a A) (an_ z U) l (r + 1) &&& z)) (tfs (vN a) (fnx a A) (an_ z U) l (r + 1)) (by omega) (by omega) (sub_or hU) (by omega) hM2 (by rw [Sm_a X s2]; exact ha) (by rw [tI_wa, s1.1]; exact h30) (fun j hj hjo => by rw [tA_an (by decide), s1.2.1 197 (sn_x X rfl)]; exact T j hj hjo)
    refine ⟨t2, ?_, Sm_t s2 s3, fun j hj => by rw [k1 j (by omega), tA_as, upd_n (by omega), s1.2.1 198 (sn_x X rfl)], fun j hj => ?_⟩
    · rw [F_X12_laysThrough_b201, if_neg (by rw [nI_leI (by omega) (by omega)]; omega)]
      exact e1.trans e2
    · cases j with
      | zero => rw [Nat.add_zero, k1 x5 (by omega), tA_as, upd_s, tpk]
      | succ j =>
        rw [show x5 + (j + 1) = x5 + 1 + j by omega, k2 j (by omega), tpk, Nat.add_sub_cancel, an_an]
noncomputable def thI (n : Nat) : Int32 := if n = 1000 then -nI 1 else nI n
theorem r_tt_e (X : Fx g) (W : WA a D) {A z : Nat} (hA : A < 2 ^ 31) (hz : z < 2 ^ vN a) (ha : tA t 184 = a) (h30 : tI t 183 30 = nI A) (T : Txt t a A z) {fuel : Nat} (hf : 0 < fuel) : ∃ t', F_X12_laysThrough_b45 fuel 183 (nI z) (nI 0) (Em g t) = some (thI (dd (vN a) (fnx a A) z 10), Em g t') ∧ Sm g t t' ∧ (dd (vN a) (fnx a A) z 10 < 1000 → ∀ j, j < dd (vN a) (fnx a A) z 10 → tA t' 198 j = nI (tpk (vN a) (fnx a A) j z 10 (dd (vN a) (fnx a A) z 10))) := by
  have hN := wN3 W
  have hpp := Nat.two_pow_pos (vN a)
  obtain ⟨f, rfl⟩ : ∃ f, fuel = f + 1 := ⟨fuel - 1, by omega⟩
  have a0 : an_ z 0 = z := by unfold an_; simp
  have hd10 : drk (vN a) (fnx a A) z 10 = gv (dd (vN a) (fnx a A) z 10) := by
    unfold drk
    rw [show 10 / 11 = 0 from rfl, show 10 % 11 = 10 from rfl, a0]
  have h10 := T 10 (by decide) ⟨by omega, by rw [show 10 / 11 = 0 from rfl]; exact an_0 z⟩
  rw [hd10] at h10
  have e10 : ∀ h : xH, F_X12_tuneAt 0 10 h = some (nI 10, h) := fun h => rfl
  have hle := @dd_le (vN a) (fnx a A) z 10
  have head : F_X12_laysThrough_b45 (f + 1) 183 (nI z) (nI 0) (Em g t) = if ¬ nI (gv (dd (vN a) (fnx a A) z 10)) = (268435456 : Int32) then F_X12_laysThrough_b201 FU 183 (nI z) 0 10 (nI (gv (dd (vN a) (fnx a A) z 10))) 0 (Em g t) else some (-1, Em g t) := by
    rw [F_X12_laysThrough_b45, if_pos (show nI 0 = (0 : Int32) from rfl), x_r183_28 X, Option.bind_some, e10, Option.bind_some, x_a197 X (by decide), Option.bind_some, h10]
  rw [head]
  unfold thI
  by_cases c : dd (vN a) (fnx a A) z 10 < 1000
  · have hb := dd_bd hN c
    have hg : gv (dd (vN a) (fnx a A) z 10) = dd (vN a) (fnx a A) z 10 := if_pos c
    have hfu : dd (vN a) (fnx a A) z 10 < FU := by show dd (vN a) (fnx a A) z 10 < 1000000; omega
    obtain ⟨t1, e1, s1, _, k1⟩ := r_tp_l (z := z) (len := dd (vN a) (fnx a A) z 10) X W hA hz hb (dd (vN a) (fnx a A) z 10) 0 FU t 0 10 (by omega) hfu (an_0 z) (by decide) (by rw [a0]) ha h30 T
    refine ⟨t1, ?_, s1, fun _ j hj => ?_⟩
    · rw [hg, if_pos (show ¬ nI (dd (vN a) (fnx a A) z 10) = (268435456 : Int32) from show ¬ nI _ = nI 268435456 by rw [nI_eq (by omega) (by decide)]; omega), if_neg (by omega)]
      exact e1
    · have := k1 j hj
      rw [Nat.zero_add, a0] at this
      exact this
  · refine ⟨t, ?_, Sm_r, fun h => absurd h c⟩
    rw [show gv (dd (vN a) (fnx a A) z 10) = 268435456 from if_neg c, if_neg (fun h => h rfl), if_pos (by omega)]
    rfl
theorem r_tt_w (X : Fx g) (W : WA a D) {A z : Nat} (hA : A < 2 ^ 31) (hz : z < 2 ^ vN a) : ∀ (d i fuel : Nat) (t : Tb) (s : Nat → Nat), i + d = 46 → d + 1 < fuel → tA t 184 = a → tI t 183 30 = nI A → Tth t s → lot (vN a) (fnx a A) z s → ext (vN a) (fnx a A) z s i 11264 → ∃ t', F_X12_laysThrough_b45 fuel 183 (nI z) 1 (Em g t) = some (thI (dd (vN a) (fnx a A) z 10), Em g t') ∧ Sm g t t' ∧ (dd (vN a) (fnx a A) z 10 < 1000 → ∀ j, j < dd (vN a) (fnx a A) z 10 → tA t' 198 j = nI (tpk (vN a) (fnx a A) j z 10 (dd (vN a) (fnx a A) z 10))) := by
  have hN := wN3 W
  have h1k : 2 ^ vN a ≤ 1024 := Nat.pow_le_pow_right (n := 2) (by decide) hN
  have hfz : 11 * 2 ^ vN a < FU := by show 11 * 2 ^ vN a < 1000000; omega
  intro d
  induction d with
  | zero =>
    intro i fuel t s hi hf ha h30 T L B
    obtain ⟨f, rfl⟩ : ∃ f, fuel = f + 2 := ⟨fuel - 2, by omega⟩
    obtain ⟨t1, s1, y1, e1, a1, T1, L1, B1, hy, F1, m1, o1⟩ := r_tt_l (i := i) X W hA hz (by omega) (F_X12_laysThrough_b45 (f + 1)) (11 * 2 ^ vN a) 0 FU t s (nI 0) (by omega) hfz ha h30 T L B (fun j hj => absurd hj (by omega)) (Or.inl rfl) (fun _ j hj => absurd hj (by omega))
    have h1 : ∀ k, k < 11264 → okk (vN a) z k → s k = drk (vN a) (fnx a A) z k := ext_all hN L (fun k hk => (T k hk).2) (by omega) B
    have hy0 : y1 = nI 0 := by
      rcases hy with q | q
      · exact q
      · rcases o1 q with c | ⟨j, j1, j2, j3⟩
        · exact absurd c (by decide)
        · have := h1 j j1 j2
          have := L1 j j2
          omega
    subst hy0
    have TX : Txt t1 a A z := fun k hk hko => by rw [(T1 k hk).1, ext_all hN L1 (fun k hk => (T1 k hk).2) (show 46 ≤ i + 1 by omega) B1 k hk hko]
    obtain ⟨t2, e2, s2, k2⟩ := r_tt_e (fuel := f + 1) X W hA hz (by rw [Tt_a X a1]; exact ha) (by rw [a1.1]; exact h30) TX (by omega)
    refine ⟨t2, ?_, Sm_t (Tt_m a1) s2, k2⟩
    have e1' : F_X12_laysThrough_b54 (F_X12_laysThrough_b45 (f + 1)) FU 183 (nI z) 0 0 (Em g t) = F_X12_laysThrough_b45 (f + 1) 183 (nI z) (nI 0) (Em g t1) := e1
    rw [F_X12_laysThrough_b45, if_neg (by decide), e1']
    exact e2
  | succ d ih =>
    intro i fuel t s hi hf ha h30 T L B
    obtain ⟨f, rfl⟩ : ∃ f, fuel = f + 2 := ⟨fuel - 2, by omega⟩
    obtain ⟨t1, s1, y1, e1, a1, T1, L1, B1, hy, F1, m1, o1⟩ := r_tt_l (i := i) X W hA hz (by omega) (F_X12_laysThrough_b45 (f + 1)) (11 * 2 ^ vN a) 0 FU t s (nI 0) (by omega) hfz ha h30 T L B (fun j hj => absurd hj (by omega)) (Or.inl rfl) (fun _ j hj => absurd hj (by omega))
    have e1' : F_X12_laysThrough_b54 (F_X12_laysThrough_b45 (f + 1)) FU 183 (nI z) 0 0 (Em g t) = F_X12_laysThrough_b45 (f + 1) 183 (nI z) y1 (Em g t1) := e1
    have ha1 : tA t1 184 = a := by rw [Tt_a X a1]; exact ha
    have h301 : tI t1 183 30 = nI A := by rw [a1.1]; exact h30
    rcases hy with q | q
    · subst q
      have TX : Txt t1 a A z := fun k hk hko => by rw [(T1 k hk).1, ext_all hN L1 (fun k hk => (T1 k hk).2) (Nat.le_refl 46) (fxt_a hN hz L1 (ext_m (Nat.zero_le _) B1) (F1 rfl) 46 (by decide)) k hk hko]
      obtain ⟨t2, e2, s2, k2⟩ := r_tt_e (fuel := f + 1) X W hA hz ha1 h301 TX (by omega)
      refine ⟨t2, ?_, Sm_t (Tt_m a1) s2, k2⟩
      rw [F_X12_laysThrough_b45, if_neg (by decide), e1']
      exact e2
    · subst q
      obtain ⟨t2, e2, s2, k2⟩ := ih (i + 1) (f + 1) t1 s1 (by omega) (by omega) ha1 h301 T1 L1 B1
      refine ⟨t2, ?_, Sm_t (Tt_m a1) s2, k2⟩
      rw [F_X12_laysThrough_b45, if_neg (by decide), e1']
      exact e2
def s0t (z k : Nat) : Nat := if k / 11 &&& z = z then 0 else 268435456
theorem r_tt_f (X : Fx g) {z : Nat} (hz : z < 1024) : ∀ (d k fuel : Nat) (t : Tb), k + d = 11264 → d < fuel → (∀ j, j < k → tA t 197 j = nI (s0t z j)) → ∃ t', F_X12_laysThrough_b7 fuel 183 (nI z) (nI k) (Em g t) = F_X12_laysThrough_b45 FU 183 (nI z) 1 (Em g t') ∧ Ax 197 t t' ∧ ∀ j, j < 11264 → tA t' 197 j = nI (s0t z j) := by
  intro d
  induction d with
  | zero =>
    intro k fuel t hk hf h
    obtain ⟨f, rfl⟩ : ∃ f, fuel = f + 1 := ⟨fuel - 1, by omega⟩
    have hk : k = 11264 := by omega
    subst hk
    refine ⟨t, ?_, Ax_r, h⟩
    rw [F_X12_laysThrough_b7, if_pos (show (11264 : Int32) ≤ nI 11264 by decide)]
  | succ d ih =>
    intro k fuel t hk hf h
    obtain ⟨f, rfl⟩ : ∃ f, fuel = f + 1 := ⟨fuel - 1, by omega⟩
    have h72 : ¬ (11264 : Int32) ≤ nI k := show ¬ nI 11264 ≤ nI k by rw [nI_leI (by decide) (by omega)]; omega
    have d11 : idv (nI k) 11 = nI (k / 11) := r_idv (d := 11) (by omega) (by decide) (by decide)
    have hal : k / 11 &&& z ≤ z := Nat.and_le_right
    obtain ⟨t2, e2, a2, k2⟩ := ih (k + 1) f (wa t 197 k (nI (s0t z k))) (by omega) (by omega) (fun j hj => by
      rw [tA_as]
      by_cases e : j = k
      · subst e; rw [upd_s]
      · rw [upd_n e]; exact h j (by omega))
    refine ⟨t2, ?_, Ax_t (Ax_wa Ax_r) a2, k2⟩
    rw [F_X12_laysThrough_b7, if_neg h72, x_r183_28 X, Option.bind_some, d11, fa_and, show nI k + 1 = nI (k + 1) from nI_add k 1, ← e2]
    by_cases c : k / 11 &&& z = z
    · rw [if_neg (fun h => h (by rw [c])), x_s197 X (by omega), Option.bind_some, show s0t z k = 0 from if_pos c]
      rfl
    · rw [if_pos (show ¬ nI (k / 11 &&& z) = nI z by rw [nI_eq (by omega) (by omega)]; exact c), x_s197 X (by omega), Option.bind_some, show s0t z k = 268435456 from if_neg c]
      rfl
theorem r_thru (X : Fx g) (W : WA a D) (ha : tA t 184 = a) {s z : Nat} (hs : s < 2 ^ 31) (hz : z < 2 ^ vN a) : ∃ t', F_X12_laysThrough 183 (nI s) (nI z) (Em g t) = some (thI (dd (vN a) (fnx a (mk (hall a s (vP a)) (vN a))) z 10), Em g t') ∧ Sm g t t' ∧ (dd (vN a) (fnx a (mk (hall a s (vP a)) (vN a))) z 10 < 1000 → ∀ j, j < dd (vN a) (fnx a (mk (hall a s (vP a)) (vN a))) z 10 → tA t' 198 j = nI (tpk (vN a) (fnx a (mk (hall a s (vP a)) (vN a))) j z 10 (dd (vN a) (fnx a (mk (hall a s (vP a)) (vN a))) z 10))) := by
  have hN := wN3 W
  have h1k : 2 ^ vN a ≤ 1024 := Nat.pow_le_pow_right (n := 2) (by decide) hN
  have hA : mk (hall a s (vP a)) (vN a) < 2 ^ 31 := mk_31 (by omega)
  obtain ⟨t1, e1, s1, k1⟩ := r_all (t := t) X W ha hs
  obtain ⟨t2, e2, a2, k2⟩ := r_tt_f (z := z) X (by omega) 11264 0 FU t1 rfl (by decide) (fun j hj => absurd hj (by omega))
  have z0 : ∀ k, drk (vN a) (fnx a (mk (hall a s (vP a)) (vN a))) z k = 0 ↔ k / 11 &&& z = z := fun k => by
    rw [← an_full]
    unfold drk gv
    have hle := @dd_le (vN a) (fnx a (mk (hall a s (vP a)) (vN a))) (an_ z (k / 11)) (k % 11)
    constructor
    · intro h
      by_cases c : an_ z (k / 11) = 0
      · exact c
      · have := dd_1 (N := vN a) (nx := fnx a (mk (hall a s (vP a)) (vN a))) (l := k % 11) c
        split at h <;> omega
    · intro h
      rw [h, dd_0]
      rfl
  obtain ⟨t3, e3, s3, k3⟩ := r_tt_w (z := z) X W hA hz 46 0 FU t2 (s0t z) rfl (by decide) (by rw [a2.2.1 184 (by decide), Sm_a X s1]; exact ha) (by rw [a2.1]; exact k1) (fun k hk => ⟨k2 k hk, by unfold s0t; split <;> omega⟩) (fun k _ => by
    unfold s0t
    split
    · rename_i c; rw [(z0 k).mpr c]; omega
    · exact gv_le) (fun k _ _ h => by
    have h := Nat.le_zero.mp h
    rw [h]
    exact if_pos ((z0 k).mp h))
  refine ⟨t3, ?_, Sm_t s1 (Sm_t (Ax_m (sc_f rfl) a2) s3), k3⟩
  unfold F_X12_laysThrough
  rw [x_rc183 X, Option.bind_some, e1, Option.bind_some]
  exact e2.trans e3
end XTr
