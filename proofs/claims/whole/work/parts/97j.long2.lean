/-! ===== the class's longest tune ===== -/
def lw (S : Nat) : Nat := fa_first (fun i => S.testBit i) 10
theorem lw_tz : ∀ m, m < 1024 → m ≠ 0 → (nI m ^^^ (-1)) &&& (nI m - 1) = nI (2 ^ lw m - 1) ∧ lw m < 10 := by decide +kernel
theorem k_tz10 {m : Nat} (hm : m < 1024) (h0 : m ≠ 0) (h : xH) : F_J6_numberOfTrailingZeros_0f7a4 (nI m) h = some (nI (lw m), h) := by
  obtain ⟨e, hl⟩ := lw_tz m hm h0
  unfold F_J6_numberOfTrailingZeros_0f7a4
  rw [e]
  generalize lw m = k at hl
  rcases (show k = 0 ∨ k = 1 ∨ k = 2 ∨ k = 3 ∨ k = 4 ∨ k = 5 ∨ k = 6 ∨ k = 7 ∨ k = 8 ∨ k = 9 by omega) with q | q | q | q | q | q | q | q | q | q <;> subst q <;> rfl
def lnn (B : Nat → Nat) : Nat → Nat
  | 0 => 0
  | S + 1 => if B S = 0 then lnn B S else mxn (lnn B S) (pcn S)
def bwn (B : Nat → Nat) (U r : Nat) : Nat → Nat
  | 0 => 0
  | S + 1 => if B S = 0 ∨ ¬ S &&& U = 0 ∨ ¬ pcn S = r then bwn B U r S else bwn B U r S ||| B S
theorem bwn_bit {B : Nat → Nat} {U r b : Nat} : ∀ {n : Nat}, (bwn B U r n).testBit b = true ↔ ∃ S, S < n ∧ S &&& U = 0 ∧ pcn S = r ∧ (B S).testBit b = true
  | 0 => by
    constructor
    · intro h; simp [bwn] at h
    · rintro ⟨S, h, _⟩; omega
  | n + 1 => by
    rw [bwn]
    split
    · rename_i c
      rw [bwn_bit]
      constructor
      · rintro ⟨S, h1, h2⟩; exact ⟨S, by omega, h2⟩
      · rintro ⟨S, h1, h2, h3, h4⟩
        by_cases e : S = n
        · exfalso
          subst e
          rcases c with c | c | c
          · rw [c] at h4; simp at h4
          · exact c h2
          · exact c h3
        · exact ⟨S, by omega, h2, h3, h4⟩
    · rename_i c
      rw [Nat.testBit_or, Bool.or_eq_true, bwn_bit]
      have c1 : n &&& U = 0 ∧ pcn n = r := by
        constructor
        · exact Classical.byContradiction (fun q => c (Or.inr (Or.inl q)))
        · exact Classical.byContradiction (fun q => c (Or.inr (Or.inr q)))
      constructor
      · rintro (⟨S, h1, h2⟩ | h)
        · exact ⟨S, by omega, h2⟩
        · exact ⟨n, by omega, c1.1, c1.2, h⟩
      · rintro ⟨S, h1, h2, h3, h4⟩
        by_cases e : S = n
        · subst e; exact Or.inr h4
        · exact Or.inl ⟨S, by omega, h2, h3, h4⟩
theorem bwn_lt {B : Nat → Nat} {U r M : Nat} : ∀ {n : Nat}, (∀ S, S < n → B S < 2 ^ M) → bwn B U r n < 2 ^ M
  | 0, _ => Nat.two_pow_pos M
  | n + 1, h => by
    rw [bwn]
    split
    · exact bwn_lt (fun S hS => h S (by omega))
    · exact Nat.or_lt_two_pow (bwn_lt (fun S hS => h S (by omega))) (h n (by omega))
theorem lnn_ge {B : Nat → Nat} : ∀ {n S : Nat}, S < n → ¬ B S = 0 → pcn S ≤ lnn B n
  | 0, _, h, _ => absurd h (by omega)
  | n + 1, S, h, hb => by
    rw [lnn]
    by_cases e : S = n
    · subst e
      rw [if_neg hb]
      unfold mxn
      split <;> omega
    · have := lnn_ge (B := B) (n := n) (S := S) (by omega) hb
      unfold mxn
      split
      · exact this
      · split <;> omega
theorem lnn_at {B : Nat → Nat} : ∀ {n : Nat}, lnn B n = 0 ∨ ∃ S, S < n ∧ ¬ B S = 0 ∧ pcn S = lnn B n
  | 0 => Or.inl rfl
  | n + 1 => by
    rw [lnn]
    split
    · rcases lnn_at (B := B) (n := n) with h | ⟨S, h1, h2, h3⟩
      · exact Or.inl h
      · exact Or.inr ⟨S, by omega, h2, h3⟩
    · rename_i c
      unfold mxn
      split
      · exact Or.inr ⟨n, by omega, c, rfl⟩
      · rcases lnn_at (B := B) (n := n) with h | ⟨S, h1, h2, h3⟩
        · exact Or.inl h
        · exact Or.inr ⟨S, by omega, h2, h3⟩
theorem bg_lt {A N : Nat} {fo : Nat → Nat → Bool} {S : Nat} (hS : S < 2 ^ N) : bg A N fo S < 2 ^ N := by
  rw [bg_eq]
  unfold bgm
  split
  · exact Nat.two_pow_pos N
  · split
    · exact hS
    · exact mk_lt _ _
section XL2
variable {g : Sk} {t : Tb} {a : Nat → Int32}
variable {D v x nx p : Nat} {t' t'' t1 t2 : Tb}
theorem len_eq (W : WA a D) {A : Nat} : lnn (bg A (vN a) (fol a)) (2 ^ vN a) = Mx (vN a) (fnx a A) 0 10 := by
  have hN := wN3 W
  have hx : ∀ m n, m < vN a → fnx a A m n = (A.testBit n && fol a m n) := fun m n hm => r_may_f W hm
  have hxA : ∀ m n, fnx a A m n = true → A.testBit n = true := fun m n h => by
    unfold fnx at h
    rw [Bool.and_eq_true] at h
    exact h.1
  have h10 : ∀ n, A.testBit n = true → fnx a A 10 n = true := fun n h => by
    unfold fnx
    rw [h]
    rfl
  have g1 : lnn (bg A (vN a) (fol a)) (2 ^ vN a) ≤ Mx (vN a) (fnx a A) 0 10 := by
    rcases lnn_at (B := bg A (vN a) (fol a)) (n := 2 ^ vN a) with h | ⟨S, h1, h2, h3⟩
    · rw [h]; exact Nat.zero_le _
    · rw [← h3]
      obtain ⟨b, hb⟩ := nz_ex.mp h2
      exact (ge_ex hN hx hxA _ 0 10 (Nat.two_pow_pos _)).mpr ⟨S, h1, Nat.and_zero _, rfl, Or.inr ⟨b, h10 b (bg_N hN h1 hb).2.2, hb⟩⟩
  have g2 : Mx (vN a) (fnx a A) 0 10 ≤ lnn (bg A (vN a) (fol a)) (2 ^ vN a) := by
    obtain ⟨S, h1, _, h3, h4⟩ := (ge_ex hN hx hxA _ 0 10 (Nat.two_pow_pos _)).mp (Nat.le_refl (Mx (vN a) (fnx a A) 0 10))
    rcases h4 with h4 | ⟨b, _, hb⟩
    · rw [h4]; exact Nat.zero_le _
    · have := lnn_ge (B := bg A (vN a) (fol a)) h1 (nz_ex.mpr ⟨b, hb⟩)
      omega
  omega
theorem k_bo_l (X : Fx g) (V : VaS g v) (C : CP g t v a D) {A S : Nat} (hS : S < 2 ^ vN a) (h2 : ¬ S &&& (S - 1) = 0) (h7 : ∀ T, 0 < T → T < S → tA t 159 T = nI (bg A (vN a) (fol a) T)) : ∀ (d k fuel : Nat), k + d = vN a → d < fuel → F_X5_beginningsOf_b15 fuel 157 v (nI S) (nI (mk (fun n => S.testBit n && decide (¬ mk (fol a n) (vN a) &&& bg A (vN a) (fol a) (an_ S (2 ^ n)) = 0)) k)) (nI k) (Em g t) = some (nI (mk (fun n => S.testBit n && decide (¬ mk (fol a n) (vN a) &&& bg A (vN a) (fol a) (an_ S (2 ^ n)) = 0)) (vN a)), Em g t) := by
  have hN := wN3 C.1
  have h1k : 2 ^ vN a ≤ 1024 := Nat.pow_le_pow_right (n := 2) (by decide) hN
  intro d
  induction d with
  | zero =>
    intro k fuel hk hf
    obtain ⟨f, rfl⟩ : ∃ f, fuel = f + 1 := ⟨fuel - 1, by omega⟩
    have hk : k = vN a := by omega
    subst hk
    rw [F_X5_beginningsOf_b15, v_i0 V, Option.bind_some, vN_ C, if_pos (by rw [nI_leI (by omega) (by omega)]; exact Nat.le_refl _)]
  | succ d ih =>
    intro k fuel hk hf
    obtain ⟨f, rfl⟩ : ∃ f, fuel = f + 1 := ⟨fuel - 1, by omega⟩
    have hk3 : k < vN a := by omega
    have hn1 : nI k + 1 = nI (k + 1) := nI_add k 1
    have hsh : (nI S >>> (nI k &&& 31)) &&& 1 = bI (S.testBit k) := by
      show (nI S >>> (nI k &&& nI 31)) &&& nI 1 = _
      rw [v_shr (by omega) (by omega), v_bit]
    have hi := ih (k + 1) f (by omega) (by omega)
    rw [← hi, F_X5_beginningsOf_b15, v_i0 V, Option.bind_some, vN_ C, if_neg (by rw [nI_leI (by omega) (by omega)]; omega), hsh, hn1]
    cases q : S.testBit k
    · rw [if_pos (show ¬ bI false = (1 : Int32) by decide), mk_no _ k (by rw [q]; rfl)]
    · have hlt := an_lt2 q
      have hpos : 0 < an_ S (2 ^ k) := by
        apply Nat.pos_of_ne_zero
        intro e
        apply h2
        have hS2 : S = 2 ^ k := by
          apply Nat.eq_of_testBit_eq
          intro i
          have := congrArg (fun z => z.testBit i) e
          simp only [an_bit, Nat.testBit_two_pow, Nat.zero_testBit] at this
          rw [Nat.testBit_two_pow]
          by_cases e2 : k = i
          · subst e2; simp [q]
          · cases hs : S.testBit i
            · simp [e2]
            · simp [hs, e2] at this
        rw [hS2]
        apply Nat.eq_of_testBit_eq
        intro i
        rw [Nat.testBit_and, Nat.testBit_two_pow, Nat.testBit_two_pow_sub_one, Nat.zero_testBit]
        by_cases e2 : k = i
        · simp [e2]
        · simp [e2]
      have hw : ∀ h : xH, F_X5_without (nI S) (nI k) h = some (nI (an_ S (2 ^ k)), h) := fun h => by
        unfold F_X5_without
        rw [show (1 : Int32) <<< (nI k &&& 31) = nI (2 ^ k) from v_pow (by omega), show (-1 : Int32) = -nI 1 from rfl, an_g]
      have hl3 : mk (fun j => fol a k j) (vN a) &&& bg A (vN a) (fol a) (an_ S (2 ^ k)) ≤ mk (fun j => fol a k j) (vN a) := Nat.and_le_left
      have hl4 := mk_31 (f := fun j => fol a k j) (n := vN a) (by omega)
      rw [if_neg (show ¬ ¬ bI true = (1 : Int32) by decide), v_r10 V, Option.bind_some, v_a6 V (by omega), Option.bind_some, vFl_ C hk3, x_r157_2 X, Option.bind_some, hw, Option.bind_some, x_a159 X (by omega), Option.bind_some, h7 _ hpos hlt, fa_and]
      by_cases c : mk (fun j => fol a k j) (vN a) &&& bg A (vN a) (fol a) (an_ S (2 ^ k)) = 0
      · rw [if_pos (show nI (mk (fun j => fol a k j) (vN a) &&& bg A (vN a) (fol a) (an_ S (2 ^ k))) = (0 : Int32) by rw [c]; rfl), mk_no _ k (by
          show (S.testBit k && decide (¬ mk (fol a k) (vN a) &&& bg A (vN a) (fol a) (an_ S (2 ^ k)) = 0)) = false
          rw [q, decide_eq_false (fun z => z c)]
          rfl)]
      · rw [if_neg (show ¬ nI (mk (fun j => fol a k j) (vN a) &&& bg A (vN a) (fol a) (an_ S (2 ^ k))) = (0 : Int32) from show ¬ nI _ = nI 0 by rw [nI_eq (by omega) (by decide)]; exact c), show (1 : Int32) <<< (nI k &&& 31) = nI (2 ^ k) from v_pow (by omega), s_or1 (f := fun n => S.testBit n && decide (¬ mk (fol a n) (vN a) &&& bg A (vN a) (fol a) (an_ S (2 ^ n)) = 0)) (by
          show (S.testBit k && decide (¬ mk (fol a k) (vN a) &&& bg A (vN a) (fol a) (an_ S (2 ^ k)) = 0)) = true
          rw [q, decide_eq_true c]
          rfl)]
theorem k_fl_l (X : Fx g) (V : VaS g v) {A : Nat} (hA : A < 2 ^ 31) : ∀ (d S fuel : Nat) (t : Tb), CP g t v a D → S + d = 2 ^ vN a → 1 ≤ S → d < fuel → tI t 157 1 = nI (lnn (bg A (vN a) (fol a)) S) → (∀ T, 0 < T → T < S → tA t 159 T = nI (bg A (vN a) (fol a) T)) → ∃ t', F_X5_findLongest_b7 fuel 157 v (nI A) (nI S) (Em g t) = F_X5_findLongest_b79 FU 157 v 0 (nI A) 0 (Em g t') ∧ Sm g t t' ∧ tI t' 157 1 = nI (lnn (bg A (vN a) (fol a)) (2 ^ vN a)) ∧ (∀ T, 0 < T → T < 2 ^ vN a → tA t' 159 T = nI (bg A (vN a) (fol a) T)) := by
  intro d
  induction d with
  | zero =>
    intro S fuel t C hS hS1 hf h1 h7
    have hN := wN3 C.1
    have h1k : 2 ^ vN a ≤ 1024 := Nat.pow_le_pow_right (n := 2) (by decide) hN
    obtain ⟨f, rfl⟩ : ∃ f, fuel = f + 1 := ⟨fuel - 1, by omega⟩
    have hS : S = 2 ^ vN a := by omega
    subst hS
    refine ⟨t, ?_, Sm_r, h1, h7⟩
    rw [F_X5_findLongest_b7, v_i0 V, Option.bind_some, vN_ C, show (1 : Int32) <<< (nI (vN a) &&& 31) = nI (2 ^ vN a) from v_pow (by omega), if_pos (by rw [nI_leI (by omega) (by omega)]; exact Nat.le_refl _)]
  | succ d ih =>
    intro S fuel t C hS hS1 hf h1 h7
    have hN := wN3 C.1
    have h1k : 2 ^ vN a ≤ 1024 := Nat.pow_le_pow_right (n := 2) (by decide) hN
    obtain ⟨f, rfl⟩ : ∃ f, fuel = f + 1 := ⟨fuel - 1, by omega⟩
    have hfn : vN a < FU := by show vN a < 1000000; omega
    have hbl := bg_lt (A := A) (fo := fol a) (S := S) (N := vN a) (by omega)
    have hlb : lnn (bg A (vN a) (fol a)) S ≤ 20 := by
      rcases lnn_at (B := bg A (vN a) (fol a)) (n := S) with h | ⟨T, _, _, h⟩
      · omega
      · have := pcn_31 T
        omega
    have hpS := pcn_31 S
    have store : ∀ w, w = nI (bg A (vN a) (fol a) S) → ∃ t', F_X5_findLongest_b40 (F_X5_findLongest_b7 f) 157 v (nI A) (nI S) 159 (nI S) w (Em g t) = F_X5_findLongest_b79 FU 157 v 0 (nI A) 0 (Em g t') ∧ Sm g t t' ∧ tI t' 157 1 = nI (lnn (bg A (vN a) (fol a)) (2 ^ vN a)) ∧ (∀ T, 0 < T → T < 2 ^ vN a → tA t' 159 T = nI (bg A (vN a) (fol a) T)) := by
      intro w hw
      subst hw
      have h7' : ∀ T, 0 < T → T < S + 1 → tA (wa t 159 S (nI (bg A (vN a) (fol a) S))) 159 T = nI (bg A (vN a) (fol a) T) := fun T q1 q2 => by
        rw [tA_as]
        by_cases e : T = S
        · rw [e, upd_s]
        · rw [upd_n e]; exact h7 T q1 (by omega)
      have s1 : Sm g t (wa t 159 S (nI (bg A (vN a) (fol a) S))) := Sm_wa (sc_f rfl) Sm_r
      unfold F_X5_findLongest_b40
      rw [x_s159 X (by omega), Option.bind_some, x_r157_2 X, Option.bind_some, x_a159 X (by omega), Option.bind_some, h7' S (by omega) (by omega), show nI S + 1 = nI (S + 1) from nI_add S 1]
      by_cases c : bg A (vN a) (fol a) S = 0
      · rw [if_pos (show nI (bg A (vN a) (fol a) S) = (0 : Int32) by rw [c]; rfl)]
        obtain ⟨t2, e2, s2, k1, k2⟩ := ih (S + 1) f (wa t 159 S (nI (bg A (vN a) (fol a) S))) (CP_s X C s1) (by omega) (by omega) (by omega) (by rw [tI_wa, lnn, if_pos c]; exact h1) h7'
        exact ⟨t2, e2, Sm_t s1 s2, k1, k2⟩
      · have hmx : ∀ h : xH, F_J9_max_7cf53 (nI (lnn (bg A (vN a) (fol a)) S)) (nI (pcn S)) h = some (nI (mxn (lnn (bg A (vN a) (fol a)) S) (pcn S)), h) := by
          intro h
          unfold F_J9_max_7cf53 mxn
          simp (disch := omega) only [nI_ltI]
          by_cases c3 : lnn (bg A (vN a) (fol a)) S < pcn S
          · rw [if_pos c3, if_pos (by omega)]
          · rw [if_neg c3]
            by_cases c4 : lnn (bg A (vN a) (fol a)) S ≤ pcn S
            · rw [if_pos c4, show lnn (bg A (vN a) (fol a)) S = pcn S by omega]
            · rw [if_neg c4]
        have s2 : Sm g t (wi (wa t 159 S (nI (bg A (vN a) (fol a) S))) 157 1 (nI (mxn (lnn (bg A (vN a) (fol a)) S) (pcn S)))) := Sm_wi rfl s1
        obtain ⟨t2, e2, s3, k1, k2⟩ := ih (S + 1) f (wi (wa t 159 S (nI (bg A (vN a) (fol a) S))) 157 1 (nI (mxn (lnn (bg A (vN a) (fol a)) S) (pcn S)))) (CP_s X C s2) (by omega) (by omega) (by omega) (by rw [tI_is, lnn, if_neg c]) h7'
        refine ⟨t2, ?_, Sm_t s2 s3, k1, k2⟩
        rw [if_neg (show ¬ nI (bg A (vN a) (fol a) S) = (0 : Int32) from show ¬ nI _ = nI 0 by rw [nI_eq (by omega) (by decide)]; exact c), x_i157_1 X, Option.bind_some, tI_wa, h1, k_bits S (by omega), Option.bind_some, hmx, Option.bind_some, x_w157_1 X, Option.bind_some]
        exact e2
    have hal := an_leS S A
    rw [F_X5_findLongest_b7, v_i0 V, Option.bind_some, vN_ C, show (1 : Int32) <<< (nI (vN a) &&& 31) = nI (2 ^ vN a) from v_pow (by omega), if_neg (by rw [nI_leI (by omega) (by omega)]; omega), x_r157_2 X, Option.bind_some, show (-1 : Int32) = -nI 1 from rfl, an_g]
    by_cases c : an_ S A = 0
    · rw [if_neg (show ¬ ¬ nI (an_ S A) = (0 : Int32) from fun q => q (by rw [c]; rfl)), x_rc157 X, Option.bind_some]
      have hsub : nI S &&& (nI S - 1) = nI (S &&& (S - 1)) := by
        rw [show nI S - 1 = nI (S - 1) from nI_sub hS1, fa_and]
      have hle : S &&& (S - 1) ≤ S := Nat.and_le_left
      have hbo : F_X5_beginningsOf 157 v (nI S) (Em g t) = some (nI (bg A (vN a) (fol a) S), Em g t) := by
        unfold F_X5_beginningsOf
        rw [hsub]
        by_cases c2 : S &&& (S - 1) = 0
        · rw [if_neg (show ¬ ¬ nI (S &&& (S - 1)) = (0 : Int32) from fun q => q (by rw [c2]; rfl)), bg_eq]
          unfold bgm
          rw [if_neg (fun q => q c), if_pos c2]
        · have hl := k_bo_l (t := t) (A := A) X V C (show S < 2 ^ vN a by omega) c2 h7 (vN a) 0 FU (by omega) hfn
          have hbg : bg A (vN a) (fol a) S = mk (fun n => S.testBit n && decide (¬ mk (fol a n) (vN a) &&& bg A (vN a) (fol a) (an_ S (2 ^ n)) = 0)) (vN a) := by
            rw [bg_eq]
            unfold bgm
            rw [if_neg (fun q => q c), if_neg c2]
          rw [if_pos (show ¬ nI (S &&& (S - 1)) = (0 : Int32) from show ¬ nI _ = nI 0 by rw [nI_eq (by omega) (by decide)]; exact c2), hbg]
          exact hl
      rw [hbo, Option.bind_some]
      exact store _ rfl
    · rw [if_pos (show ¬ nI (an_ S A) = (0 : Int32) from show ¬ nI _ = nI 0 by rw [nI_eq (by omega) (by decide)]; exact c)]
      refine store 0 ?_
      rw [bg_eq]
      unfold bgm
      rw [if_pos c]
      rfl
theorem k_bw_l (X : Fx g) {A U r N : Nat} {fo : Nat → Nat → Bool} (hN : N ≤ 10) (hU : U < 2 ^ N) (hr : r ≤ 20) (h7 : ∀ T, 0 < T → T < 2 ^ N → tA t 159 T = nI (bg A N fo T)) : ∀ (d S fuel : Nat), S + d = 2 ^ N → 1 ≤ S → d < fuel → F_X5_beginningsWithout_b6 fuel 157 (nI U) (nI r) (nI N) (nI (bwn (bg A N fo) U r S)) (nI S) (Em g t) = some (nI (bwn (bg A N fo) U r (2 ^ N)), Em g t) := by
  have h1k : 2 ^ N ≤ 1024 := Nat.pow_le_pow_right (n := 2) (by decide) hN
  intro d
  induction d with
  | zero =>
    intro S fuel hS hS1 hf
    obtain ⟨f, rfl⟩ : ∃ f, fuel = f + 1 := ⟨fuel - 1, by omega⟩
    have hS : S = 2 ^ N := by omega
    subst hS
    rw [F_X5_beginningsWithout_b6, show (1 : Int32) <<< (nI N &&& 31) = nI (2 ^ N) from v_pow (by omega), if_pos (by rw [nI_leI (by omega) (by omega)]; exact Nat.le_refl _)]
  | succ d ih =>
    intro S fuel hS hS1 hf
    obtain ⟨f, rfl⟩ : ∃ f, fuel = f + 1 := ⟨fuel - 1, by omega⟩
    have hbl := bg_lt (A := A) (fo := fo) (S := S) (N := N) (by omega)
    have hpS := pcn_31 S
    have hle : S &&& U ≤ S := Nat.and_le_left
    have hi := ih (S + 1) f (by omega) (by omega) (by omega)
    rw [← hi, F_X5_beginningsWithout_b6, show (1 : Int32) <<< (nI N &&& 31) = nI (2 ^ N) from v_pow (by omega), if_neg (by rw [nI_leI (by omega) (by omega)]; omega), x_r157_2 X, Option.bind_some, x_a159 X (by omega), Option.bind_some, h7 S (by omega) (by omega), fa_and, show nI S + 1 = nI (S + 1) from nI_add S 1, bwn]
    by_cases c1 : bg A N fo S = 0
    · rw [if_pos (show nI (bg A N fo S) = (0 : Int32) by rw [c1]; rfl), if_pos (Or.inl c1)]
    · rw [if_neg (show ¬ nI (bg A N fo S) = (0 : Int32) from show ¬ nI _ = nI 0 by rw [nI_eq (by omega) (by decide)]; exact c1)]
      by_cases c2 : S &&& U = 0
      · rw [if_neg (show ¬ ¬ nI (S &&& U) = (0 : Int32) from fun q => q (by rw [c2]; rfl)), k_bits S (by omega), Option.bind_some]
        by_cases c3 : pcn S = r
        · rw [if_neg (show ¬ ¬ nI (pcn S) = nI r from fun q => q (by rw [c3])), x_r157_2 X, Option.bind_some, x_a159 X (by omega), Option.bind_some, h7 S (by omega) (by omega), fa_or, if_neg (fun q => by rcases q with q | q | q; exact c1 q; exact q c2; exact q c3)]
        · rw [if_pos (show ¬ nI (pcn S) = nI r by rw [nI_eq (by omega) (by omega)]; exact c3), if_pos (Or.inr (Or.inr c3))]
      · rw [if_pos (show ¬ nI (S &&& U) = (0 : Int32) from show ¬ nI _ = nI 0 by rw [nI_eq (by omega) (by decide)]; exact c2), if_pos (Or.inr (Or.inl c2))]
end XL2
