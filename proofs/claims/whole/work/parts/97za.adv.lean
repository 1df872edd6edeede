/-! ===== the class's tokens ===== -/
def Qs (a : Nat) (S : List Nat) (t t' : Tb) : Prop := (∀ b k, (b = a → k ∉ S) → tI t' b k = tI t b k) ∧ tA t' = tA t ∧ tJ t' = tJ t
/-- the reader's text -/
def CR (t : Tb) (T : Nat → Int32) (n : Nat) : Prop := n ≤ 900 ∧ tI t 70 4 = nI n ∧ ∀ k, k < n → tA t 71 k = T k
theorem dgt_n {c : Int32} (h : dgt c = true) : c = nI (tn c) ∧ 48 ≤ tn c ∧ tn c ≤ 57 := by
  unfold dgt at h
  rw [decide_eq_true_eq, fa_le, fa_le] at h
  have h3 : (nI 57).toInt = 57 := rfl
  have h4 : (nI 48).toInt = 48 := rfl
  have e : tn c = c.toInt.toNat := rfl
  refine ⟨Int32.toInt_inj.mp ?_, by omega, by omega⟩
  rw [nI_toInt (by omega)]
  omega
theorem bI_1 (b : Bool) : (bI b = (0 : Int32)) = (b = false) := by cases b <;> simp [bI] <;> decide
section XAd
variable {g : Sk} {t t' t'' : Tb} {T : Nat → Int32} {n a : Nat} {S S' : List Nat}
theorem Qs_r : Qs a S t t := ⟨fun _ _ _ => rfl, rfl, rfl⟩
theorem Qs_t (h : Qs a S t t') (h2 : Qs a S t' t'') : Qs a S t t'' := ⟨fun b k q => (h2.1 b k q).trans (h.1 b k q), h2.2.1.trans h.2.1, h2.2.2.trans h.2.2⟩
theorem Qs_m (hS : ∀ k, k ∈ S → k ∈ S') (h : Qs a S t t') : Qs a S' t t' := ⟨fun b k q => h.1 b k (fun e m => q e (hS k m)), h.2.1, h.2.2⟩
theorem Qs_w {k : Nat} {x : Int32} (hk : k ∈ S) (h : Qs a S t t') : Qs a S t (wi t' a k x) := by
  refine ⟨fun b j q => ?_, h.2.1, h.2.2⟩
  by_cases e : b = a
  · rw [tI_ik (fun e2 => q e (by rw [e2]; exact hk))]
    exact h.1 b j q
  · rw [tI_ia e]
    exact h.1 b j q
theorem CR_q (h : CR t T n) (q : Qs 70 S t t') (h4 : 4 ∉ S) : CR t' T n := ⟨h.1, by rw [q.1 70 4 (fun _ => h4)]; exact h.2.1, fun k hk => by rw [q.2.1]; exact h.2.2 k hk⟩
theorem k_ltr (X : Fx g) (R : CR t T n) {k : Nat} (hk : k < n) : F_X4_isLetter 70 (nI k) (Em g t) = some (bI (ltr (T k)), Em g t) := by
  have h9 := R.1
  unfold F_X4_isLetter ltr
  rw [x_r70_0 X, Option.bind_some, x_a71 X (by omega), Option.bind_some, R.2.2 k hk, Option.bind_some, x_a71 X (by omega), Option.bind_some, R.2.2 k hk]
  by_cases c1 : T k < (97 : Int32)
  · rw [if_pos c1, decide_eq_false (fun h => absurd c1 (Int32.not_lt.mpr h.1))]; rfl
  · rw [if_neg c1]
    by_cases c2 : (122 : Int32) < T k
    · rw [if_pos c2, decide_eq_false (fun h => absurd c2 (Int32.not_lt.mpr h.2))]; rfl
    · rw [if_neg c2, decide_eq_true ⟨Int32.not_lt.mp c1, Int32.not_lt.mp c2⟩]; rfl
theorem k_dgt (X : Fx g) (R : CR t T n) {k : Nat} (hk : k < n) : F_X4_isDigit 70 (nI k) (Em g t) = some (bI (dgt (T k)), Em g t) := by
  have h9 := R.1
  unfold F_X4_isDigit dgt
  rw [x_r70_0 X, Option.bind_some, x_a71 X (by omega), Option.bind_some, R.2.2 k hk, Option.bind_some, x_a71 X (by omega), Option.bind_some, R.2.2 k hk]
  by_cases c1 : T k < (48 : Int32)
  · rw [if_pos c1, decide_eq_false (fun h => absurd c1 (Int32.not_lt.mpr h.1))]; rfl
  · rw [if_neg c1]
    by_cases c2 : (57 : Int32) < T k
    · rw [if_pos c2, decide_eq_false (fun h => absurd c2 (Int32.not_lt.mpr h.2))]; rfl
    · rw [if_neg c2, decide_eq_true ⟨Int32.not_lt.mp c1, Int32.not_lt.mp c2⟩]; rfl
theorem k_skip (X : Fx g) : ∀ (d b fuel : Nat) (t : Tb), b + d = n → d < fuel → CR t T n → tI t 70 5 = nI b → ∃ t', F_X4_advance_b16 fuel 70 (Em g t) = F_X4_advance_b68 70 (Em g t') ∧ Qs 70 [5] t t' ∧ tI t' 70 5 = nI (run spc T d b) := by
  intro d
  induction d with
  | zero =>
    intro b fuel t hb hf R h5
    have h9 := R.1
    obtain ⟨f, rfl⟩ : ∃ f, fuel = f + 1 := ⟨fuel - 1, by omega⟩
    refine ⟨t, ?_, Qs_r, h5⟩
    rw [F_X4_advance_b16, x_i70_5 X, Option.bind_some, x_i70_4 X, Option.bind_some, h5, R.2.1, if_pos (by rw [nI_leI (by omega) (by omega)]; omega)]
  | succ d ih =>
    intro b fuel t hb hf R h5
    have h9 := R.1
    obtain ⟨f, rfl⟩ : ∃ f, fuel = f + 1 := ⟨fuel - 1, by omega⟩
    have hT : T b = T b := rfl
    have head : F_X4_advance_b16 (f + 1) 70 (Em g t) = if T b = (10 : Int32) then F_X4_advance_b55 (F_X4_advance_b16 f) 70 (Em g t) else if ¬ T b = (32 : Int32) then F_X4_advance_b68 70 (Em g t) else F_X4_advance_b55 (F_X4_advance_b16 f) 70 (Em g t) := by
      rw [F_X4_advance_b16, x_i70_5 X, Option.bind_some, x_i70_4 X, Option.bind_some, h5, R.2.1, if_neg (by rw [nI_leI (by omega) (by omega)]; omega), x_r70_0 X, Option.bind_some, Option.bind_some, x_a71 X (by omega), Option.bind_some, R.2.2 b (by omega), Option.bind_some, Option.bind_some, x_a71 X (by omega), Option.bind_some, R.2.2 b (by omega)]
    have go : spc (T b) = true → ∃ t', F_X4_advance_b55 (F_X4_advance_b16 f) 70 (Em g t) = F_X4_advance_b68 70 (Em g t') ∧ Qs 70 [5] t t' ∧ tI t' 70 5 = nI (run spc T (d + 1) b) := fun hs => by
      obtain ⟨t2, e2, q2, k2⟩ := ih (b + 1) f (wi t 70 5 (nI (b + 1))) (by omega) (by omega) (CR_q R (Qs_w (S := [5]) (by decide) Qs_r) (by decide)) tI_is
      refine ⟨t2, ?_, Qs_t (Qs_w (by decide) Qs_r) q2, by rw [run, if_pos hs]; exact k2⟩
      unfold F_X4_advance_b55
      rw [x_i70_5 X, Option.bind_some, h5, show nI b + 1 = nI (b + 1) from nI_add b 1, x_w70_5 X, Option.bind_some]
      exact e2
    rw [head]
    by_cases c1 : T b = nI 10
    · rw [if_pos (show T b = (10 : Int32) from c1)]
      exact go (decide_eq_true (Or.inl c1))
    · rw [if_neg (show ¬ T b = (10 : Int32) from c1)]
      by_cases c2 : T b = nI 32
      · rw [if_neg (show ¬ ¬ T b = (32 : Int32) from fun h => h c2)]
        exact go (decide_eq_true (Or.inr c2))
      · rw [if_pos (show ¬ T b = (32 : Int32) from c2)]
        refine ⟨t, rfl, Qs_r, ?_⟩
        rw [run, if_neg (fun h => by
          unfold spc at h
          rw [decide_eq_true_eq] at h
          rcases h with h | h
          · exact c1 h
          · exact c2 h)]
        exact h5
theorem k_word (X : Fx g) : ∀ (d e fuel : Nat) (t : Tb), e + d = n → d < fuel → CR t T n → tI t 70 6 = nI e → ∃ t', F_X4_advance_b116 fuel 70 (Em g t) = F_X4_advance_b282 70 (Em g t') ∧ Qs 70 [6] t t' ∧ tI t' 70 6 = nI (run ltr T d e) := by
  intro d
  induction d with
  | zero =>
    intro e fuel t hb hf R h6
    have h9 := R.1
    obtain ⟨f, rfl⟩ : ∃ f, fuel = f + 1 := ⟨fuel - 1, by omega⟩
    refine ⟨t, ?_, Qs_r, h6⟩
    rw [F_X4_advance_b116, x_i70_6 X, Option.bind_some, x_i70_4 X, Option.bind_some, h6, R.2.1, if_pos (by rw [nI_leI (by omega) (by omega)]; omega)]
  | succ d ih =>
    intro e fuel t hb hf R h6
    have h9 := R.1
    obtain ⟨f, rfl⟩ : ∃ f, fuel = f + 1 := ⟨fuel - 1, by omega⟩
    rw [F_X4_advance_b116, x_i70_6 X, Option.bind_some, x_i70_4 X, Option.bind_some, h6, R.2.1, if_neg (by rw [nI_leI (by omega) (by omega)]; omega), Option.bind_some, x_rc70 X, Option.bind_some, k_ltr X R (by omega), Option.bind_some, run]
    cases c : ltr (T e)
    · refine ⟨t, ?_, Qs_r, by rw [if_neg (by decide)]; exact h6⟩
      rw [if_pos (show bI false = (0 : Int32) by decide)]
    · obtain ⟨t2, e2, q2, k2⟩ := ih (e + 1) f (wi t 70 6 (nI (e + 1))) (by omega) (by omega) (CR_q R (Qs_w (S := [6]) (by decide) Qs_r) (by decide)) tI_is
      refine ⟨t2, ?_, Qs_t (Qs_w (by decide) Qs_r) q2, by rw [if_pos rfl]; exact k2⟩
      rw [if_neg (show ¬ bI true = (0 : Int32) by decide), x_i70_6 X, Option.bind_some, h6, show nI e + 1 = nI (e + 1) from nI_add e 1, x_w70_6 X, Option.bind_some]
      exact e2
theorem k_num (X : Fx g) {b : Nat} : ∀ (d e fuel : Nat) (t : Tb), e + d = n → d < fuel → CR t T n → b ≤ e → (∀ k, b ≤ k → k < e → dgt (T k) = true) → tI t 70 5 = nI b → tI t 70 6 = nI e → tI t 70 8 = nI (nvl T b (e - b)) → ∃ t', F_X4_advance_b167 fuel 70 (Em g t) = F_X4_advance_b282 70 (Em g t') ∧ Qs 70 [6, 8] t t' ∧ tI t' 70 6 = nI (run dgt T d e) ∧ tI t' 70 8 = nI (nvl T b (run dgt T d e - b)) := by
  intro d
  induction d with
  | zero =>
    intro e fuel t hb hf R hbe hd h5 h6 h8
    have h9 := R.1
    obtain ⟨f, rfl⟩ : ∃ f, fuel = f + 1 := ⟨fuel - 1, by omega⟩
    refine ⟨t, ?_, Qs_r, h6, h8⟩
    rw [F_X4_advance_b167, x_i70_6 X, Option.bind_some, x_i70_4 X, Option.bind_some, h6, R.2.1, if_pos (by rw [nI_leI (by omega) (by omega)]; omega)]
  | succ d ih =>
    intro e fuel t hb hf R hbe hd h5 h6 h8
    have h9 := R.1
    obtain ⟨f, rfl⟩ : ∃ f, fuel = f + 1 := ⟨fuel - 1, by omega⟩
    rw [F_X4_advance_b167, x_i70_6 X, Option.bind_some, x_i70_4 X, Option.bind_some, h6, R.2.1, if_neg (by rw [nI_leI (by omega) (by omega)]; omega), Option.bind_some, x_rc70 X, Option.bind_some, k_dgt X R (by omega), Option.bind_some, run]
    cases c : dgt (T e)
    · refine ⟨t, ?_, Qs_r, by rw [if_neg (by decide)]; exact h6, by rw [if_neg (by decide)]; exact h8⟩
      rw [if_pos (show bI false = (0 : Int32) by decide)]
    · obtain ⟨d1, d2, d3⟩ := dgt_n c
      have hlt := nvl_lt (T := T) (b := b) (e - b) (fun k hk => hd (b + k) (by omega) (by omega))
      have hst : nvl T b (e + 1 - b) = if e - b < 3 then nvl T b (e - b) * 10 + (tn (T e) - 48) else nvl T b (e - b) := by
        rw [show e + 1 - b = (e - b) + 1 by omega, nvl, show b + (e - b) = e by omega]
      obtain ⟨t2, e2, q2, k2, k3⟩ := ih (e + 1) f (wi (wi t 70 8 (nI (nvl T b (e + 1 - b)))) 70 6 (nI (e + 1))) (by omega) (by omega) (CR_q R (Qs_w (S := [6, 8]) (by decide) (Qs_w (by decide) Qs_r)) (by decide)) (by omega) (fun k h1 h2 => by
        by_cases q : k = e
        · rw [q]; exact c
        · exact hd k h1 (by omega)) (by rw [tI_ik (by decide), tI_ik (by decide)]; exact h5) tI_is (by rw [tI_ik (by decide)]; exact tI_is)
      have fin : ∀ z, z = nI (nvl T b (e + 1 - b)) → F_X4_advance_b230 (F_X4_advance_b167 f) 70 70 z (Em g t) = F_X4_advance_b282 70 (Em g t2) := fun z hz => by
        unfold F_X4_advance_b230
        rw [hz, x_w70_8 X, Option.bind_some, x_i70_6 X, Option.bind_some, tI_ik (by decide), h6, show nI e + 1 = nI (e + 1) from nI_add e 1, x_w70_6 X, Option.bind_some]
        exact e2
      refine ⟨t2, ?_, Qs_t (Qs_w (by decide) (Qs_w (by decide) Qs_r)) q2, by rw [if_pos rfl]; exact k2, by rw [if_pos rfl]; exact k3⟩
      rw [if_neg (show ¬ bI true = (0 : Int32) by decide), x_i70_6 X, Option.bind_some, h6, x_i70_5 X, Option.bind_some, h5, nI_sub hbe]
      by_cases c3 : 3 ≤ e - b
      · rw [if_pos (show (3 : Int32) ≤ nI (e - b) from show nI 3 ≤ nI (e - b) by rw [nI_leI (by decide) (by omega)]; exact c3), x_i70_8 X, Option.bind_some]
        exact fin _ (by rw [h8, hst, if_neg (by omega)])
      · rw [if_neg (show ¬ (3 : Int32) ≤ nI (e - b) from show ¬ nI 3 ≤ nI (e - b) by rw [nI_leI (by decide) (by omega)]; exact c3), x_i70_8 X, Option.bind_some, x_r70_0 X, Option.bind_some, Option.bind_some, x_a71 X (by omega), Option.bind_some, R.2.2 e (by omega)]
        refine fin _ ?_
        rw [h8, hst, if_pos (by omega)]
        have e1 : nI (nvl T b (e - b)) * 10 = nI (nvl T b (e - b) * 10) := nI_mulN _ 10
        rw [e1, d1, nI_add, tn_n (by omega)]
        exact (nI_sub (b := 48) (by omega)).trans (congrArg nI (by omega))
theorem k_fail (X : Fx g) (f : Int32) (h0 : tI t 70 11 = nI 0) : F_X4_fail 70 f (Em g t) = some ((), Em g (wi (wi t 70 11 f) 70 12 (tI t 70 5))) := by
  unfold F_X4_fail
  rw [x_i70_11 X, Option.bind_some, h0, if_neg (fun h => h rfl), x_w70_11 X, Option.bind_some, x_i70_5 X, Option.bind_some, x_w70_12 X, Option.bind_some, tI_ik (by decide)]
theorem k_fail1 (X : Fx g) (f : Int32) (h0 : ¬ tI t 70 11 = nI 0) : F_X4_fail 70 f (Em g t) = some ((), Em g t) := by
  unfold F_X4_fail
  rw [x_i70_11 X, Option.bind_some, if_pos (show ¬ tI t 70 11 = (0 : Int32) from h0)]
theorem k_282o (X : Fx g) {b e kc : Nat} (h5 : tI t 70 5 = nI b) (h6 : tI t 70 6 = nI e) (h7 : tI t 70 7 = nI kc) (hbe : b ≤ e) (he : e ≤ 900) (hk : kc < 4) (h1 : kc = 1 → e - b ≤ 3) (h2 : kc = 2 → b < e) : F_X4_advance_b282 70 (Em g t) = some ((), Em g t) := by
  have e307 : F_X4_advance_b307 70 (Em g t) = some ((), Em g t) := by
    unfold F_X4_advance_b307 F_X4_advance_b308
    rw [if_neg (fun h => h rfl), x_i70_7 X, Option.bind_some, h7]
    by_cases c : kc = 2
    · rw [if_neg (show ¬ ¬ nI kc = (2 : Int32) from fun h => h (by rw [c]; rfl)), x_i70_6 X, Option.bind_some, x_i70_5 X, Option.bind_some, h5, h6, if_pos (by rw [nI_eq (by omega) (by omega)]; have := h2 c; omega)]
    · rw [if_pos (show ¬ nI kc = (2 : Int32) from show ¬ nI kc = nI 2 by rw [nI_eq (by omega) (by decide)]; exact c)]
  unfold F_X4_advance_b282
  rw [x_i70_7 X, Option.bind_some, h7]
  by_cases c : kc = 1
  · rw [if_neg (show ¬ ¬ nI kc = (1 : Int32) from fun h => h (by rw [c]; rfl)), x_i70_6 X, Option.bind_some, x_i70_5 X, Option.bind_some, h5, h6, nI_sub hbe, if_pos (show nI (e - b) ≤ (3 : Int32) from show nI (e - b) ≤ nI 3 by rw [nI_leI (by omega) (by decide)]; exact h1 c)]
    exact e307
  · rw [if_pos (show ¬ nI kc = (1 : Int32) from show ¬ nI kc = nI 1 by rw [nI_eq (by omega) (by decide)]; exact c)]
    exact e307
theorem k_282b (X : Fx g) {b e kc : Nat} (h5 : tI t 70 5 = nI b) (h6 : tI t 70 6 = nI e) (h7 : tI t 70 7 = nI kc) (h11 : tI t 70 11 = nI 0) (hbe : b ≤ e) (he : e ≤ 900) (h : (kc = 1 ∧ 3 < e - b) ∨ (kc = 2 ∧ e = b)) : F_X4_advance_b282 70 (Em g t) = some ((), Em g (wi (wi t 70 11 (nI 1)) 70 12 (nI b))) := by
  have e332 : F_X4_advance_b332 70 (Em g t) = some ((), Em g (wi (wi t 70 11 (nI 1)) 70 12 (nI b))) := by
    unfold F_X4_advance_b332
    have := k_fail X (nI 1) h11
    rw [h5] at this
    rw [x_rc70 X, Option.bind_some, show (1 : Int32) = nI 1 from rfl, this, Option.bind_some]
  unfold F_X4_advance_b282
  rw [x_i70_7 X, Option.bind_some, h7]
  rcases h with ⟨rfl, h⟩ | ⟨rfl, h⟩
  · rw [if_neg (show ¬ ¬ nI 1 = (1 : Int32) from fun h => h rfl), x_i70_6 X, Option.bind_some, x_i70_5 X, Option.bind_some, h5, h6, nI_sub hbe, if_neg (show ¬ nI (e - b) ≤ (3 : Int32) from show ¬ nI (e - b) ≤ nI 3 by rw [nI_leI (by omega) (by decide)]; omega)]
    unfold F_X4_advance_b308
    rw [if_pos (by decide)]
    exact e332
  · rw [if_pos (show ¬ nI 2 = (1 : Int32) by decide)]
    unfold F_X4_advance_b307 F_X4_advance_b308
    rw [if_neg (fun h => h rfl), x_i70_7 X, Option.bind_some, h7, if_neg (show ¬ ¬ nI 2 = (2 : Int32) from fun h => h rfl), x_i70_6 X, Option.bind_some, x_i70_5 X, Option.bind_some, h5, h6, if_neg (fun q => q (by rw [h]))]
    exact e332
end XAd
