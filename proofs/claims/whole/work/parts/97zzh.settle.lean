/-! ===== the follow rows are settled ===== -/
def Fol (g : Sk) (t : Tb) (v : Nat) (a : Nat → Int32) : Prop := (a 6 = nI 0 ∧ gR g v 13 = none) ∨ (¬ a 6 = nI 0 ∧ ∃ w, gR g v 13 = some w ∧ v + 11 ≤ w ∧ LwP g t w a 1 ∧ okc 1 (cds a 1) [])
def P6 (v : Nat) (b : Nat) : Bool := decide (b = v + 6)
theorem abs_9 : ∀ i, i < 10 → ∀ j, j < 10 → (0 ≤ nI i - nI j ∧ nI i - nI j = nI (if i < j then j - i else i - j)) ∨ (¬ 0 ≤ nI i - nI j ∧ -(nI i - nI j) = nI (if i < j then j - i else i - j)) := by decide +kernel
theorem abs_h {i j : Nat} (hi : i < 10) (hj : j < 10) (h : xH) : F_J9_abs_0f7a4 (nI i - nI j) h = some (nI (if i < j then j - i else i - j), h) := by
  unfold F_J9_abs_0f7a4
  rcases abs_9 i hi j hj with ⟨h1, h2⟩ | ⟨h1, h2⟩
  · rw [if_pos h1, h2]
  · rw [if_neg h1, h2]
section XSt
variable {g : Sk} {t t' t'' : Tb} {a : Nat → Int32} {v N i : Nat}
theorem Sw6_a {x : Int32} {k : Nat} (h : Sw (P6 v) g t t') : Sw (P6 v) g t (wa t' (v + 6) k x) := by
  rw [wa_wr]
  exact Sw_wr h (Or.inl (by unfold P6; rw [decide_eq_true_eq]))
theorem Fol_w (hv : 205 ≤ v) (h : Fol g t v a) (s : Sw (P6 v) g t t') : Fol g t' v a := by
  rcases h with h | ⟨h1, w, h2, h3, h4, h5⟩
  · exact Or.inl h
  · refine Or.inr ⟨h1, w, h2, h3, ⟨h4.1, fun k hk => ?_⟩, h5⟩
    rw [s.2.1 (w + 1) (by unfold P6; rw [decide_eq_false_iff_not]; omega) (sc_n (by rw [h4.1.2.2.2.1.1]; decide) (by rw [h4.1.2.2.2.1.1]; decide) (sc_205 (by omega)))]
    exact h4.2 k hk
theorem Sw6_0 (hv : 205 ≤ v) (s : Sw (P6 v) g t t') : tI t' v 0 = tI t v 0 := s.1 v 0 (by unfold P6; rw [decide_eq_false_iff_not]; omega) (sI_v (Or.inr hv))
theorem st_54 (V : VaS g v) (hi : i < 10) {j : Nat} (hj : j < 10) (hf : fol a i j = true) (hr : tA t (v + 6) i = nI (mk (fol a i) j)) (k2 : Nat → Int32 → xH → Option (Unit × xH)) (k19 : Nat → Int32 → Int32 → xH → Option (Unit × xH)) : F_X10_settle_b54 k2 k19 v (nI i) (nI j) (Em g t) = k19 v (nI i) (nI (j + 1)) (Em g (wa t (v + 6) i (nI (mk (fol a i) (j + 1))))) := by
  unfold F_X10_settle_b54
  rw [v_r10 V, Option.bind_some, v_a6 V hi, Option.bind_some, hr, bb_mk1 _ (by omega) hf, v_s6 V hi, Option.bind_some, show nI j + 1 = nI (j + 1) from nI_add j 1]
theorem st_in (V : VaS g v) (hv : 205 ≤ v) (hN : N ≤ 10) (hi : i < 10) (k2 : Nat → Int32 → xH → Option (Unit × xH)) : ∀ (d j fuel : Nat) (t : Tb), j + d = N → d < fuel → Fol g t v a → tI t v 0 = nI N → tA t (v + 6) i = nI (mk (fol a i) j) → ∃ t', F_X10_settle_b19 k2 fuel v (nI i) (nI j) (Em g t) = k2 v (nI (i + 1)) (Em g t') ∧ Sw (P6 v) g t t' ∧ tA t' (v + 6) i = nI (mk (fol a i) N) ∧ ∀ i', i' ≠ i → tA t' (v + 6) i' = tA t (v + 6) i' := by
  intro d
  induction d with
  | zero =>
    intro j fuel t hj hf F h0 hr
    obtain ⟨f, rfl⟩ : ∃ f, fuel = f + 1 := ⟨fuel - 1, by omega⟩
    have : j = N := by omega
    subst this
    refine ⟨t, ?_, Sw_r, hr, fun _ _ => rfl⟩
    rw [F_X10_settle_b19, v_i0 V, Option.bind_some, h0, if_pos (Int32.le_refl _), show nI i + 1 = nI (i + 1) from nI_add i 1]
  | succ d ih =>
    intro j fuel t hj hf F h0 hr
    obtain ⟨f, rfl⟩ : ∃ f, fuel = f + 1 := ⟨fuel - 1, by omega⟩
    have hj10 : j < 10 := by omega
    have hn : ¬ nI N ≤ nI j := by rw [nI_leI (by omega) (by omega)]; omega
    have hq : ∀ x, gR g v 13 = x → fQ (Em g t) v 9 13 = some x := fun x hx => y_fQ (Or.inr V.2.1) hx (v_69 V) (by decide) rfl
    have hr0 : ∀ x, gR g v 13 = some x → fR (Em g t) v 9 13 = some x := fun x hx => y_fR (Or.inr V.2.1) hx (v_69 V) (by decide) rfl
    have yes : ∀ t1, Sw (P6 v) g t t1 → tA t1 (v + 6) = tA t (v + 6) → Fol g t1 v a → fol a i j = true → ∃ t', F_X10_settle_b54 k2 (F_X10_settle_b19 k2 f) v (nI i) (nI j) (Em g t1) = k2 v (nI (i + 1)) (Em g t') ∧ Sw (P6 v) g t t' ∧ tA t' (v + 6) i = nI (mk (fol a i) N) ∧ ∀ i', i' ≠ i → tA t' (v + 6) i' = tA t (v + 6) i' := fun t1 s1 e6 F1 hfo => by
      have s2 : Sw (P6 v) g t1 (wa t1 (v + 6) i (nI (mk (fol a i) (j + 1)))) := Sw6_a Sw_r
      obtain ⟨t', e1, q1, q2, q3⟩ := ih (j + 1) f (wa t1 (v + 6) i (nI (mk (fol a i) (j + 1)))) (by omega) (by omega) (Fol_w hv F1 s2) (by rw [Sw6_0 hv s2, Sw6_0 hv s1]; exact h0) (by rw [tA_as, upd_s])
      refine ⟨t', ?_, Sw_t s1 (Sw_t s2 q1), q2, fun i' hi' => ?_⟩
      · rw [st_54 V hi hj10 hfo (by rw [e6]; exact hr)]
        exact e1
      · rw [q3 i' hi', tA_as, upd_n hi', e6]
    rw [F_X10_settle_b19, v_i0 V, Option.bind_some, h0, if_neg hn]
    rcases F with ⟨h6, hR⟩ | ⟨h6, w, hR, hw, hP, ho⟩
    · rw [hq _ hR, Option.bind_some]
      exact yes t Sw_r rfl (Or.inl ⟨h6, hR⟩) (by unfold fol; rw [if_pos h6])
    · have hfe : fol a i j = decide (ev (gw i j) (cds a 1) [] = [nI 1]) := by unfold fol; rw [if_neg h6]
      obtain ⟨t1, e1, s1⟩ := k_holds hP ho (nI i) (nI j) (nI (if i < j then j - i else i - j)) 0 0 (gw i j) (fun q hq => by
        rcases hq with hq | hq
        · exact absurd hq.1 (by decide)
        · rcases (show q = 5 ∨ q = 6 ∨ q = 7 by omega) with e | e | e <;> subst e <;> rfl)
      rw [← hfe] at e1
      have s1' : Sw (P6 v) g t t1 := Sw_m s1
      have e6 : tA t1 (v + 6) = tA t (v + 6) := s1.2.1 (v + 6) (sA_v V (by decide) (by decide))
      have F1 : Fol g t1 v a := Fol_w hv (Or.inr ⟨h6, w, hR, hw, hP, ho⟩) s1'
      have hrc : ∀ t : Tb, rc (Em g t) w 2 = some () := fun t => y_rc hP.1.2.1 (by omega) (by decide)
      rw [hq _ hR, Option.bind_some]
      dsimp only
      rw [hr0 _ hR, Option.bind_some, abs_h hi hj10, Option.bind_some, hrc, Option.bind_some, e1, Option.bind_some]
      cases hfo : fol a i j with
      | true =>
        rw [if_neg (show ¬ bI true = (0 : Int32) by decide)]
        exact yes t1 s1' e6 F1 hfo
      | false =>
        rw [if_pos (show bI false = (0 : Int32) by decide), show nI j + 1 = nI (j + 1) from nI_add j 1]
        obtain ⟨t', f1, q1, q2, q3⟩ := ih (j + 1) f t1 (by omega) (by omega) F1 (by rw [Sw6_0 hv s1']; exact h0) (by rw [e6, mk_no _ _ hfo]; exact hr)
        exact ⟨t', f1, Sw_t s1' q1, q2, fun i' hi' => by rw [q3 i' hi', e6]⟩
theorem st_out (V : VaS g v) (hv : 205 ≤ v) (hN : N ≤ 10) : ∀ (d i fuel : Nat) (t : Tb), i + d = N → d < fuel → Fol g t v a → tI t v 0 = nI N → ∃ t', F_X10_settle_b2 fuel v (nI i) (Em g t) = some ((), Em g t') ∧ Sw (P6 v) g t t' ∧ (∀ i', i ≤ i' → i' < N → tA t' (v + 6) i' = nI (mk (fol a i') N)) ∧ ∀ i', i' < i → tA t' (v + 6) i' = tA t (v + 6) i' := by
  intro d
  induction d with
  | zero =>
    intro i fuel t hi hf F h0
    obtain ⟨f, rfl⟩ : ∃ f, fuel = f + 1 := ⟨fuel - 1, by omega⟩
    have : i = N := by omega
    subst this
    refine ⟨t, ?_, Sw_r, fun i' h1 h2 => absurd h2 (by omega), fun _ _ => rfl⟩
    rw [F_X10_settle_b2, v_i0 V, Option.bind_some, h0, if_pos (Int32.le_refl _)]
  | succ d ih =>
    intro i fuel t hi hf F h0
    obtain ⟨f, rfl⟩ : ∃ f, fuel = f + 1 := ⟨fuel - 1, by omega⟩
    have hn : ¬ nI N ≤ nI i := by rw [nI_leI (by omega) (by omega)]; omega
    have s1 : Sw (P6 v) g t (wa t (v + 6) i 0) := Sw6_a Sw_r
    obtain ⟨t2, e2, s2, q2, q3⟩ := st_in V hv hN (show i < 10 by omega) (F_X10_settle_b2 f) N 0 FU (wa t (v + 6) i 0) (by omega) (show N < 1000000 by omega) (Fol_w hv F s1) (by rw [Sw6_0 hv s1]; exact h0) (by rw [tA_as, upd_s]; rfl)
    obtain ⟨t3, e3, s3, q4, q5⟩ := ih (i + 1) f t2 (by omega) (by omega) (Fol_w hv F (Sw_t s1 s2)) (by rw [Sw6_0 hv s2, Sw6_0 hv s1]; exact h0)
    refine ⟨t3, ?_, Sw_t s1 (Sw_t s2 s3), fun i' h1 h2 => ?_, fun i' h1 => ?_⟩
    · rw [F_X10_settle_b2, v_i0 V, Option.bind_some, h0, if_neg hn, v_r10 V, Option.bind_some, v_s6 V (by omega), Option.bind_some]
      exact (show _ = F_X10_settle_b19 (F_X10_settle_b2 f) FU v (nI i) (nI 0) (Em g (wa t (v + 6) i 0)) from rfl).trans (e2.trans e3)
    · by_cases c : i' = i
      · subst c
        rw [q5 i' (by omega)]
        exact q2
      · exact q4 i' (by omega) h2
    · rw [q5 i' (by omega), q3 i' (by omega), tA_as, upd_n (by omega)]
theorem st_all (V : VaS g v) (hv : 205 ≤ v) (hN : N ≤ 10) (F : Fol g t v a) (h0 : tI t v 0 = nI N) : ∃ t', F_X10_settle v (Em g t) = some ((), Em g t') ∧ Sw (P6 v) g t t' ∧ ∀ i, i < N → tA t' (v + 6) i = nI (mk (fol a i) N) := by
  obtain ⟨t', e1, s1, q1, _⟩ := st_out V hv hN N 0 FU t (by omega) (show N < 1000000 by omega) F h0
  exact ⟨t', e1, s1, fun i hi => q1 i (Nat.zero_le _) hi⟩
end XSt
