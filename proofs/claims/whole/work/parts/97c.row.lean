/-! ===== calls: row, rows ===== -/
theorem first_eq {f : Nat → Bool} {n q : Nat} (hq : q < n) (h1 : f q = true) (h2 : ∀ r, r < q → f r = false) : fa_first f n = q := by
  rcases Nat.lt_trichotomy (fa_first f n) q with h | h | h
  · have := fa_first_yes f n (by omega)
    rw [h2 _ h] at this
    cases this
  · exact h
  · have := fa_first_no f n q h
    rw [h1] at this
    cases this
def trm (F : Nat → Nat → Bool) (P U l q : Nat) : Nat := if ok1 F U l q then En F P (U ||| 2 ^ q) q else 0
def lsto (od : Nat → Nat) (k : Nat) : Nat := if k = 0 then 6 else od (k - 1)
section XRw
variable {g : Sk} {t : Tb} {a : Nat → Int32}
variable {D v x nx p : Nat} {t' t'' t1 t2 : Tb}
theorem r_cpy_l (X : Fx g) (ff : Nat → Int32 → Int32 → Int32 → xH → Option (Unit × xH)) : ∀ (d k fuel : Nat) (t : Tb), k + d = 6 → d < fuel → (∀ j, j < k → tA t 195 j = tA t 194 j) → ∃ t', F_X12_goesRow_b20 ff fuel 183 (nI k) (Em g t) = F_X12_goesRow_b47 ff 183 (Em g t') ∧ Ax 195 t t' ∧ ∀ j, j < 6 → tA t' 195 j = tA t 194 j := by
  intro d
  induction d with
  | zero =>
    intro k fuel t hk hf h
    obtain ⟨f, rfl⟩ : ∃ f, fuel = f + 1 := ⟨fuel - 1, by omega⟩
    have hk : k = 6 := by omega
    subst hk
    refine ⟨t, ?_, Ax_r, h⟩
    rw [F_X12_goesRow_b20]
    simp (disch := omega) only [Option.bind_some, ↓reduceIte, ite_not, fa_lit, nI_add, nI_mulN, nI_an, nI_sub, irm_n, nI_eq, nI_leI, nI_ltI, v_pow, v_shr, v_bit, nI_cl, nI_m1e, Nat.le_refl]
  | succ d ih =>
    intro k fuel t hk hf h
    obtain ⟨f, rfl⟩ : ∃ f, fuel = f + 1 := ⟨fuel - 1, by omega⟩
    have hk2 : ¬ 6 ≤ k := by omega
    obtain ⟨t2, e2, j2, k2⟩ := ih (k + 1) f (wa t 195 k (tA t 194 k)) (by omega) (by omega) (fun j hj => by
      rw [tA_as, tA_an (by decide)]
      by_cases e : j = k
      · rw [e, upd_s]
      · rw [upd_n e]; exact h j (by omega))
    refine ⟨t2, ?_, Ax_t (Ax_wa Ax_r) j2, fun j hj => by rw [k2 j hj, tA_an (by decide)]⟩
    rw [F_X12_goesRow_b20]
    simp (disch := omega) only [x_rc183 X, x_i183_0 X, x_w183_0 X, x_r183_1 X, x_r183_2 X, x_r183_3 X, x_r183_4 X, x_i183_5 X, x_w183_5 X, x_i183_6 X, x_w183_6 X, x_i183_7 X, x_w183_7 X, x_i183_8 X, x_w183_8 X, x_i183_9 X, x_w183_9 X, x_i183_10 X, x_w183_10 X, x_i183_11 X, x_w183_11 X, x_i183_12 X, x_w183_12 X, x_i183_13 X, x_w183_13 X, x_i183_14 X, x_w183_14 X, x_i183_15 X, x_w183_15 X, x_r183_16 X, x_r183_17 X, x_r183_18 X, x_i183_19 X, x_w183_19 X, x_i183_20 X, x_w183_20 X, x_r183_21 X, x_r183_22 X, x_r183_23 X, x_r183_24 X, x_r183_25 X, x_i183_26 X, x_w183_26 X, x_r183_27 X, x_r183_28 X, x_r183_29 X, x_i183_30 X, x_w183_30 X, x_r183_31 X, x_r183_32 X, x_r183_33 X, x_r183_34 X, x_r183_35 X, x_r183_36 X, x_a184 X, x_s184 X, x_a185 X, x_s185 X, x_a186 X, x_s186 X, x_a187 X, x_s187 X, x_a188 X, x_s188 X, x_a189 X, x_s189 X, x_a190 X, x_s190 X, x_a191 X, x_s191 X, x_a192 X, x_s192 X, x_a193 X, x_s193 X, x_a194 X, x_s194 X, x_a195 X, x_s195 X, x_a196 X, x_s196 X, x_a197 X, x_s197 X, x_a198 X, x_s198 X, x_a199 X, x_s199 X, x_a200 X, x_s200 X, x_a201 X, x_s201 X, x_a202 X, x_s202 X, x_a203 X, x_s203 X, x_a204 X, x_s204 X, Option.bind_some, ↓reduceIte, ite_not, fa_lit, nI_add, nI_mulN, nI_an, nI_sub, irm_n, nI_eq, nI_leI, nI_ltI, v_pow, v_shr, v_bit, nI_cl, nI_m1e, hk2]
    exact e2
/-- what a walk through rows from k on leaves behind -/
def RwO (g : Sk) (t t' : Tb) (P k : Nat) (od : Nat → Nat) (c s : Nat) (w : Nat → Nat) : Prop := (Sm g t t' ∧ tA t' 193 = tA t 193 ∧ (∀ j, j < k → tA t' 194 j = tA t 194 j)) ∧ tI t' 183 26 = nI (c + s) ∧ (¬ (c = 0 ∧ 0 < s) → tA t' 195 = tA t 195) ∧ (c = 0 → 0 < s → (∀ j, j < k → tA t' 195 j = nI (od j)) ∧ ∀ j, j < P - k → tA t' 195 (k + j) = nI (w j))
theorem r_row (X : Fx g) (W : WA a D) {z : Nat} (hz : z < 2 ^ 31) : ∀ (d k n : Nat) (t : Tb) (U : Nat) (od : Nat → Nat) (c : Nat), k + d = vP a → d < n → U < 2 ^ vP a → pc U (vP a) = k → (∀ j, j < k → od j < vP a) → tA t 184 = a → (∀ p, p < vP a → tA t 193 p = nI (heard a p)) → (∀ j, j < k → tA t 194 j = nI (od j)) → tI t 183 26 = nI c → c + En (fitp a z) (vP a) U (lsto od k) < 2 ^ 30 → ∃ t', G_X12_goesRow n 183 (nI k) (nI U) (nI z) (Em g t) = some ((), Em g t') ∧ RwO g t t' (vP a) k od c (En (fitp a z) (vP a) U (lsto od k)) (fun j => itr (fitp a z) (vP a) j U (lsto od k)) := by
  have hP := wP2 W
  have h64 : 2 ^ vP a ≤ 64 := Nat.pow_le_pow_right (n := 2) (by decide) hP
  have ha4 : ∀ t, tA t 184 = a → aI (Em g t) 184 4 = some (nI (vP a)) := fun t ha => by
    have : aI (Em g t) 184 4 = some (tA t 184 4) := x_a184 X (k := 4) (by decide)
    rw [this, ha, wP W]
  intro d
  induction d with
  | zero =>
    intro k n t U od c hk hn hU hpc hod ha h3 h4 hc hb
    obtain ⟨n, rfl⟩ : ∃ m, n = m + 1 := ⟨n - 1, by omega⟩
    have hk : k = vP a := by omega
    subst hk
    have hE : En (fitp a z) (vP a) U (lsto od (vP a)) = 1 := En_f hpc
    rw [hE] at hb ⊢
    have hhead : G_X12_goesRow (n + 1) 183 (nI (vP a)) (nI U) (nI z) (Em g t) = if ¬ nI c = 0 then F_X12_goesRow_b47 (G_X12_goesRow n) 183 (Em g t) else F_X12_goesRow_b20 (G_X12_goesRow n) FU 183 0 (Em g t) := by
      show F_X12_goesRow (G_X12_goesRow n) 183 (nI (vP a)) (nI U) (nI z) (Em g t) = _
      unfold F_X12_goesRow
      rw [x_r183_1 X, Option.bind_some, ha4 t ha, Option.bind_some, if_neg (fun q => q rfl), x_i183_26 X, Option.bind_some, hc]
    have h47 : ∀ t, tI t 183 26 = nI c → F_X12_goesRow_b47 (G_X12_goesRow n) 183 (Em g t) = some ((), Em g (wi t 183 26 (nI (c + 1)))) := fun t h => by
      unfold F_X12_goesRow_b47
      rw [x_i183_26 X, Option.bind_some, h, show nI c + 1 = nI (c + 1) from nI_add c 1, x_w183_26 X, Option.bind_some]
    by_cases c0 : c = 0
    · obtain ⟨t1, e1, j1, k1⟩ := r_cpy_l (g := g) X (G_X12_goesRow n) 6 0 FU t rfl (by decide) (fun j hj => absurd hj (by omega))
      refine ⟨wi t1 183 26 (nI (c + 1)), ?_, ⟨Sm_wi rfl (Ax_m (sc_f rfl) j1), j1.2.1 193 (by decide), fun j _ => by rw [tA_wi, j1.2.1 194 (by decide)]⟩, tI_is, fun q => absurd ⟨c0, by decide⟩ q, fun _ _ => ⟨fun j hj => ?_, fun j hj => absurd hj (by omega)⟩⟩
      · rw [hhead, if_neg (fun q => q (by rw [c0]; rfl))]
        exact e1.trans (h47 t1 (by rw [j1.1]; exact hc))
      · rw [tA_wi, k1 j (by omega)]
        exact h4 j hj
    · refine ⟨wi t 183 26 (nI (c + 1)), ?_, ⟨Sm_wi rfl Sm_r, rfl, fun _ _ => rfl⟩, tI_is, fun _ => rfl, fun q => absurd q c0⟩
      rw [hhead, if_pos (show ¬ nI c = (0 : Int32) from show ¬ nI c = nI 0 by rw [nI_eq (by omega) (by decide)]; exact c0)]
      exact h47 t hc
  | succ d ih =>
    intro k n t U od c hk hn hU hpc hod ha h3 h4 hc hb
    obtain ⟨n, rfl⟩ : ∃ m, n = m + 1 := ⟨n - 1, by omega⟩
    have hkP : k < vP a := by omega
    have hEs : En (fitp a z) (vP a) U (lsto od k) = smr (trm (fitp a z) (vP a) U (lsto od k)) (vP a) 0 := En_s (by omega)
    have hU31 := p_31 hU (by omega)
    -- the loop over the people
    have loop : ∀ (e q fuel : Nat) (t : Tb) (c : Nat), q + e = vP a → e < fuel → tA t 184 = a → (∀ p, p < vP a → tA t 193 p = nI (heard a p)) → (∀ j, j < k → tA t 194 j = nI (od j)) → tI t 183 26 = nI c → c + smr (trm (fitp a z) (vP a) U (lsto od k)) e q < 2 ^ 30 → ∃ t', F_X12_goesRow_b61 (G_X12_goesRow n) fuel 183 (nI k) (nI U) (nI z) (nI q) (Em g t) = some ((), Em g t') ∧ (Sm g t t' ∧ tA t' 193 = tA t 193 ∧ (∀ j, j < k → tA t' 194 j = tA t 194 j)) ∧ tI t' 183 26 = nI (c + smr (trm (fitp a z) (vP a) U (lsto od k)) e q) ∧ (¬ (c = 0 ∧ 0 < smr (trm (fitp a z) (vP a) U (lsto od k)) e q) → tA t' 195 = tA t 195) ∧ (c = 0 → 0 < smr (trm (fitp a z) (vP a) U (lsto od k)) e q → ∃ r, q ≤ r ∧ r < vP a ∧ okE (fitp a z) (vP a) U (lsto od k) r = true ∧ (∀ r', q ≤ r' → r' < r → okE (fitp a z) (vP a) U (lsto od k) r' = false) ∧ (∀ j, j < k → tA t' 195 j = nI (od j)) ∧ tA t' 195 k = nI r ∧ ∀ j, j < vP a - (k + 1) → tA t' 195 (k + 1 + j) = nI (itr (fitp a z) (vP a) j (U ||| 2 ^ r) r)) := by
      intro e
      induction e with
      | zero =>
        intro q fuel t c hq hf ha h3 h4 hc hb
        obtain ⟨f, rfl⟩ : ∃ f, fuel = f + 1 := ⟨fuel - 1, by omega⟩
        have hq : q = vP a := by omega
        subst hq
        refine ⟨t, ?_, ⟨Sm_r, rfl, fun _ _ => rfl⟩, hc, fun _ => rfl, fun _ h => absurd h (by rw [smr]; exact Nat.lt_irrefl 0)⟩
        rw [F_X12_goesRow_b61, x_r183_1 X, Option.bind_some, ha4 t ha, Option.bind_some, if_pos (by rw [nI_leI (by omega) (by omega)]; exact Nat.le_refl _)]
      | succ e ihe =>
        intro q fuel t c hq hf ha h3 h4 hc hb
        obtain ⟨f, rfl⟩ : ∃ f, fuel = f + 1 := ⟨fuel - 1, by omega⟩
        have hqP : q < vP a := by omega
        have hn1 : nI q + 1 = nI (q + 1) := nI_add q 1
        rw [smr] at hb ⊢
        -- when q is passed over
        have skip : ok1 (fitp a z) U (lsto od k) q = false → F_X12_goesRow_b61 (G_X12_goesRow n) (f + 1) 183 (nI k) (nI U) (nI z) (nI q) (Em g t) = F_X12_goesRow_b61 (G_X12_goesRow n) f 183 (nI k) (nI U) (nI z) (nI (q + 1)) (Em g t) → ∃ t', F_X12_goesRow_b61 (G_X12_goesRow n) (f + 1) 183 (nI k) (nI U) (nI z) (nI q) (Em g t) = some ((), Em g t') ∧ (Sm g t t' ∧ tA t' 193 = tA t 193 ∧ (∀ j, j < k → tA t' 194 j = tA t 194 j)) ∧ tI t' 183 26 = nI (c + (trm (fitp a z) (vP a) U (lsto od k) q + smr (trm (fitp a z) (vP a) U (lsto od k)) e (q + 1))) ∧ (¬ (c = 0 ∧ 0 < trm (fitp a z) (vP a) U (lsto od k) q + smr (trm (fitp a z) (vP a) U (lsto od k)) e (q + 1)) → tA t' 195 = tA t 195) ∧ (c = 0 → 0 < trm (fitp a z) (vP a) U (lsto od k) q + smr (trm (fitp a z) (vP a) U (lsto od k)) e (q + 1) → ∃ r, q ≤ r ∧ r < vP a ∧ okE (fitp a z) (vP a) U (lsto od k) r = true ∧ (∀ r', q ≤ r' → r' < r → okE (fitp a z) (vP a) U (lsto od k) r' = false) ∧ (∀ j, j < k → tA t' 195 j = nI (od j)) ∧ tA t' 195 k = nI r ∧ ∀ j, j < vP a - (k + 1) → tA t' 195 (k + 1 + j) = nI (itr (fitp a z) (vP a) j (U ||| 2 ^ r) r)) := by
          intro hok heq
          have h0 : trm (fitp a z) (vP a) U (lsto od k) q = 0 := by unfold trm; rw [if_neg (by rw [hok]; decide)]
          have hno : okE (fitp a z) (vP a) U (lsto od k) q = false := by unfold okE; rw [hok]; rfl
          rw [h0, Nat.zero_add] at hb ⊢
          obtain ⟨t2, e2, r1, r2, r3, r4⟩ := ihe (q + 1) f t c (by omega) (by omega) ha h3 h4 hc hb
          refine ⟨t2, heq.trans e2, r1, r2, r3, fun c0 hs => ?_⟩
          obtain ⟨r, a1, a2, a3, a4, a5⟩ := r4 c0 hs
          refine ⟨r, by omega, a2, a3, fun r' b1 b2 => ?_, a5⟩
          by_cases er : r' = q
          · rw [er]; exact hno
          · exact a4 r' (by omega) b2
        -- when q is taken
        have take : ok1 (fitp a z) U (lsto od k) q = true → F_X12_goesRow_b61 (G_X12_goesRow n) (f + 1) 183 (nI k) (nI U) (nI z) (nI q) (Em g t) = F_X12_goesRow_b107 (G_X12_goesRow n) (F_X12_goesRow_b61 (G_X12_goesRow n) f) 183 (nI k) (nI U) (nI z) (nI q) (Em g t) → ∃ t', F_X12_goesRow_b61 (G_X12_goesRow n) (f + 1) 183 (nI k) (nI U) (nI z) (nI q) (Em g t) = some ((), Em g t') ∧ (Sm g t t' ∧ tA t' 193 = tA t 193 ∧ (∀ j, j < k → tA t' 194 j = tA t 194 j)) ∧ tI t' 183 26 = nI (c + (trm (fitp a z) (vP a) U (lsto od k) q + smr (trm (fitp a z) (vP a) U (lsto od k)) e (q + 1))) ∧ (¬ (c = 0 ∧ 0 < trm (fitp a z) (vP a) U (lsto od k) q + smr (trm (fitp a z) (vP a) U (lsto od k)) e (q + 1)) → tA t' 195 = tA t 195) ∧ (c = 0 → 0 < trm (fitp a z) (vP a) U (lsto od k) q + smr (trm (fitp a z) (vP a) U (lsto od k)) e (q + 1) → ∃ r, q ≤ r ∧ r < vP a ∧ okE (fitp a z) (vP a) U (lsto od k) r = true ∧ (∀ r', q ≤ r' → r' < r → okE (fitp a z) (vP a) U (lsto od k) r' = false) ∧ (∀ j, j < k → tA t' 195 j = nI (od j)) ∧ tA t' 195 k = nI r ∧ ∀ j, j < vP a - (k + 1) → tA t' 195 (k + 1 + j) = nI (itr (fitp a z) (vP a) j (U ||| 2 ^ r) r)) := by
          intro hok heq
          have hbit : U.testBit q = false := by
            unfold ok1 at hok
            rw [Bool.and_eq_true, Bool.not_eq_true'] at hok
            exact hok.1
          have h0 : trm (fitp a z) (vP a) U (lsto od k) q = En (fitp a z) (vP a) (U ||| 2 ^ q) q := by unfold trm; rw [if_pos hok]
          have hor : U ||| 2 ^ q < 2 ^ vP a := Nat.or_lt_two_pow hU (Nat.pow_lt_pow_right (by decide) hqP)
          obtain ⟨od2, hod1, hod2⟩ : ∃ od2 : Nat → Nat, od2 k = q ∧ ∀ j, j ≠ k → od2 j = od j := ⟨fun j => if j = k then q else od j, if_pos rfl, fun j h => if_neg h⟩
          have hlst : lsto od2 (k + 1) = q := by unfold lsto; rw [if_neg (by omega), Nat.add_sub_cancel, hod1]
          rw [h0] at hb ⊢
          obtain ⟨t2, e2, rw2⟩ := ih (k + 1) n (wa t 194 k (nI q)) (U ||| 2 ^ q) od2 c (by omega) (by omega) hor (by rw [pc_set hbit, hpc, if_pos hqP]) (fun j hj => by
            by_cases ej : j = k
            · rw [ej, hod1]; exact hqP
            · rw [hod2 j ej]; exact hod j (by omega)) (by rw [tA_an (by decide)]; exact ha) (fun p hp => by rw [tA_an (by decide)]; exact h3 p hp) (fun j hj => by
            rw [tA_as]
            by_cases ej : j = k
            · rw [ej, upd_s, hod1]
            · rw [upd_n ej, hod2 j ej]; exact h4 j (by omega)) hc (by rw [hlst]; omega)
          rw [hlst] at rw2
          obtain ⟨⟨s2, n3, n4⟩, ncnt, nf1, nf2⟩ := rw2
          have s2' : Sm g t t2 := Sm_t (Sm_wa (sc_f rfl) Sm_r) s2
          have n4' : ∀ j, j < k → tA t2 194 j = tA t 194 j := fun j hj => by rw [n4 j (by omega), tA_as, upd_n (by omega)]
          have n3' : tA t2 193 = tA t 193 := by rw [n3, tA_an (by decide)]
          obtain ⟨t3, e3, ⟨s3, m3, m4⟩, mcnt, mf1, mf2⟩ := ihe (q + 1) f t2 (c + En (fitp a z) (vP a) (U ||| 2 ^ q) q) (by omega) (by omega) (by rw [Sm_a X s2']; exact ha) (fun p hp => by rw [n3']; exact h3 p hp) (fun j hj => by rw [n4' j hj]; exact h4 j hj) ncnt (by omega)
          refine ⟨t3, ?_, ⟨Sm_t s2' s3, by rw [m3, n3'], fun j hj => by rw [m4 j hj, n4' j hj]⟩, by rw [mcnt, Nat.add_assoc], fun hnn => ?_, fun c0 hs => ?_⟩
          · rw [heq]
            unfold F_X12_goesRow_b107
            rw [x_r183_24 X, Option.bind_some, x_s194 X (by omega), Option.bind_some, x_rc183 X, Option.bind_some, show (1 : Int32) <<< (nI q &&& 31) = nI (2 ^ q) from v_pow (by omega), fa_or, show nI k + 1 = nI (k + 1) from nI_add k 1, e2, Option.bind_some, hn1]
            exact e3
          · by_cases c0 : c = 0
            · have hz0 : En (fitp a z) (vP a) (U ||| 2 ^ q) q = 0 := by
                have : ¬ 0 < En (fitp a z) (vP a) (U ||| 2 ^ q) q + smr (trm (fitp a z) (vP a) U (lsto od k)) e (q + 1) := fun h => hnn ⟨c0, h⟩
                omega
              rw [mf1 (fun h => hnn ⟨c0, by omega⟩), nf1 (fun h => by omega), tA_an (by decide)]
            · rw [mf1 (fun h => by omega), nf1 (fun h => c0 h.1), tA_an (by decide)]
          · by_cases hE0 : En (fitp a z) (vP a) (U ||| 2 ^ q) q = 0
            · have hno : okE (fitp a z) (vP a) U (lsto od k) q = false := by
                unfold okE
                rw [decide_eq_false (by omega), Bool.and_false]
              obtain ⟨r, a1, a2, a3, a4, a5⟩ := mf2 (by omega) (by omega)
              refine ⟨r, by omega, a2, a3, fun r' b1 b2 => ?_, a5⟩
              by_cases er : r' = q
              · rw [er]; exact hno
              · exact a4 r' (by omega) b2
            · have hyes : okE (fitp a z) (vP a) U (lsto od k) q = true := by
                unfold okE
                rw [hok, decide_eq_true (by omega)]
                rfl
              obtain ⟨f1, f2⟩ := nf2 c0 (by omega)
              have h95 : tA t3 195 = tA t2 195 := mf1 (fun h => by omega)
              refine ⟨q, Nat.le_refl q, hqP, hyes, fun r' b1 b2 => absurd b1 (by omega), fun j hj => ?_, ?_, fun j hj => ?_⟩
              · rw [h95, f1 j (by omega), hod2 j (by omega)]
              · rw [h95, f1 k (by omega), hod1]
              · rw [h95]
                exact f2 j hj
        have hin := q_isIn (m := U) (k := q) hU31 (by omega) (Em g t)
        cases qb : U.testBit q
        · rw [qb] at hin
          by_cases k0 : k = 0
          · refine take ?_ ?_
            · unfold ok1 fz lsto
              rw [qb, if_pos k0]
              rfl
            · rw [F_X12_goesRow_b61, x_r183_1 X, Option.bind_some, ha4 t ha, Option.bind_some, if_neg (by rw [nI_leI (by omega) (by omega)]; omega), hin, Option.bind_some, if_neg (show ¬ ¬ bI false = (0 : Int32) by decide), if_pos (show nI k ≤ (0 : Int32) by rw [k0]; decide)]
          · have hl : lsto od k = od (k - 1) := if_neg k0
            have hol := hod (k - 1) (by omega)
            have hok : ok1 (fitp a z) U (lsto od k) q = fitp a z (od (k - 1)) q := by
              unfold ok1 fz
              rw [qb, hl, decide_eq_false (by omega)]
              rfl
            have hk1 : nI k - 1 = nI (k - 1) := nI_sub (b := 1) (by omega)
            have c3 : ¬ nI k ≤ (0 : Int32) := show ¬ nI k ≤ nI 0 by rw [nI_leI (by omega) (by decide)]; omega
            have hhead : F_X12_goesRow_b61 (G_X12_goesRow n) (f + 1) 183 (nI k) (nI U) (nI z) (nI q) (Em g t) = if ¬ bI (fitp a z (od (k - 1)) q) = (0 : Int32) then F_X12_goesRow_b107 (G_X12_goesRow n) (F_X12_goesRow_b61 (G_X12_goesRow n) f) 183 (nI k) (nI U) (nI z) (nI q) (Em g t) else F_X12_goesRow_b61 (G_X12_goesRow n) f 183 (nI k) (nI U) (nI z) (nI (q + 1)) (Em g t) := by
              rw [F_X12_goesRow_b61, x_r183_1 X, Option.bind_some, ha4 t ha, Option.bind_some, if_neg (by rw [nI_leI (by omega) (by omega)]; omega), hin, Option.bind_some, if_neg (show ¬ ¬ bI false = (0 : Int32) by decide), if_neg c3, x_r183_24 X, Option.bind_some, hk1, x_a194 X (by omega), Option.bind_some, h4 (k - 1) (by omega), x_rc183 X, Option.bind_some, r_two X W h3 hz hol hqP, Option.bind_some, hn1]
            cases qf : fitp a z (od (k - 1)) q
            · rw [qf] at hhead hok
              exact skip hok (by rw [hhead, if_neg (show ¬ ¬ bI false = (0 : Int32) by decide)])
            · rw [qf] at hhead hok
              exact take hok (by rw [hhead, if_pos (show ¬ bI true = (0 : Int32) by decide)])
        · rw [qb] at hin
          refine skip ?_ ?_
          · unfold ok1
            rw [qb]
            rfl
          · rw [F_X12_goesRow_b61, x_r183_1 X, Option.bind_some, ha4 t ha, Option.bind_some, if_neg (by rw [nI_leI (by omega) (by omega)]; omega), hin, Option.bind_some, if_pos (show ¬ bI true = (0 : Int32) by decide), hn1]
    have hfp : vP a < FU := by show vP a < 1000000; omega
    rw [hEs] at hb
    obtain ⟨t', e', r1, r2, r3, r4⟩ := loop (vP a) 0 FU t c (by omega) hfp ha h3 h4 hc hb
    refine ⟨t', ?_, r1, by rw [hEs]; exact r2, by rw [hEs]; exact r3, fun c0 hs => ?_⟩
    · show F_X12_goesRow (G_X12_goesRow n) 183 (nI k) (nI U) (nI z) (Em g t) = _
      unfold F_X12_goesRow
      rw [x_r183_1 X, Option.bind_some, ha4 t ha, Option.bind_some, if_pos (show ¬ nI k = nI (vP a) by rw [nI_eq (by omega) (by omega)]; omega)]
      exact e'
    · rw [hEs] at hs
      obtain ⟨r, a1, a2, a3, a4, a5, a6, a7⟩ := r4 c0 hs
      have hnx : nxt (fitp a z) (vP a) U (lsto od k) = r := first_eq a2 a3 (fun r' h => a4 r' (by omega) h)
      refine ⟨a5, fun j hj => ?_⟩
      cases j with
      | zero =>
        show tA t' 195 k = nI (itr (fitp a z) (vP a) 0 U (lsto od k))
        rw [itr, hnx]
        exact a6
      | succ j =>
        show tA t' 195 (k + (j + 1)) = nI (itr (fitp a z) (vP a) (j + 1) U (lsto od k))
        rw [itr, hnx, show k + (j + 1) = k + 1 + j by omega]
        exact a7 j (by omega)
end XRw
