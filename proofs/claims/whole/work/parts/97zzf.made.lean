/-! ===== the draft is made; the plain valley ===== -/
def gdr (g : Sk) : Sk := (g.1, ((gn g + 1) + 1 + 1 + 1 + 1 + 1 + 1 + 1 + 3), (upr (up1 (up1 (up1 (up1 (up1 (up1 (up1 (gS (gob g 70)) ((gn g + 1)) 31) ((gn g + 1) + 1) 31) ((gn g + 1) + 1 + 1) 31) ((gn g + 1) + 1 + 1 + 1) 31) ((gn g + 1) + 1 + 1 + 1 + 1) 31) ((gn g + 1) + 1 + 1 + 1 + 1 + 1) 31) ((gn g + 1) + 1 + 1 + 1 + 1 + 1 + 1) 66) ((gn g + 1) + 1 + 1 + 1 + 1 + 1 + 1 + 1) 3 31), (upr (up1 (up1 (up1 (up1 (up1 (up1 (gN g) ((gn g + 1)) 54) ((gn g + 1) + 1) 6) ((gn g + 1) + 1 + 1) 24) ((gn g + 1) + 1 + 1 + 1) 6) ((gn g + 1) + 1 + 1 + 1 + 1) 6) ((gn g + 1) + 1 + 1 + 1 + 1 + 1) 10) ((gn g + 1) + 1 + 1 + 1 + 1 + 1 + 1 + 1) 3 6), (up2 (up2 (up2 (up2 (up2 (up2 (up1 (up2 (up2 (up2 (up2 (up2 (up2 (gR (gob g 70)) (gn g) 5 (some ((gn g + 1)))) (gn g) 6 (some ((gn g + 1) + 1))) (gn g) 7 (some ((gn g + 1) + 1 + 1))) (gn g) 8 (some ((gn g + 1) + 1 + 1 + 1))) (gn g) 9 (some ((gn g + 1) + 1 + 1 + 1 + 1))) (gn g) 10 (some ((gn g + 1) + 1 + 1 + 1 + 1 + 1))) ((gn g + 1) + 1 + 1 + 1 + 1 + 1 + 1) (fun _ => none)) ((gn g + 1) + 1 + 1 + 1 + 1 + 1 + 1) 0 (some ((gn g + 1) + 1 + 1 + 1 + 1 + 1 + 1 + 1))) ((gn g + 1) + 1 + 1 + 1 + 1 + 1 + 1) 1 (some ((gn g + 1) + 1 + 1 + 1 + 1 + 1 + 1 + 1 + 1))) ((gn g + 1) + 1 + 1 + 1 + 1 + 1 + 1) 2 (some ((gn g + 1) + 1 + 1 + 1 + 1 + 1 + 1 + 1 + 1 + 1))) (gn g) 11 (some ((gn g + 1) + 1 + 1 + 1 + 1 + 1 + 1))) (gn g) 12 none) (gn g) 13 none), (gQ g))
def tdr (g : Sk) (t : Tb) : Tb := ((up2 (up2 (up1 (up2 (up2 (up2 (up2 (up2 (tI (tob g t)) (gn g) 0 2) (gn g) 1 0) (gn g) 2 0) (gn g) 3 0) (gn g) 4 0) ((gn g + 1) + 1 + 1 + 1 + 1 + 1 + 1) (fun _ => 0)) ((gn g + 1) + 1 + 1 + 1 + 1 + 1 + 1) 3 0) ((gn g + 1) + 1 + 1 + 1 + 1 + 1 + 1) 4 0), (upr (up1 (up1 (up1 (up1 (up1 (up1 (tA t) ((gn g + 1)) (fun _ => 0)) ((gn g + 1) + 1) (fun _ => 0)) ((gn g + 1) + 1 + 1) (fun _ => 0)) ((gn g + 1) + 1 + 1 + 1) (fun _ => 0)) ((gn g + 1) + 1 + 1 + 1 + 1) (fun _ => 0)) ((gn g + 1) + 1 + 1 + 1 + 1 + 1) (fun _ => 0)) ((gn g + 1) + 1 + 1 + 1 + 1 + 1 + 1 + 1) 3 (fun _ => 0)), (tJ t))
section XMd
variable {g g0 : Sk} {t s s' : Tb} {T : Nat → Int32} {n m : Nat}
theorem dr_mk (hn : 205 ≤ gn g) : ∃ g1 t1, F_X10_init (gn g) (nO (Em g t) 9 [.int 0, .int 0, .int 0, .int 0, .int 0, .null, .null, .null, .null, .null, .null, .null, .null, .null]) = some ((), Em g1 t1, 10, 129) ∧ (g1.1 = g.1 ∧ gn g1 = gn g + 11 ∧ (∀ b, b < gn g → gS g1 b = gS g b ∧ gN g1 b = gN g b) ∧ (∀ b k, b < gn g → gR g1 b k = gR g b k) ∧ ∀ b, gQ g1 b = gQ g b) ∧ ((∀ b k, b < gn g → tI t1 b k = tI t b k) ∧ (∀ b, b < gn g → tA t1 b = tA t b) ∧ tJ t1 = tJ t) ∧ (∀ j, 8 ≤ j → j ≤ 10 → gS g1 (gn g + j) = 31) ∧ (VaS g1 (gn g) ∧ StS g1 (gn g + 7)) ∧ (gR g1 (gn g) 12 = none ∧ gR g1 (gn g) 13 = none) ∧ (tI t1 (gn g) 1 = nI 0 ∧ tI t1 (gn g) 2 = nI 0 ∧ tI t1 (gn g) 3 = nI 0 ∧ tI t1 (gn g) 4 = nI 0) ∧ (tI t1 (gn g + 7) 3 = nI 0 ∧ tI t1 (gn g + 7) 4 = nI 0) ∧ (∀ k, tA t1 (gn g + 5) k = nI 0) ∧ ∀ k, tA t1 (gn g + 9) k = nI 0 := by
  have h := i_X10a (sc := g.1) (n := gn g + 1) (S := gS (gob g 70)) (N := gN g) (I := tI (tob g t)) (A := tA t) (J := tJ t) (R := gR (gob g 70)) (Q := gQ g) (a := gn g) (by omega) (by omega) (by rw [gob_Ss]; exact Or.inr rfl)
  have hO : nO (Em g t) 9 [.int 0, .int 0, .int 0, .int 0, .int 0, .null, .null, .null, .null, .null, .null, .null, .null, .null] = Em (gob g 70) (tob g t) := m_nO (c := 70) (by decide) (Or.inr rfl) rfl (by omega)
  rw [hO]
  refine ⟨gdr g, tdr g t, h, ⟨rfl, rfl, fun b hb => ⟨?_, ?_⟩, fun b k hb => ?_, fun _ => rfl⟩, ⟨fun b k hb => ?_, fun b hb => ?_, rfl⟩, fun j h8 h10 => show upr _ _ _ _ (gn g + j) = 31 from upr_in (by omega) (by omega), ?_⟩
  · show upr _ _ _ _ b = _
    rw [upr_out (by omega), up1_n (by omega), up1_n (by omega), up1_n (by omega), up1_n (by omega), up1_n (by omega), up1_n (by omega), up1_n (by omega), gob_S (by omega)]
  · show upr _ _ _ _ b = _
    rw [upr_out (by omega), up1_n (by omega), up1_n (by omega), up1_n (by omega), up1_n (by omega), up1_n (by omega), up1_n (by omega)]
  · show up2 _ _ _ _ b k = _
    rw [up2_a (by omega), up2_a (by omega), up2_a (by omega), up2_a (by omega), up2_a (by omega), up2_a (by omega), up1_n (by omega), up2_a (by omega), up2_a (by omega), up2_a (by omega), up2_a (by omega), up2_a (by omega), up2_a (by omega), gob_R (by omega)]
  · show up2 _ _ _ _ b k = _
    rw [up2_a (by omega), up2_a (by omega), up1_n (by omega), up2_a (by omega), up2_a (by omega), up2_a (by omega), up2_a (by omega), up2_a (by omega), tob_I (by omega)]
  · show upr _ _ _ _ b = _
    rw [upr_out (by omega), up1_n (by omega), up1_n (by omega), up1_n (by omega), up1_n (by omega), up1_n (by omega), up1_n (by omega)]
  · have hn' : 205 ≤ g.2.1 := hn
    refine ⟨⟨⟨Or.inr hn, ?_, ⟨?_, ?_, ?_, ?_, ?_, ?_, ?_⟩, ⟨?_, ?_⟩, ⟨?_, ?_⟩, ⟨?_, ?_⟩, ⟨?_, ?_⟩, ⟨?_, ?_⟩, ⟨?_, ?_⟩, ?_⟩, ⟨by omega, Or.inr ?_, ⟨?_, ?_, ?_⟩, ⟨Or.inr ?_, ?_⟩, ⟨Or.inr ?_, ?_⟩, ⟨Or.inr ?_, ?_⟩⟩⟩, ⟨?_, ?_⟩, ⟨?_, ?_, ?_, ?_⟩, ⟨?_, ?_⟩, fun k => ?_, fun k => ?_⟩
    all_goals simp only [gS, gN, gR, gn, tI, tA, gob, tob, gdr, tdr]
    all_goals repeat (first | rw [up2_a (by omega)] | rw [up2_k (by decide)] | rw [up1_n (by omega)] | rw [upr_out (by omega)] | rw [up2_s] | rw [up1_s] | rw [upr_in (by omega) (by omega)])
    all_goals first | rfl | omega | decide
def Fc (c : Nat) (s s' : Tb) : Prop := tI s' = tI s ∧ (∀ b, b ≠ c → tA s' b = tA s b) ∧ tJ s' = tJ s
theorem Fc_t {c : Nat} {s'' : Tb} (h : Fc c s s') (h2 : Fc c s' s'') : Fc c s s'' := ⟨h2.1.trans h.1, fun b q => (h2.2.1 b q).trans (h.2.1 b q), h2.2.2.trans h.2.2⟩
theorem Fc_a {c k : Nat} {x : Int32} : Fc c s (wa s c k x) := ⟨rfl, fun _ q => tA_an q, rfl⟩
theorem pl_2 {c : Nat} (hS : ∀ (s : Tb) (k : Nat) (x : Int32), k < 1229 → sI (Em g s) c (nI k) x = some (Em g (wa s c k x))) : ∀ (d i fuel : Nat) (s : Tb), i + d = 1229 → d < fuel → ∃ s', F_X12_plain_b2 fuel c (nI i) (Em g s) = (sI (Em g s') c 1 2).bind (fun h22 => F_X12_plain_b25 FU c 0 h22) ∧ Fc c s s' ∧ ∀ k, tA s' c k = if i ≤ k ∧ k < 1229 then nI 0 else tA s c k := by
  intro d
  induction d with
  | zero =>
    intro i fuel s hi hf
    obtain ⟨f, rfl⟩ : ∃ f, fuel = f + 1 := ⟨fuel - 1, by omega⟩
    have : i = 1229 := by omega
    subst this
    refine ⟨s, ?_, ⟨rfl, fun _ _ => rfl, rfl⟩, fun k => by rw [if_neg (by omega)]⟩
    rw [F_X12_plain_b2, if_pos (show (1229 : Int32) ≤ nI 1229 by decide)]
  | succ d ih =>
    intro i fuel s hi hf
    obtain ⟨f, rfl⟩ : ∃ f, fuel = f + 1 := ⟨fuel - 1, by omega⟩
    obtain ⟨s', e1, q1, r1⟩ := ih (i + 1) f (wa s c i 0) (by omega) (by omega)
    refine ⟨s', ?_, Fc_t Fc_a q1, fun k => ?_⟩
    · rw [F_X12_plain_b2, if_neg (show ¬ (1229 : Int32) ≤ nI i from show ¬ nI 1229 ≤ nI i by rw [nI_leI (by decide) (by omega)]; omega), hS _ _ _ (by omega), Option.bind_some, show nI i + 1 = nI (i + 1) from nI_add i 1]
      exact e1
    · rw [r1]
      by_cases c0 : k = i
      · subst c0
        rw [if_neg (by omega), tA_as, upd_s, if_pos (by omega)]
        rfl
      · rw [tA_as, upd_n c0]
        by_cases c2 : i + 1 ≤ k ∧ k < 1229
        · rw [if_pos c2, if_pos (by omega)]
        · rw [if_neg c2, if_neg (by omega)]
theorem pl_25 {c : Nat} (hS : ∀ (s : Tb) (k : Nat) (x : Int32), k < 1229 → sI (Em g s) c (nI k) x = some (Em g (wa s c k x))) : ∀ (d i fuel : Nat) (s : Tb), i + d = 6 → d < fuel → ∃ s', F_X12_plain_b25 fuel c (nI i) (Em g s) = some ((), Em g s') ∧ Fc c s s' ∧ ∀ k, tA s' c k = if 121 + i ≤ k ∧ k < 127 then -nI 1 else tA s c k := by
  intro d
  induction d with
  | zero =>
    intro i fuel s hi hf
    obtain ⟨f, rfl⟩ : ∃ f, fuel = f + 1 := ⟨fuel - 1, by omega⟩
    have : i = 6 := by omega
    subst this
    refine ⟨s, ?_, ⟨rfl, fun _ _ => rfl, rfl⟩, fun k => by rw [if_neg (by omega)]⟩
    rw [F_X12_plain_b25, if_pos (show (6 : Int32) ≤ nI 6 by decide)]
  | succ d ih =>
    intro i fuel s hi hf
    obtain ⟨f, rfl⟩ : ∃ f, fuel = f + 1 := ⟨fuel - 1, by omega⟩
    obtain ⟨s', e1, q1, r1⟩ := ih (i + 1) f (wa s c (121 + i) (-1)) (by omega) (by omega)
    refine ⟨s', ?_, Fc_t Fc_a q1, fun k => ?_⟩
    · rw [F_X12_plain_b25, if_neg (show ¬ (6 : Int32) ≤ nI i from show ¬ nI 6 ≤ nI i by rw [nI_leI (by decide) (by omega)]; omega), show (121 : Int32) + nI i = nI (121 + i) from nI_add 121 i, hS _ _ _ (by omega), Option.bind_some, show nI i + 1 = nI (i + 1) from nI_add i 1]
      exact e1
    · rw [r1]
      by_cases c0 : k = 121 + i
      · subst c0
        rw [if_neg (by omega), tA_as, upd_s, if_pos (by omega)]
        rfl
      · rw [tA_as, upd_n c0]
        by_cases c2 : 121 + (i + 1) ≤ k ∧ k < 127
        · rw [if_pos c2, if_pos (by omega)]
        · rw [if_neg c2, if_neg (by omega)]
def pla (k : Nat) : Int32 := if 121 ≤ k ∧ k < 127 then -nI 1 else if k = 1 then nI 2 else nI 0
theorem pl_row {c : Nat} (hS : ∀ (s : Tb) (k : Nat) (x : Int32), k < 1229 → sI (Em g s) c (nI k) x = some (Em g (wa s c k x))) : ∃ s', F_X12_plain c (Em g s) = some ((), Em g s') ∧ Fc c s s' ∧ ∀ k, k < 1229 → tA s' c k = pla k := by
  have hS1 : ∀ (s : Tb) (z : Int32), sI (Em g s) c 1 z = some (Em g (wa s c 1 z)) := fun s z => hS s 1 z (by decide)
  obtain ⟨s1, e1, q1, r1⟩ := pl_2 hS 1229 0 FU s (by omega) (by decide)
  obtain ⟨s2, e2, q2, r2⟩ := pl_25 hS 6 0 FU (wa s1 c 1 2) (by omega) (by decide)
  refine ⟨s2, ?_, Fc_t q1 (Fc_t Fc_a q2), fun k hk => ?_⟩
  · unfold F_X12_plain
    refine Eq.trans (show _ = F_X12_plain_b2 FU c (nI 0) (Em g s) from rfl) ?_
    rw [e1, hS1, Option.bind_some]
    exact e2
  · rw [r2]
    unfold pla
    by_cases c0 : 121 + 0 ≤ k ∧ k < 127
    · rw [if_pos c0, if_pos (by omega)]
    · rw [if_neg c0, if_neg (by omega), tA_as]
      by_cases c1 : k = 1
      · subst c1
        rw [upd_s, if_pos rfl]
        rfl
      · rw [upd_n c1, if_neg c1, r1, if_pos (by omega)]
theorem pl_all (X : Fx g) : ∃ s', F_X12_plain 187 (Em g s) = some ((), Em g s') ∧ Fs s s' ∧ ∀ k, k < 1229 → tA s' 187 k = pla k := pl_row (c := 187) (fun _ _ _ hk => x_s187 X hk)
end XMd
