/-! ===== sums, to the end ===== -/
def jnr (lv km : Nat) : Option Nat := if lv = 1 then (if km = 34 then some 2 else none) else (if km = 32 then some 0 else if km = 33 then some 1 else none)
def jnv (z : Option Nat) : Int32 := match z with
  | some o => nI (2006 + o)
  | none => -1
def lpS (N d lv : Nat) (fuel i : Nat) (h : xH) : Option (Unit × xH) := (rc h 70 3).bind fun _ => (F_X4_joiner 70 (nI lv) h).bind fun z => F_X4_readSum_b28 (G_X4_readSum N).2 (G_X4_readSum N).1 fuel 70 (nI d) (nI lv) z.1 (nI i) z.2
section XSv
variable {g g0 : Sk} {t t' t'' s s' s'' : Tb} {T : Nat → Int32} {n b e km f p q nc cl fr l hh hd d N M lv : Nat} {ty : Bool} {Fc Fm Fc' Fm' : xH → Option (Unit × xH)}
theorem jnr_o {o : Nat} (h : jnr lv km = some o) : km ≠ 24 ∧ o < 9 ∧ o ≠ 6 ∧ tin o = false ∧ tou o = false := by
  unfold jnr at h
  repeat' split at h
  all_goals first | cases h; refine ⟨by omega, by decide, by decide, rfl, rfl⟩ | cases h
theorem jnr_c {o : Nat} (h : jnr lv km = some o) : ccn l (3000 + o) = 2006 + o := by
  unfold jnr at h
  repeat' split at h
  all_goals first | cases h; rfl | cases h
theorem l_join (L : Lv g t g0 s T n b e km) (hv : lv < 2) : F_X4_joiner 70 (nI lv) (Em g t) = some (jnv (jnr lv km), Em g t) := by
  have X := L.1.1
  unfold F_X4_joiner
  rcases (show lv = 0 ∨ lv = 1 by omega) with rfl | rfl
  · rw [if_pos (show ¬ nI 0 = (1 : Int32) by decide), x_rc70 X, Option.bind_some, l_isAt L (a := 48) (i := 24) rfl (by decide) (by decide), Option.bind_some, x_rc70 X, Option.bind_some, l_isAt L (a := 50) (i := 25) rfl (by decide) (by decide), Option.bind_some, show kcd 24 = 32 from rfl, show kcd 25 = 33 from rfl]
    by_cases c1 : km = 32
    · subst c1; rfl
    by_cases c2 : km = 33
    · subst c2; rfl
    rw [decide_eq_false c1, decide_eq_false c2, show jnr 0 km = none by unfold jnr; rw [if_neg (by decide), if_neg c1, if_neg c2]]
    rfl
  · rw [if_neg (show ¬ ¬ nI 1 = (1 : Int32) from fun h => h rfl), x_rc70 X, Option.bind_some, l_isAt L (a := 46) (i := 23) rfl (by decide) (by decide), Option.bind_some, show kcd 23 = 34 from rfl]
    by_cases c1 : km = 34
    · subst c1; rfl
    rw [decide_eq_false c1, show jnr 1 km = none by unfold jnr; rw [if_pos rfl, if_neg c1]]
    rfl
theorem LpC_s (X : Fx g) (hv : lv < 2) : LpC l T n g g0 (jnr lv) (fun h => (G_X4_readSum N).1 70 (nI d) (nI (lv + 1)) h) (lpS N d lv) := by
  refine ⟨fun fuel i t s b e km L hj => ?_, fun fuel i t s b e km o t1 t2 t' L hi hj a1 a2 a3 => ?_, fun fuel i t f p N0 => ?_⟩
  · unfold lpS
    rw [x_rc70 X, Option.bind_some, l_join L hv, Option.bind_some, hj]
    show F_X4_readSum_b28 (G_X4_readSum N).2 (G_X4_readSum N).1 (fuel + 1) 70 (nI d) (nI lv) (-1) (nI i) (Em g t) = _
    rw [F_X4_readSum_b28, x_i70_4 X, Option.bind_some, x_i70_11 X, Option.bind_some, L.2.2.2.1.2.2, if_neg (show ¬ ¬ nI 0 = (0 : Int32) from fun h => h rfl), if_pos rfl]
    split <;> rfl
  · have hb := l_b L
    rw [jnr_c hj] at a3
    have ho := jnr_o hj
    unfold lpS
    rw [x_rc70 X, Option.bind_some, l_join L hv, Option.bind_some, hj]
    show F_X4_readSum_b28 (G_X4_readSum N).2 (G_X4_readSum N).1 (fuel + 1) 70 (nI d) (nI lv) (nI (2006 + o)) (nI i) (Em g t) = _
    have a2' : (G_X4_readSum N).1 70 (nI d) (nI (lv + 1)) (Em g t1) = some ((), Em g t2) := a2
    rw [F_X4_readSum_b28, x_i70_4 X, Option.bind_some, L.2.1.2.1, if_neg (show ¬ nI n ≤ nI i by rw [nI_leI (by omega) (by omega)]; omega), x_i70_11 X, Option.bind_some, L.2.2.2.1.2.2, if_neg (show ¬ ¬ nI 0 = (0 : Int32) from fun h => h rfl), if_neg (show ¬ nI (2006 + o) = (-1 : Int32) from nI_n1 (by omega)), x_rc70 X, Option.bind_some, a1, Option.bind_some, x_rc70 X, Option.bind_some, show nI lv + 1 = nI (lv + 1) from nI_add lv 1, a2', Option.bind_some, x_rc70 X, Option.bind_some, a3, Option.bind_some, show nI i + 1 = nI (i + 1) from nI_add i 1]
  · obtain ⟨v, e1⟩ := n_join X N0 (nI lv)
    unfold lpS
    rw [x_rc70 X, Option.bind_some, e1, Option.bind_some]
    exact n_28 X N0 (Nat.succ_pos _) _ _ _ _
theorem LpM_t (X0 : Fx g0) : LpM T n g g0 (jnr 1) (fun h => (G_X12_readAtom M).1 183 (nI d) h) (fun fuel h => F_X12_readTerm_b5 (G_X12_readAtom M).1 fuel 183 (nI d) h) := by
  refine ⟨fun fuel t s b e km L hj => ?_, fun fuel t s b e km o s1 s2 s' L hj a1 a2 a3 => ?_, fun fuel s f p q N0 => ?_⟩
  · have c : ¬ km = 34 := fun c => by subst c; cases hj
    show F_X12_readTerm_b5 (G_X12_readAtom M).1 (fuel + 1) 183 (nI d) (Em g0 s) = _
    rw [F_X12_readTerm_b5, x_rc183 X0, Option.bind_some, show (34 : Int32) = nI 34 from rfl, l_eatn L (by decide) c, Option.bind_some, if_pos rfl]
  · have c : km = 34 ∧ o = 2 := by
      unfold jnr at hj
      rw [if_pos rfl] at hj
      split at hj
      · cases hj; exact ⟨by assumption, rfl⟩
      · cases hj
    obtain ⟨c, rfl⟩ := c
    have a2' : (G_X12_readAtom M).1 183 (nI d) (Em g0 s1) = some ((), Em g0 s2) := a2
    have a3' : F_X12_codes 183 3002 (Em g0 s2) = some ((), Em g0 s') := a3
    show F_X12_readTerm_b5 (G_X12_readAtom M).1 (fuel + 1) 183 (nI d) (Em g0 s) = _
    rw [F_X12_readTerm_b5, x_rc183 X0, Option.bind_some, show (34 : Int32) = nI 34 from rfl, l_eaty L (by decide) c a1, Option.bind_some, if_neg (show ¬ (1 : Int32) = 0 by decide), x_rc183 X0, Option.bind_some, a2', Option.bind_some, x_rc183 X0, Option.bind_some, a3', Option.bind_some]
  · show F_X12_readTerm_b5 (G_X12_readAtom M).1 (fuel + 1) 183 (nI d) (Em g0 s) = _
    rw [F_X12_readTerm_b5, x_rc183 X0, Option.bind_some, show (34 : Int32) = nI 34 from rfl, n_eat X0 N0 (by decide) (by decide), Option.bind_some, if_pos rfl]
theorem LpM_s (X0 : Fx g0) : LpM T n g g0 (jnr 0) (fun h => (G_X12_readAtom M).2.1 183 (nI d) h) (fun fuel h => F_X12_readSum_b5 (G_X12_readAtom M).2.1 fuel 183 (nI d) h) := by
  refine ⟨fun fuel t s b e km L hj => ?_, fun fuel t s b e km o s1 s2 s' L hj a1 a2 a3 => ?_, fun fuel s f p q N0 => ?_⟩
  · have c : ¬ km = 32 := fun c => by subst c; cases hj
    have c2 : ¬ km = 33 := fun c => by subst c; cases hj
    show F_X12_readSum_b5 (G_X12_readAtom M).2.1 (fuel + 1) 183 (nI d) (Em g0 s) = _
    rw [F_X12_readSum_b5, x_rc183 X0, Option.bind_some, show (32 : Int32) = nI 32 from rfl, l_is L (by decide), Option.bind_some, decide_eq_false c, if_neg (show ¬ ¬ bI false = (0 : Int32) by decide), x_rc183 X0, Option.bind_some, show (33 : Int32) = nI 33 from rfl, l_is L (by decide), Option.bind_some, decide_eq_false c2, if_pos (show bI false = (0 : Int32) by decide)]
  · have a2' : (G_X12_readAtom M).2.1 183 (nI d) (Em g0 s1) = some ((), Em g0 s2) := a2
    have m9 : tI s 183 9 = nI km := L.2.2.2.2.1.2.2.1
    show F_X12_readSum_b5 (G_X12_readAtom M).2.1 (fuel + 1) 183 (nI d) (Em g0 s) = _
    have c : (km = 32 ∧ o = 0) ∨ (km = 33 ∧ o = 1) := by
      unfold jnr at hj
      rw [if_neg (by decide)] at hj
      repeat' split at hj
      · cases hj; exact Or.inl ⟨by assumption, rfl⟩
      · cases hj; exact Or.inr ⟨by assumption, rfl⟩
      · cases hj
    have e41 : F_X12_readSum_b41 (G_X12_readAtom M).2.1 (F_X12_readSum_b5 (G_X12_readAtom M).2.1 fuel) 183 (nI d) (nI (3000 + o)) (Em g0 s) = F_X12_readSum_b5 (G_X12_readAtom M).2.1 fuel 183 (nI d) (Em g0 s') := by
      unfold F_X12_readSum_b41
      rw [x_rc183 X0, Option.bind_some, a1, Option.bind_some, x_rc183 X0, Option.bind_some, a2', Option.bind_some, x_rc183 X0, Option.bind_some, a3, Option.bind_some]
    rcases c with ⟨c, rfl⟩ | ⟨c, rfl⟩
    · have e23 : F_X12_readSum_b23 (G_X12_readAtom M).2.1 (F_X12_readSum_b5 (G_X12_readAtom M).2.1 fuel) 183 (nI d) (Em g0 s) = F_X12_readSum_b5 (G_X12_readAtom M).2.1 fuel 183 (nI d) (Em g0 s') := by
        unfold F_X12_readSum_b23
        rw [x_i183_9 X0, Option.bind_some, m9, if_neg (show ¬ ¬ nI km = (32 : Int32) from fun h => h (by rw [c]; rfl))]
        exact e41
      rw [F_X12_readSum_b5, x_rc183 X0, Option.bind_some, show (32 : Int32) = nI 32 from rfl, l_is L (by decide), Option.bind_some, decide_eq_true c, if_pos (show ¬ bI true = (0 : Int32) by decide)]
      exact e23
    · have e23 : F_X12_readSum_b23 (G_X12_readAtom M).2.1 (F_X12_readSum_b5 (G_X12_readAtom M).2.1 fuel) 183 (nI d) (Em g0 s) = F_X12_readSum_b5 (G_X12_readAtom M).2.1 fuel 183 (nI d) (Em g0 s') := by
        unfold F_X12_readSum_b23
        rw [x_i183_9 X0, Option.bind_some, m9, if_pos (show ¬ nI km = (32 : Int32) by rw [c]; decide)]
        exact e41
      rw [F_X12_readSum_b5, x_rc183 X0, Option.bind_some, show (32 : Int32) = nI 32 from rfl, l_is L (by decide), Option.bind_some, decide_eq_false (by omega), if_neg (show ¬ ¬ bI false = (0 : Int32) by decide), x_rc183 X0, Option.bind_some, show (33 : Int32) = nI 33 from rfl, l_is L (by decide), Option.bind_some, decide_eq_true c, if_neg (show ¬ bI true = (0 : Int32) by decide)]
      exact e23
  · show F_X12_readSum_b5 (G_X12_readAtom M).2.1 (fuel + 1) 183 (nI d) (Em g0 s) = _
    rw [F_X12_readSum_b5, x_rc183 X0, Option.bind_some, show (32 : Int32) = nI 32 from rfl, n_is X0 N0 (by decide) (by decide), Option.bind_some, if_neg (show ¬ ¬ bI false = (0 : Int32) by decide), x_rc183 X0, Option.bind_some, show (33 : Int32) = nI 33 from rfl, n_is X0 N0 (by decide) (by decide), Option.bind_some, if_pos (show bI false = (0 : Int32) by decide)]
theorem Ex_c (h1 : ∀ t t', Fc (Em g t) = some ((), Em g t') → Fc' (Em g t) = some ((), Em g t')) (h2 : ∀ s s', Fm (Em g0 s) = some ((), Em g0 s') → Fm' (Em g0 s) = some ((), Em g0 s')) (E : Ex l fr T n g g0 Fc Fm ty hh) : Ex l fr T n g g0 Fc' Fm' ty hh := fun t s b e km cl nc L D hnc => by
  obtain ⟨t', s', e1, e2, r⟩ := E t s b e km cl nc L D hnc
  exact ⟨t', s', h1 t t' e1, h2 s s' e2, r⟩
theorem Ex_st (X : Fx g) (X0 : Fx g0) {k : Nat} (A : ∀ N M, 4 * k ≤ N → 3 * k ≤ M → Ex l fr T n g g0 (fun h => (G_X4_readSum (N + 1)).2 70 (nI d) h) (fun h => (G_X12_readAtom (M + 1)).1 183 (nI d) h) false (1 + 2 * k)) : ∀ N M, 4 * k + 4 ≤ N → 3 * k + 3 ≤ M → Ex l fr T n g g0 (fun h => (G_X4_readSum N).1 70 (nI d) (nI 0) h) (fun h => (G_X12_readAtom M).2.2 183 (nI d) h) false (3 + 2 * k) := by
  intro N M hN hM
  obtain ⟨N, rfl⟩ : ∃ z, N = z + 4 := ⟨N - 4, by omega⟩
  obtain ⟨M, rfl⟩ : ∃ z, M = z + 3 := ⟨M - 3, by omega⟩
  have E2 : Ex l fr T n g g0 (fun h => (G_X4_readSum (N + 2)).1 70 (nI d) (nI (1 + 1)) h) (fun h => (G_X12_readAtom (M + 1)).1 183 (nI d) h) false (1 + 2 * k) := Ex_c (fun t t' e1 => by
    have e1' : (G_X4_readSum (N + 1)).2 70 (nI d) (Em g t) = some ((), Em g t') := e1
    show F_X4_readSum (G_X4_readSum (N + 1)).2 (G_X4_readSum (N + 1)).1 70 (nI d) (nI 2) (Em g t) = _
    unfold F_X4_readSum
    rw [if_neg (show ¬ nI 2 ≤ (1 : Int32) by decide), x_rc70 X, Option.bind_some, e1', Option.bind_some]) (fun s s' e => e) (A N M (by omega) (by omega))
  have E1 : Ex l fr T n g g0 (fun h => (G_X4_readSum (N + 3)).1 70 (nI d) (nI (0 + 1)) h) (fun h => (G_X12_readAtom (M + 2)).2.1 183 (nI d) h) false (2 + 2 * k) := by
    refine Ex_lp (LpC_s X (by decide)) (LpM_t X0) E2 (n_rsumc X 2 (N + 2) (by omega) (by omega)) (n_ratomm X0 (fun _ => trivial)) (fun k o h => jnr_o h) (by omega) (fun t t1 e => ?_) (fun s s1 e => ?_)
    · have e' : (G_X4_readSum (N + 2)).1 70 (nI d) (nI 2) (Em g t) = some ((), Em g t1) := e
      show F_X4_readSum (G_X4_readSum (N + 2)).2 (G_X4_readSum (N + 2)).1 70 (nI d) (nI 1) (Em g t) = _
      unfold F_X4_readSum
      rw [if_pos (show nI 1 ≤ (1 : Int32) by decide), x_rc70 X, Option.bind_some, show nI 1 + 1 = nI 2 from rfl, e', Option.bind_some]
      rfl
    · have e' : (G_X12_readAtom (M + 1)).1 183 (nI d) (Em g0 s) = some ((), Em g0 s1) := e
      show F_X12_readTerm (G_X12_readAtom (M + 1)).1 183 (nI d) (Em g0 s) = _
      unfold F_X12_readTerm
      rw [x_rc183 X0, Option.bind_some, e', Option.bind_some]
  refine Ex_lp (LpC_s X (by decide)) (LpM_s X0) E1 (n_rsumc X 1 (N + 3) (by omega) (by omega)) (n_rtermm X0) (fun k o h => jnr_o h) (by omega) (fun t t1 e => ?_) (fun s s1 e => ?_)
  · have e' : (G_X4_readSum (N + 3)).1 70 (nI d) (nI 1) (Em g t) = some ((), Em g t1) := e
    show F_X4_readSum (G_X4_readSum (N + 3)).2 (G_X4_readSum (N + 3)).1 70 (nI d) (nI 0) (Em g t) = _
    unfold F_X4_readSum
    rw [if_pos (show nI 0 ≤ (1 : Int32) by decide), x_rc70 X, Option.bind_some, show nI 0 + 1 = nI 1 from rfl, e', Option.bind_some]
    rfl
  · have e' : (G_X12_readAtom (M + 2)).2.1 183 (nI d) (Em g0 s) = some ((), Em g0 s1) := e
    show F_X12_readSum (G_X12_readAtom (M + 2)).2.1 183 (nI d) (Em g0 s) = _
    unfold F_X12_readSum
    rw [x_rc183 X0, Option.bind_some, e', Option.bind_some]
/-- a sum at depth d, both readers -/
theorem Ex_sum (X : Fx g) (X0 : Fx g0) (hl : l < 2) : ∀ (k d : Nat), d + k = 6 → ∀ (N M : Nat), 4 * k + 4 ≤ N → 3 * k + 3 ≤ M → Ex l fr T n g g0 (fun h => (G_X4_readSum N).1 70 (nI d) (nI 0) h) (fun h => (G_X12_readAtom M).2.2 183 (nI d) h) false (3 + 2 * k) := by
  intro k
  induction k with
  | zero =>
    intro d hk N M hN hM
    exact Ex_st X X0 (fun N' M' _ _ => Ex_atom hl (by omega) (by omega) (fun h => absurd h (by omega))) N M hN hM
  | succ k ih =>
    intro d hk N M hN hM
    exact Ex_st X X0 (fun N' M' hN' hM' => Ex_atom hl (by omega) (by omega) (fun h => ⟨by omega, by omega, by
      have := ih (d + 1) (by omega) N' M' (by omega) (by omega)
      rw [show 1 + 2 * (k + 1) = 3 + 2 * k by omega]
      exact this⟩)) N M hN hM
end XSv
