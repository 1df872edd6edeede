/-! ===== truths of laws, side by side ===== -/
def jnt (lv km : Nat) : Option Nat := if lv = 1 then (if km = 16 then some 7 else none) else (if km = 17 then some 8 else none)
def cmv (km : Nat) : Option Nat := if km = 39 then some 3 else if km = 40 then some 4 else if km = 41 then some 5 else none
def cmw (z : Option Nat) : Int32 := match z with
  | some o => nI (2000 + o)
  | none => -1
section XTr
variable {g g0 : Sk} {t t' t'' s s' s'' : Tb} {T : Nat → Int32} {n b e km f p q nc cl fr l hh hd d N M lv : Nat} {ty : Bool} {Fc Fm Fc' Fm' : xH → Option (Unit × xH)}
theorem jnt_o {o : Nat} (h : jnt lv km = some o) : km ≠ 24 ∧ o < 9 ∧ o ≠ 6 ∧ tin o = true ∧ tou o = true := by
  unfold jnt at h
  repeat' split at h
  all_goals first | cases h; refine ⟨by omega, by decide, by decide, rfl, rfl⟩ | cases h
theorem cmv_o {o : Nat} (h : cmv km = some o) : km ≠ 24 ∧ o < 9 ∧ o ≠ 6 ∧ tin o = false ∧ tou o = true ∧ ccn l (3000 + o) = 2000 + o := by
  unfold cmv at h
  repeat' split at h
  all_goals first | cases h; refine ⟨by omega, by decide, by decide, rfl, rfl, rfl⟩ | cases h
theorem l_comp (L : Lv g t g0 s T n b e km) : F_X4_comparison 70 (Em g t) = some (cmw (cmv km), Em g t) := by
  have X := L.1.1
  unfold F_X4_comparison
  rw [x_rc70 X, Option.bind_some, l_isAt L (a := 52) (i := 26) rfl (by decide) (by decide), Option.bind_some, x_rc70 X, Option.bind_some, l_isAt L (a := 54) (i := 27) rfl (by decide) (by decide), Option.bind_some, x_rc70 X, Option.bind_some, l_isAt L (a := 56) (i := 28) rfl (by decide) (by decide), Option.bind_some, show kcd 26 = 39 from rfl, show kcd 27 = 40 from rfl, show kcd 28 = 41 from rfl]
  by_cases c1 : km = 39
  · subst c1; rfl
  by_cases c2 : km = 40
  · subst c2; rfl
  by_cases c3 : km = 41
  · subst c3; rfl
  rw [decide_eq_false c1, decide_eq_false c2, decide_eq_false c3, show cmv km = none by unfold cmv; rw [if_neg c1, if_neg c2, if_neg c3]]
  rfl
theorem n_comp (X : Fx g) (N0 : Nc t T n f p) : ∃ v, F_X4_comparison 70 (Em g t) = some (v, Em g t) := by
  obtain ⟨v1, e1⟩ := n_isAt X N0 (a := 52) (i := 26) rfl (by decide)
  obtain ⟨v2, e2⟩ := n_isAt X N0 (a := 54) (i := 27) rfl (by decide)
  obtain ⟨v3, e3⟩ := n_isAt X N0 (a := 56) (i := 28) rfl (by decide)
  unfold F_X4_comparison
  rw [x_rc70 X, Option.bind_some, e1, Option.bind_some, x_rc70 X, Option.bind_some, e2, Option.bind_some, x_rc70 X, Option.bind_some, e3, Option.bind_some]
  repeat' split
  all_goals exact ⟨_, rfl⟩
theorem n_39 (X : Fx g) (N0 : Nc t T n f p) {fU : Nat → Int32 → xH → Option (Unit × xH)} {fT : Nat → Int32 → Int32 → xH → Option (Unit × xH)} {x : Int32} : F_X4_readUnit_b39 fU fT 70 x (Em g t) = some ((), Em g t) := by
  unfold F_X4_readUnit_b39
  rw [x_i70_11 X, Option.bind_some, N0.2.2.1, if_neg (show ¬ nI f = (0 : Int32) from f_nz N0.2.1)]
theorem n_runitc (X : Fx g) {N : Nat} {d : Int32} : ENc T n g (fun h => (G_X4_readTruth (N + 1)).2 70 d h) := fun t f p N0 => by
  obtain ⟨v1, e1⟩ := n_isAt X N0 (a := 26) (i := 13) rfl (by decide)
  obtain ⟨v2, e2⟩ := n_isAt X N0 (a := 28) (i := 14) rfl (by decide)
  have e23 : ∀ z, F_X4_readUnit_b23 (G_X4_readTruth N).2 (G_X4_readTruth N).1 70 d z (Em g t) = some ((), Em g t) := fun z => by
    unfold F_X4_readUnit_b23
    rw [n_39 X N0, x_rc70 X, Option.bind_some, n_failc X N0, Option.bind_some, n_39 X N0]
    split
    · rfl
    · split <;> rfl
  show F_X4_readUnit (G_X4_readTruth N).2 (G_X4_readTruth N).1 70 d (Em g t) = _
  unfold F_X4_readUnit
  rw [x_rc70 X, Option.bind_some, e1, Option.bind_some, e23, x_rc70 X, Option.bind_some, e2, Option.bind_some, e23, e23]
  split
  · rfl
  · split <;> rfl
theorem n_34 (X : Fx g) (N0 : Nc t T n f p) {fU : Nat → Int32 → xH → Option (Unit × xH)} {fT : Nat → Int32 → Int32 → xH → Option (Unit × xH)} {fuel : Nat} (hf : 0 < fuel) (x1 x2 : Int32) (x3 : Nat) (x4 : Int32) : F_X4_readTruth_b34 fU fT fuel 70 x1 x2 x3 x4 (Em g t) = some ((), Em g t) := by
  obtain ⟨k, rfl⟩ : ∃ k, fuel = k + 1 := ⟨fuel - 1, by omega⟩
  rw [F_X4_readTruth_b34, x_i70_4 X, Option.bind_some, x_i70_11 X, Option.bind_some, N0.2.2.1, if_pos (show ¬ nI f = (0 : Int32) from f_nz N0.2.1)]
  split <;> rfl
theorem n_rtruthc (X : Fx g) {d : Int32} : ∀ (lv N : Nat), lv ≤ 2 → 4 - lv ≤ N → ENc T n g (fun h => (G_X4_readTruth N).1 70 d (nI lv) h) := by
  have base : ∀ N, 2 ≤ N → ENc T n g (fun h => (G_X4_readTruth N).1 70 d (nI 2) h) := fun N hN t f p N0 => by
    obtain ⟨k, rfl⟩ : ∃ k, N = k + 2 := ⟨N - 2, by omega⟩
    have e1 : (G_X4_readTruth (k + 1)).2 70 d (Em g t) = some ((), Em g t) := n_runitc X t f p N0
    show F_X4_readTruth (G_X4_readTruth (k + 1)).2 (G_X4_readTruth (k + 1)).1 70 d (nI 2) (Em g t) = _
    unfold F_X4_readTruth
    rw [if_neg (show ¬ nI 2 ≤ (1 : Int32) by decide), x_rc70 X, Option.bind_some, e1, Option.bind_some]
  have step : ∀ lv N, lv ≤ 1 → 1 ≤ N → ENc T n g (fun h => (G_X4_readTruth (N - 1)).1 70 d (nI (lv + 1)) h) → ENc T n g (fun h => (G_X4_readTruth N).1 70 d (nI lv) h) := fun lv N hlv hN ih t f p N0 => by
    obtain ⟨k, rfl⟩ : ∃ k, N = k + 1 := ⟨N - 1, by omega⟩
    have e1 : (G_X4_readTruth k).1 70 d (nI (lv + 1)) (Em g t) = some ((), Em g t) := ih t f p N0
    have e22 : ∀ a, F_X4_readTruth_b22 (G_X4_readTruth k).2 (G_X4_readTruth k).1 70 d (nI lv) a (Em g t) = some ((), Em g t) := fun a => by
      unfold F_X4_readTruth_b22
      rw [x_rc70 X, Option.bind_some, show nI lv + 1 = nI (lv + 1) from nI_add lv 1, e1, Option.bind_some]
      exact n_34 X N0 (by decide) _ _ _ _
    show F_X4_readTruth (G_X4_readTruth k).2 (G_X4_readTruth k).1 70 d (nI lv) (Em g t) = _
    unfold F_X4_readTruth
    rw [if_pos (show nI lv ≤ (1 : Int32) from show nI lv ≤ nI 1 by rw [nI_leI (by omega) (by decide)]; exact hlv), e22, e22]
    split <;> rfl
  intro lv N hlv hN
  rcases (show lv = 0 ∨ lv = 1 ∨ lv = 2 by omega) with rfl | rfl | rfl
  · exact step 0 N (by omega) (by omega) (step 1 (N - 1) (by omega) (by omega) (base (N - 1 - 1) (by omega)))
  · exact step 1 N (by omega) (by omega) (base (N - 1) (by omega))
  · exact base N (by omega)
theorem n_111 (X : Fx g0) (N0 : Nm s T n f p q) {fU fT : Nat → Int32 → xH → Option (Unit × xH)} {d : Int32} (c : Int32) : ∃ s', F_X12_readUnit_b111 fU fT 183 d c (Em g0 s) = some ((), Em g0 s') ∧ Km s s' ∧ Dd s' T n f p := by
  obtain ⟨s1, e1, q1, d1⟩ := n_fails X N0 2
  obtain ⟨s2, e2, K2, d2⟩ := n_rsumm X (M := 97) (d := d) s1 f p 0 (Or.inl d1)
  have e2' : C_X12_readSum 100 183 d (Em g0 s1) = some ((), Em g0 s2) := e2
  have e3 : F_X12_codes 183 c (Em g0 s2) = some ((), Em g0 s2) := by
    unfold F_X12_codes
    rw [x_i183_11 X, Option.bind_some, d2.2.2.1, if_neg (show ¬ nI f = (0 : Int32) from f_nz d2.2.1)]
  refine ⟨s2, ?_, Km_t (Km_q (by decide) q1) K2, d2⟩
  unfold F_X12_readUnit_b111
  rw [x_rc183 X, Option.bind_some, show (39 : Int32) = nI 39 from rfl, n_is X N0 (by decide) (by decide), Option.bind_some, if_neg (show ¬ ¬ bI false = (0 : Int32) by decide), x_rc183 X, Option.bind_some, show (40 : Int32) = nI 40 from rfl, n_is X N0 (by decide) (by decide), Option.bind_some, if_neg (show ¬ ¬ bI false = (0 : Int32) by decide), x_rc183 X, Option.bind_some, show (41 : Int32) = nI 41 from rfl, n_is X N0 (by decide) (by decide), Option.bind_some, if_pos (show bI false = (0 : Int32) by decide), x_rc183 X, Option.bind_some, e1, Option.bind_some]
  unfold F_X12_readUnit_b151
  rw [x_rc183 X, Option.bind_some, e2', Option.bind_some, x_rc183 X, Option.bind_some, e3, Option.bind_some]
theorem n_runitm (X : Fx g0) {M : Nat} {d : Int32} : ENm T n g0 (fun h => (G_X12_readUnit (M + 1)).1 183 d h) := fun s f p q N0 => by
  obtain ⟨s1, e1, K1, d1⟩ := n_rsumm X (M := 97) (d := d) s f p q N0
  have e1' : C_X12_readSum 100 183 d (Em g0 s) = some ((), Em g0 s1) := e1
  have N1 : Nm s1 T n f p 0 := Or.inl d1
  obtain ⟨s2, e2, K2, d2⟩ := n_111 X N1 (fU := (G_X12_readUnit M).1) (fT := (G_X12_readUnit M).2.2) (d := d) 3005
  refine ⟨s2, ?_, Km_t K1 K2, d2⟩
  show F_X12_readUnit (G_X12_readUnit M).1 (G_X12_readUnit M).2.2 183 d (Em g0 s) = _
  unfold F_X12_readUnit
  rw [x_rc183 X, Option.bind_some, show (18 : Int32) = nI 18 from rfl, n_is X N0 (by decide) (by decide), Option.bind_some, if_pos (show bI false = (0 : Int32) by decide), x_rc183 X, Option.bind_some, show (37 : Int32) = nI 37 from rfl, n_is X N0 (by decide) (by decide), Option.bind_some, if_pos (show bI false = (0 : Int32) by decide), x_rc183 X, Option.bind_some, e1', Option.bind_some, x_rc183 X, Option.bind_some, show (39 : Int32) = nI 39 from rfl, n_is X N1 (by decide) (by decide), Option.bind_some, if_pos (show bI false = (0 : Int32) by decide), x_rc183 X, Option.bind_some, show (40 : Int32) = nI 40 from rfl, n_is X N1 (by decide) (by decide), Option.bind_some, if_pos (show bI false = (0 : Int32) by decide)]
  exact e2
theorem n_rbothm (X : Fx g0) {M : Nat} {d : Int32} : ENm T n g0 (fun h => (G_X12_readUnit (M + 2)).2.1 183 d h) := fun s f p q N0 => by
  obtain ⟨s', e1, q1, d1⟩ := n_runitm X (M := M) (d := d) s f p q N0
  have e1' : (G_X12_readUnit (M + 1)).1 183 d (Em g0 s) = some ((), Em g0 s') := e1
  refine ⟨s', ?_, q1, d1⟩
  show F_X12_readBoth (G_X12_readUnit (M + 1)).1 183 d (Em g0 s) = _
  unfold F_X12_readBoth
  rw [x_rc183 X, Option.bind_some, e1', Option.bind_some]
  show F_X12_readBoth_b5 (G_X12_readUnit (M + 1)).1 (999999 + 1) 183 d (Em g0 s') = _
  rw [F_X12_readBoth_b5, x_rc183 X, Option.bind_some, show (16 : Int32) = nI 16 from rfl, n_eat X (Dd_n (q := 0) d1) (by decide) (by decide), Option.bind_some, if_pos rfl]
theorem n_rtruthm (X : Fx g0) {M : Nat} {d : Int32} : ENm T n g0 (fun h => (G_X12_readUnit (M + 3)).2.2 183 d h) := fun s f p q N0 => by
  obtain ⟨s', e1, q1, d1⟩ := n_rbothm X (M := M) (d := d) s f p q N0
  have e1' : (G_X12_readUnit (M + 2)).2.1 183 d (Em g0 s) = some ((), Em g0 s') := e1
  refine ⟨s', ?_, q1, d1⟩
  show F_X12_readTruth (G_X12_readUnit (M + 2)).2.1 183 d (Em g0 s) = _
  unfold F_X12_readTruth
  rw [x_rc183 X, Option.bind_some, e1', Option.bind_some]
  show F_X12_readTruth_b5 (G_X12_readUnit (M + 2)).2.1 (999999 + 1) 183 d (Em g0 s') = _
  rw [F_X12_readTruth_b5, x_rc183 X, Option.bind_some, show (17 : Int32) = nI 17 from rfl, n_eat X (Dd_n (q := 0) d1) (by decide) (by decide), Option.bind_some, if_pos rfl]
/-! loops -/
def lpT (N d lv : Nat) (fuel i : Nat) (h : xH) : Option (Unit × xH) := F_X4_readTruth_b34 (G_X4_readTruth N).2 (G_X4_readTruth N).1 fuel 70 (nI d) (nI lv) (58 + 2 * lv) (nI i) h
theorem l_34 (L : Lv g t g0 s T n b e km) (hv : lv < 2) : ∃ k, F_X4_isAt 70 (58 + 2 * lv) (Em g t) = some (bI (decide (km = k)), Em g t) ∧ k = 17 - lv := by
  rcases (show lv = 0 ∨ lv = 1 by omega) with rfl | rfl
  · exact ⟨17, l_isAt L (a := 58) (i := 29) rfl (by decide) (by decide), rfl⟩
  · exact ⟨16, l_isAt L (a := 60) (i := 30) rfl (by decide) (by decide), rfl⟩
theorem jnt_k (hv : lv < 2) : jnt lv km = if km = 17 - lv then some (8 - lv) else none := by
  unfold jnt
  rcases (show lv = 0 ∨ lv = 1 by omega) with rfl | rfl
  · rw [if_neg (by decide)]
  · rw [if_pos rfl]
theorem LpC_t (X : Fx g) (hv : lv < 2) : LpC l T n g g0 (jnt lv) (fun h => (G_X4_readTruth N).1 70 (nI d) (nI (lv + 1)) h) (lpT N d lv) := by
  refine ⟨fun fuel i t s b e km L hj => ?_, fun fuel i t s b e km o t1 t2 t' L hi hj a1 a2 a3 => ?_, fun fuel i t f p N0 => ?_⟩
  · obtain ⟨k, ek, hk⟩ := l_34 L hv
    rw [jnt_k hv] at hj
    have c : ¬ km = k := fun c => by rw [if_pos (by omega)] at hj; cases hj
    unfold lpT
    rw [F_X4_readTruth_b34, x_i70_4 X, Option.bind_some, x_i70_11 X, Option.bind_some, L.2.2.2.1.2.2, if_neg (show ¬ ¬ nI 0 = (0 : Int32) from fun h => h rfl), x_rc70 X, Option.bind_some, ek, Option.bind_some, decide_eq_false c, if_pos (show bI false = (0 : Int32) by decide)]
    split <;> rfl
  · obtain ⟨k, ek, hk⟩ := l_34 L hv
    have hb := l_b L
    rw [jnt_k hv] at hj
    by_cases c : km = k
    · rw [if_pos (by omega)] at hj
      have ho : o = 8 - lv := by cases hj; rfl
      have a2' : (G_X4_readTruth N).1 70 (nI d) (nI (lv + 1)) (Em g t1) = some ((), Em g t2) := a2
      unfold lpT
      rw [F_X4_readTruth_b34, x_i70_4 X, Option.bind_some, L.2.1.2.1, if_neg (show ¬ nI n ≤ nI i by rw [nI_leI (by omega) (by omega)]; omega), x_i70_11 X, Option.bind_some, L.2.2.2.1.2.2, if_neg (show ¬ ¬ nI 0 = (0 : Int32) from fun h => h rfl), x_rc70 X, Option.bind_some, ek, Option.bind_some, decide_eq_true c, if_neg (show ¬ bI true = (0 : Int32) by decide), x_rc70 X, Option.bind_some, a1, Option.bind_some, x_rc70 X, Option.bind_some, show nI lv + 1 = nI (lv + 1) from nI_add lv 1, a2', Option.bind_some]
      unfold F_X4_readTruth_b84
      rw [x_rc70 X, Option.bind_some, Option.bind_some, show nI i + 1 = nI (i + 1) from nI_add i 1]
      rcases (show lv = 0 ∨ lv = 1 by omega) with rfl | rfl
      · subst ho
        have a3' : F_X4_emit 70 2002 (Em g t2) = some ((), Em g t') := a3
        rw [if_neg (show ¬ ¬ nI 0 = (0 : Int32) from fun h => h rfl), a3', Option.bind_some]
      · subst ho
        have a3' : F_X4_emit 70 2001 (Em g t2) = some ((), Em g t') := a3
        rw [if_pos (show ¬ nI 1 = (0 : Int32) by decide), a3', Option.bind_some]
    · rw [if_neg (by omega)] at hj
      cases hj
  · exact n_34 X N0 (Nat.succ_pos _) _ _ _ _
theorem LpM_b (X0 : Fx g0) : LpM T n g g0 (jnt 1) (fun h => (G_X12_readUnit M).1 183 (nI d) h) (fun fuel h => F_X12_readBoth_b5 (G_X12_readUnit M).1 fuel 183 (nI d) h) := by
  refine ⟨fun fuel t s b e km L hj => ?_, fun fuel t s b e km o s1 s2 s' L hj a1 a2 a3 => ?_, fun fuel s f p q N0 => ?_⟩
  · have c : ¬ km = 16 := fun c => by subst c; cases hj
    show F_X12_readBoth_b5 (G_X12_readUnit M).1 (fuel + 1) 183 (nI d) (Em g0 s) = _
    rw [F_X12_readBoth_b5, x_rc183 X0, Option.bind_some, show (16 : Int32) = nI 16 from rfl, l_eatn L (by decide) c, Option.bind_some, if_pos rfl]
  · have c : km = 16 ∧ o = 7 := by
      unfold jnt at hj
      rw [if_pos rfl] at hj
      split at hj
      · cases hj; exact ⟨by assumption, rfl⟩
      · cases hj
    obtain ⟨c, rfl⟩ := c
    have a2' : (G_X12_readUnit M).1 183 (nI d) (Em g0 s1) = some ((), Em g0 s2) := a2
    have a3' : F_X12_codes 183 3007 (Em g0 s2) = some ((), Em g0 s') := a3
    show F_X12_readBoth_b5 (G_X12_readUnit M).1 (fuel + 1) 183 (nI d) (Em g0 s) = _
    rw [F_X12_readBoth_b5, x_rc183 X0, Option.bind_some, show (16 : Int32) = nI 16 from rfl, l_eaty L (by decide) c a1, Option.bind_some, if_neg (show ¬ (1 : Int32) = 0 by decide), x_rc183 X0, Option.bind_some, a2', Option.bind_some, x_rc183 X0, Option.bind_some, a3', Option.bind_some]
  · show F_X12_readBoth_b5 (G_X12_readUnit M).1 (fuel + 1) 183 (nI d) (Em g0 s) = _
    rw [F_X12_readBoth_b5, x_rc183 X0, Option.bind_some, show (16 : Int32) = nI 16 from rfl, n_eat X0 N0 (by decide) (by decide), Option.bind_some, if_pos rfl]
theorem LpM_u (X0 : Fx g0) : LpM T n g g0 (jnt 0) (fun h => (G_X12_readUnit M).2.1 183 (nI d) h) (fun fuel h => F_X12_readTruth_b5 (G_X12_readUnit M).2.1 fuel 183 (nI d) h) := by
  refine ⟨fun fuel t s b e km L hj => ?_, fun fuel t s b e km o s1 s2 s' L hj a1 a2 a3 => ?_, fun fuel s f p q N0 => ?_⟩
  · have c : ¬ km = 17 := fun c => by subst c; cases hj
    show F_X12_readTruth_b5 (G_X12_readUnit M).2.1 (fuel + 1) 183 (nI d) (Em g0 s) = _
    rw [F_X12_readTruth_b5, x_rc183 X0, Option.bind_some, show (17 : Int32) = nI 17 from rfl, l_eatn L (by decide) c, Option.bind_some, if_pos rfl]
  · have c : km = 17 ∧ o = 8 := by
      unfold jnt at hj
      rw [if_neg (by decide)] at hj
      split at hj
      · cases hj; exact ⟨by assumption, rfl⟩
      · cases hj
    obtain ⟨c, rfl⟩ := c
    have a2' : (G_X12_readUnit M).2.1 183 (nI d) (Em g0 s1) = some ((), Em g0 s2) := a2
    have a3' : F_X12_codes 183 3008 (Em g0 s2) = some ((), Em g0 s') := a3
    show F_X12_readTruth_b5 (G_X12_readUnit M).2.1 (fuel + 1) 183 (nI d) (Em g0 s) = _
    rw [F_X12_readTruth_b5, x_rc183 X0, Option.bind_some, show (17 : Int32) = nI 17 from rfl, l_eaty L (by decide) c a1, Option.bind_some, if_neg (show ¬ (1 : Int32) = 0 by decide), x_rc183 X0, Option.bind_some, a2', Option.bind_some, x_rc183 X0, Option.bind_some, a3', Option.bind_some]
  · show F_X12_readTruth_b5 (G_X12_readUnit M).2.1 (fuel + 1) 183 (nI d) (Em g0 s) = _
    rw [F_X12_readTruth_b5, x_rc183 X0, Option.bind_some, show (17 : Int32) = nI 17 from rfl, n_eat X0 N0 (by decide) (by decide), Option.bind_some, if_pos rfl]
end XTr
