/-! ===== laws: numbers, words, brackets ===== -/
def wdx (l km : Nat) : Option Nat := if l = 0 then (if km = 11 then some 0 else if km = 12 then some 1 else if km = 6 then some 2 else if km = 7 then some 3 else if km = 8 then some 4 else none) else (if km = 13 then some 5 else if km = 14 then some 6 else if km = 15 then some 7 else none)
def wdc (l km : Nat) : Int32 := match wdx l km with
  | some w => nI (if l = 0 then w else w - 5)
  | none => -1
def wdm (l km : Nat) : Int32 := match wdx l km with
  | some w => nI w
  | none => -1
theorem sgt_m {l : Nat} {A : List Int32} {ty : Bool} {h h' : Nat} (hh : h ≤ h') (s : sgt l A ty h) : sgt l A ty h' := fun tys rest q r => s tys rest (by omega) r
theorem sgt_n {l m : Nat} (hm : m < 1000) : sgt l [nI m] false 1 := fun tys rest q r => Or.inl ⟨m, hm, rfl, by omega, r⟩
theorem sgt_w {l w : Nat} (hw : wok l w) : sgt l [nI (1000 + w)] false 1 := fun tys rest q r => Or.inr (Or.inl ⟨w, hw, rfl, by omega, r⟩)
theorem sgt_b {l o : Nat} {A B : List Int32} {h h2 : Nat} (ho : o < 9) (h6 : o ≠ 6) (a : sgt l A (tin o) h) (b : sgt l B (tin o) h2) (hh : h2 + 1 ≤ h) : sgt l (A ++ (B ++ [nI (3000 + o)])) (tou o) h := fun tys rest q r => by
  rw [List.append_assoc, List.append_assoc]
  refine a tys _ q (b (tin o :: tys) _ (by rw [List.length_cons]; omega) ?_)
  exact Or.inr (Or.inr (Or.inr ⟨o, tys, ho, h6, rfl, rfl, r⟩))
theorem sgt_not {l : Nat} {A : List Int32} {h : Nat} (a : sgt l A true h) : sgt l (A ++ [nI 3006]) true h := fun tys rest q r => by
  rw [List.append_assoc]
  exact a tys _ q (Or.inr (Or.inr (Or.inl ⟨rfl, tys, rfl, r⟩)))
/-- a piece of a law, read by both -/
def Ex (l fr : Nat) (T : Nat → Int32) (n : Nat) (g g0 : Sk) (Fc Fm : xH → Option (Unit × xH)) (ty : Bool) (hh : Nat) : Prop := ∀ (t s : Tb) (b e km cl nc : Nat), Lv g t g0 s T n b e km → CD l t s cl nc fr → nc ≤ b → ∃ t' s', Fc (Em g t) = some ((), Em g t') ∧ Fm (Em g0 s) = some ((), Em g0 s') ∧ Kc t t' ∧ Km s s' ∧ ((∃ b' e' km' cl' nc', Lv g t' g0 s' T n b' e' km' ∧ CD l t' s' cl' nc' fr ∧ b < b' ∧ nc ≤ nc' ∧ nc' + b ≤ nc + b' ∧ (∀ k, k < nc → tA s' 187 (329 + k) = tA s 187 (329 + k)) ∧ sgt l (cdf (tA s' 187) (329 + nc) (nc' - nc)) ty hh) ∨ (∃ f p, b ≤ p ∧ Nc t' T n f p ∧ Cl t' (cl + (p - b) + slk ty) ∧ Nm s' T n f p (nc + (p - b))))
def ENc (T : Nat → Int32) (n : Nat) (g : Sk) (Fc : xH → Option (Unit × xH)) : Prop := ∀ (t : Tb) (f p : Nat), Nc t T n f p → Fc (Em g t) = some ((), Em g t)
def ENm (T : Nat → Int32) (n : Nat) (g0 : Sk) (Fm : xH → Option (Unit × xH)) : Prop := ∀ (s : Tb) (f p q : Nat), Nm s T n f p q → ∃ s', Fm (Em g0 s) = some ((), Em g0 s') ∧ Km s s' ∧ Dd s' T n f p
section XAt
variable {g g0 : Sk} {t t' t'' s s' s'' : Tb} {T : Nat → Int32} {n b e km f p q nc cl fr l : Nat} {S : List Nat}
theorem l_num (L : Lv g t g0 s T n b e km) (c : km = 23) : ∃ vl, vl < 1000 ∧ tI t 70 8 = nI vl ∧ tI s 183 10 = nI vl := by
  obtain ⟨e0, kc, vl, h1, h2, h3, h4, h5⟩ := L.2.2.2.2.2
  have hbb := tk_b h1 h2
  refine ⟨vl, ?_, h4, h5.1 c⟩
  obtain ⟨hb0, h⟩ := h2
  rcases h with h | ⟨g1, g2, g3, g4, _⟩ | ⟨g1, g2, g3, g4, g5, g6, g7, g8⟩ | ⟨g1, g2, g3, ⟨j, j1, j2, j3⟩, g4, _⟩
  · omega
  · rcases kwz_c (T := T) (b := b) (e := e) 19 0 with ⟨w1, _⟩ | ⟨_, w2, _⟩ <;> omega
  · have := nvl_lt (T := T) (b := b) (e - b) (fun k hk => run_p (p := dgt) (T := T) (n - b) b (b + k) (by omega) (by omega))
    have h10 : 10 ^ min (e - b) 3 ≤ 10 ^ 3 := Nat.pow_le_pow_right (by decide) (by omega)
    omega
  · omega
theorem l_kind (L : Lv g t g0 s T n b e km) : ∃ kc, tI t 70 7 = nI kc ∧ kc < 4 ∧ (km = 23 ↔ kc = 1) ∧ (km = 24 ↔ kc = 3) := by
  obtain ⟨e0, kc, vl, h1, h2, h3, h4, h5⟩ := L.2.2.2.2.2
  have hbb := tk_b h1 h2
  exact ⟨kc, h3, hbb.2.2.2.2.2.2.2.2.1, hbb.2.2.2.2.2.2.2.1, hbb.2.2.2.2.2.2.1⟩
theorem k_wH (L : Lv g t g0 s T n b e km) : F_X4_wordOfHearing 70 (Em g t) = some (wdc 0 km, Em g t) := by
  have X := L.1.1
  unfold F_X4_wordOfHearing wdc wdx
  rw [x_rc70 X, Option.bind_some, l_isAt L (i := 18) rfl (by decide) (by decide), Option.bind_some, x_rc70 X, Option.bind_some, l_isAt L (i := 19) rfl (by decide) (by decide), Option.bind_some, x_rc70 X, Option.bind_some, l_isAt L (i := 8) rfl (by decide) (by decide), Option.bind_some, x_rc70 X, Option.bind_some, l_isAt L (i := 9) rfl (by decide) (by decide), Option.bind_some, x_rc70 X, Option.bind_some, l_isAt L (i := 10) rfl (by decide) (by decide), Option.bind_some]
  rw [show kcd 18 = 11 from rfl, show kcd 19 = 12 from rfl, show kcd 8 = 6 from rfl, show kcd 9 = 7 from rfl, show kcd 10 = 8 from rfl]
  by_cases c1 : km = 11
  · subst c1; rfl
  by_cases c2 : km = 12
  · subst c2; rfl
  by_cases c3 : km = 6
  · subst c3; rfl
  by_cases c4 : km = 7
  · subst c4; rfl
  by_cases c5 : km = 8
  · subst c5; rfl
  rw [decide_eq_false c1, decide_eq_false c2, decide_eq_false c3, decide_eq_false c4, decide_eq_false c5, if_pos rfl, if_neg c1, if_neg c2, if_neg c3, if_neg c4, if_neg c5]
  rfl
theorem k_wG (L : Lv g t g0 s T n b e km) : F_X4_wordOfGoing 70 (Em g t) = some (wdc 1 km, Em g t) := by
  have X := L.1.1
  unfold F_X4_wordOfGoing wdc wdx
  rw [x_rc70 X, Option.bind_some, l_isAt L (i := 20) rfl (by decide) (by decide), Option.bind_some, x_rc70 X, Option.bind_some, l_isAt L (i := 21) rfl (by decide) (by decide), Option.bind_some, x_rc70 X, Option.bind_some, l_isAt L (i := 22) rfl (by decide) (by decide), Option.bind_some]
  rw [show kcd 20 = 13 from rfl, show kcd 21 = 14 from rfl, show kcd 22 = 15 from rfl]
  by_cases c1 : km = 13
  · subst c1; rfl
  by_cases c2 : km = 14
  · subst c2; rfl
  by_cases c3 : km = 15
  · subst c3; rfl
  rw [decide_eq_false c1, decide_eq_false c2, decide_eq_false c3, if_neg (show ¬ (1 : Nat) = 0 by decide), if_neg c1, if_neg c2, if_neg c3]
  rfl
theorem r_wo (X : Fx g0) (hl : l < 2) (h15 : tI s 183 15 = nI l) (hk : km < 42) : F_X12_wordOf 183 (nI km) (Em g0 s) = some (wdm l km, Em g0 s) := by
  have kI : ∀ j : Nat, j < 42 → ¬ km = j → ¬ nI km = nI j := fun j hj h => by rw [nI_eq (by omega) (by omega)]; exact h
  unfold F_X12_wordOf wdm wdx
  rw [x_i183_15 X, Option.bind_some, h15]
  rcases (show l = 0 ∨ l = 1 by omega) with rfl | rfl
  · rw [if_pos (show ¬ nI 0 = (1 : Int32) by decide), if_pos rfl]
    by_cases c1 : km = 11
    · subst c1; rfl
    by_cases c2 : km = 12
    · subst c2; rfl
    by_cases c3 : km = 6
    · subst c3; rfl
    by_cases c4 : km = 7
    · subst c4; rfl
    by_cases c5 : km = 8
    · subst c5; rfl
    rw [if_neg (show ¬ nI km = (6 : Int32) from kI 6 (by decide) c3), if_neg (show ¬ nI km = (7 : Int32) from kI 7 (by decide) c4), if_neg (show ¬ nI km = (8 : Int32) from kI 8 (by decide) c5), if_neg (show ¬ nI km = (11 : Int32) from kI 11 (by decide) c1), if_neg (show ¬ nI km = (12 : Int32) from kI 12 (by decide) c2), if_neg c1, if_neg c2, if_neg c3, if_neg c4, if_neg c5]
    split
    · rfl
    · split <;> rfl
  · rw [if_neg (show ¬ ¬ nI 1 = (1 : Int32) from fun h => h rfl), if_neg (by decide), p_within, Option.bind_some, i64, nI_toInt (by omega)]
    have t13 : (13 : Int64).toInt = 13 := rfl
    have t15 : (15 : Int64).toInt = 15 := rfl
    rw [t13, t15]
    by_cases c1 : km = 13
    · subst c1; rfl
    by_cases c2 : km = 14
    · subst c2; rfl
    by_cases c3 : km = 15
    · subst c3; rfl
    rw [decide_eq_false (by omega), if_pos (show bI false = (0 : Int32) by decide), if_neg c1, if_neg c2, if_neg c3]
theorem wdx_ok (hl : l < 2) {w : Nat} (h : wdx l km = some w) : wok l w ∧ w < 8 ∧ ccn l (1000 + w) = 1000 + (if l = 0 then w else w - 5) ∧ km < 16 := by
  have key : ∀ l, l < 2 → ∀ w, w < 8 → ((l = 0 ∧ w < 5) ∨ (l = 1 ∧ 5 ≤ w)) → ccn l (1000 + w) = 1000 + (if l = 0 then w else w - 5) := by decide
  have hw : w < 8 ∧ ((l = 0 ∧ w < 5) ∨ (l = 1 ∧ 5 ≤ w)) ∧ km < 16 := by
    unfold wdx at h
    split at h
    · repeat' split at h
      all_goals first | (cases h; omega) | cases h
    · repeat' split at h
      all_goals first | (cases h; omega) | cases h
  refine ⟨?_, hw.1, key l hl w hw.1 hw.2.1, hw.2.2⟩
  unfold wok
  omega
/-! NL -/
theorem n_ratomc (X : Fx g) {N : Nat} {d : Int32} : ENc T n g (fun h => (G_X4_readSum (N + 1)).2 70 d h) := fun t f p N0 => by
  obtain ⟨v, e1⟩ := n_isAt X N0 (a := 32) (i := 16) rfl (by decide)
  show F_X4_readAtom (G_X4_readSum N).1 70 d (Em g t) = _
  have e21 : F_X4_readAtom_b21 (G_X4_readSum N).1 70 d (Em g t) = some ((), Em g t) := by
    unfold F_X4_readAtom_b21
    rw [x_i70_11 X, Option.bind_some, N0.2.2.1, if_neg (show ¬ nI f = (0 : Int32) from f_nz N0.2.1)]
  unfold F_X4_readAtom
  rw [x_rc70 X, Option.bind_some, e1, Option.bind_some, e21, x_rc70 X, Option.bind_some, n_failc X N0, Option.bind_some, e21]
  split
  · rfl
  · split <;> rfl
theorem n_join (X : Fx g) (N0 : Nc t T n f p) (lv : Int32) : ∃ v, F_X4_joiner 70 lv (Em g t) = some (v, Em g t) := by
  obtain ⟨v1, e1⟩ := n_isAt X N0 (a := 48) (i := 24) rfl (by decide)
  obtain ⟨v2, e2⟩ := n_isAt X N0 (a := 50) (i := 25) rfl (by decide)
  obtain ⟨v3, e3⟩ := n_isAt X N0 (a := 46) (i := 23) rfl (by decide)
  unfold F_X4_joiner
  rw [x_rc70 X, Option.bind_some, Option.bind_some, e1, Option.bind_some, e3, Option.bind_some, x_rc70 X, Option.bind_some, e2, Option.bind_some]
  repeat' split
  all_goals exact ⟨_, rfl⟩
theorem n_28 (X : Fx g) (N0 : Nc t T n f p) {fA : Nat → Int32 → xH → Option (Unit × xH)} {fS : Nat → Int32 → Int32 → xH → Option (Unit × xH)} {fuel : Nat} (hf : 0 < fuel) (x1 x2 x3 x4 : Int32) : F_X4_readSum_b28 fA fS fuel 70 x1 x2 x3 x4 (Em g t) = some ((), Em g t) := by
  obtain ⟨k, rfl⟩ : ∃ k, fuel = k + 1 := ⟨fuel - 1, by omega⟩
  rw [F_X4_readSum_b28, x_i70_4 X, Option.bind_some, x_i70_11 X, Option.bind_some, N0.2.2.1, if_pos (show ¬ nI f = (0 : Int32) from f_nz N0.2.1)]
  split <;> rfl
theorem n_rsumc (X : Fx g) {d : Int32} : ∀ (lv N : Nat), lv ≤ 2 → 4 - lv ≤ N → ENc T n g (fun h => (G_X4_readSum N).1 70 d (nI lv) h) := by
  have base : ∀ N, 2 ≤ N → ENc T n g (fun h => (G_X4_readSum N).1 70 d (nI 2) h) := fun N hN t f p N0 => by
    obtain ⟨k, rfl⟩ : ∃ k, N = k + 2 := ⟨N - 2, by omega⟩
    have e1 : (G_X4_readSum (k + 1)).2 70 d (Em g t) = some ((), Em g t) := n_ratomc X t f p N0
    show F_X4_readSum (G_X4_readSum (k + 1)).2 (G_X4_readSum (k + 1)).1 70 d (nI 2) (Em g t) = _
    unfold F_X4_readSum
    rw [if_neg (show ¬ nI 2 ≤ (1 : Int32) by decide), x_rc70 X, Option.bind_some, e1, Option.bind_some]
  have step : ∀ lv N, lv ≤ 1 → 1 ≤ N → ENc T n g (fun h => (G_X4_readSum (N - 1)).1 70 d (nI (lv + 1)) h) → ENc T n g (fun h => (G_X4_readSum N).1 70 d (nI lv) h) := fun lv N hlv hN ih t f p N0 => by
    obtain ⟨k, rfl⟩ : ∃ k, N = k + 1 := ⟨N - 1, by omega⟩
    have e1 : (G_X4_readSum k).1 70 d (nI (lv + 1)) (Em g t) = some ((), Em g t) := ih t f p N0
    obtain ⟨v, e2⟩ := n_join X N0 (nI lv)
    show F_X4_readSum (G_X4_readSum k).2 (G_X4_readSum k).1 70 d (nI lv) (Em g t) = _
    unfold F_X4_readSum
    rw [if_pos (show nI lv ≤ (1 : Int32) from show nI lv ≤ nI 1 by rw [nI_leI (by omega) (by decide)]; exact hlv), x_rc70 X, Option.bind_some, show nI lv + 1 = nI (lv + 1) from nI_add lv 1, e1, Option.bind_some, x_rc70 X, Option.bind_some, e2, Option.bind_some]
    exact n_28 X N0 (by decide) _ _ _ _
  intro lv N hlv hN
  rcases (show lv = 0 ∨ lv = 1 ∨ lv = 2 by omega) with rfl | rfl | rfl
  · exact step 0 N (by omega) (by omega) (step 1 (N - 1) (by omega) (by omega) (base (N - 1 - 1) (by omega)))
  · exact step 1 N (by omega) (by omega) (base (N - 1) (by omega))
  · exact base N (by omega)
theorem Dd_n (h : Dd s T n f p) : Nm s T n f p q := Or.inl h
theorem n_ratomm (X : Fx g0) {M : Nat} {d : Int32} (h15 : ∀ s : Tb, True) : ENm T n g0 (fun h => (G_X12_readAtom (M + 1)).1 183 d h) := fun s f p q N0 => by
  obtain ⟨s', e1, q1, d1⟩ := n_fails X N0 2
  refine ⟨s', ?_, Km_q (by decide) q1, d1⟩
  show F_X12_readAtom (G_X12_readAtom M).2.2 183 d (Em g0 s) = _
  have e66 : F_X12_readAtom_b66 (G_X12_readAtom M).2.2 183 d (Em g0 s) = some ((), Em g0 s') := by
    unfold F_X12_readAtom_b66
    rw [x_rc183 X, Option.bind_some, show (35 : Int32) = nI 35 from rfl, n_is X N0 (by decide) (by decide), Option.bind_some, if_pos (show bI false = (0 : Int32) by decide), x_rc183 X, Option.bind_some, e1, Option.bind_some]
  unfold F_X12_readAtom
  rw [x_rc183 X, Option.bind_some, show (23 : Int32) = nI 23 from rfl, n_is X N0 (by decide) (by decide), Option.bind_some, if_pos (show bI false = (0 : Int32) by decide), x_i183_11 X, Option.bind_some]
  rcases N0 with N0 | ⟨M0, m11, m1, m9, m6, hp, _⟩
  · rw [N0.2.2.1, if_pos (show ¬ nI f = (0 : Int32) from f_nz N0.2.1)]
    exact e66
  · have ew : F_X12_wordOf 183 (nI 25) (Em g0 s) = some (-1, Em g0 s) := by
      unfold F_X12_wordOf
      rw [x_i183_15 X, Option.bind_some]
      split
      · rfl
      · rfl
    rw [m11, if_neg (show ¬ ¬ nI 0 = (0 : Int32) from fun h => h rfl), x_i183_9 X, Option.bind_some, m9, x_rc183 X, Option.bind_some, ew, Option.bind_some, if_pos rfl]
    exact e66
theorem n_rtermm (X : Fx g0) {M : Nat} {d : Int32} : ENm T n g0 (fun h => (G_X12_readAtom (M + 2)).2.1 183 d h) := fun s f p q N0 => by
  obtain ⟨s', e1, q1, d1⟩ := n_ratomm X (M := M) (d := d) (fun _ => trivial) s f p q N0
  have e1' : (G_X12_readAtom (M + 1)).1 183 d (Em g0 s) = some ((), Em g0 s') := e1
  refine ⟨s', ?_, q1, d1⟩
  show F_X12_readTerm (G_X12_readAtom (M + 1)).1 183 d (Em g0 s) = _
  unfold F_X12_readTerm
  rw [x_rc183 X, Option.bind_some, e1', Option.bind_some]
  show F_X12_readTerm_b5 (G_X12_readAtom (M + 1)).1 (999999 + 1) 183 d (Em g0 s') = _
  rw [F_X12_readTerm_b5, x_rc183 X, Option.bind_some, show (34 : Int32) = nI 34 from rfl, n_eat X (Dd_n (q := 0) d1) (by decide) (by decide), Option.bind_some, if_pos rfl]
theorem n_rsumm (X : Fx g0) {M : Nat} {d : Int32} : ENm T n g0 (fun h => (G_X12_readAtom (M + 3)).2.2 183 d h) := fun s f p q N0 => by
  obtain ⟨s', e1, q1, d1⟩ := n_rtermm X (M := M) (d := d) s f p q N0
  have e1' : (G_X12_readAtom (M + 2)).2.1 183 d (Em g0 s) = some ((), Em g0 s') := e1
  refine ⟨s', ?_, q1, d1⟩
  show F_X12_readSum (G_X12_readAtom (M + 2)).2.1 183 d (Em g0 s) = _
  unfold F_X12_readSum
  rw [x_rc183 X, Option.bind_some, e1', Option.bind_some]
  show F_X12_readSum_b5 (G_X12_readAtom (M + 2)).2.1 (999999 + 1) 183 d (Em g0 s') = _
  rw [F_X12_readSum_b5, x_rc183 X, Option.bind_some, show (32 : Int32) = nI 32 from rfl, n_is X (Dd_n (q := 0) d1) (by decide) (by decide), Option.bind_some, if_neg (show ¬ ¬ bI false = (0 : Int32) by decide), x_rc183 X, Option.bind_some, show (33 : Int32) = nI 33 from rfl, n_is X (Dd_n (q := 0) d1) (by decide) (by decide), Option.bind_some, if_pos (show bI false = (0 : Int32) by decide)]
end XAt
