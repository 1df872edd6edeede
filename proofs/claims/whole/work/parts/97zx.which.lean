/-! ===== which line ===== -/
section XWh
variable {g g0 : Sk} {t t1 t' s s1 s' : Tb} {T : Nat → Int32} {n b e km : Nat}
theorem rl_c (L : Lv g t g0 s T n b e km) : F_X4_readLine 70 (Em g t) = if km = 1 then (F_X4_readTune 70 (Em g t)).bind fun z => F_X4_readLine_b165 70 z.2 else if km = 2 then (F_X4_readPlace 70 (Em g t)).bind fun z => F_X4_readLine_b165 70 z.2 else if km = 3 then (F_X4_readWay 70 (Em g t)).bind fun z => F_X4_readLine_b165 70 z.2 else if km = 4 then (F_X4_readPerson 70 (Em g t)).bind fun z => F_X4_readLine_b165 70 z.2 else if km = 9 then (F_X4_beginLaw 70 1 (Em g t)).bind fun z75 => (rc z75.2 70 3).bind fun _ => (C_X4_readTruth 100 70 0 0 z75.2).bind fun z81 => (fR z81.2 70 3 10).bind fun v85 => mkl v85 12 z81.2 (fun h => F_X4_readLine_b165 70 h) else if km = 10 then (F_X4_beginLaw 70 0 (Em g t)).bind fun z75 => (rc z75.2 70 3).bind fun _ => (C_X4_readTruth 100 70 0 0 z75.2).bind fun z81 => (fR z81.2 70 3 10).bind fun v85 => mkl v85 13 z81.2 (fun h => F_X4_readLine_b165 70 h) else (F_X4_fail 70 2 (Em g t)).bind fun z => F_X4_readLine_b165 70 z.2 := by
  have X := L.1.1
  have e1 : F_X4_isAt 70 6 (Em g t) = some (bI (decide (km = 1)), Em g t) := l_isAt L (a := 6) (i := 3) rfl (by decide) (by decide)
  have e2 : F_X4_isAt 70 8 (Em g t) = some (bI (decide (km = 2)), Em g t) := l_isAt L (a := 8) (i := 4) rfl (by decide) (by decide)
  have e3 : F_X4_isAt 70 10 (Em g t) = some (bI (decide (km = 3)), Em g t) := l_isAt L (a := 10) (i := 5) rfl (by decide) (by decide)
  have e4 : F_X4_isAt 70 12 (Em g t) = some (bI (decide (km = 4)), Em g t) := l_isAt L (a := 12) (i := 6) rfl (by decide) (by decide)
  have e9 : F_X4_isAt 70 22 (Em g t) = some (bI (decide (km = 9)), Em g t) := l_isAt L (a := 22) (i := 11) rfl (by decide) (by decide)
  have e10 : F_X4_isAt 70 62 (Em g t) = some (bI (decide (km = 10)), Em g t) := l_isAt L (a := 62) (i := 31) rfl (by decide) (by decide)
  have bt : ¬ bI true = (0 : Int32) := by decide
  have bf : bI false = (0 : Int32) := by decide
  unfold F_X4_readLine
  rw [x_rc70 X, Option.bind_some, e1, Option.bind_some]
  by_cases c1 : km = 1
  · rw [if_pos c1, decide_eq_true c1, if_neg bt, x_rc70 X, Option.bind_some]
  rw [if_neg c1, decide_eq_false c1, if_pos bf, x_rc70 X, Option.bind_some, e2, Option.bind_some]
  by_cases c2 : km = 2
  · rw [if_pos c2, decide_eq_true c2, if_neg bt, x_rc70 X, Option.bind_some]
  rw [if_neg c2, decide_eq_false c2, if_pos bf, x_rc70 X, Option.bind_some, e3, Option.bind_some]
  by_cases c3 : km = 3
  · rw [if_pos c3, decide_eq_true c3, if_neg bt, x_rc70 X, Option.bind_some]
  rw [if_neg c3, decide_eq_false c3, if_pos bf, x_rc70 X, Option.bind_some, e4, Option.bind_some]
  by_cases c4 : km = 4
  · rw [if_pos c4, decide_eq_true c4, if_neg bt, x_rc70 X, Option.bind_some]
  rw [if_neg c4, decide_eq_false c4, if_pos bf, x_rc70 X, Option.bind_some, e9, Option.bind_some]
  by_cases c9 : km = 9
  · rw [if_pos c9, decide_eq_true c9, if_neg bt, x_rc70 X, Option.bind_some]
    rfl
  rw [if_neg c9, decide_eq_false c9, if_pos bf, x_rc70 X, Option.bind_some, e10, Option.bind_some]
  by_cases c10 : km = 10
  · rw [if_pos c10, decide_eq_true c10, if_neg bt, x_rc70 X, Option.bind_some]
    rfl
  rw [if_neg c10, decide_eq_false c10, if_pos bf, x_rc70 X, Option.bind_some]
theorem rl_m (L : Lv g t g0 s T n b e km) : F_X12_readLine 183 (Em g0 s) = (if km = 1 then F_X12_readTune 183 (Em g0 s) else if km = 2 then F_X12_readPlace 183 (Em g0 s) else if km = 3 then F_X12_readWay 183 (Em g0 s) else if km = 4 then F_X12_readPerson 183 (Em g0 s) else if km = 9 then F_X12_readLaw 183 (nI 0) (Em g0 s) else if km = 10 then F_X12_readLaw 183 (nI 1) (Em g0 s) else F_X12_fails 183 2 (Em g0 s)).bind fun z => some ((), z.2) := by
  have X0 := L.1.2
  have m9 : tI s 183 9 = nI km := L.2.2.2.2.1.2.2.1
  have m11 : tI s 183 11 = nI 0 := L.2.2.2.2.1.2.2.2
  have e1 : F_X12_is 183 1 (Em g0 s) = some (bI (decide (km = 1)), Em g0 s) := l_is L (k := 1) (by decide)
  have e2 : F_X12_is 183 2 (Em g0 s) = some (bI (decide (km = 2)), Em g0 s) := l_is L (k := 2) (by decide)
  have e3 : F_X12_is 183 3 (Em g0 s) = some (bI (decide (km = 3)), Em g0 s) := l_is L (k := 3) (by decide)
  have e4 : F_X12_is 183 4 (Em g0 s) = some (bI (decide (km = 4)), Em g0 s) := l_is L (k := 4) (by decide)
  have e9 : F_X12_is 183 9 (Em g0 s) = some (bI (decide (km = 9)), Em g0 s) := l_is L (k := 9) (by decide)
  have e10 : F_X12_is 183 10 (Em g0 s) = some (bI (decide (km = 10)), Em g0 s) := l_is L (k := 10) (by decide)
  have bt : ¬ bI true = (0 : Int32) := by decide
  have bf : bI false = (0 : Int32) := by decide
  unfold F_X12_readLine
  rw [x_i183_11 X0, Option.bind_some, m11, if_pos (show nI 0 = (0 : Int32) from rfl), x_rc183 X0, Option.bind_some, e1, Option.bind_some]
  by_cases c1 : km = 1
  · rw [if_pos c1, decide_eq_true c1, if_neg bt, x_rc183 X0, Option.bind_some]
  rw [if_neg c1, decide_eq_false c1, if_pos bf, x_rc183 X0, Option.bind_some, e2, Option.bind_some]
  by_cases c2 : km = 2
  · rw [if_pos c2, decide_eq_true c2, if_neg bt, x_rc183 X0, Option.bind_some]
  rw [if_neg c2, decide_eq_false c2, if_pos bf, x_rc183 X0, Option.bind_some, e3, Option.bind_some]
  by_cases c3 : km = 3
  · rw [if_pos c3, decide_eq_true c3, if_neg bt, x_rc183 X0, Option.bind_some]
  rw [if_neg c3, decide_eq_false c3, if_pos bf, x_rc183 X0, Option.bind_some, e4, Option.bind_some]
  by_cases c4 : km = 4
  · rw [if_pos c4, decide_eq_true c4, if_neg bt, x_rc183 X0, Option.bind_some]
  rw [if_neg c4, decide_eq_false c4, if_pos bf, x_rc183 X0, Option.bind_some, e9, Option.bind_some]
  unfold F_X12_readLine_b86
  by_cases c9 : km = 9
  · rw [if_pos c9, decide_eq_true c9, if_pos bt, x_i183_9 X0, Option.bind_some, m9, c9, show nI 9 - 9 = nI 0 from rfl, x_rc183 X0, Option.bind_some]
  rw [if_neg c9, decide_eq_false c9, if_neg (fun h => h bf), x_rc183 X0, Option.bind_some, e10, Option.bind_some]
  by_cases c10 : km = 10
  · rw [if_pos c10, decide_eq_true c10, if_neg bt, x_i183_9 X0, Option.bind_some, m9, c10, show nI 10 - 9 = nI 1 from rfl, x_rc183 X0, Option.bind_some]
  rw [if_neg c10, decide_eq_false c10, if_pos bf, x_rc183 X0, Option.bind_some]
end XWh
