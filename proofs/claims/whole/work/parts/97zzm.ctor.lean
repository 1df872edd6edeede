/-! ===== the constructors, on closed tables ===== -/
def cS0 : Nat → Nat := fun _ => 0
def cN0 : Nat → Nat := fun _ => 0
def cI0 : Nat → Nat → Int32 := fun _ _ => 0
def cA0 : Nat → Nat → Int32 := fun _ _ => 0
def cJ0 : Nat → Nat → Int64 := fun _ _ => 0
def cR0 : Nat → Nat → Option Nat := fun _ _ => none
def cQ0 : Nat → Nat → Option Nat := fun _ _ => none
def cS1 : Nat → Nat := up1 cS0 69 11
def cI1 : Nat → Nat → Int32 := up1 cI0 69 (fun _ => 0)
def cR1 : Nat → Nat → Option Nat := up1 cR0 69 (fun _ => none)
theorem cz_1 {sc : Nat × (Nat → Int32)} : nO (E sc 69 cS0 cN0 cI0 cA0 cJ0 cR0 cQ0) 10 [.null, .null, .null, .null, .null, .null, .null, .null, .null, .null, .null, .null] = E sc 70 cS1 cN0 cI1 cA0 cJ0 cR1 cQ0 := E_nO 11 (by decide) (Or.inl rfl) rfl (by decide)
def cS2 : Nat → Nat := up1 cS1 70 4
def cI2 : Nat → Nat → Int32 := up1 cI1 70 (fun _ => 0)
def cR2 : Nat → Nat → Option Nat := up1 cR1 70 (fun _ => none)
theorem cz_2 {sc : Nat × (Nat → Int32)} : nO (E sc 70 cS1 cN0 cI1 cA0 cJ0 cR1 cQ0) 3 [.null, .int 0, .null, .int 0, .int 0, .int 0, .int 0, .int 0, .int 0, .int 0, .null, .int 0, .int 0] = E sc 71 cS2 cN0 cI2 cA0 cJ0 cR2 cQ0 := E_nO 4 (by decide) (Or.inl rfl) rfl (by decide)
def cS3 : Nat → Nat := up1 cS2 71 22
def cN1 : Nat → Nat := up1 cN0 71 900
def cA1 : Nat → Nat → Int32 := up1 cA0 71 (fun _ => 0)
theorem cz_3 {sc : Nat × (Nat → Int32)} : nW (E sc 71 cS2 cN0 cI2 cA0 cJ0 cR2 cQ0) 2 900 = E sc 72 cS3 cN1 cI2 cA1 cJ0 cR2 cQ0 := E_nWt (by decide) (by decide)
def cR3 : Nat → Nat → Option Nat := up2 cR2 70 0 (some 71)
theorem cz_4 {sc : Nat × (Nat → Int32)} : wQ (E sc 72 cS3 cN1 cI2 cA1 cJ0 cR2 cQ0) 70 3 0 (some 71) = some (E sc 72 cS3 cN1 cI2 cA1 cJ0 cR3 cQ0) := E_wQ (by decide) (by decide) rfl (Or.inl rfl)
def cI3 : Nat → Nat → Int32 := up2 cI2 70 1 0
theorem cz_5 {sc : Nat × (Nat → Int32)} : wI (E sc 72 cS3 cN1 cI2 cA1 cJ0 cR3 cQ0) 70 3 1 0 = some (E sc 72 cS3 cN1 cI3 cA1 cJ0 cR3 cQ0) := E_wI (by decide) (by decide) rfl (Or.inl rfl)
def cS4 : Nat → Nat := up1 cS3 72 20
def cN2 : Nat → Nat := up1 cN1 72 900
def cA2 : Nat → Nat → Int32 := up1 cA1 72 (fun _ => 0)
theorem cz_6 {sc : Nat × (Nat → Int32)} : nW (E sc 72 cS3 cN1 cI3 cA1 cJ0 cR3 cQ0) 0 900 = E sc 73 cS4 cN2 cI3 cA2 cJ0 cR3 cQ0 := E_nW0 20 (Or.inl rfl) (by decide)
def cR4 : Nat → Nat → Option Nat := up2 cR3 70 2 (some 72)
theorem cz_7 {sc : Nat × (Nat → Int32)} : wQ (E sc 73 cS4 cN2 cI3 cA2 cJ0 cR3 cQ0) 70 3 2 (some 72) = some (E sc 73 cS4 cN2 cI3 cA2 cJ0 cR4 cQ0) := E_wQ (by decide) (by decide) rfl (Or.inl rfl)
def cI4 : Nat → Nat → Int32 := up2 cI3 70 3 0
theorem cz_8 {sc : Nat × (Nat → Int32)} : wI (E sc 73 cS4 cN2 cI3 cA2 cJ0 cR4 cQ0) 70 3 3 0 = some (E sc 73 cS4 cN2 cI4 cA2 cJ0 cR4 cQ0) := E_wI (by decide) (by decide) rfl (Or.inl rfl)
def cI5 : Nat → Nat → Int32 := up2 cI4 70 4 0
theorem cz_9 {sc : Nat × (Nat → Int32)} : wI (E sc 73 cS4 cN2 cI4 cA2 cJ0 cR4 cQ0) 70 3 4 0 = some (E sc 73 cS4 cN2 cI5 cA2 cJ0 cR4 cQ0) := E_wI (by decide) (by decide) rfl (Or.inl rfl)
def cI6 : Nat → Nat → Int32 := up2 cI5 70 5 0
theorem cz_10 {sc : Nat × (Nat → Int32)} : wI (E sc 73 cS4 cN2 cI5 cA2 cJ0 cR4 cQ0) 70 3 5 0 = some (E sc 73 cS4 cN2 cI6 cA2 cJ0 cR4 cQ0) := E_wI (by decide) (by decide) rfl (Or.inl rfl)
def cI7 : Nat → Nat → Int32 := up2 cI6 70 6 0
theorem cz_11 {sc : Nat × (Nat → Int32)} : wI (E sc 73 cS4 cN2 cI6 cA2 cJ0 cR4 cQ0) 70 3 6 0 = some (E sc 73 cS4 cN2 cI7 cA2 cJ0 cR4 cQ0) := E_wI (by decide) (by decide) rfl (Or.inl rfl)
def cI8 : Nat → Nat → Int32 := up2 cI7 70 7 3
theorem cz_12 {sc : Nat × (Nat → Int32)} : wI (E sc 73 cS4 cN2 cI7 cA2 cJ0 cR4 cQ0) 70 3 7 3 = some (E sc 73 cS4 cN2 cI8 cA2 cJ0 cR4 cQ0) := E_wI (by decide) (by decide) rfl (Or.inl rfl)
def cI9 : Nat → Nat → Int32 := up2 cI8 70 8 0
theorem cz_13 {sc : Nat × (Nat → Int32)} : wI (E sc 73 cS4 cN2 cI8 cA2 cJ0 cR4 cQ0) 70 3 8 0 = some (E sc 73 cS4 cN2 cI9 cA2 cJ0 cR4 cQ0) := E_wI (by decide) (by decide) rfl (Or.inl rfl)
def cI10 : Nat → Nat → Int32 := up2 cI9 70 9 0
theorem cz_14 {sc : Nat × (Nat → Int32)} : wZ (E sc 73 cS4 cN2 cI9 cA2 cJ0 cR4 cQ0) 70 3 9 0 = some (E sc 73 cS4 cN2 cI10 cA2 cJ0 cR4 cQ0) := (by unfold wZ; rw [if_pos (Or.inl rfl)]; exact E_wI (by decide) (by decide) rfl (Or.inl rfl))
def cS5 : Nat → Nat := up1 cS4 73 70
def cI11 : Nat → Nat → Int32 := up1 cI10 73 (fun _ => 0)
def cR5 : Nat → Nat → Option Nat := up1 cR4 73 (fun _ => none)
theorem cz_15 {sc : Nat × (Nat → Int32)} : nO (E sc 73 cS4 cN2 cI10 cA2 cJ0 cR4 cQ0) 9 [.int 0, .int 0, .int 0, .int 0, .int 0, .null, .null, .null, .null, .null, .null, .null, .null, .null] = E sc 74 cS5 cN2 cI11 cA2 cJ0 cR5 cQ0 := E_nO 70 (by decide) (Or.inr rfl) rfl (by decide)
def cS6 : Nat → Nat := upr (up1 (up1 (up1 (up1 (up1 (up1 (up1 (cS5) 74 31) 75 31) 76 31) 77 31) 78 31) 79 31) 80 66) 81 3 31
def cN3 : Nat → Nat := upr (up1 (up1 (up1 (up1 (up1 (up1 (cN2) 74 54) 75 6) 76 24) 77 6) 78 6) 79 10) 81 3 6
def cI12 : Nat → Nat → Int32 := up2 (up2 (up1 (up2 (up2 (up2 (up2 (up2 (cI11) 73 0 2) 73 1 0) 73 2 0) 73 3 0) 73 4 0) 80 (fun _ => 0)) 80 3 0) 80 4 0
def cA3 : Nat → Nat → Int32 := upr (up1 (up1 (up1 (up1 (up1 (up1 (cA2) 74 (fun _ => 0)) 75 (fun _ => 0)) 76 (fun _ => 0)) 77 (fun _ => 0)) 78 (fun _ => 0)) 79 (fun _ => 0)) 81 3 (fun _ => 0)
def cR6 : Nat → Nat → Option Nat := up2 (up2 (up2 (up2 (up2 (up2 (up1 (up2 (up2 (up2 (up2 (up2 (up2 (cR5) 73 5 (some 74)) 73 6 (some 75)) 73 7 (some 76)) 73 8 (some 77)) 73 9 (some 78)) 73 10 (some 79)) 80 (fun _ => none)) 80 0 (some 81)) 80 1 (some 82)) 80 2 (some 83)) 73 11 (some 80)) 73 12 none) 73 13 none
theorem cz_16 {sc : Nat × (Nat → Int32)} : F_X10_init 73 (E sc 74 cS5 cN2 cI11 cA2 cJ0 cR5 cQ0) = some ((), E sc 84 cS6 cN3 cI12 cA3 cJ0 cR6 cQ0, 10, 129) := i_X10a (by decide) (by decide) (Or.inr rfl)
def cR7 : Nat → Nat → Option Nat := up2 cR6 70 10 (some 73)
theorem cz_17 {sc : Nat × (Nat → Int32)} : wQ (E sc 84 cS6 cN3 cI12 cA3 cJ0 cR6 cQ0) 70 3 10 (some 73) = some (E sc 84 cS6 cN3 cI12 cA3 cJ0 cR7 cQ0) := E_wQ (by decide) (by decide) rfl (Or.inl rfl)
def cI13 : Nat → Nat → Int32 := up2 cI12 70 11 0
theorem cz_18 {sc : Nat × (Nat → Int32)} : wI (E sc 84 cS6 cN3 cI12 cA3 cJ0 cR7 cQ0) 70 3 11 0 = some (E sc 84 cS6 cN3 cI13 cA3 cJ0 cR7 cQ0) := E_wI (by decide) (by decide) rfl (Or.inl rfl)
def cI14 : Nat → Nat → Int32 := up2 cI13 70 12 (-1)
theorem cz_19 {sc : Nat × (Nat → Int32)} : wI (E sc 84 cS6 cN3 cI13 cA3 cJ0 cR7 cQ0) 70 3 12 (-1) = some (E sc 84 cS6 cN3 cI14 cA3 cJ0 cR7 cQ0) := E_wI (by decide) (by decide) rfl (Or.inl rfl)
theorem cz_20 {sc : Nat × (Nat → Int32)} : F_X4_init 70 (E sc 71 cS2 cN0 cI2 cA0 cJ0 cR2 cQ0) = some ((), E sc 84 cS6 cN3 cI14 cA3 cJ0 cR7 cQ0, 13, 1943) := by
  unfold F_X4_init
  rw [if_neg (show ¬ ((900 : Int32) < 0 ∨ 60000000 < ((900 : Int32)).toNatClampNeg) by decide), show ((900 : Int32)).toNatClampNeg = 900 from by decide, Option.bind_some, cz_3, E_1, cz_4, Option.bind_some, cz_5, Option.bind_some]
  rw [if_neg (show ¬ ((900 : Int32) < 0 ∨ 60000000 < (900 : Nat)) by decide), Option.bind_some, cz_6, E_1, cz_7, Option.bind_some, cz_8, Option.bind_some, cz_9, Option.bind_some, cz_10, Option.bind_some, cz_11, Option.bind_some, cz_12, Option.bind_some, cz_13, Option.bind_some, cz_14, Option.bind_some]
  rw [Option.bind_some, cz_15, E_1, cz_16, Option.bind_some]
  dsimp only
  rw [cz_17, Option.bind_some, cz_18, Option.bind_some, cz_19, Option.bind_some]
  rfl
def cR8 : Nat → Nat → Option Nat := up2 cR7 69 0 (some 70)
theorem cz_21 {sc : Nat × (Nat → Int32)} : wQ (E sc 84 cS6 cN3 cI14 cA3 cJ0 cR7 cQ0) 69 10 0 (some 70) = some (E sc 84 cS6 cN3 cI14 cA3 cJ0 cR8 cQ0) := E_wQ (by decide) (by decide) rfl (Or.inl rfl)
def cS7 : Nat → Nat := up1 cS6 84 70
def cI15 : Nat → Nat → Int32 := up1 cI14 84 (fun _ => 0)
def cR9 : Nat → Nat → Option Nat := up1 cR8 84 (fun _ => none)
theorem cz_22 {sc : Nat × (Nat → Int32)} : nO (E sc 84 cS6 cN3 cI14 cA3 cJ0 cR8 cQ0) 9 [.int 0, .int 0, .int 0, .int 0, .int 0, .null, .null, .null, .null, .null, .null, .null, .null, .null] = E sc 85 cS7 cN3 cI15 cA3 cJ0 cR9 cQ0 := E_nO 70 (by decide) (Or.inr rfl) rfl (by decide)
def cS8 : Nat → Nat := upr (up1 (up1 (up1 (up1 (up1 (up1 (up1 (cS7) 85 31) 86 31) 87 31) 88 31) 89 31) 90 31) 91 66) 92 3 31
def cN4 : Nat → Nat := upr (up1 (up1 (up1 (up1 (up1 (up1 (cN3) 85 54) 86 6) 87 24) 88 6) 89 6) 90 10) 92 3 6
def cI16 : Nat → Nat → Int32 := up2 (up2 (up1 (up2 (up2 (up2 (up2 (up2 (cI15) 84 0 2) 84 1 0) 84 2 0) 84 3 0) 84 4 0) 91 (fun _ => 0)) 91 3 0) 91 4 0
def cA4 : Nat → Nat → Int32 := upr (up1 (up1 (up1 (up1 (up1 (up1 (cA3) 85 (fun _ => 0)) 86 (fun _ => 0)) 87 (fun _ => 0)) 88 (fun _ => 0)) 89 (fun _ => 0)) 90 (fun _ => 0)) 92 3 (fun _ => 0)
def cR10 : Nat → Nat → Option Nat := up2 (up2 (up2 (up2 (up2 (up2 (up1 (up2 (up2 (up2 (up2 (up2 (up2 (cR9) 84 5 (some 85)) 84 6 (some 86)) 84 7 (some 87)) 84 8 (some 88)) 84 9 (some 89)) 84 10 (some 90)) 91 (fun _ => none)) 91 0 (some 92)) 91 1 (some 93)) 91 2 (some 94)) 84 11 (some 91)) 84 12 none) 84 13 none
theorem cz_23 {sc : Nat × (Nat → Int32)} : F_X10_init 84 (E sc 85 cS7 cN3 cI15 cA3 cJ0 cR9 cQ0) = some ((), E sc 95 cS8 cN4 cI16 cA4 cJ0 cR10 cQ0, 10, 129) := i_X10a (by decide) (by decide) (Or.inr rfl)
def cR11 : Nat → Nat → Option Nat := up2 cR10 69 1 (some 84)
theorem cz_24 {sc : Nat × (Nat → Int32)} : wQ (E sc 95 cS8 cN4 cI16 cA4 cJ0 cR10 cQ0) 69 10 1 (some 84) = some (E sc 95 cS8 cN4 cI16 cA4 cJ0 cR11 cQ0) := E_wQ (by decide) (by decide) rfl (Or.inl rfl)
def cS9 : Nat → Nat := up1 cS8 95 6
def cI17 : Nat → Nat → Int32 := up1 cI16 95 (fun _ => 0)
def cR12 : Nat → Nat → Option Nat := up1 cR11 95 (fun _ => none)
theorem cz_25 {sc : Nat × (Nat → Int32)} : nO (E sc 95 cS8 cN4 cI16 cA4 cJ0 cR11 cQ0) 5 [.null, .null, .null, .int 0, .int 0] = E sc 96 cS9 cN4 cI17 cA4 cJ0 cR12 cQ0 := E_nO 6 (by decide) (Or.inl rfl) rfl (by decide)
def cS10 : Nat → Nat := upr cS9 96 3 20
def cN5 : Nat → Nat := upr cN4 96 3 6
def cI18 : Nat → Nat → Int32 := up2 (up2 cI17 95 3 0) 95 4 0
def cA5 : Nat → Nat → Int32 := upr cA4 96 3 (fun _ => 0)
def cR13 : Nat → Nat → Option Nat := up2 (up2 (up2 cR12 95 0 (some 96)) 95 1 (some 97)) 95 2 (some 98)
theorem cz_26 {sc : Nat × (Nat → Int32)} : F_X6_init 95 (E sc 96 cS9 cN4 cI17 cA4 cJ0 cR12 cQ0) = some ((), E sc 99 cS10 cN5 cI18 cA5 cJ0 cR13 cQ0, 3, 18) := i_X6 (c := 20) (Or.inl rfl) (by decide) (by decide) (Or.inl rfl)
def cR14 : Nat → Nat → Option Nat := up2 cR13 69 2 (some 95)
theorem cz_27 {sc : Nat × (Nat → Int32)} : wQ (E sc 99 cS10 cN5 cI18 cA5 cJ0 cR13 cQ0) 69 10 2 (some 95) = some (E sc 99 cS10 cN5 cI18 cA5 cJ0 cR14 cQ0) := E_wQ (by decide) (by decide) rfl (Or.inl rfl)
def cS11 : Nat → Nat := up1 cS10 99 6
def cI19 : Nat → Nat → Int32 := up1 cI18 99 (fun _ => 0)
def cR15 : Nat → Nat → Option Nat := up1 cR14 99 (fun _ => none)
theorem cz_28 {sc : Nat × (Nat → Int32)} : nO (E sc 99 cS10 cN5 cI18 cA5 cJ0 cR14 cQ0) 5 [.null, .null, .null, .int 0, .int 0] = E sc 100 cS11 cN5 cI19 cA5 cJ0 cR15 cQ0 := E_nO 6 (by decide) (Or.inl rfl) rfl (by decide)
def cS12 : Nat → Nat := upr cS11 100 3 20
def cN6 : Nat → Nat := upr cN5 100 3 6
def cI20 : Nat → Nat → Int32 := up2 (up2 cI19 99 3 0) 99 4 0
def cA6 : Nat → Nat → Int32 := upr cA5 100 3 (fun _ => 0)
def cR16 : Nat → Nat → Option Nat := up2 (up2 (up2 cR15 99 0 (some 100)) 99 1 (some 101)) 99 2 (some 102)
theorem cz_29 {sc : Nat × (Nat → Int32)} : F_X6_init 99 (E sc 100 cS11 cN5 cI19 cA5 cJ0 cR15 cQ0) = some ((), E sc 103 cS12 cN6 cI20 cA6 cJ0 cR16 cQ0, 3, 18) := i_X6 (c := 20) (Or.inl rfl) (by decide) (by decide) (Or.inl rfl)
def cR17 : Nat → Nat → Option Nat := up2 cR16 69 3 (some 99)
theorem cz_30 {sc : Nat × (Nat → Int32)} : wQ (E sc 103 cS12 cN6 cI20 cA6 cJ0 cR16 cQ0) 69 10 3 (some 99) = some (E sc 103 cS12 cN6 cI20 cA6 cJ0 cR17 cQ0) := E_wQ (by decide) (by decide) rfl (Or.inl rfl)
def cS13 : Nat → Nat := up1 cS12 103 2
def cI21 : Nat → Nat → Int32 := up1 cI20 103 (fun _ => 0)
def cR18 : Nat → Nat → Option Nat := up1 cR17 103 (fun _ => none)
theorem cz_31 {sc : Nat × (Nat → Int32)} : nO (E sc 103 cS12 cN6 cI20 cA6 cJ0 cR17 cQ0) 1 [.null, .int 0, .int 0] = E sc 104 cS13 cN6 cI21 cA6 cJ0 cR18 cQ0 := E_nO 2 (by decide) (Or.inl rfl) rfl (by decide)
def cS14 : Nat → Nat := up1 cS13 104 25
def cN7 : Nat → Nat := up1 cN6 104 10
def cQ1 : Nat → Nat → Option Nat := up1 cQ0 104 (fun _ => none)
theorem cz_32 {sc : Nat × (Nat → Int32)} : nQ (E sc 104 cS13 cN6 cI21 cA6 cJ0 cR18 cQ0) 5 10 = E sc 105 cS14 cN7 cI21 cA6 cJ0 cR18 cQ1 := E_nQ (by decide) (by decide)
def cR19 : Nat → Nat → Option Nat := up2 cR18 103 0 (some 104)
theorem cz_33 {sc : Nat × (Nat → Int32)} : wQ (E sc 105 cS14 cN7 cI21 cA6 cJ0 cR18 cQ1) 103 1 0 (some 104) = some (E sc 105 cS14 cN7 cI21 cA6 cJ0 cR19 cQ1) := E_wQ (by decide) (by decide) rfl (Or.inl rfl)
def cI22 : Nat → Nat → Int32 := up2 cI21 103 1 0
theorem cz_34 {sc : Nat × (Nat → Int32)} : wI (E sc 105 cS14 cN7 cI21 cA6 cJ0 cR19 cQ1) 103 1 1 0 = some (E sc 105 cS14 cN7 cI22 cA6 cJ0 cR19 cQ1) := E_wI (by decide) (by decide) rfl (Or.inl rfl)
def cI23 : Nat → Nat → Int32 := up2 cI22 103 2 0
theorem cz_35 {sc : Nat × (Nat → Int32)} : wI (E sc 105 cS14 cN7 cI22 cA6 cJ0 cR19 cQ1) 103 1 2 0 = some (E sc 105 cS14 cN7 cI23 cA6 cJ0 cR19 cQ1) := E_wI (by decide) (by decide) rfl (Or.inl rfl)
theorem cz_36 {sc : Nat × (Nat → Int32)} : fR (E sc 105 cS14 cN7 cI23 cA6 cJ0 cR19 cQ1) 103 1 0 = some 104 := E_fR (by decide) (by decide) rfl (Or.inl rfl) rfl
def cS15 : Nat → Nat := up1 cS14 105 6
def cI24 : Nat → Nat → Int32 := up1 cI23 105 (fun _ => 0)
def cR20 : Nat → Nat → Option Nat := up1 cR19 105 (fun _ => none)
theorem cz_37 {sc : Nat × (Nat → Int32)} : nO (E sc 105 cS14 cN7 cI23 cA6 cJ0 cR19 cQ1) 5 [.null, .null, .null, .int 0, .int 0] = E sc 106 cS15 cN7 cI24 cA6 cJ0 cR20 cQ1 := E_nO 6 (by decide) (Or.inl rfl) rfl (by decide)
def cS16 : Nat → Nat := upr cS15 106 3 20
def cN8 : Nat → Nat := upr cN7 106 3 6
def cI25 : Nat → Nat → Int32 := up2 (up2 cI24 105 3 0) 105 4 0
def cA7 : Nat → Nat → Int32 := upr cA6 106 3 (fun _ => 0)
def cR21 : Nat → Nat → Option Nat := up2 (up2 (up2 cR20 105 0 (some 106)) 105 1 (some 107)) 105 2 (some 108)
theorem cz_38 {sc : Nat × (Nat → Int32)} : F_X6_init 105 (E sc 106 cS15 cN7 cI24 cA6 cJ0 cR20 cQ1) = some ((), E sc 109 cS16 cN8 cI25 cA7 cJ0 cR21 cQ1, 3, 18) := i_X6 (c := 20) (Or.inl rfl) (by decide) (by decide) (Or.inl rfl)
def cQ2 : Nat → Nat → Option Nat := up1 cQ1 104 (va_up (cQ1 104) 0 (some 105))
theorem cz_39 {sc : Nat × (Nat → Int32)} : sR (E sc 109 cS16 cN8 cI25 cA7 cJ0 cR21 cQ1) 104 (nI 0) 105 = some (E sc 109 cS16 cN8 cI25 cA7 cJ0 cR21 cQ2) := E_sR (t := 5) (ci := 5) (by decide) (by decide) (by decide) rfl (Or.inl rfl) (by decide)
theorem cz_40 {sc : Nat × (Nat → Int32)} (f : Nat) : F_X2_init_b25 (f + 1) 103 (nI 0) (E sc 105 cS14 cN7 cI23 cA6 cJ0 cR19 cQ1) = ((F_X2_init_b25 f 103 (nI 1) (E sc 109 cS16 cN8 cI25 cA7 cJ0 cR21 cQ2)).map (ac _ 3 18)).map (ac _ 1 5) := by
  rw [F_X2_init_b25, if_neg (show ¬ (10 : Int32) ≤ nI 0 by decide), cz_36, Option.bind_some, Option.bind_some, cz_37, E_1, cz_38, Option.bind_some]
  dsimp only
  rw [cz_39, Option.bind_some]
  rfl
theorem cz_41 {sc : Nat × (Nat → Int32)} : fR (E sc 109 cS16 cN8 cI25 cA7 cJ0 cR21 cQ2) 103 1 0 = some 104 := E_fR (by decide) (by decide) rfl (Or.inl rfl) rfl
def cS17 : Nat → Nat := up1 cS16 109 6
def cI26 : Nat → Nat → Int32 := up1 cI25 109 (fun _ => 0)
def cR22 : Nat → Nat → Option Nat := up1 cR21 109 (fun _ => none)
theorem cz_42 {sc : Nat × (Nat → Int32)} : nO (E sc 109 cS16 cN8 cI25 cA7 cJ0 cR21 cQ2) 5 [.null, .null, .null, .int 0, .int 0] = E sc 110 cS17 cN8 cI26 cA7 cJ0 cR22 cQ2 := E_nO 6 (by decide) (Or.inl rfl) rfl (by decide)
def cS18 : Nat → Nat := upr cS17 110 3 20
def cN9 : Nat → Nat := upr cN8 110 3 6
def cI27 : Nat → Nat → Int32 := up2 (up2 cI26 109 3 0) 109 4 0
def cA8 : Nat → Nat → Int32 := upr cA7 110 3 (fun _ => 0)
def cR23 : Nat → Nat → Option Nat := up2 (up2 (up2 cR22 109 0 (some 110)) 109 1 (some 111)) 109 2 (some 112)
theorem cz_43 {sc : Nat × (Nat → Int32)} : F_X6_init 109 (E sc 110 cS17 cN8 cI26 cA7 cJ0 cR22 cQ2) = some ((), E sc 113 cS18 cN9 cI27 cA8 cJ0 cR23 cQ2, 3, 18) := i_X6 (c := 20) (Or.inl rfl) (by decide) (by decide) (Or.inl rfl)
def cQ3 : Nat → Nat → Option Nat := up1 cQ2 104 (va_up (cQ2 104) 1 (some 109))
theorem cz_44 {sc : Nat × (Nat → Int32)} : sR (E sc 113 cS18 cN9 cI27 cA8 cJ0 cR23 cQ2) 104 (nI 1) 109 = some (E sc 113 cS18 cN9 cI27 cA8 cJ0 cR23 cQ3) := E_sR (t := 5) (ci := 5) (by decide) (by decide) (by decide) rfl (Or.inl rfl) (by decide)
theorem cz_45 {sc : Nat × (Nat → Int32)} (f : Nat) : F_X2_init_b25 (f + 1) 103 (nI 1) (E sc 109 cS16 cN8 cI25 cA7 cJ0 cR21 cQ2) = ((F_X2_init_b25 f 103 (nI 2) (E sc 113 cS18 cN9 cI27 cA8 cJ0 cR23 cQ3)).map (ac _ 3 18)).map (ac _ 1 5) := by
  rw [F_X2_init_b25, if_neg (show ¬ (10 : Int32) ≤ nI 1 by decide), cz_41, Option.bind_some, Option.bind_some, cz_42, E_1, cz_43, Option.bind_some]
  dsimp only
  rw [cz_44, Option.bind_some]
  rfl
theorem cz_46 {sc : Nat × (Nat → Int32)} : fR (E sc 113 cS18 cN9 cI27 cA8 cJ0 cR23 cQ3) 103 1 0 = some 104 := E_fR (by decide) (by decide) rfl (Or.inl rfl) rfl
def cS19 : Nat → Nat := up1 cS18 113 6
def cI28 : Nat → Nat → Int32 := up1 cI27 113 (fun _ => 0)
def cR24 : Nat → Nat → Option Nat := up1 cR23 113 (fun _ => none)
theorem cz_47 {sc : Nat × (Nat → Int32)} : nO (E sc 113 cS18 cN9 cI27 cA8 cJ0 cR23 cQ3) 5 [.null, .null, .null, .int 0, .int 0] = E sc 114 cS19 cN9 cI28 cA8 cJ0 cR24 cQ3 := E_nO 6 (by decide) (Or.inl rfl) rfl (by decide)
def cS20 : Nat → Nat := upr cS19 114 3 20
def cN10 : Nat → Nat := upr cN9 114 3 6
def cI29 : Nat → Nat → Int32 := up2 (up2 cI28 113 3 0) 113 4 0
def cA9 : Nat → Nat → Int32 := upr cA8 114 3 (fun _ => 0)
def cR25 : Nat → Nat → Option Nat := up2 (up2 (up2 cR24 113 0 (some 114)) 113 1 (some 115)) 113 2 (some 116)
theorem cz_48 {sc : Nat × (Nat → Int32)} : F_X6_init 113 (E sc 114 cS19 cN9 cI28 cA8 cJ0 cR24 cQ3) = some ((), E sc 117 cS20 cN10 cI29 cA9 cJ0 cR25 cQ3, 3, 18) := i_X6 (c := 20) (Or.inl rfl) (by decide) (by decide) (Or.inl rfl)
def cQ4 : Nat → Nat → Option Nat := up1 cQ3 104 (va_up (cQ3 104) 2 (some 113))
theorem cz_49 {sc : Nat × (Nat → Int32)} : sR (E sc 117 cS20 cN10 cI29 cA9 cJ0 cR25 cQ3) 104 (nI 2) 113 = some (E sc 117 cS20 cN10 cI29 cA9 cJ0 cR25 cQ4) := E_sR (t := 5) (ci := 5) (by decide) (by decide) (by decide) rfl (Or.inl rfl) (by decide)
theorem cz_50 {sc : Nat × (Nat → Int32)} (f : Nat) : F_X2_init_b25 (f + 1) 103 (nI 2) (E sc 113 cS18 cN9 cI27 cA8 cJ0 cR23 cQ3) = ((F_X2_init_b25 f 103 (nI 3) (E sc 117 cS20 cN10 cI29 cA9 cJ0 cR25 cQ4)).map (ac _ 3 18)).map (ac _ 1 5) := by
  rw [F_X2_init_b25, if_neg (show ¬ (10 : Int32) ≤ nI 2 by decide), cz_46, Option.bind_some, Option.bind_some, cz_47, E_1, cz_48, Option.bind_some]
  dsimp only
  rw [cz_49, Option.bind_some]
  rfl
theorem cz_51 {sc : Nat × (Nat → Int32)} : fR (E sc 117 cS20 cN10 cI29 cA9 cJ0 cR25 cQ4) 103 1 0 = some 104 := E_fR (by decide) (by decide) rfl (Or.inl rfl) rfl
def cS21 : Nat → Nat := up1 cS20 117 6
def cI30 : Nat → Nat → Int32 := up1 cI29 117 (fun _ => 0)
def cR26 : Nat → Nat → Option Nat := up1 cR25 117 (fun _ => none)
theorem cz_52 {sc : Nat × (Nat → Int32)} : nO (E sc 117 cS20 cN10 cI29 cA9 cJ0 cR25 cQ4) 5 [.null, .null, .null, .int 0, .int 0] = E sc 118 cS21 cN10 cI30 cA9 cJ0 cR26 cQ4 := E_nO 6 (by decide) (Or.inl rfl) rfl (by decide)
def cS22 : Nat → Nat := upr cS21 118 3 20
def cN11 : Nat → Nat := upr cN10 118 3 6
def cI31 : Nat → Nat → Int32 := up2 (up2 cI30 117 3 0) 117 4 0
def cA10 : Nat → Nat → Int32 := upr cA9 118 3 (fun _ => 0)
def cR27 : Nat → Nat → Option Nat := up2 (up2 (up2 cR26 117 0 (some 118)) 117 1 (some 119)) 117 2 (some 120)
theorem cz_53 {sc : Nat × (Nat → Int32)} : F_X6_init 117 (E sc 118 cS21 cN10 cI30 cA9 cJ0 cR26 cQ4) = some ((), E sc 121 cS22 cN11 cI31 cA10 cJ0 cR27 cQ4, 3, 18) := i_X6 (c := 20) (Or.inl rfl) (by decide) (by decide) (Or.inl rfl)
def cQ5 : Nat → Nat → Option Nat := up1 cQ4 104 (va_up (cQ4 104) 3 (some 117))
theorem cz_54 {sc : Nat × (Nat → Int32)} : sR (E sc 121 cS22 cN11 cI31 cA10 cJ0 cR27 cQ4) 104 (nI 3) 117 = some (E sc 121 cS22 cN11 cI31 cA10 cJ0 cR27 cQ5) := E_sR (t := 5) (ci := 5) (by decide) (by decide) (by decide) rfl (Or.inl rfl) (by decide)
theorem cz_55 {sc : Nat × (Nat → Int32)} (f : Nat) : F_X2_init_b25 (f + 1) 103 (nI 3) (E sc 117 cS20 cN10 cI29 cA9 cJ0 cR25 cQ4) = ((F_X2_init_b25 f 103 (nI 4) (E sc 121 cS22 cN11 cI31 cA10 cJ0 cR27 cQ5)).map (ac _ 3 18)).map (ac _ 1 5) := by
  rw [F_X2_init_b25, if_neg (show ¬ (10 : Int32) ≤ nI 3 by decide), cz_51, Option.bind_some, Option.bind_some, cz_52, E_1, cz_53, Option.bind_some]
  dsimp only
  rw [cz_54, Option.bind_some]
  rfl
theorem cz_56 {sc : Nat × (Nat → Int32)} : fR (E sc 121 cS22 cN11 cI31 cA10 cJ0 cR27 cQ5) 103 1 0 = some 104 := E_fR (by decide) (by decide) rfl (Or.inl rfl) rfl
def cS23 : Nat → Nat := up1 cS22 121 6
def cI32 : Nat → Nat → Int32 := up1 cI31 121 (fun _ => 0)
def cR28 : Nat → Nat → Option Nat := up1 cR27 121 (fun _ => none)
theorem cz_57 {sc : Nat × (Nat → Int32)} : nO (E sc 121 cS22 cN11 cI31 cA10 cJ0 cR27 cQ5) 5 [.null, .null, .null, .int 0, .int 0] = E sc 122 cS23 cN11 cI32 cA10 cJ0 cR28 cQ5 := E_nO 6 (by decide) (Or.inl rfl) rfl (by decide)
def cS24 : Nat → Nat := upr cS23 122 3 20
def cN12 : Nat → Nat := upr cN11 122 3 6
def cI33 : Nat → Nat → Int32 := up2 (up2 cI32 121 3 0) 121 4 0
def cA11 : Nat → Nat → Int32 := upr cA10 122 3 (fun _ => 0)
def cR29 : Nat → Nat → Option Nat := up2 (up2 (up2 cR28 121 0 (some 122)) 121 1 (some 123)) 121 2 (some 124)
theorem cz_58 {sc : Nat × (Nat → Int32)} : F_X6_init 121 (E sc 122 cS23 cN11 cI32 cA10 cJ0 cR28 cQ5) = some ((), E sc 125 cS24 cN12 cI33 cA11 cJ0 cR29 cQ5, 3, 18) := i_X6 (c := 20) (Or.inl rfl) (by decide) (by decide) (Or.inl rfl)
def cQ6 : Nat → Nat → Option Nat := up1 cQ5 104 (va_up (cQ5 104) 4 (some 121))
theorem cz_59 {sc : Nat × (Nat → Int32)} : sR (E sc 125 cS24 cN12 cI33 cA11 cJ0 cR29 cQ5) 104 (nI 4) 121 = some (E sc 125 cS24 cN12 cI33 cA11 cJ0 cR29 cQ6) := E_sR (t := 5) (ci := 5) (by decide) (by decide) (by decide) rfl (Or.inl rfl) (by decide)
theorem cz_60 {sc : Nat × (Nat → Int32)} (f : Nat) : F_X2_init_b25 (f + 1) 103 (nI 4) (E sc 121 cS22 cN11 cI31 cA10 cJ0 cR27 cQ5) = ((F_X2_init_b25 f 103 (nI 5) (E sc 125 cS24 cN12 cI33 cA11 cJ0 cR29 cQ6)).map (ac _ 3 18)).map (ac _ 1 5) := by
  rw [F_X2_init_b25, if_neg (show ¬ (10 : Int32) ≤ nI 4 by decide), cz_56, Option.bind_some, Option.bind_some, cz_57, E_1, cz_58, Option.bind_some]
  dsimp only
  rw [cz_59, Option.bind_some]
  rfl
theorem cz_61 {sc : Nat × (Nat → Int32)} : fR (E sc 125 cS24 cN12 cI33 cA11 cJ0 cR29 cQ6) 103 1 0 = some 104 := E_fR (by decide) (by decide) rfl (Or.inl rfl) rfl
def cS25 : Nat → Nat := up1 cS24 125 6
def cI34 : Nat → Nat → Int32 := up1 cI33 125 (fun _ => 0)
def cR30 : Nat → Nat → Option Nat := up1 cR29 125 (fun _ => none)
theorem cz_62 {sc : Nat × (Nat → Int32)} : nO (E sc 125 cS24 cN12 cI33 cA11 cJ0 cR29 cQ6) 5 [.null, .null, .null, .int 0, .int 0] = E sc 126 cS25 cN12 cI34 cA11 cJ0 cR30 cQ6 := E_nO 6 (by decide) (Or.inl rfl) rfl (by decide)
def cS26 : Nat → Nat := upr cS25 126 3 20
def cN13 : Nat → Nat := upr cN12 126 3 6
def cI35 : Nat → Nat → Int32 := up2 (up2 cI34 125 3 0) 125 4 0
def cA12 : Nat → Nat → Int32 := upr cA11 126 3 (fun _ => 0)
def cR31 : Nat → Nat → Option Nat := up2 (up2 (up2 cR30 125 0 (some 126)) 125 1 (some 127)) 125 2 (some 128)
theorem cz_63 {sc : Nat × (Nat → Int32)} : F_X6_init 125 (E sc 126 cS25 cN12 cI34 cA11 cJ0 cR30 cQ6) = some ((), E sc 129 cS26 cN13 cI35 cA12 cJ0 cR31 cQ6, 3, 18) := i_X6 (c := 20) (Or.inl rfl) (by decide) (by decide) (Or.inl rfl)
def cQ7 : Nat → Nat → Option Nat := up1 cQ6 104 (va_up (cQ6 104) 5 (some 125))
theorem cz_64 {sc : Nat × (Nat → Int32)} : sR (E sc 129 cS26 cN13 cI35 cA12 cJ0 cR31 cQ6) 104 (nI 5) 125 = some (E sc 129 cS26 cN13 cI35 cA12 cJ0 cR31 cQ7) := E_sR (t := 5) (ci := 5) (by decide) (by decide) (by decide) rfl (Or.inl rfl) (by decide)
theorem cz_65 {sc : Nat × (Nat → Int32)} (f : Nat) : F_X2_init_b25 (f + 1) 103 (nI 5) (E sc 125 cS24 cN12 cI33 cA11 cJ0 cR29 cQ6) = ((F_X2_init_b25 f 103 (nI 6) (E sc 129 cS26 cN13 cI35 cA12 cJ0 cR31 cQ7)).map (ac _ 3 18)).map (ac _ 1 5) := by
  rw [F_X2_init_b25, if_neg (show ¬ (10 : Int32) ≤ nI 5 by decide), cz_61, Option.bind_some, Option.bind_some, cz_62, E_1, cz_63, Option.bind_some]
  dsimp only
  rw [cz_64, Option.bind_some]
  rfl
theorem cz_66 {sc : Nat × (Nat → Int32)} : fR (E sc 129 cS26 cN13 cI35 cA12 cJ0 cR31 cQ7) 103 1 0 = some 104 := E_fR (by decide) (by decide) rfl (Or.inl rfl) rfl
def cS27 : Nat → Nat := up1 cS26 129 6
def cI36 : Nat → Nat → Int32 := up1 cI35 129 (fun _ => 0)
def cR32 : Nat → Nat → Option Nat := up1 cR31 129 (fun _ => none)
theorem cz_67 {sc : Nat × (Nat → Int32)} : nO (E sc 129 cS26 cN13 cI35 cA12 cJ0 cR31 cQ7) 5 [.null, .null, .null, .int 0, .int 0] = E sc 130 cS27 cN13 cI36 cA12 cJ0 cR32 cQ7 := E_nO 6 (by decide) (Or.inl rfl) rfl (by decide)
def cS28 : Nat → Nat := upr cS27 130 3 20
def cN14 : Nat → Nat := upr cN13 130 3 6
def cI37 : Nat → Nat → Int32 := up2 (up2 cI36 129 3 0) 129 4 0
def cA13 : Nat → Nat → Int32 := upr cA12 130 3 (fun _ => 0)
def cR33 : Nat → Nat → Option Nat := up2 (up2 (up2 cR32 129 0 (some 130)) 129 1 (some 131)) 129 2 (some 132)
theorem cz_68 {sc : Nat × (Nat → Int32)} : F_X6_init 129 (E sc 130 cS27 cN13 cI36 cA12 cJ0 cR32 cQ7) = some ((), E sc 133 cS28 cN14 cI37 cA13 cJ0 cR33 cQ7, 3, 18) := i_X6 (c := 20) (Or.inl rfl) (by decide) (by decide) (Or.inl rfl)
def cQ8 : Nat → Nat → Option Nat := up1 cQ7 104 (va_up (cQ7 104) 6 (some 129))
theorem cz_69 {sc : Nat × (Nat → Int32)} : sR (E sc 133 cS28 cN14 cI37 cA13 cJ0 cR33 cQ7) 104 (nI 6) 129 = some (E sc 133 cS28 cN14 cI37 cA13 cJ0 cR33 cQ8) := E_sR (t := 5) (ci := 5) (by decide) (by decide) (by decide) rfl (Or.inl rfl) (by decide)
theorem cz_70 {sc : Nat × (Nat → Int32)} (f : Nat) : F_X2_init_b25 (f + 1) 103 (nI 6) (E sc 129 cS26 cN13 cI35 cA12 cJ0 cR31 cQ7) = ((F_X2_init_b25 f 103 (nI 7) (E sc 133 cS28 cN14 cI37 cA13 cJ0 cR33 cQ8)).map (ac _ 3 18)).map (ac _ 1 5) := by
  rw [F_X2_init_b25, if_neg (show ¬ (10 : Int32) ≤ nI 6 by decide), cz_66, Option.bind_some, Option.bind_some, cz_67, E_1, cz_68, Option.bind_some]
  dsimp only
  rw [cz_69, Option.bind_some]
  rfl
theorem cz_71 {sc : Nat × (Nat → Int32)} : fR (E sc 133 cS28 cN14 cI37 cA13 cJ0 cR33 cQ8) 103 1 0 = some 104 := E_fR (by decide) (by decide) rfl (Or.inl rfl) rfl
def cS29 : Nat → Nat := up1 cS28 133 6
def cI38 : Nat → Nat → Int32 := up1 cI37 133 (fun _ => 0)
def cR34 : Nat → Nat → Option Nat := up1 cR33 133 (fun _ => none)
theorem cz_72 {sc : Nat × (Nat → Int32)} : nO (E sc 133 cS28 cN14 cI37 cA13 cJ0 cR33 cQ8) 5 [.null, .null, .null, .int 0, .int 0] = E sc 134 cS29 cN14 cI38 cA13 cJ0 cR34 cQ8 := E_nO 6 (by decide) (Or.inl rfl) rfl (by decide)
def cS30 : Nat → Nat := upr cS29 134 3 20
def cN15 : Nat → Nat := upr cN14 134 3 6
def cI39 : Nat → Nat → Int32 := up2 (up2 cI38 133 3 0) 133 4 0
def cA14 : Nat → Nat → Int32 := upr cA13 134 3 (fun _ => 0)
def cR35 : Nat → Nat → Option Nat := up2 (up2 (up2 cR34 133 0 (some 134)) 133 1 (some 135)) 133 2 (some 136)
theorem cz_73 {sc : Nat × (Nat → Int32)} : F_X6_init 133 (E sc 134 cS29 cN14 cI38 cA13 cJ0 cR34 cQ8) = some ((), E sc 137 cS30 cN15 cI39 cA14 cJ0 cR35 cQ8, 3, 18) := i_X6 (c := 20) (Or.inl rfl) (by decide) (by decide) (Or.inl rfl)
def cQ9 : Nat → Nat → Option Nat := up1 cQ8 104 (va_up (cQ8 104) 7 (some 133))
theorem cz_74 {sc : Nat × (Nat → Int32)} : sR (E sc 137 cS30 cN15 cI39 cA14 cJ0 cR35 cQ8) 104 (nI 7) 133 = some (E sc 137 cS30 cN15 cI39 cA14 cJ0 cR35 cQ9) := E_sR (t := 5) (ci := 5) (by decide) (by decide) (by decide) rfl (Or.inl rfl) (by decide)
theorem cz_75 {sc : Nat × (Nat → Int32)} (f : Nat) : F_X2_init_b25 (f + 1) 103 (nI 7) (E sc 133 cS28 cN14 cI37 cA13 cJ0 cR33 cQ8) = ((F_X2_init_b25 f 103 (nI 8) (E sc 137 cS30 cN15 cI39 cA14 cJ0 cR35 cQ9)).map (ac _ 3 18)).map (ac _ 1 5) := by
  rw [F_X2_init_b25, if_neg (show ¬ (10 : Int32) ≤ nI 7 by decide), cz_71, Option.bind_some, Option.bind_some, cz_72, E_1, cz_73, Option.bind_some]
  dsimp only
  rw [cz_74, Option.bind_some]
  rfl
theorem cz_76 {sc : Nat × (Nat → Int32)} : fR (E sc 137 cS30 cN15 cI39 cA14 cJ0 cR35 cQ9) 103 1 0 = some 104 := E_fR (by decide) (by decide) rfl (Or.inl rfl) rfl
def cS31 : Nat → Nat := up1 cS30 137 6
def cI40 : Nat → Nat → Int32 := up1 cI39 137 (fun _ => 0)
def cR36 : Nat → Nat → Option Nat := up1 cR35 137 (fun _ => none)
theorem cz_77 {sc : Nat × (Nat → Int32)} : nO (E sc 137 cS30 cN15 cI39 cA14 cJ0 cR35 cQ9) 5 [.null, .null, .null, .int 0, .int 0] = E sc 138 cS31 cN15 cI40 cA14 cJ0 cR36 cQ9 := E_nO 6 (by decide) (Or.inl rfl) rfl (by decide)
def cS32 : Nat → Nat := upr cS31 138 3 20
def cN16 : Nat → Nat := upr cN15 138 3 6
def cI41 : Nat → Nat → Int32 := up2 (up2 cI40 137 3 0) 137 4 0
def cA15 : Nat → Nat → Int32 := upr cA14 138 3 (fun _ => 0)
def cR37 : Nat → Nat → Option Nat := up2 (up2 (up2 cR36 137 0 (some 138)) 137 1 (some 139)) 137 2 (some 140)
theorem cz_78 {sc : Nat × (Nat → Int32)} : F_X6_init 137 (E sc 138 cS31 cN15 cI40 cA14 cJ0 cR36 cQ9) = some ((), E sc 141 cS32 cN16 cI41 cA15 cJ0 cR37 cQ9, 3, 18) := i_X6 (c := 20) (Or.inl rfl) (by decide) (by decide) (Or.inl rfl)
def cQ10 : Nat → Nat → Option Nat := up1 cQ9 104 (va_up (cQ9 104) 8 (some 137))
theorem cz_79 {sc : Nat × (Nat → Int32)} : sR (E sc 141 cS32 cN16 cI41 cA15 cJ0 cR37 cQ9) 104 (nI 8) 137 = some (E sc 141 cS32 cN16 cI41 cA15 cJ0 cR37 cQ10) := E_sR (t := 5) (ci := 5) (by decide) (by decide) (by decide) rfl (Or.inl rfl) (by decide)
theorem cz_80 {sc : Nat × (Nat → Int32)} (f : Nat) : F_X2_init_b25 (f + 1) 103 (nI 8) (E sc 137 cS30 cN15 cI39 cA14 cJ0 cR35 cQ9) = ((F_X2_init_b25 f 103 (nI 9) (E sc 141 cS32 cN16 cI41 cA15 cJ0 cR37 cQ10)).map (ac _ 3 18)).map (ac _ 1 5) := by
  rw [F_X2_init_b25, if_neg (show ¬ (10 : Int32) ≤ nI 8 by decide), cz_76, Option.bind_some, Option.bind_some, cz_77, E_1, cz_78, Option.bind_some]
  dsimp only
  rw [cz_79, Option.bind_some]
  rfl
theorem cz_81 {sc : Nat × (Nat → Int32)} : fR (E sc 141 cS32 cN16 cI41 cA15 cJ0 cR37 cQ10) 103 1 0 = some 104 := E_fR (by decide) (by decide) rfl (Or.inl rfl) rfl
def cS33 : Nat → Nat := up1 cS32 141 6
def cI42 : Nat → Nat → Int32 := up1 cI41 141 (fun _ => 0)
def cR38 : Nat → Nat → Option Nat := up1 cR37 141 (fun _ => none)
theorem cz_82 {sc : Nat × (Nat → Int32)} : nO (E sc 141 cS32 cN16 cI41 cA15 cJ0 cR37 cQ10) 5 [.null, .null, .null, .int 0, .int 0] = E sc 142 cS33 cN16 cI42 cA15 cJ0 cR38 cQ10 := E_nO 6 (by decide) (Or.inl rfl) rfl (by decide)
def cS34 : Nat → Nat := upr cS33 142 3 20
def cN17 : Nat → Nat := upr cN16 142 3 6
def cI43 : Nat → Nat → Int32 := up2 (up2 cI42 141 3 0) 141 4 0
def cA16 : Nat → Nat → Int32 := upr cA15 142 3 (fun _ => 0)
def cR39 : Nat → Nat → Option Nat := up2 (up2 (up2 cR38 141 0 (some 142)) 141 1 (some 143)) 141 2 (some 144)
theorem cz_83 {sc : Nat × (Nat → Int32)} : F_X6_init 141 (E sc 142 cS33 cN16 cI42 cA15 cJ0 cR38 cQ10) = some ((), E sc 145 cS34 cN17 cI43 cA16 cJ0 cR39 cQ10, 3, 18) := i_X6 (c := 20) (Or.inl rfl) (by decide) (by decide) (Or.inl rfl)
def cQ11 : Nat → Nat → Option Nat := up1 cQ10 104 (va_up (cQ10 104) 9 (some 141))
theorem cz_84 {sc : Nat × (Nat → Int32)} : sR (E sc 145 cS34 cN17 cI43 cA16 cJ0 cR39 cQ10) 104 (nI 9) 141 = some (E sc 145 cS34 cN17 cI43 cA16 cJ0 cR39 cQ11) := E_sR (t := 5) (ci := 5) (by decide) (by decide) (by decide) rfl (Or.inl rfl) (by decide)
theorem cz_85 {sc : Nat × (Nat → Int32)} (f : Nat) : F_X2_init_b25 (f + 1) 103 (nI 9) (E sc 141 cS32 cN16 cI41 cA15 cJ0 cR37 cQ10) = ((F_X2_init_b25 f 103 (nI 10) (E sc 145 cS34 cN17 cI43 cA16 cJ0 cR39 cQ11)).map (ac _ 3 18)).map (ac _ 1 5) := by
  rw [F_X2_init_b25, if_neg (show ¬ (10 : Int32) ≤ nI 9 by decide), cz_81, Option.bind_some, Option.bind_some, cz_82, E_1, cz_83, Option.bind_some]
  dsimp only
  rw [cz_84, Option.bind_some]
  rfl
theorem cz_86 {sc : Nat × (Nat → Int32)} (f : Nat) : F_X2_init_b25 (f + 11) 103 (nI 0) (E sc 105 cS14 cN7 cI23 cA6 cJ0 cR19 cQ1) = some ((), E sc 145 cS34 cN17 cI43 cA16 cJ0 cR39 cQ11, 40, 230) := by
  rw [show f + 11 = f + 10 + 1 from rfl, cz_40, show f + 10 = f + 9 + 1 from rfl, cz_45, show f + 9 = f + 8 + 1 from rfl, cz_50, show f + 8 = f + 7 + 1 from rfl, cz_55, show f + 7 = f + 6 + 1 from rfl, cz_60, show f + 6 = f + 5 + 1 from rfl, cz_65, show f + 5 = f + 4 + 1 from rfl, cz_70, show f + 4 = f + 3 + 1 from rfl, cz_75, show f + 3 = f + 2 + 1 from rfl, cz_80, show f + 2 = f + 1 + 1 from rfl, cz_85, F_X2_init_b25, if_pos (show (10 : Int32) ≤ nI 10 by decide)]
  rfl
theorem cz_87 {sc : Nat × (Nat → Int32)} : F_X2_init 103 (E sc 104 cS13 cN6 cI21 cA6 cJ0 cR18 cQ0) = some ((), E sc 145 cS34 cN17 cI43 cA16 cJ0 cR39 cQ11, 41, 240) := by
  unfold F_X2_init
  rw [if_neg (show ¬ ((10 : Int32) < 0 ∨ 60000000 < ((10 : Int32)).toNatClampNeg) by decide), show ((10 : Int32)).toNatClampNeg = 10 from by decide, Option.bind_some, cz_32, E_1, cz_33, Option.bind_some, cz_34, Option.bind_some, cz_35, Option.bind_some]
  exact congrArg (Option.map (ac _ 1 10)) (cz_86 999989)
def cR40 : Nat → Nat → Option Nat := up2 cR39 69 4 (some 103)
theorem cz_88 {sc : Nat × (Nat → Int32)} : wQ (E sc 145 cS34 cN17 cI43 cA16 cJ0 cR39 cQ11) 69 10 4 (some 103) = some (E sc 145 cS34 cN17 cI43 cA16 cJ0 cR40 cQ11) := E_wQ (by decide) (by decide) rfl (Or.inl rfl)
def cS35 : Nat → Nat := up1 cS34 145 26
def cN18 : Nat → Nat := up1 cN17 145 4
def cQ12 : Nat → Nat → Option Nat := up1 cQ11 145 (fun _ => none)
theorem cz_89 {sc : Nat × (Nat → Int32)} : nQ (E sc 145 cS34 cN17 cI43 cA16 cJ0 cR40 cQ11) 6 4 = E sc 146 cS35 cN18 cI43 cA16 cJ0 cR40 cQ12 := E_nQ (by decide) (by decide)
def cR41 : Nat → Nat → Option Nat := up2 cR40 69 5 (some 145)
theorem cz_90 {sc : Nat × (Nat → Int32)} : wQ (E sc 146 cS35 cN18 cI43 cA16 cJ0 cR40 cQ12) 69 10 5 (some 145) = some (E sc 146 cS35 cN18 cI43 cA16 cJ0 cR41 cQ12) := E_wQ (by decide) (by decide) rfl (Or.inl rfl)
def cS36 : Nat → Nat := up1 cS35 146 27
def cN19 : Nat → Nat := up1 cN18 146 2
def cQ13 : Nat → Nat → Option Nat := up1 cQ12 146 (fun _ => none)
theorem cz_91 {sc : Nat × (Nat → Int32)} : nQ (E sc 146 cS35 cN18 cI43 cA16 cJ0 cR41 cQ12) 7 2 = E sc 147 cS36 cN19 cI43 cA16 cJ0 cR41 cQ13 := E_nQ (by decide) (by decide)
def cR42 : Nat → Nat → Option Nat := up2 cR41 69 6 (some 146)
theorem cz_92 {sc : Nat × (Nat → Int32)} : wQ (E sc 147 cS36 cN19 cI43 cA16 cJ0 cR41 cQ13) 69 10 6 (some 146) = some (E sc 147 cS36 cN19 cI43 cA16 cJ0 cR42 cQ13) := E_wQ (by decide) (by decide) rfl (Or.inl rfl)
def cS37 : Nat → Nat := up1 cS36 147 25
def cN20 : Nat → Nat := up1 cN19 147 2
def cQ14 : Nat → Nat → Option Nat := up1 cQ13 147 (fun _ => none)
theorem cz_93 {sc : Nat × (Nat → Int32)} : nQ (E sc 147 cS36 cN19 cI43 cA16 cJ0 cR42 cQ13) 5 2 = E sc 148 cS37 cN20 cI43 cA16 cJ0 cR42 cQ14 := E_nQ (by decide) (by decide)
def cR43 : Nat → Nat → Option Nat := up2 cR42 69 7 (some 147)
theorem cz_94 {sc : Nat × (Nat → Int32)} : wQ (E sc 148 cS37 cN20 cI43 cA16 cJ0 cR42 cQ14) 69 10 7 (some 147) = some (E sc 148 cS37 cN20 cI43 cA16 cJ0 cR43 cQ14) := E_wQ (by decide) (by decide) rfl (Or.inl rfl)
def cS38 : Nat → Nat := up1 cS37 148 9
def cI44 : Nat → Nat → Int32 := up1 cI43 148 (fun _ => 0)
def cR44 : Nat → Nat → Option Nat := up1 cR43 148 (fun _ => none)
theorem cz_95 {sc : Nat × (Nat → Int32)} : nO (E sc 148 cS37 cN20 cI43 cA16 cJ0 cR43 cQ14) 8 [.int 0, .null, .null, .int 0, .null, .null] = E sc 149 cS38 cN20 cI44 cA16 cJ0 cR44 cQ14 := E_nO 9 (by decide) (Or.inl rfl) rfl (by decide)
def cS39 : Nat → Nat := up1 (up1 (up1 (up1 (cS38) 149 20) 150 20) 151 20) 152 23
def cN21 : Nat → Nat := up1 (up1 (up1 (up1 (cN20) 149 11) 150 11) 151 10) 152 2048
def cI45 : Nat → Nat → Int32 := up2 (up2 (cI44) 148 0 0) 148 3 0
def cA17 : Nat → Nat → Int32 := up1 (up1 (up1 (up1 (cA16) 149 (fun _ => 0)) 150 (fun _ => 0)) 151 (fun _ => 0)) 152 (fun _ => 0)
def cR45 : Nat → Nat → Option Nat := up2 (up2 (up2 (up2 (cR44) 148 1 (some 149)) 148 2 (some 150)) 148 4 (some 151)) 148 5 (some 152)
theorem cz_96 {sc : Nat × (Nat → Int32)} : F_X9_init 148 (E sc 149 cS38 cN20 cI44 cA16 cJ0 cR44 cQ14) = some ((), E sc 153 cS39 cN21 cI45 cA17 cJ0 cR45 cQ14, 4, 2080) := i_X9 (by decide) (by decide) (Or.inl rfl)
def cR46 : Nat → Nat → Option Nat := up2 cR45 69 8 (some 148)
theorem cz_97 {sc : Nat × (Nat → Int32)} : wQ (E sc 153 cS39 cN21 cI45 cA17 cJ0 cR45 cQ14) 69 10 8 (some 148) = some (E sc 153 cS39 cN21 cI45 cA17 cJ0 cR46 cQ14) := E_wQ (by decide) (by decide) rfl (Or.inl rfl)
def cS40 : Nat → Nat := up1 cS39 153 7
def cI46 : Nat → Nat → Int32 := up1 cI45 153 (fun _ => 0)
def cR47 : Nat → Nat → Option Nat := up1 cR46 153 (fun _ => none)
theorem cz_98 {sc : Nat × (Nat → Int32)} : nO (E sc 153 cS39 cN21 cI45 cA17 cJ0 cR46 cQ14) 6 [.int 0, .int 0, .null, .null, .null] = E sc 154 cS40 cN21 cI46 cA17 cJ0 cR47 cQ14 := E_nO 7 (by decide) (Or.inl rfl) rfl (by decide)
def cS41 : Nat → Nat := up1 (up1 (up1 (cS40) 154 20) 155 20) 156 20
def cN22 : Nat → Nat := up1 (up1 (up1 (cN21) 154 6) 155 384) 156 64
def cI47 : Nat → Nat → Int32 := up2 (up2 (cI46) 153 0 0) 153 1 0
def cA18 : Nat → Nat → Int32 := up1 (up1 (up1 (cA17) 154 (fun _ => 0)) 155 (fun _ => 0)) 156 (fun _ => 0)
def cR48 : Nat → Nat → Option Nat := up2 (up2 (up2 (cR47) 153 2 (some 154)) 153 3 (some 155)) 153 4 (some 156)
theorem cz_99 {sc : Nat × (Nat → Int32)} : F_X7_init 153 (E sc 154 cS40 cN21 cI46 cA17 cJ0 cR47 cQ14) = some ((), E sc 157 cS41 cN22 cI47 cA18 cJ0 cR48 cQ14, 3, 454) := i_X7 (by decide) (by decide) (Or.inl rfl)
def cR49 : Nat → Nat → Option Nat := up2 cR48 69 9 (some 153)
theorem cz_100 {sc : Nat × (Nat → Int32)} : wQ (E sc 157 cS41 cN22 cI47 cA18 cJ0 cR48 cQ14) 69 10 9 (some 153) = some (E sc 157 cS41 cN22 cI47 cA18 cJ0 cR49 cQ14) := E_wQ (by decide) (by decide) rfl (Or.inl rfl)
def cS42 : Nat → Nat := up1 cS41 157 5
def cI48 : Nat → Nat → Int32 := up1 cI47 157 (fun _ => 0)
def cR50 : Nat → Nat → Option Nat := up1 cR49 157 (fun _ => none)
theorem cz_101 {sc : Nat × (Nat → Int32)} : nO (E sc 157 cS41 cN22 cI47 cA18 cJ0 cR49 cQ14) 4 [.null, .int 0, .null, .null, .null, .null, .null] = E sc 158 cS42 cN22 cI48 cA18 cJ0 cR50 cQ14 := E_nO 5 (by decide) (Or.inl rfl) rfl (by decide)
def cS43 : Nat → Nat := up1 (up1 (up1 (up1 (up1 (cS42) 158 20) 159 20) 160 20) 161 21) 162 21
def cN23 : Nat → Nat := up1 (up1 (up1 (up1 (up1 (cN22) 158 82) 159 1024) 160 100) 161 10) 162 10
def cI49 : Nat → Nat → Int32 := up2 (cI48) 157 1 0
def cA19 : Nat → Nat → Int32 := up1 (up1 (up1 (cA18) 158 (fun _ => 0)) 159 (fun _ => 0)) 160 (fun _ => 0)
def cJ1 : Nat → Nat → Int64 := up1 (up1 (cJ0) 161 (fun _ => 0)) 162 (fun _ => 0)
def cR51 : Nat → Nat → Option Nat := up2 (up2 (up2 (up2 (up2 (up2 (cR50) 157 0 (some 158)) 157 2 (some 159)) 157 3 (some 160)) 157 4 none) 157 5 (some 161)) 157 6 (some 162)
theorem cz_102 {sc : Nat × (Nat → Int32)} : F_X5_init 157 (E sc 158 cS42 cN22 cI48 cA18 cJ0 cR50 cQ14) = some ((), E sc 163 cS43 cN23 cI49 cA19 cJ1 cR51 cQ14, 5, 1226) := i_X5 (by decide) (by decide) (Or.inl rfl)
def cR52 : Nat → Nat → Option Nat := up2 cR51 69 10 (some 157)
theorem cz_103 {sc : Nat × (Nat → Int32)} : wQ (E sc 163 cS43 cN23 cI49 cA19 cJ1 cR51 cQ14) 69 10 10 (some 157) = some (E sc 163 cS43 cN23 cI49 cA19 cJ1 cR52 cQ14) := E_wQ (by decide) (by decide) rfl (Or.inl rfl)
def cS44 : Nat → Nat := up1 cS43 163 1
def cI50 : Nat → Nat → Int32 := up1 cI49 163 (fun _ => 0)
def cR53 : Nat → Nat → Option Nat := up1 cR52 163 (fun _ => none)
theorem cz_104 {sc : Nat × (Nat → Int32)} : nO (E sc 163 cS43 cN23 cI49 cA19 cJ1 cR52 cQ14) 0 [.null, .null, .null] = E sc 164 cS44 cN23 cI50 cA19 cJ1 cR53 cQ14 := E_nO 1 (by decide) (Or.inl rfl) rfl (by decide)
def cS45 : Nat → Nat := up1 (up1 (up1 (cS44) 164 20) 165 21) 166 21
def cN24 : Nat → Nat := up1 (up1 (up1 (cN23) 164 18) 165 6) 166 6
def cA20 : Nat → Nat → Int32 := up1 (cA19) 164 (fun _ => 0)
def cJ2 : Nat → Nat → Int64 := up1 (up1 (cJ1) 165 (fun _ => 0)) 166 (fun _ => 0)
def cR54 : Nat → Nat → Option Nat := up2 (up2 (up2 (cR53) 163 0 (some 164)) 163 1 (some 165)) 163 2 (some 166)
theorem cz_105 {sc : Nat × (Nat → Int32)} : F_X1_init 163 (E sc 164 cS44 cN23 cI50 cA19 cJ1 cR53 cQ14) = some ((), E sc 167 cS45 cN24 cI50 cA20 cJ2 cR54 cQ14, 3, 30) := i_X1 (by decide) (by decide) (Or.inl rfl)
def cR55 : Nat → Nat → Option Nat := up2 cR54 69 11 (some 163)
theorem cz_106 {sc : Nat × (Nat → Int32)} : wQ (E sc 167 cS45 cN24 cI50 cA20 cJ2 cR54 cQ14) 69 10 11 (some 163) = some (E sc 167 cS45 cN24 cI50 cA20 cJ2 cR55 cQ14) := E_wQ (by decide) (by decide) rfl (Or.inl rfl)
theorem cz_107 {sc : Nat × (Nat → Int32)} : fR (E sc 167 cS45 cN24 cI50 cA20 cJ2 cR55 cQ14) 69 10 1 = some 84 := E_fR (by decide) (by decide) rfl (Or.inl rfl) rfl
theorem cz_108 {sc : Nat × (Nat → Int32)} : rc (E sc 167 cS45 cN24 cI50 cA20 cJ2 cR55 cQ14) 84 9 = some () := E_rc (by decide) (by decide) (Or.inr rfl)
theorem cz_109 {sc : Nat × (Nat → Int32)} : fI (E sc 167 cS45 cN24 cI50 cA20 cJ2 cR55 cQ14) 84 9 0 = some (nI 2) := E_fI (by decide) (by decide) rfl (Or.inr rfl)
theorem cz_110 {sc : Nat × (Nat → Int32)} : fR (E sc 167 cS45 cN24 cI50 cA20 cJ2 cR55 cQ14) 84 9 10 = some 90 := E_fR (by decide) (by decide) rfl (Or.inr rfl) rfl
def cA21 : Nat → Nat → Int32 := up1 cA20 90 (upd (cA20 90) 0 (0))
theorem cz_111 {sc : Nat × (Nat → Int32)} : sI (E sc 167 cS45 cN24 cI50 cA20 cJ2 cR55 cQ14) 90 (nI 0) (0) = some (E sc 167 cS45 cN24 cI50 cA21 cJ2 cR55 cQ14) := E_sI (by decide) (Or.inr (by decide)) (by decide)
theorem cz_112 {sc : Nat × (Nat → Int32)} : fI (E sc 167 cS45 cN24 cI50 cA21 cJ2 cR55 cQ14) 84 9 0 = some (nI 2) := E_fI (by decide) (by decide) rfl (Or.inr rfl)
theorem cz_113 {sc : Nat × (Nat → Int32)} : fQ (E sc 167 cS45 cN24 cI50 cA21 cJ2 cR55 cQ14) 84 9 13 = some none := E_fQ (by decide) (by decide) rfl (Or.inr rfl)
theorem cz_114 {sc : Nat × (Nat → Int32)} : fR (E sc 167 cS45 cN24 cI50 cA21 cJ2 cR55 cQ14) 84 9 10 = some 90 := E_fR (by decide) (by decide) rfl (Or.inr rfl) rfl
theorem cz_115 {sc : Nat × (Nat → Int32)} : aI (E sc 167 cS45 cN24 cI50 cA21 cJ2 cR55 cQ14) 90 (nI 0) = some (nI 0) := E_aI (by decide) (Or.inr (by decide)) (by decide)
def cA22 : Nat → Nat → Int32 := up1 cA21 90 (upd (cA21 90) 0 (nI 1))
theorem cz_116 {sc : Nat × (Nat → Int32)} : sI (E sc 167 cS45 cN24 cI50 cA21 cJ2 cR55 cQ14) 90 (nI 0) (nI 1) = some (E sc 167 cS45 cN24 cI50 cA22 cJ2 cR55 cQ14) := E_sI (by decide) (Or.inr (by decide)) (by decide)
theorem cz_117 {sc : Nat × (Nat → Int32)} (k2 : Nat → Int32 → xH → Option (Unit × xH)) (f : Nat) : F_X10_settle_b19 k2 (f + 1) 84 (nI 0) (nI 0) (E sc 167 cS45 cN24 cI50 cA21 cJ2 cR55 cQ14) = F_X10_settle_b19 k2 f 84 (nI 0) (nI 1) (E sc 167 cS45 cN24 cI50 cA22 cJ2 cR55 cQ14) := by
  rw [F_X10_settle_b19, cz_112, Option.bind_some, if_neg (show ¬ nI 2 ≤ nI 0 by decide), cz_113, Option.bind_some]
  dsimp only
  unfold F_X10_settle_b54
  rw [cz_114, Option.bind_some, cz_115, Option.bind_some, show nI 0 ||| ((1 : Int32) <<< (nI 0 &&& 31)) = nI 1 by decide, cz_116, Option.bind_some]
  rfl
theorem cz_118 {sc : Nat × (Nat → Int32)} : fI (E sc 167 cS45 cN24 cI50 cA22 cJ2 cR55 cQ14) 84 9 0 = some (nI 2) := E_fI (by decide) (by decide) rfl (Or.inr rfl)
theorem cz_119 {sc : Nat × (Nat → Int32)} : fQ (E sc 167 cS45 cN24 cI50 cA22 cJ2 cR55 cQ14) 84 9 13 = some none := E_fQ (by decide) (by decide) rfl (Or.inr rfl)
theorem cz_120 {sc : Nat × (Nat → Int32)} : fR (E sc 167 cS45 cN24 cI50 cA22 cJ2 cR55 cQ14) 84 9 10 = some 90 := E_fR (by decide) (by decide) rfl (Or.inr rfl) rfl
theorem cz_121 {sc : Nat × (Nat → Int32)} : aI (E sc 167 cS45 cN24 cI50 cA22 cJ2 cR55 cQ14) 90 (nI 0) = some (nI 1) := E_aI (by decide) (Or.inr (by decide)) (by decide)
def cA23 : Nat → Nat → Int32 := up1 cA22 90 (upd (cA22 90) 0 (nI 3))
theorem cz_122 {sc : Nat × (Nat → Int32)} : sI (E sc 167 cS45 cN24 cI50 cA22 cJ2 cR55 cQ14) 90 (nI 0) (nI 3) = some (E sc 167 cS45 cN24 cI50 cA23 cJ2 cR55 cQ14) := E_sI (by decide) (Or.inr (by decide)) (by decide)
theorem cz_123 {sc : Nat × (Nat → Int32)} (k2 : Nat → Int32 → xH → Option (Unit × xH)) (f : Nat) : F_X10_settle_b19 k2 (f + 1) 84 (nI 0) (nI 1) (E sc 167 cS45 cN24 cI50 cA22 cJ2 cR55 cQ14) = F_X10_settle_b19 k2 f 84 (nI 0) (nI 2) (E sc 167 cS45 cN24 cI50 cA23 cJ2 cR55 cQ14) := by
  rw [F_X10_settle_b19, cz_118, Option.bind_some, if_neg (show ¬ nI 2 ≤ nI 1 by decide), cz_119, Option.bind_some]
  dsimp only
  unfold F_X10_settle_b54
  rw [cz_120, Option.bind_some, cz_121, Option.bind_some, show nI 1 ||| ((1 : Int32) <<< (nI 1 &&& 31)) = nI 3 by decide, cz_122, Option.bind_some]
  rfl
theorem cz_124 {sc : Nat × (Nat → Int32)} : fI (E sc 167 cS45 cN24 cI50 cA23 cJ2 cR55 cQ14) 84 9 0 = some (nI 2) := E_fI (by decide) (by decide) rfl (Or.inr rfl)
theorem cz_125 {sc : Nat × (Nat → Int32)} (f : Nat) : F_X10_settle_b2 (f + 1) 84 (nI 0) (E sc 167 cS45 cN24 cI50 cA20 cJ2 cR55 cQ14) = F_X10_settle_b2 f 84 (nI 1) (E sc 167 cS45 cN24 cI50 cA23 cJ2 cR55 cQ14) := by
  rw [F_X10_settle_b2, cz_109, Option.bind_some, if_neg (show ¬ nI 2 ≤ nI 0 by decide), cz_110, Option.bind_some, cz_111, Option.bind_some]
  have h : F_X10_settle_b19 (F_X10_settle_b2 f) (999997 + 1 + 1 + 1) 84 (nI 0) (nI 0) (E sc 167 cS45 cN24 cI50 cA21 cJ2 cR55 cQ14) = F_X10_settle_b2 f 84 (nI 1) (E sc 167 cS45 cN24 cI50 cA23 cJ2 cR55 cQ14) := by
    rw [cz_117, cz_123, F_X10_settle_b19, cz_124, Option.bind_some, if_pos (show nI 2 ≤ nI 2 by decide)]
    rfl
  exact h
theorem cz_126 {sc : Nat × (Nat → Int32)} : fI (E sc 167 cS45 cN24 cI50 cA23 cJ2 cR55 cQ14) 84 9 0 = some (nI 2) := E_fI (by decide) (by decide) rfl (Or.inr rfl)
theorem cz_127 {sc : Nat × (Nat → Int32)} : fR (E sc 167 cS45 cN24 cI50 cA23 cJ2 cR55 cQ14) 84 9 10 = some 90 := E_fR (by decide) (by decide) rfl (Or.inr rfl) rfl
def cA24 : Nat → Nat → Int32 := up1 cA23 90 (upd (cA23 90) 1 (0))
theorem cz_128 {sc : Nat × (Nat → Int32)} : sI (E sc 167 cS45 cN24 cI50 cA23 cJ2 cR55 cQ14) 90 (nI 1) (0) = some (E sc 167 cS45 cN24 cI50 cA24 cJ2 cR55 cQ14) := E_sI (by decide) (Or.inr (by decide)) (by decide)
theorem cz_129 {sc : Nat × (Nat → Int32)} : fI (E sc 167 cS45 cN24 cI50 cA24 cJ2 cR55 cQ14) 84 9 0 = some (nI 2) := E_fI (by decide) (by decide) rfl (Or.inr rfl)
theorem cz_130 {sc : Nat × (Nat → Int32)} : fQ (E sc 167 cS45 cN24 cI50 cA24 cJ2 cR55 cQ14) 84 9 13 = some none := E_fQ (by decide) (by decide) rfl (Or.inr rfl)
theorem cz_131 {sc : Nat × (Nat → Int32)} : fR (E sc 167 cS45 cN24 cI50 cA24 cJ2 cR55 cQ14) 84 9 10 = some 90 := E_fR (by decide) (by decide) rfl (Or.inr rfl) rfl
theorem cz_132 {sc : Nat × (Nat → Int32)} : aI (E sc 167 cS45 cN24 cI50 cA24 cJ2 cR55 cQ14) 90 (nI 1) = some (nI 0) := E_aI (by decide) (Or.inr (by decide)) (by decide)
def cA25 : Nat → Nat → Int32 := up1 cA24 90 (upd (cA24 90) 1 (nI 1))
theorem cz_133 {sc : Nat × (Nat → Int32)} : sI (E sc 167 cS45 cN24 cI50 cA24 cJ2 cR55 cQ14) 90 (nI 1) (nI 1) = some (E sc 167 cS45 cN24 cI50 cA25 cJ2 cR55 cQ14) := E_sI (by decide) (Or.inr (by decide)) (by decide)
theorem cz_134 {sc : Nat × (Nat → Int32)} (k2 : Nat → Int32 → xH → Option (Unit × xH)) (f : Nat) : F_X10_settle_b19 k2 (f + 1) 84 (nI 1) (nI 0) (E sc 167 cS45 cN24 cI50 cA24 cJ2 cR55 cQ14) = F_X10_settle_b19 k2 f 84 (nI 1) (nI 1) (E sc 167 cS45 cN24 cI50 cA25 cJ2 cR55 cQ14) := by
  rw [F_X10_settle_b19, cz_129, Option.bind_some, if_neg (show ¬ nI 2 ≤ nI 0 by decide), cz_130, Option.bind_some]
  dsimp only
  unfold F_X10_settle_b54
  rw [cz_131, Option.bind_some, cz_132, Option.bind_some, show nI 0 ||| ((1 : Int32) <<< (nI 0 &&& 31)) = nI 1 by decide, cz_133, Option.bind_some]
  rfl
theorem cz_135 {sc : Nat × (Nat → Int32)} : fI (E sc 167 cS45 cN24 cI50 cA25 cJ2 cR55 cQ14) 84 9 0 = some (nI 2) := E_fI (by decide) (by decide) rfl (Or.inr rfl)
theorem cz_136 {sc : Nat × (Nat → Int32)} : fQ (E sc 167 cS45 cN24 cI50 cA25 cJ2 cR55 cQ14) 84 9 13 = some none := E_fQ (by decide) (by decide) rfl (Or.inr rfl)
theorem cz_137 {sc : Nat × (Nat → Int32)} : fR (E sc 167 cS45 cN24 cI50 cA25 cJ2 cR55 cQ14) 84 9 10 = some 90 := E_fR (by decide) (by decide) rfl (Or.inr rfl) rfl
theorem cz_138 {sc : Nat × (Nat → Int32)} : aI (E sc 167 cS45 cN24 cI50 cA25 cJ2 cR55 cQ14) 90 (nI 1) = some (nI 1) := E_aI (by decide) (Or.inr (by decide)) (by decide)
def cA26 : Nat → Nat → Int32 := up1 cA25 90 (upd (cA25 90) 1 (nI 3))
theorem cz_139 {sc : Nat × (Nat → Int32)} : sI (E sc 167 cS45 cN24 cI50 cA25 cJ2 cR55 cQ14) 90 (nI 1) (nI 3) = some (E sc 167 cS45 cN24 cI50 cA26 cJ2 cR55 cQ14) := E_sI (by decide) (Or.inr (by decide)) (by decide)
theorem cz_140 {sc : Nat × (Nat → Int32)} (k2 : Nat → Int32 → xH → Option (Unit × xH)) (f : Nat) : F_X10_settle_b19 k2 (f + 1) 84 (nI 1) (nI 1) (E sc 167 cS45 cN24 cI50 cA25 cJ2 cR55 cQ14) = F_X10_settle_b19 k2 f 84 (nI 1) (nI 2) (E sc 167 cS45 cN24 cI50 cA26 cJ2 cR55 cQ14) := by
  rw [F_X10_settle_b19, cz_135, Option.bind_some, if_neg (show ¬ nI 2 ≤ nI 1 by decide), cz_136, Option.bind_some]
  dsimp only
  unfold F_X10_settle_b54
  rw [cz_137, Option.bind_some, cz_138, Option.bind_some, show nI 1 ||| ((1 : Int32) <<< (nI 1 &&& 31)) = nI 3 by decide, cz_139, Option.bind_some]
  rfl
theorem cz_141 {sc : Nat × (Nat → Int32)} : fI (E sc 167 cS45 cN24 cI50 cA26 cJ2 cR55 cQ14) 84 9 0 = some (nI 2) := E_fI (by decide) (by decide) rfl (Or.inr rfl)
theorem cz_142 {sc : Nat × (Nat → Int32)} (f : Nat) : F_X10_settle_b2 (f + 1) 84 (nI 1) (E sc 167 cS45 cN24 cI50 cA23 cJ2 cR55 cQ14) = F_X10_settle_b2 f 84 (nI 2) (E sc 167 cS45 cN24 cI50 cA26 cJ2 cR55 cQ14) := by
  rw [F_X10_settle_b2, cz_126, Option.bind_some, if_neg (show ¬ nI 2 ≤ nI 1 by decide), cz_127, Option.bind_some, cz_128, Option.bind_some]
  have h : F_X10_settle_b19 (F_X10_settle_b2 f) (999997 + 1 + 1 + 1) 84 (nI 1) (nI 0) (E sc 167 cS45 cN24 cI50 cA24 cJ2 cR55 cQ14) = F_X10_settle_b2 f 84 (nI 2) (E sc 167 cS45 cN24 cI50 cA26 cJ2 cR55 cQ14) := by
    rw [cz_134, cz_140, F_X10_settle_b19, cz_141, Option.bind_some, if_pos (show nI 2 ≤ nI 2 by decide)]
    rfl
  exact h
theorem cz_143 {sc : Nat × (Nat → Int32)} : fI (E sc 167 cS45 cN24 cI50 cA26 cJ2 cR55 cQ14) 84 9 0 = some (nI 2) := E_fI (by decide) (by decide) rfl (Or.inr rfl)
theorem cz_144 {sc : Nat × (Nat → Int32)} : F_X10_settle 84 (E sc 167 cS45 cN24 cI50 cA20 cJ2 cR55 cQ14) = some ((), E sc 167 cS45 cN24 cI50 cA26 cJ2 cR55 cQ14) := by
  unfold F_X10_settle
  have h : F_X10_settle_b2 (999997 + 1 + 1 + 1) 84 (nI 0) (E sc 167 cS45 cN24 cI50 cA20 cJ2 cR55 cQ14) = some ((), E sc 167 cS45 cN24 cI50 cA26 cJ2 cR55 cQ14) := by
    rw [cz_125, cz_142, F_X10_settle_b2, cz_143, Option.bind_some, if_pos (show nI 2 ≤ nI 2 by decide)]
  exact h
theorem cz_145 {sc : Nat × (Nat → Int32)} : fR (E sc 167 cS45 cN24 cI50 cA26 cJ2 cR55 cQ14) 69 10 5 = some 145 := E_fR (by decide) (by decide) rfl (Or.inl rfl) rfl
def cS46 : Nat → Nat := up1 cS45 167 8
def cI51 : Nat → Nat → Int32 := up1 cI50 167 (fun _ => 0)
def cR56 : Nat → Nat → Option Nat := up1 cR55 167 (fun _ => none)
theorem cz_146 {sc : Nat × (Nat → Int32)} : nO (E sc 167 cS45 cN24 cI50 cA26 cJ2 cR55 cQ14) 7 [.null, .int 0, .int 0] = E sc 168 cS46 cN24 cI51 cA26 cJ2 cR56 cQ14 := E_nO 8 (by decide) (Or.inl rfl) rfl (by decide)
def cS47 : Nat → Nat := up1 (cS46) 168 21
def cN25 : Nat → Nat := up1 (cN24) 168 40
def cI52 : Nat → Nat → Int32 := up2 (up2 (cI51) 167 1 (-1)) 167 2 0
def cJ3 : Nat → Nat → Int64 := up1 (cJ2) 168 (fun _ => 0)
def cR57 : Nat → Nat → Option Nat := up2 (cR56) 167 0 (some 168)
theorem cz_147 {sc : Nat × (Nat → Int32)} : F_X8_init 167 (E sc 168 cS46 cN24 cI51 cA26 cJ2 cR56 cQ14) = some ((), E sc 169 cS47 cN25 cI52 cA26 cJ3 cR57 cQ14, 1, 40) := i_X8 (by decide) (by decide) (Or.inl rfl)
def cQ15 : Nat → Nat → Option Nat := up1 cQ14 145 (va_up (cQ14 145) 0 (some 167))
theorem cz_148 {sc : Nat × (Nat → Int32)} : sR (E sc 169 cS47 cN25 cI52 cA26 cJ3 cR57 cQ14) 145 (nI 0) 167 = some (E sc 169 cS47 cN25 cI52 cA26 cJ3 cR57 cQ15) := E_sR (t := 6) (ci := 7) (by decide) (by decide) (by decide) rfl (Or.inl rfl) (by decide)
theorem cz_149 {sc : Nat × (Nat → Int32)} (f : Nat) : F_X11_init_b136 (f + 1) 69 (nI 0) (E sc 167 cS45 cN24 cI50 cA26 cJ2 cR55 cQ14) = ((F_X11_init_b136 f 69 (nI 1) (E sc 169 cS47 cN25 cI52 cA26 cJ3 cR57 cQ15)).map (ac _ 1 40)).map (ac _ 1 3) := by
  rw [F_X11_init_b136, if_neg (show ¬ (4 : Int32) ≤ nI 0 by decide), cz_145, Option.bind_some, Option.bind_some, cz_146, E_1, cz_147, Option.bind_some]
  dsimp only
  rw [cz_148, Option.bind_some]
  rfl
theorem cz_150 {sc : Nat × (Nat → Int32)} : fR (E sc 169 cS47 cN25 cI52 cA26 cJ3 cR57 cQ15) 69 10 5 = some 145 := E_fR (by decide) (by decide) rfl (Or.inl rfl) rfl
def cS48 : Nat → Nat := up1 cS47 169 8
def cI53 : Nat → Nat → Int32 := up1 cI52 169 (fun _ => 0)
def cR58 : Nat → Nat → Option Nat := up1 cR57 169 (fun _ => none)
theorem cz_151 {sc : Nat × (Nat → Int32)} : nO (E sc 169 cS47 cN25 cI52 cA26 cJ3 cR57 cQ15) 7 [.null, .int 0, .int 0] = E sc 170 cS48 cN25 cI53 cA26 cJ3 cR58 cQ15 := E_nO 8 (by decide) (Or.inl rfl) rfl (by decide)
def cS49 : Nat → Nat := up1 (cS48) 170 21
def cN26 : Nat → Nat := up1 (cN25) 170 40
def cI54 : Nat → Nat → Int32 := up2 (up2 (cI53) 169 1 (-1)) 169 2 0
def cJ4 : Nat → Nat → Int64 := up1 (cJ3) 170 (fun _ => 0)
def cR59 : Nat → Nat → Option Nat := up2 (cR58) 169 0 (some 170)
theorem cz_152 {sc : Nat × (Nat → Int32)} : F_X8_init 169 (E sc 170 cS48 cN25 cI53 cA26 cJ3 cR58 cQ15) = some ((), E sc 171 cS49 cN26 cI54 cA26 cJ4 cR59 cQ15, 1, 40) := i_X8 (by decide) (by decide) (Or.inl rfl)
def cQ16 : Nat → Nat → Option Nat := up1 cQ15 145 (va_up (cQ15 145) 1 (some 169))
theorem cz_153 {sc : Nat × (Nat → Int32)} : sR (E sc 171 cS49 cN26 cI54 cA26 cJ4 cR59 cQ15) 145 (nI 1) 169 = some (E sc 171 cS49 cN26 cI54 cA26 cJ4 cR59 cQ16) := E_sR (t := 6) (ci := 7) (by decide) (by decide) (by decide) rfl (Or.inl rfl) (by decide)
theorem cz_154 {sc : Nat × (Nat → Int32)} (f : Nat) : F_X11_init_b136 (f + 1) 69 (nI 1) (E sc 169 cS47 cN25 cI52 cA26 cJ3 cR57 cQ15) = ((F_X11_init_b136 f 69 (nI 2) (E sc 171 cS49 cN26 cI54 cA26 cJ4 cR59 cQ16)).map (ac _ 1 40)).map (ac _ 1 3) := by
  rw [F_X11_init_b136, if_neg (show ¬ (4 : Int32) ≤ nI 1 by decide), cz_150, Option.bind_some, Option.bind_some, cz_151, E_1, cz_152, Option.bind_some]
  dsimp only
  rw [cz_153, Option.bind_some]
  rfl
theorem cz_155 {sc : Nat × (Nat → Int32)} : fR (E sc 171 cS49 cN26 cI54 cA26 cJ4 cR59 cQ16) 69 10 5 = some 145 := E_fR (by decide) (by decide) rfl (Or.inl rfl) rfl
def cS50 : Nat → Nat := up1 cS49 171 8
def cI55 : Nat → Nat → Int32 := up1 cI54 171 (fun _ => 0)
def cR60 : Nat → Nat → Option Nat := up1 cR59 171 (fun _ => none)
theorem cz_156 {sc : Nat × (Nat → Int32)} : nO (E sc 171 cS49 cN26 cI54 cA26 cJ4 cR59 cQ16) 7 [.null, .int 0, .int 0] = E sc 172 cS50 cN26 cI55 cA26 cJ4 cR60 cQ16 := E_nO 8 (by decide) (Or.inl rfl) rfl (by decide)
def cS51 : Nat → Nat := up1 (cS50) 172 21
def cN27 : Nat → Nat := up1 (cN26) 172 40
def cI56 : Nat → Nat → Int32 := up2 (up2 (cI55) 171 1 (-1)) 171 2 0
def cJ5 : Nat → Nat → Int64 := up1 (cJ4) 172 (fun _ => 0)
def cR61 : Nat → Nat → Option Nat := up2 (cR60) 171 0 (some 172)
theorem cz_157 {sc : Nat × (Nat → Int32)} : F_X8_init 171 (E sc 172 cS50 cN26 cI55 cA26 cJ4 cR60 cQ16) = some ((), E sc 173 cS51 cN27 cI56 cA26 cJ5 cR61 cQ16, 1, 40) := i_X8 (by decide) (by decide) (Or.inl rfl)
def cQ17 : Nat → Nat → Option Nat := up1 cQ16 145 (va_up (cQ16 145) 2 (some 171))
theorem cz_158 {sc : Nat × (Nat → Int32)} : sR (E sc 173 cS51 cN27 cI56 cA26 cJ5 cR61 cQ16) 145 (nI 2) 171 = some (E sc 173 cS51 cN27 cI56 cA26 cJ5 cR61 cQ17) := E_sR (t := 6) (ci := 7) (by decide) (by decide) (by decide) rfl (Or.inl rfl) (by decide)
theorem cz_159 {sc : Nat × (Nat → Int32)} (f : Nat) : F_X11_init_b136 (f + 1) 69 (nI 2) (E sc 171 cS49 cN26 cI54 cA26 cJ4 cR59 cQ16) = ((F_X11_init_b136 f 69 (nI 3) (E sc 173 cS51 cN27 cI56 cA26 cJ5 cR61 cQ17)).map (ac _ 1 40)).map (ac _ 1 3) := by
  rw [F_X11_init_b136, if_neg (show ¬ (4 : Int32) ≤ nI 2 by decide), cz_155, Option.bind_some, Option.bind_some, cz_156, E_1, cz_157, Option.bind_some]
  dsimp only
  rw [cz_158, Option.bind_some]
  rfl
theorem cz_160 {sc : Nat × (Nat → Int32)} : fR (E sc 173 cS51 cN27 cI56 cA26 cJ5 cR61 cQ17) 69 10 5 = some 145 := E_fR (by decide) (by decide) rfl (Or.inl rfl) rfl
def cS52 : Nat → Nat := up1 cS51 173 8
def cI57 : Nat → Nat → Int32 := up1 cI56 173 (fun _ => 0)
def cR62 : Nat → Nat → Option Nat := up1 cR61 173 (fun _ => none)
theorem cz_161 {sc : Nat × (Nat → Int32)} : nO (E sc 173 cS51 cN27 cI56 cA26 cJ5 cR61 cQ17) 7 [.null, .int 0, .int 0] = E sc 174 cS52 cN27 cI57 cA26 cJ5 cR62 cQ17 := E_nO 8 (by decide) (Or.inl rfl) rfl (by decide)
def cS53 : Nat → Nat := up1 (cS52) 174 21
def cN28 : Nat → Nat := up1 (cN27) 174 40
def cI58 : Nat → Nat → Int32 := up2 (up2 (cI57) 173 1 (-1)) 173 2 0
def cJ6 : Nat → Nat → Int64 := up1 (cJ5) 174 (fun _ => 0)
def cR63 : Nat → Nat → Option Nat := up2 (cR62) 173 0 (some 174)
theorem cz_162 {sc : Nat × (Nat → Int32)} : F_X8_init 173 (E sc 174 cS52 cN27 cI57 cA26 cJ5 cR62 cQ17) = some ((), E sc 175 cS53 cN28 cI58 cA26 cJ6 cR63 cQ17, 1, 40) := i_X8 (by decide) (by decide) (Or.inl rfl)
def cQ18 : Nat → Nat → Option Nat := up1 cQ17 145 (va_up (cQ17 145) 3 (some 173))
theorem cz_163 {sc : Nat × (Nat → Int32)} : sR (E sc 175 cS53 cN28 cI58 cA26 cJ6 cR63 cQ17) 145 (nI 3) 173 = some (E sc 175 cS53 cN28 cI58 cA26 cJ6 cR63 cQ18) := E_sR (t := 6) (ci := 7) (by decide) (by decide) (by decide) rfl (Or.inl rfl) (by decide)
theorem cz_164 {sc : Nat × (Nat → Int32)} (f : Nat) : F_X11_init_b136 (f + 1) 69 (nI 3) (E sc 173 cS51 cN27 cI56 cA26 cJ5 cR61 cQ17) = ((F_X11_init_b136 f 69 (nI 4) (E sc 175 cS53 cN28 cI58 cA26 cJ6 cR63 cQ18)).map (ac _ 1 40)).map (ac _ 1 3) := by
  rw [F_X11_init_b136, if_neg (show ¬ (4 : Int32) ≤ nI 3 by decide), cz_160, Option.bind_some, Option.bind_some, cz_161, E_1, cz_162, Option.bind_some]
  dsimp only
  rw [cz_163, Option.bind_some]
  rfl
theorem cz_165 {sc : Nat × (Nat → Int32)} : fR (E sc 175 cS53 cN28 cI58 cA26 cJ6 cR63 cQ18) 69 10 7 = some 147 := E_fR (by decide) (by decide) rfl (Or.inl rfl) rfl
def cS54 : Nat → Nat := up1 cS53 175 6
def cI59 : Nat → Nat → Int32 := up1 cI58 175 (fun _ => 0)
def cR64 : Nat → Nat → Option Nat := up1 cR63 175 (fun _ => none)
theorem cz_166 {sc : Nat × (Nat → Int32)} : nO (E sc 175 cS53 cN28 cI58 cA26 cJ6 cR63 cQ18) 5 [.null, .null, .null, .int 0, .int 0] = E sc 176 cS54 cN28 cI59 cA26 cJ6 cR64 cQ18 := E_nO 6 (by decide) (Or.inl rfl) rfl (by decide)
def cS55 : Nat → Nat := upr cS54 176 3 20
def cN29 : Nat → Nat := upr cN28 176 3 6
def cI60 : Nat → Nat → Int32 := up2 (up2 cI59 175 3 0) 175 4 0
def cA27 : Nat → Nat → Int32 := upr cA26 176 3 (fun _ => 0)
def cR65 : Nat → Nat → Option Nat := up2 (up2 (up2 cR64 175 0 (some 176)) 175 1 (some 177)) 175 2 (some 178)
theorem cz_167 {sc : Nat × (Nat → Int32)} : F_X6_init 175 (E sc 176 cS54 cN28 cI59 cA26 cJ6 cR64 cQ18) = some ((), E sc 179 cS55 cN29 cI60 cA27 cJ6 cR65 cQ18, 3, 18) := i_X6 (c := 20) (Or.inl rfl) (by decide) (by decide) (Or.inl rfl)
def cQ19 : Nat → Nat → Option Nat := up1 cQ18 147 (va_up (cQ18 147) 0 (some 175))
theorem cz_168 {sc : Nat × (Nat → Int32)} : sR (E sc 179 cS55 cN29 cI60 cA27 cJ6 cR65 cQ18) 147 (nI 0) 175 = some (E sc 179 cS55 cN29 cI60 cA27 cJ6 cR65 cQ19) := E_sR (t := 5) (ci := 5) (by decide) (by decide) (by decide) rfl (Or.inl rfl) (by decide)
theorem cz_169 {sc : Nat × (Nat → Int32)} (f : Nat) : F_X11_init_b162 (f + 1) 69 (nI 0) (E sc 175 cS53 cN28 cI58 cA26 cJ6 cR63 cQ18) = ((F_X11_init_b162 f 69 (nI 1) (E sc 179 cS55 cN29 cI60 cA27 cJ6 cR65 cQ19)).map (ac _ 3 18)).map (ac _ 1 5) := by
  rw [F_X11_init_b162, if_neg (show ¬ (2 : Int32) ≤ nI 0 by decide), cz_165, Option.bind_some, Option.bind_some, cz_166, E_1, cz_167, Option.bind_some]
  dsimp only
  rw [cz_168, Option.bind_some]
  rfl
theorem cz_170 {sc : Nat × (Nat → Int32)} : fR (E sc 179 cS55 cN29 cI60 cA27 cJ6 cR65 cQ19) 69 10 7 = some 147 := E_fR (by decide) (by decide) rfl (Or.inl rfl) rfl
def cS56 : Nat → Nat := up1 cS55 179 6
def cI61 : Nat → Nat → Int32 := up1 cI60 179 (fun _ => 0)
def cR66 : Nat → Nat → Option Nat := up1 cR65 179 (fun _ => none)
theorem cz_171 {sc : Nat × (Nat → Int32)} : nO (E sc 179 cS55 cN29 cI60 cA27 cJ6 cR65 cQ19) 5 [.null, .null, .null, .int 0, .int 0] = E sc 180 cS56 cN29 cI61 cA27 cJ6 cR66 cQ19 := E_nO 6 (by decide) (Or.inl rfl) rfl (by decide)
def cS57 : Nat → Nat := upr cS56 180 3 20
def cN30 : Nat → Nat := upr cN29 180 3 6
def cI62 : Nat → Nat → Int32 := up2 (up2 cI61 179 3 0) 179 4 0
def cA28 : Nat → Nat → Int32 := upr cA27 180 3 (fun _ => 0)
def cR67 : Nat → Nat → Option Nat := up2 (up2 (up2 cR66 179 0 (some 180)) 179 1 (some 181)) 179 2 (some 182)
theorem cz_172 {sc : Nat × (Nat → Int32)} : F_X6_init 179 (E sc 180 cS56 cN29 cI61 cA27 cJ6 cR66 cQ19) = some ((), E sc 183 cS57 cN30 cI62 cA28 cJ6 cR67 cQ19, 3, 18) := i_X6 (c := 20) (Or.inl rfl) (by decide) (by decide) (Or.inl rfl)
def cQ20 : Nat → Nat → Option Nat := up1 cQ19 147 (va_up (cQ19 147) 1 (some 179))
theorem cz_173 {sc : Nat × (Nat → Int32)} : sR (E sc 183 cS57 cN30 cI62 cA28 cJ6 cR67 cQ19) 147 (nI 1) 179 = some (E sc 183 cS57 cN30 cI62 cA28 cJ6 cR67 cQ20) := E_sR (t := 5) (ci := 5) (by decide) (by decide) (by decide) rfl (Or.inl rfl) (by decide)
theorem cz_174 {sc : Nat × (Nat → Int32)} (f : Nat) : F_X11_init_b162 (f + 1) 69 (nI 1) (E sc 179 cS55 cN29 cI60 cA27 cJ6 cR65 cQ19) = ((F_X11_init_b162 f 69 (nI 2) (E sc 183 cS57 cN30 cI62 cA28 cJ6 cR67 cQ20)).map (ac _ 3 18)).map (ac _ 1 5) := by
  rw [F_X11_init_b162, if_neg (show ¬ (2 : Int32) ≤ nI 1 by decide), cz_170, Option.bind_some, Option.bind_some, cz_171, E_1, cz_172, Option.bind_some]
  dsimp only
  rw [cz_173, Option.bind_some]
  rfl
theorem cz_175 {sc : Nat × (Nat → Int32)} : F_X11_init_b162 FU 69 0 (E sc 175 cS53 cN28 cI58 cA26 cJ6 cR63 cQ18) = some ((), E sc 183 cS57 cN30 cI62 cA28 cJ6 cR67 cQ20, 8, 46) := by
  have h : F_X11_init_b162 (999997 + 1 + 1 + 1) 69 (nI 0) (E sc 175 cS53 cN28 cI58 cA26 cJ6 cR63 cQ18) = some ((), E sc 183 cS57 cN30 cI62 cA28 cJ6 cR67 cQ20, 8, 46) := by
    rw [cz_169, cz_174, F_X11_init_b162, if_pos (show (2 : Int32) ≤ nI 2 by decide)]
    rfl
  exact h
theorem cz_176 {sc : Nat × (Nat → Int32)} : F_X11_init_b136 FU 69 0 (E sc 167 cS45 cN24 cI50 cA26 cJ2 cR55 cQ14) = some ((), E sc 183 cS57 cN30 cI62 cA28 cJ6 cR67 cQ20, 16, 218) := by
  have h : F_X11_init_b136 (999995 + 1 + 1 + 1 + 1 + 1) 69 (nI 0) (E sc 167 cS45 cN24 cI50 cA26 cJ2 cR55 cQ14) = some ((), E sc 183 cS57 cN30 cI62 cA28 cJ6 cR67 cQ20, 16, 218) := by
    rw [cz_149, cz_154, cz_159, cz_164, F_X11_init_b136, if_pos (show (4 : Int32) ≤ nI 4 by decide), cz_175]
    rfl
  exact h
theorem cz_177 {sc : Nat × (Nat → Int32)} : F_X11_init 69 (E sc 70 cS1 cN0 cI1 cA0 cJ0 cR1 cQ0) = some ((), E sc 183 cS57 cN30 cI62 cA28 cJ6 cR67 cQ20, 113, 6425) := by
  unfold F_X11_init
  rw [Option.bind_some, cz_2, E_1]
  rw [cz_20, Option.bind_some]
  dsimp only
  rw [cz_21, Option.bind_some]
  rw [Option.bind_some, cz_22, E_1, cz_23, Option.bind_some]
  dsimp only
  rw [cz_24, Option.bind_some]
  rw [Option.bind_some, cz_25, E_1, cz_26, Option.bind_some]
  dsimp only
  rw [cz_27, Option.bind_some]
  rw [Option.bind_some, cz_28, E_1, cz_29, Option.bind_some]
  dsimp only
  rw [cz_30, Option.bind_some]
  rw [Option.bind_some, cz_31, E_1]
  rw [cz_87, Option.bind_some]
  dsimp only
  rw [cz_88, Option.bind_some]
  rw [if_neg (show ¬ ((4 : Int32) < 0 ∨ 60000000 < ((4 : Int32)).toNatClampNeg) by decide), show ((4 : Int32)).toNatClampNeg = 4 from by decide, Option.bind_some, cz_89, E_1, cz_90, Option.bind_some]
  rw [if_neg (show ¬ ((2 : Int32) < 0 ∨ 60000000 < ((2 : Int32)).toNatClampNeg) by decide), show ((2 : Int32)).toNatClampNeg = 2 from by decide, Option.bind_some, cz_91, E_1, cz_92, Option.bind_some]
  rw [if_neg (show ¬ ((2 : Int32) < 0 ∨ 60000000 < (2 : Nat)) by decide), Option.bind_some, cz_93, E_1, cz_94, Option.bind_some]
  rw [Option.bind_some, cz_95, E_1, cz_96, Option.bind_some]
  dsimp only
  rw [cz_97, Option.bind_some]
  rw [Option.bind_some, cz_98, E_1, cz_99, Option.bind_some]
  dsimp only
  rw [cz_100, Option.bind_some]
  rw [Option.bind_some, cz_101, E_1, cz_102, Option.bind_some]
  dsimp only
  rw [cz_103, Option.bind_some]
  rw [Option.bind_some, cz_104, E_1, cz_105, Option.bind_some]
  dsimp only
  rw [cz_106, Option.bind_some]
  rw [cz_107, Option.bind_some, cz_108, Option.bind_some]
  rw [cz_144, Option.bind_some]
  dsimp only
  rw [cz_176]
  rfl
def cS58 : Nat → Nat := up1 cS57 183 12
def cI63 : Nat → Nat → Int32 := up1 cI62 183 (fun _ => 0)
def cR68 : Nat → Nat → Option Nat := up1 cR67 183 (fun _ => none)
theorem cz_178 {sc : Nat × (Nat → Int32)} : nO (E sc 183 cS57 cN30 cI62 cA28 cJ6 cR67 cQ20) 11 [.int 0, .null, .null, .null, .null, .int 0, .int 0, .int 0, .int 0, .int 0, .int 0, .int 0, .int 0, .int 0, .int 0, .int 0, .null, .null, .null, .int 0, .int 0, .null, .null, .null, .null, .null, .int 0, .null, .null, .null, .int 0, .null, .null, .null, .null, .null, .null] = E sc 184 cS58 cN30 cI63 cA28 cJ6 cR68 cQ20 := E_nO 12 (by decide) (Or.inl rfl) rfl (by decide)
def cS59 : Nat → Nat := up1 cS58 184 20
def cN31 : Nat → Nat := up1 cN30 184 3687
def cA29 : Nat → Nat → Int32 := up1 cA28 184 (fun _ => 0)
theorem cz_179 {sc : Nat × (Nat → Int32)} : nW (E sc 184 cS58 cN30 cI63 cA28 cJ6 cR68 cQ20) 0 3687 = E sc 185 cS59 cN31 cI63 cA29 cJ6 cR68 cQ20 := E_nW0 20 (Or.inl rfl) (by decide)
def cR69 : Nat → Nat → Option Nat := up2 cR68 183 1 (some 184)
theorem cz_180 {sc : Nat × (Nat → Int32)} : wQ (E sc 185 cS59 cN31 cI63 cA29 cJ6 cR68 cQ20) 183 11 1 (some 184) = some (E sc 185 cS59 cN31 cI63 cA29 cJ6 cR69 cQ20) := E_wQ (by decide) (by decide) rfl (Or.inl rfl)
def cS60 : Nat → Nat := up1 cS59 185 24
def cN32 : Nat → Nat := up1 cN31 185 2
def cA30 : Nat → Nat → Int32 := up1 cA29 185 (fun _ => 0)
theorem cz_181 {sc : Nat × (Nat → Int32)} : nW (E sc 185 cS59 cN31 cI63 cA29 cJ6 cR69 cQ20) 4 2 = E sc 186 cS60 cN32 cI63 cA30 cJ6 cR69 cQ20 := E_nWt (by decide) (by decide)
def cR70 : Nat → Nat → Option Nat := up2 cR69 183 2 (some 185)
theorem cz_182 {sc : Nat × (Nat → Int32)} : wQ (E sc 186 cS60 cN32 cI63 cA30 cJ6 cR69 cQ20) 183 11 2 (some 185) = some (E sc 186 cS60 cN32 cI63 cA30 cJ6 cR70 cQ20) := E_wQ (by decide) (by decide) rfl (Or.inl rfl)
def cS61 : Nat → Nat := up1 cS60 186 20
def cN33 : Nat → Nat := up1 cN32 186 900
def cA31 : Nat → Nat → Int32 := up1 cA30 186 (fun _ => 0)
theorem cz_183 {sc : Nat × (Nat → Int32)} : nW (E sc 186 cS60 cN32 cI63 cA30 cJ6 cR70 cQ20) 0 900 = E sc 187 cS61 cN33 cI63 cA31 cJ6 cR70 cQ20 := E_nW0 20 (Or.inl rfl) (by decide)
def cR71 : Nat → Nat → Option Nat := up2 cR70 183 3 (some 186)
theorem cz_184 {sc : Nat × (Nat → Int32)} : wQ (E sc 187 cS61 cN33 cI63 cA31 cJ6 cR70 cQ20) 183 11 3 (some 186) = some (E sc 187 cS61 cN33 cI63 cA31 cJ6 cR71 cQ20) := E_wQ (by decide) (by decide) rfl (Or.inl rfl)
def cS62 : Nat → Nat := up1 cS61 187 20
def cN34 : Nat → Nat := up1 cN33 187 1229
def cA32 : Nat → Nat → Int32 := up1 cA31 187 (fun _ => 0)
theorem cz_185 {sc : Nat × (Nat → Int32)} : nW (E sc 187 cS61 cN33 cI63 cA31 cJ6 cR71 cQ20) 0 1229 = E sc 188 cS62 cN34 cI63 cA32 cJ6 cR71 cQ20 := E_nW0 20 (Or.inl rfl) (by decide)
def cR72 : Nat → Nat → Option Nat := up2 cR71 183 4 (some 187)
theorem cz_186 {sc : Nat × (Nat → Int32)} : wQ (E sc 188 cS62 cN34 cI63 cA32 cJ6 cR71 cQ20) 183 11 4 (some 187) = some (E sc 188 cS62 cN34 cI63 cA32 cJ6 cR72 cQ20) := E_wQ (by decide) (by decide) rfl (Or.inl rfl)
def cI64 : Nat → Nat → Int32 := up2 cI63 183 14 (-1)
theorem cz_187 {sc : Nat × (Nat → Int32)} : wI (E sc 188 cS62 cN34 cI63 cA32 cJ6 cR72 cQ20) 183 11 14 (-1) = some (E sc 188 cS62 cN34 cI64 cA32 cJ6 cR72 cQ20) := E_wI (by decide) (by decide) rfl (Or.inl rfl)
def cS63 : Nat → Nat := up1 cS62 188 20
def cN35 : Nat → Nat := up1 cN34 188 900
def cA33 : Nat → Nat → Int32 := up1 cA32 188 (fun _ => 0)
theorem cz_188 {sc : Nat × (Nat → Int32)} : nW (E sc 188 cS62 cN34 cI64 cA32 cJ6 cR72 cQ20) 0 900 = E sc 189 cS63 cN35 cI64 cA33 cJ6 cR72 cQ20 := E_nW0 20 (Or.inl rfl) (by decide)
def cR73 : Nat → Nat → Option Nat := up2 cR72 183 16 (some 188)
theorem cz_189 {sc : Nat × (Nat → Int32)} : wQ (E sc 189 cS63 cN35 cI64 cA33 cJ6 cR72 cQ20) 183 11 16 (some 188) = some (E sc 189 cS63 cN35 cI64 cA33 cJ6 cR73 cQ20) := E_wQ (by decide) (by decide) rfl (Or.inl rfl)
def cS64 : Nat → Nat := up1 cS63 189 20
def cN36 : Nat → Nat := up1 cN35 189 8
def cA34 : Nat → Nat → Int32 := up1 cA33 189 (fun _ => 0)
theorem cz_190 {sc : Nat × (Nat → Int32)} : nW (E sc 189 cS63 cN35 cI64 cA33 cJ6 cR73 cQ20) 0 8 = E sc 190 cS64 cN36 cI64 cA34 cJ6 cR73 cQ20 := E_nW0 20 (Or.inl rfl) (by decide)
def cR74 : Nat → Nat → Option Nat := up2 cR73 183 17 (some 189)
theorem cz_191 {sc : Nat × (Nat → Int32)} : wQ (E sc 190 cS64 cN36 cI64 cA34 cJ6 cR73 cQ20) 183 11 17 (some 189) = some (E sc 190 cS64 cN36 cI64 cA34 cJ6 cR74 cQ20) := E_wQ (by decide) (by decide) rfl (Or.inl rfl)
def cS65 : Nat → Nat := up1 cS64 190 20
def cN37 : Nat → Nat := up1 cN36 190 20
def cA35 : Nat → Nat → Int32 := up1 cA34 190 (fun _ => 0)
theorem cz_192 {sc : Nat × (Nat → Int32)} : nW (E sc 190 cS64 cN36 cI64 cA34 cJ6 cR74 cQ20) 0 20 = E sc 191 cS65 cN37 cI64 cA35 cJ6 cR74 cQ20 := E_nW0 20 (Or.inl rfl) (by decide)
def cR75 : Nat → Nat → Option Nat := up2 cR74 183 18 (some 190)
theorem cz_193 {sc : Nat × (Nat → Int32)} : wQ (E sc 191 cS65 cN37 cI64 cA35 cJ6 cR74 cQ20) 183 11 18 (some 190) = some (E sc 191 cS65 cN37 cI64 cA35 cJ6 cR75 cQ20) := E_wQ (by decide) (by decide) rfl (Or.inl rfl)
def cS66 : Nat → Nat := up1 cS65 191 20
def cN38 : Nat → Nat := up1 cN37 191 10
def cA36 : Nat → Nat → Int32 := up1 cA35 191 (fun _ => 0)
theorem cz_194 {sc : Nat × (Nat → Int32)} : nW (E sc 191 cS65 cN37 cI64 cA35 cJ6 cR75 cQ20) 0 10 = E sc 192 cS66 cN38 cI64 cA36 cJ6 cR75 cQ20 := E_nW0 20 (Or.inl rfl) (by decide)
def cR76 : Nat → Nat → Option Nat := up2 cR75 183 21 (some 191)
theorem cz_195 {sc : Nat × (Nat → Int32)} : wQ (E sc 192 cS66 cN38 cI64 cA36 cJ6 cR75 cQ20) 183 11 21 (some 191) = some (E sc 192 cS66 cN38 cI64 cA36 cJ6 cR76 cQ20) := E_wQ (by decide) (by decide) rfl (Or.inl rfl)
def cS67 : Nat → Nat := up1 cS66 192 20
def cN39 : Nat → Nat := up1 cN38 192 2048
def cA37 : Nat → Nat → Int32 := up1 cA36 192 (fun _ => 0)
theorem cz_196 {sc : Nat × (Nat → Int32)} : nW (E sc 192 cS66 cN38 cI64 cA36 cJ6 cR76 cQ20) 0 2048 = E sc 193 cS67 cN39 cI64 cA37 cJ6 cR76 cQ20 := E_nW0 20 (Or.inl rfl) (by decide)
def cR77 : Nat → Nat → Option Nat := up2 cR76 183 22 (some 192)
theorem cz_197 {sc : Nat × (Nat → Int32)} : wQ (E sc 193 cS67 cN39 cI64 cA37 cJ6 cR76 cQ20) 183 11 22 (some 192) = some (E sc 193 cS67 cN39 cI64 cA37 cJ6 cR77 cQ20) := E_wQ (by decide) (by decide) rfl (Or.inl rfl)
def cS68 : Nat → Nat := up1 cS67 193 20
def cN40 : Nat → Nat := up1 cN39 193 6
def cA38 : Nat → Nat → Int32 := up1 cA37 193 (fun _ => 0)
theorem cz_198 {sc : Nat × (Nat → Int32)} : nW (E sc 193 cS67 cN39 cI64 cA37 cJ6 cR77 cQ20) 0 6 = E sc 194 cS68 cN40 cI64 cA38 cJ6 cR77 cQ20 := E_nW0 20 (Or.inl rfl) (by decide)
def cR78 : Nat → Nat → Option Nat := up2 cR77 183 23 (some 193)
theorem cz_199 {sc : Nat × (Nat → Int32)} : wQ (E sc 194 cS68 cN40 cI64 cA38 cJ6 cR77 cQ20) 183 11 23 (some 193) = some (E sc 194 cS68 cN40 cI64 cA38 cJ6 cR78 cQ20) := E_wQ (by decide) (by decide) rfl (Or.inl rfl)
def cS69 : Nat → Nat := up1 cS68 194 20
def cN41 : Nat → Nat := up1 cN40 194 6
def cA39 : Nat → Nat → Int32 := up1 cA38 194 (fun _ => 0)
theorem cz_200 {sc : Nat × (Nat → Int32)} : nW (E sc 194 cS68 cN40 cI64 cA38 cJ6 cR78 cQ20) 0 6 = E sc 195 cS69 cN41 cI64 cA39 cJ6 cR78 cQ20 := E_nW0 20 (Or.inl rfl) (by decide)
def cR79 : Nat → Nat → Option Nat := up2 cR78 183 24 (some 194)
theorem cz_201 {sc : Nat × (Nat → Int32)} : wQ (E sc 195 cS69 cN41 cI64 cA39 cJ6 cR78 cQ20) 183 11 24 (some 194) = some (E sc 195 cS69 cN41 cI64 cA39 cJ6 cR79 cQ20) := E_wQ (by decide) (by decide) rfl (Or.inl rfl)
def cS70 : Nat → Nat := up1 cS69 195 20
def cN42 : Nat → Nat := up1 cN41 195 6
def cA40 : Nat → Nat → Int32 := up1 cA39 195 (fun _ => 0)
theorem cz_202 {sc : Nat × (Nat → Int32)} : nW (E sc 195 cS69 cN41 cI64 cA39 cJ6 cR79 cQ20) 0 6 = E sc 196 cS70 cN42 cI64 cA40 cJ6 cR79 cQ20 := E_nW0 20 (Or.inl rfl) (by decide)
def cR80 : Nat → Nat → Option Nat := up2 cR79 183 25 (some 195)
theorem cz_203 {sc : Nat × (Nat → Int32)} : wQ (E sc 196 cS70 cN42 cI64 cA40 cJ6 cR79 cQ20) 183 11 25 (some 195) = some (E sc 196 cS70 cN42 cI64 cA40 cJ6 cR80 cQ20) := E_wQ (by decide) (by decide) rfl (Or.inl rfl)
def cS71 : Nat → Nat := up1 cS70 196 20
def cN43 : Nat → Nat := up1 cN42 196 64
def cA41 : Nat → Nat → Int32 := up1 cA40 196 (fun _ => 0)
theorem cz_204 {sc : Nat × (Nat → Int32)} : nW (E sc 196 cS70 cN42 cI64 cA40 cJ6 cR80 cQ20) 0 64 = E sc 197 cS71 cN43 cI64 cA41 cJ6 cR80 cQ20 := E_nW0 20 (Or.inl rfl) (by decide)
def cR81 : Nat → Nat → Option Nat := up2 cR80 183 27 (some 196)
theorem cz_205 {sc : Nat × (Nat → Int32)} : wQ (E sc 197 cS71 cN43 cI64 cA41 cJ6 cR80 cQ20) 183 11 27 (some 196) = some (E sc 197 cS71 cN43 cI64 cA41 cJ6 cR81 cQ20) := E_wQ (by decide) (by decide) rfl (Or.inl rfl)
def cS72 : Nat → Nat := up1 cS71 197 20
def cN44 : Nat → Nat := up1 cN43 197 11264
def cA42 : Nat → Nat → Int32 := up1 cA41 197 (fun _ => 0)
theorem cz_206 {sc : Nat × (Nat → Int32)} : nW (E sc 197 cS71 cN43 cI64 cA41 cJ6 cR81 cQ20) 0 11264 = E sc 198 cS72 cN44 cI64 cA42 cJ6 cR81 cQ20 := E_nW0 20 (Or.inl rfl) (by decide)
def cR82 : Nat → Nat → Option Nat := up2 cR81 183 28 (some 197)
theorem cz_207 {sc : Nat × (Nat → Int32)} : wQ (E sc 198 cS72 cN44 cI64 cA42 cJ6 cR81 cQ20) 183 11 28 (some 197) = some (E sc 198 cS72 cN44 cI64 cA42 cJ6 cR82 cQ20) := E_wQ (by decide) (by decide) rfl (Or.inl rfl)
def cS73 : Nat → Nat := up1 cS72 198 20
def cN45 : Nat → Nat := up1 cN44 198 64
def cA43 : Nat → Nat → Int32 := up1 cA42 198 (fun _ => 0)
theorem cz_208 {sc : Nat × (Nat → Int32)} : nW (E sc 198 cS72 cN44 cI64 cA42 cJ6 cR82 cQ20) 0 64 = E sc 199 cS73 cN45 cI64 cA43 cJ6 cR82 cQ20 := E_nW0 20 (Or.inl rfl) (by decide)
def cR83 : Nat → Nat → Option Nat := up2 cR82 183 29 (some 198)
theorem cz_209 {sc : Nat × (Nat → Int32)} : wQ (E sc 199 cS73 cN45 cI64 cA43 cJ6 cR82 cQ20) 183 11 29 (some 198) = some (E sc 199 cS73 cN45 cI64 cA43 cJ6 cR83 cQ20) := E_wQ (by decide) (by decide) rfl (Or.inl rfl)
def cS74 : Nat → Nat := up1 cS73 199 21
def cN46 : Nat → Nat := up1 cN45 199 12
def cJ7 : Nat → Nat → Int64 := up1 cJ6 199 (fun _ => 0)
theorem cz_210 {sc : Nat × (Nat → Int32)} : nL (E sc 199 cS73 cN45 cI64 cA43 cJ6 cR83 cQ20) 12 = E sc 200 cS74 cN46 cI64 cA43 cJ7 cR83 cQ20 := E_nL (by decide)
def cR84 : Nat → Nat → Option Nat := up2 cR83 183 31 (some 199)
theorem cz_211 {sc : Nat × (Nat → Int32)} : wQ (E sc 200 cS74 cN46 cI64 cA43 cJ7 cR83 cQ20) 183 11 31 (some 199) = some (E sc 200 cS74 cN46 cI64 cA43 cJ7 cR84 cQ20) := E_wQ (by decide) (by decide) rfl (Or.inl rfl)
def cS75 : Nat → Nat := up1 cS74 200 21
def cN47 : Nat → Nat := up1 cN46 200 12
def cJ8 : Nat → Nat → Int64 := up1 cJ7 200 (fun _ => 0)
theorem cz_212 {sc : Nat × (Nat → Int32)} : nL (E sc 200 cS74 cN46 cI64 cA43 cJ7 cR84 cQ20) 12 = E sc 201 cS75 cN47 cI64 cA43 cJ8 cR84 cQ20 := E_nL (by decide)
def cR85 : Nat → Nat → Option Nat := up2 cR84 183 32 (some 200)
theorem cz_213 {sc : Nat × (Nat → Int32)} : wQ (E sc 201 cS75 cN47 cI64 cA43 cJ8 cR84 cQ20) 183 11 32 (some 200) = some (E sc 201 cS75 cN47 cI64 cA43 cJ8 cR85 cQ20) := E_wQ (by decide) (by decide) rfl (Or.inl rfl)
def cS76 : Nat → Nat := up1 cS75 201 20
def cN48 : Nat → Nat := up1 cN47 201 72
def cA44 : Nat → Nat → Int32 := up1 cA43 201 (fun _ => 0)
theorem cz_214 {sc : Nat × (Nat → Int32)} : nW (E sc 201 cS75 cN47 cI64 cA43 cJ8 cR85 cQ20) 0 72 = E sc 202 cS76 cN48 cI64 cA44 cJ8 cR85 cQ20 := E_nW0 20 (Or.inl rfl) (by decide)
def cR86 : Nat → Nat → Option Nat := up2 cR85 183 33 (some 201)
theorem cz_215 {sc : Nat × (Nat → Int32)} : wQ (E sc 202 cS76 cN48 cI64 cA44 cJ8 cR85 cQ20) 183 11 33 (some 201) = some (E sc 202 cS76 cN48 cI64 cA44 cJ8 cR86 cQ20) := E_wQ (by decide) (by decide) rfl (Or.inl rfl)
def cS77 : Nat → Nat := up1 cS76 202 20
def cN49 : Nat → Nat := up1 cN48 202 4
def cA45 : Nat → Nat → Int32 := up1 cA44 202 (fun _ => 0)
theorem cz_216 {sc : Nat × (Nat → Int32)} : nW (E sc 202 cS76 cN48 cI64 cA44 cJ8 cR86 cQ20) 0 4 = E sc 203 cS77 cN49 cI64 cA45 cJ8 cR86 cQ20 := E_nW0 20 (Or.inl rfl) (by decide)
def cA46 : Nat → Nat → Int32 := up1 cA45 202 (upd (cA45 202) 0 (-1))
theorem cz_217 {sc : Nat × (Nat → Int32)} : sI (E sc 203 cS77 cN49 cI64 cA45 cJ8 cR86 cQ20) 202 (nI 0) (-1) = some (E sc 203 cS77 cN49 cI64 cA46 cJ8 cR86 cQ20) := E_sI (by decide) (Or.inl rfl) (by decide)
def cA47 : Nat → Nat → Int32 := up1 cA46 202 (upd (cA46 202) 1 (-1))
theorem cz_218 {sc : Nat × (Nat → Int32)} : sI (E sc 203 cS77 cN49 cI64 cA46 cJ8 cR86 cQ20) 202 (nI 1) (-1) = some (E sc 203 cS77 cN49 cI64 cA47 cJ8 cR86 cQ20) := E_sI (by decide) (Or.inl rfl) (by decide)
def cA48 : Nat → Nat → Int32 := up1 cA47 202 (upd (cA47 202) 2 (-1))
theorem cz_219 {sc : Nat × (Nat → Int32)} : sI (E sc 203 cS77 cN49 cI64 cA47 cJ8 cR86 cQ20) 202 (nI 2) (-1) = some (E sc 203 cS77 cN49 cI64 cA48 cJ8 cR86 cQ20) := E_sI (by decide) (Or.inl rfl) (by decide)
def cA49 : Nat → Nat → Int32 := up1 cA48 202 (upd (cA48 202) 3 (-1))
theorem cz_220 {sc : Nat × (Nat → Int32)} : sI (E sc 203 cS77 cN49 cI64 cA48 cJ8 cR86 cQ20) 202 (nI 3) (-1) = some (E sc 203 cS77 cN49 cI64 cA49 cJ8 cR86 cQ20) := E_sI (by decide) (Or.inl rfl) (by decide)
def cR87 : Nat → Nat → Option Nat := up2 cR86 183 34 (some 202)
theorem cz_221 {sc : Nat × (Nat → Int32)} : wQ (E sc 203 cS77 cN49 cI64 cA49 cJ8 cR86 cQ20) 183 11 34 (some 202) = some (E sc 203 cS77 cN49 cI64 cA49 cJ8 cR87 cQ20) := E_wQ (by decide) (by decide) rfl (Or.inl rfl)
def cS78 : Nat → Nat := up1 cS77 203 20
def cN50 : Nat → Nat := up1 cN49 203 4
def cA50 : Nat → Nat → Int32 := up1 cA49 203 (fun _ => 0)
theorem cz_222 {sc : Nat × (Nat → Int32)} : nW (E sc 203 cS77 cN49 cI64 cA49 cJ8 cR87 cQ20) 0 4 = E sc 204 cS78 cN50 cI64 cA50 cJ8 cR87 cQ20 := E_nW0 20 (Or.inl rfl) (by decide)
def cR88 : Nat → Nat → Option Nat := up2 cR87 183 35 (some 203)
theorem cz_223 {sc : Nat × (Nat → Int32)} : wQ (E sc 204 cS78 cN50 cI64 cA50 cJ8 cR87 cQ20) 183 11 35 (some 203) = some (E sc 204 cS78 cN50 cI64 cA50 cJ8 cR88 cQ20) := E_wQ (by decide) (by decide) rfl (Or.inl rfl)
def cS79 : Nat → Nat := up1 cS78 204 21
def cN51 : Nat → Nat := up1 cN50 204 160
def cJ9 : Nat → Nat → Int64 := up1 cJ8 204 (fun _ => 0)
theorem cz_224 {sc : Nat × (Nat → Int32)} : nL (E sc 204 cS78 cN50 cI64 cA50 cJ8 cR88 cQ20) 160 = E sc 205 cS79 cN51 cI64 cA50 cJ9 cR88 cQ20 := E_nL (by decide)
def cR89 : Nat → Nat → Option Nat := up2 cR88 183 36 (some 204)
theorem cz_225 {sc : Nat × (Nat → Int32)} : wQ (E sc 205 cS79 cN51 cI64 cA50 cJ9 cR88 cQ20) 183 11 36 (some 204) = some (E sc 205 cS79 cN51 cI64 cA50 cJ9 cR89 cQ20) := E_wQ (by decide) (by decide) rfl (Or.inl rfl)
theorem cz_226 {sc : Nat × (Nat → Int32)} : fR (E sc 205 cS79 cN51 cI64 cA50 cJ9 cR89 cQ20) 183 11 1 = some 184 := E_fR (by decide) (by decide) rfl (Or.inl rfl) rfl
abbrev gF (sc : Nat × (Nat → Int32)) : Sk := (sc, 205, cS79, cN51, cR89, cQ20)
abbrev tF : Tb := (cI64, cA50, cJ9)
theorem gF_e {sc : Nat × (Nat → Int32)} : E sc 205 cS79 cN51 cI64 cA50 cJ9 cR89 cQ20 = Em (gF sc) tF := rfl
theorem gF_184 {sc : Nat × (Nat → Int32)} (s : Tb) (k : Nat) (x : Int32) (hk : k < 1229) : sI (Em (gF sc) s) 184 (nI k) x = some (Em (gF sc) (wa s 184 k x)) := y_sI (m := 3687) (Or.inl (show cS79 184 = 20 by decide +kernel)) (show cN51 184 = 3687 by decide +kernel) (by decide) (by decide) (by omega)
theorem gF_p {sc : Nat × (Nat → Int32)} {t' : Tb} (e1 : F_X12_plain 184 (Em (gF sc) tF) = some ((), Em (gF sc) t')) : F_X12_init 183 (E sc 184 cS58 cN30 cI63 cA28 cJ6 cR68 cQ20) = some ((), Em (gF sc) t', 21, 20478) := by
  unfold F_X12_init
  rw [if_neg (show ¬ ((3687 : Int32) < 0 ∨ 60000000 < ((3687 : Int32)).toNatClampNeg) by decide), show ((3687 : Int32)).toNatClampNeg = 3687 from by decide, Option.bind_some, cz_179, E_1, cz_180, Option.bind_some]
  rw [if_neg (show ¬ ((2 : Int32) < 0 ∨ 60000000 < ((2 : Int32)).toNatClampNeg) by decide), show ((2 : Int32)).toNatClampNeg = 2 from by decide, Option.bind_some, cz_181, E_1, cz_182, Option.bind_some]
  rw [if_neg (show ¬ ((900 : Int32) < 0 ∨ 60000000 < ((900 : Int32)).toNatClampNeg) by decide), show ((900 : Int32)).toNatClampNeg = 900 from by decide, Option.bind_some, cz_183, E_1, cz_184, Option.bind_some]
  rw [if_neg (show ¬ ((1229 : Int32) < 0 ∨ 60000000 < ((1229 : Int32)).toNatClampNeg) by decide), show ((1229 : Int32)).toNatClampNeg = 1229 from by decide, Option.bind_some, cz_185, E_1, cz_186, Option.bind_some]
  rw [cz_187, Option.bind_some]
  rw [if_neg (show ¬ ((900 : Int32) < 0 ∨ 60000000 < (900 : Nat)) by decide), Option.bind_some, cz_188, E_1, cz_189, Option.bind_some]
  rw [if_neg (show ¬ ((8 : Int32) < 0 ∨ 60000000 < ((8 : Int32)).toNatClampNeg) by decide), show ((8 : Int32)).toNatClampNeg = 8 from by decide, Option.bind_some, cz_190, E_1, cz_191, Option.bind_some]
  rw [if_neg (show ¬ ((20 : Int32) < 0 ∨ 60000000 < ((20 : Int32)).toNatClampNeg) by decide), show ((20 : Int32)).toNatClampNeg = 20 from by decide, Option.bind_some, cz_192, E_1, cz_193, Option.bind_some]
  rw [if_neg (show ¬ ((10 : Int32) < 0 ∨ 60000000 < ((10 : Int32)).toNatClampNeg) by decide), show ((10 : Int32)).toNatClampNeg = 10 from by decide, Option.bind_some, cz_194, E_1, cz_195, Option.bind_some]
  rw [if_neg (show ¬ ((2048 : Int32) < 0 ∨ 60000000 < ((2048 : Int32)).toNatClampNeg) by decide), show ((2048 : Int32)).toNatClampNeg = 2048 from by decide, Option.bind_some, cz_196, E_1, cz_197, Option.bind_some]
  rw [if_neg (show ¬ ((6 : Int32) < 0 ∨ 60000000 < ((6 : Int32)).toNatClampNeg) by decide), show ((6 : Int32)).toNatClampNeg = 6 from by decide, Option.bind_some, cz_198, E_1, cz_199, Option.bind_some]
  rw [if_neg (show ¬ ((6 : Int32) < 0 ∨ 60000000 < (6 : Nat)) by decide), Option.bind_some, cz_200, E_1, cz_201, Option.bind_some]
  rw [if_neg (show ¬ ((6 : Int32) < 0 ∨ 60000000 < (6 : Nat)) by decide), Option.bind_some, cz_202, E_1, cz_203, Option.bind_some]
  rw [if_neg (show ¬ ((64 : Int32) < 0 ∨ 60000000 < ((64 : Int32)).toNatClampNeg) by decide), show ((64 : Int32)).toNatClampNeg = 64 from by decide, Option.bind_some, cz_204, E_1, cz_205, Option.bind_some]
  rw [if_neg (show ¬ ((11264 : Int32) < 0 ∨ 60000000 < ((11264 : Int32)).toNatClampNeg) by decide), show ((11264 : Int32)).toNatClampNeg = 11264 from by decide, Option.bind_some, cz_206, E_1, cz_207, Option.bind_some]
  rw [if_neg (show ¬ ((64 : Int32) < 0 ∨ 60000000 < (64 : Nat)) by decide), Option.bind_some, cz_208, E_1, cz_209, Option.bind_some]
  rw [if_neg (show ¬ ((12 : Int32) < 0 ∨ 60000000 < ((12 : Int32)).toNatClampNeg) by decide), show ((12 : Int32)).toNatClampNeg = 12 from by decide, Option.bind_some, cz_210, E_1, cz_211, Option.bind_some]
  rw [if_neg (show ¬ ((12 : Int32) < 0 ∨ 60000000 < (12 : Nat)) by decide), Option.bind_some, cz_212, E_1, cz_213, Option.bind_some]
  rw [if_neg (show ¬ ((72 : Int32) < 0 ∨ 60000000 < ((72 : Int32)).toNatClampNeg) by decide), show ((72 : Int32)).toNatClampNeg = 72 from by decide, Option.bind_some, cz_214, E_1, cz_215, Option.bind_some]
  rw [if_neg (show ¬ ((4 : Int32) < 0 ∨ 60000000 < ((4 : Int32)).toNatClampNeg) by decide), show ((4 : Int32)).toNatClampNeg = 4 from by decide, Option.bind_some, cz_216, E_1]
  rw [show sI _ _ 0 _ = _ from cz_217, Option.bind_some, show sI _ _ 1 _ = _ from cz_218, Option.bind_some, show sI _ _ 2 _ = _ from cz_219, Option.bind_some, show sI _ _ 3 _ = _ from cz_220, Option.bind_some]
  rw [cz_221, Option.bind_some]
  rw [if_neg (show ¬ ((4 : Int32) < 0 ∨ 60000000 < (4 : Nat)) by decide), Option.bind_some, cz_222, E_1, cz_223, Option.bind_some]
  rw [if_neg (show ¬ ((160 : Int32) < 0 ∨ 60000000 < ((160 : Int32)).toNatClampNeg) by decide), show ((160 : Int32)).toNatClampNeg = 160 from by decide, Option.bind_some, cz_224, E_1, cz_225, Option.bind_some]
  rw [cz_226, Option.bind_some]
  rw [gF_e, e1, Option.bind_some]
  simp only [k_map]
theorem cz_227 {sc : Nat × (Nat → Int32)} : ∃ t', F_X12_init 183 (E sc 184 cS58 cN30 cI63 cA28 cJ6 cR68 cQ20) = some ((), Em (gF sc) t', 21, 20478) ∧ (tI t' = tI tF ∧ (∀ b, b ≠ 184 → tA t' b = tA tF b) ∧ tJ t' = tJ tF) ∧ ∀ k, k < 1229 → tA t' 184 k = pla k := by
  obtain ⟨t', e1, q1, ap⟩ := pl_row (g := gF sc) (s := tF) (c := 184) (fun s k x hk => gF_184 s k x hk)
  exact ⟨t', gF_p e1, q1, ap⟩
theorem R0_k : ∀ a, a < 205 → ∀ k, 40 ≤ k → R0 a k = 0 := by
  intro a ha k hk
  unfold R0
  have h : ∀ a, a < 205 → (([[70, 0, 95, 99, 103, 145, 146, 147, 148, 153, 157, 163], [71, 0, 72, 0, 0, 0, 0, 0, 0, 0, 0, 0, 0], [], [], [0, 0, 0, 0, 0, 74, 75, 76, 77, 78, 79, 80, 0, 0], [], [], [], [], [], [], [81, 82, 83, 0, 0], [], [], [], [0, 0, 0, 0, 0, 85, 86, 87, 88, 89, 90, 91, 0, 0], [], [], [], [], [], [], [92, 93, 94, 0, 0], [], [], [], [96, 97, 98, 0, 0], [], [], [], [100, 101, 102, 0, 0], [], [], [], [104, 0, 0], [], [106, 107, 108, 0, 0], [], [], [], [110, 111, 112, 0, 0], [], [], [], [114, 115, 116, 0, 0], [], [], [], [118, 119, 120, 0, 0], [], [], [], [122, 123, 124, 0, 0], [], [], [], [126, 127, 128, 0, 0], [], [], [], [130, 131, 132, 0, 0], [], [], [], [134, 135, 136, 0, 0], [], [], [], [138, 139, 140, 0, 0], [], [], [], [142, 143, 144, 0, 0], [], [], [], [], [], [], [0, 149, 150, 0, 151, 152], [], [], [], [], [0, 0, 154, 155, 156], [], [], [], [158, 0, 159, 160, 0, 161, 162], [], [], [], [], [], [164, 165, 166], [], [], [], [168, 0, 0], [], [170, 0, 0], [], [172, 0, 0], [], [174, 0, 0], [], [176, 177, 178, 0, 0], [], [], [], [180, 181, 182, 0, 0], [], [], [], [0, 184, 185, 186, 187, 0, 0, 0, 0, 0, 0, 0, 0, 0, 0, 0, 188, 189, 190, 0, 0, 191, 192, 193, 194, 195, 0, 196, 197, 198, 0, 199, 200, 201, 202, 203, 204], [], [], [], [], [], [], [], [], [], [], [], [], [], [], [], [], [], [], [], [], []] : List (List Nat)).getD (a - 69) []).length ≤ 40 := by decide +kernel
  rw [List.getD_eq_getElem?_getD, List.getElem?_eq_none (Nat.le_trans (h a ha) hk)]
  rfl
theorem gF_S : ∀ a, a < 205 → 69 ≤ a → cS79 a = S0 a ∧ cN51 a = N0 a := by decide +kernel
theorem gF_R : ∀ a, a < 205 → ∀ k, k < 40 → 69 ≤ a → R0 a k ≠ 0 → cR89 a k = some (R0 a k) := by decide +kernel
theorem gF_Q : (∀ i, i < 10 → cQ20 104 i = some (105 + 4 * i)) ∧ (∀ i, i < 4 → cQ20 145 i = some (167 + 2 * i)) ∧ (∀ i, i < 2 → cQ20 147 i = some (175 + 4 * i)) ∧ (∀ i, i < 2 → cQ20 146 i = none) := by decide +kernel
theorem gF_r : cR89 157 4 = none ∧ cR89 69 1 = some 84 ∧ cR89 84 12 = none ∧ cR89 84 5 = some 85 ∧ cR89 84 6 = some 86 ∧ cR89 84 7 = some 87 ∧ cR89 84 8 = some 88 ∧ cR89 84 9 = some 89 ∧ cR89 84 10 = some 90 ∧ cR89 84 11 = some 91 := by decide +kernel
theorem gF_I : (cI64 84 0 = nI 2 ∧ cI64 84 1 = nI 0 ∧ cI64 84 2 = nI 0 ∧ cI64 84 3 = nI 0 ∧ cI64 84 4 = nI 0) ∧ (cI64 95 3 = nI 0 ∧ cI64 95 4 = nI 0) ∧ (cI64 103 1 = nI 0 ∧ cI64 103 2 = nI 0) ∧ (∀ i, i < 4 → cI64 (167 + 2 * i) 1 = -nI 1) ∧ (cI64 70 1 = nI 0 ∧ cI64 70 11 = nI 0 ∧ cI64 70 12 = -nI 1) ∧ (cI64 183 5 = nI 0 ∧ cI64 183 13 = nI 0 ∧ cI64 183 14 = -nI 1) := by decide +kernel
theorem gF_A : (∀ i, i < 2 → cA50 90 i = nI 3) ∧ (∀ i, i < 4 → cA50 202 i = -nI 1) ∧ (∀ i, i < 2 → cA50 185 i = nI 0) ∧ cA50 196 0 = nI 0 := by decide +kernel
theorem gF_x {sc : Nat × (Nat → Int32)} : Fx (gF sc) := by
  refine ⟨fun a h1 h2 => gF_S a h2 h1, fun a k h1 h2 r => ?_, gF_Q.1, gF_Q.2.1, gF_Q.2.2.1, Nat.le_refl _, Or.inl gF_r.1⟩
  by_cases c : k < 40
  · exact gF_R a h2 k c h1 r
  · exact absurd (R0_k a h2 k (by omega)) r
theorem gF_gR {sc : Nat × (Nat → Int32)} : gR (gF sc) = cR89 := rfl
theorem gF_gQ {sc : Nat × (Nat → Int32)} : gQ (gF sc) = cQ20 := rfl
theorem gF_gS {sc : Nat × (Nat → Int32)} : gS (gF sc) = cS79 := rfl
theorem gF_gN {sc : Nat × (Nat → Int32)} : gN (gF sc) = cN51 := rfl
/-- what holds at the start -/
theorem IV_0 {sc : Nat × (Nat → Int32)} {t' : Tb} (q : tI t' = tI tF ∧ (∀ b, b ≠ 184 → tA t' b = tA tF b) ∧ tJ t' = tJ tF) (ap : ∀ k, k < 1229 → tA t' 184 k = pla k) : IV (gF sc) t' 84 (tA t' 184) 0 0 0 := by
  obtain ⟨qi, qa, _⟩ := q
  have z : ∀ k, k ≠ 1 → (k < 121 ∨ 127 ≤ k) → k < 1229 → tA t' 184 k = nI 0 := fun k h1 h2 h3 => by
    rw [ap k h3]
    unfold pla
    rw [if_neg (by omega), if_neg h1]
  have z1 : tA t' 184 1 = nI 2 := by
    rw [ap 1 (by decide)]
    rfl
  have eN : vN (tA t' 184) = 2 := by unfold vN; rw [z1]; exact tn_n (by decide)
  have e0 : ∀ k, k ≠ 1 → (k < 121 ∨ 127 ≤ k) → k < 1229 → tn (tA t' 184 k) = 0 := fun k h1 h2 h3 => by rw [z k h1 h2 h3]; exact tn_n (by decide)
  have eT : vT (tA t' 184) = 0 := e0 2 (by decide) (by omega) (by decide)
  have eK : vK (tA t' 184) = 0 := e0 3 (by decide) (by omega) (by decide)
  have eP : vP (tA t' 184) = 0 := e0 4 (by decide) (by omega) (by decide)
  have eD : vDy (tA t' 184) = 0 := e0 107 (by decide) (by omega) (by decide)
  have eF : vFo (tA t' 184) = 0 := e0 108 (by decide) (by omega) (by decide)
  have II : ∀ b k, tI t' b k = cI64 b k := fun b k => by rw [qi]; rfl
  have AA : ∀ b, b ≠ 184 → tA t' b = cA50 b := fun b hb => qa b hb
  have hi := gF_I
  have ha := gF_A
  have z5 := z 5 (by decide) (by omega) (by decide)
  have z6 := z 6 (by decide) (by omega) (by decide)
  refine ⟨gF_x, rfl, ⟨⟨⟨⟨⟨by rw [eN]; exact z1, by omega, by omega⟩, ⟨by rw [eT]; exact z 2 (by decide) (by omega) (by decide), by omega⟩, ⟨by rw [eK]; exact z 3 (by decide) (by omega) (by decide), by omega⟩, ⟨by rw [eP]; exact z 4 (by decide) (by omega) (by decide), by omega⟩⟩, fun u hu => absurd hu (by omega), fun k hk => absurd hk (by omega), fun l hl => Or.inl (z (5 + l) (by omega) (by omega) (by omega))⟩, ⟨⟨by rw [eD]; exact z 107 (by decide) (by omega) (by decide), by omega⟩, ⟨by rw [eF]; exact z 108 (by decide) (by omega) (by decide), by rw [eF, eP]; decide⟩, fun p hp => absurd hp (by omega)⟩, Nat.two_pow_pos 30⟩, ?_, ⟨⟨?_, ?_, ?_, ?_, ?_⟩, fun u hu => absurd hu (by omega), fun k hk => absurd hk (by omega), fun i hi' => ?_, Or.inl ⟨z5, by rw [gF_gR]; exact gF_r.2.2.1⟩⟩, by rw [gF_gR]; exact gF_r.2.1, ⟨⟨?_, ?_⟩, fun p hp => absurd hp (by omega)⟩⟩, ⟨⟨z 127 (by decide) (by omega) (by decide), by omega, by omega⟩, ⟨?_, ?_⟩, fun j hj => absurd hj (by omega)⟩, fun i hi' => Or.inl ⟨?_, ?_⟩, fun i hi' => Or.inl ⟨?_, by rw [gF_gQ]; exact gF_Q.2.2.2 i hi'⟩, ⟨⟨0, by omega, ?_, ?_, fun k hk => absurd hk (by omega)⟩, ?_⟩, ?_, ?_⟩
  · have s := gF_S
    have r := gF_r
    unfold VaS
    rw [gF_gR, gF_gS, gF_gN]
    exact ⟨Or.inl rfl, (s 84 (by decide) (by decide)).1, ⟨r.2.2.2.1, r.2.2.2.2.1, r.2.2.2.2.2.1, r.2.2.2.2.2.2.1, r.2.2.2.2.2.2.2.1, r.2.2.2.2.2.2.2.2.1, r.2.2.2.2.2.2.2.2.2⟩, s 85 (by decide) (by decide), s 86 (by decide) (by decide), s 87 (by decide) (by decide), s 88 (by decide) (by decide), s 89 (by decide) (by decide), s 90 (by decide) (by decide), show 84 + 11 ≤ 205 by decide⟩
  · rw [II, hi.1.1, z1]
  · rw [II, hi.1.2.1, z 0 (by decide) (by omega) (by decide)]
  · rw [II, hi.1.2.2.1, z 2 (by decide) (by omega) (by decide)]
  · rw [II, hi.1.2.2.2.1, z 3 (by decide) (by omega) (by decide)]
  · rw [II, hi.1.2.2.2.2, z 4 (by decide) (by omega) (by decide)]
  · rw [eN] at hi' ⊢
    have hf : ∀ j, fol (tA t' 184) i j = true := fun j => by unfold fol; rw [if_pos z6]
    rw [AA 90 (by decide), ha.1 i hi', show mk (fun j => fol (tA t' 184) i j) 2 = 3 by
      rw [mk_cong (g := fun _ => true) (fun k _ => hf k)]
      rfl]
  · rw [II, hi.2.1.1]; exact (z 108 (by decide) (by omega) (by decide)).symm
  · rw [II, hi.2.1.2]; exact (z 107 (by decide) (by omega) (by decide)).symm
  · rw [II]; exact hi.2.2.1.1
  · rw [II]; exact hi.2.2.1.2
  · rw [AA 202 (by decide)]; exact ha.2.1 i hi'
  · rw [II]; exact hi.2.2.2.1 i hi'
  · rw [AA 185 (by decide)]; exact ha.2.2.1 i hi'
  · rw [II]; exact hi.2.2.2.2.1.1
  · rw [II]; exact hi.2.2.2.2.2.1
  · rw [AA 196 (by decide)]; exact ha.2.2.2
  · rw [II, II, hi.2.2.2.2.1.2.1, hi.2.2.2.2.2.2.1]
  · rw [II, II, hi.2.2.2.2.1.2.2, hi.2.2.2.2.2.2.2]
theorem law_start {L : Nat} {xs : Nat → Int32} : ∃ t', F_L_law 68 (x_h0' (L, xs)) = (F_L_law_b18 FU 68 69 183 (nI 0) (Em (gF (L, xs)) t')).map (ac _ 136 26952) ∧ IV (gF (L, xs)) t' 84 (tA t' 184) 0 0 0 := by
  obtain ⟨t', e1, q1, ap⟩ := cz_227 (sc := (L, xs))
  refine ⟨t', ?_, IV_0 q1 ap⟩
  have h0 : x_h0' (L, xs) = E (L, xs) 69 cS0 cN0 cI0 cA0 cJ0 cR0 cQ0 := x_h0_E
  unfold F_L_law
  rw [h0, Option.bind_some, cz_1, E_1, cz_177, Option.bind_some]
  dsimp only
  rw [Option.bind_some, cz_178, E_1, e1, Option.bind_some]
  dsimp only
  rw [ac_2, ac_2, ac_2]
  rfl
