/-! ===== methods as functions, 10: written by a program out of the listings ===== -/
theorem d_X12_rows_0 : decode cX12_rows 0 = .ok (.aload_n 0, 1) := by decide +kernel
theorem d_X12_rows_1 : decode cX12_rows 1 = .ok (.iconst 0, 1) := by decide +kernel
theorem d_X12_rows_2 : decode cX12_rows 2 = .ok (.putfield 1, 3) := by decide +kernel
theorem d_X12_rows_5 : decode cX12_rows 5 = .ok (.aload_n 0, 1) := by decide +kernel
theorem d_X12_rows_6 : decode cX12_rows 6 = .ok (.iload_n 1, 1) := by decide +kernel
theorem d_X12_rows_7 : decode cX12_rows 7 = .ok (.invokevirtual 370, 3) := by decide +kernel
theorem d_X12_rows_10 : decode cX12_rows 10 = .ok (.ifCond .eq 11, 3) := by decide +kernel
theorem d_X12_rows_13 : decode cX12_rows 13 = .ok (.aload_n 0, 1) := by decide +kernel
theorem d_X12_rows_14 : decode cX12_rows 14 = .ok (.iload_n 1, 1) := by decide +kernel
theorem d_X12_rows_15 : decode cX12_rows 15 = .ok (.invokevirtual 391, 3) := by decide +kernel
theorem d_X12_rows_18 : decode cX12_rows 18 = .ok (.goto 5, 3) := by decide +kernel
theorem d_X12_rows_21 : decode cX12_rows 21 = .ok (.bipush (-3), 2) := by decide +kernel
theorem d_X12_rows_23 : decode cX12_rows 23 = .ok (.ireturn, 1) := by decide +kernel
def F_X12_rows (x0 : Nat) (x1 : Int32) (h : xH) : Option (Int32 × xH) := (wI h x0 11 0 0).bind fun h2 => (rc h2 x0 11).bind fun _ => (F_X12_isNotes x0 x1 h2).bind fun z7 => if z7.1 = 0 then some ((-3), z7.2) else (rc z7.2 x0 11).bind fun _ => (F_X12_laysRows x0 x1 z7.2).bind fun z15 => some (z15.1, z15.2)
theorem R_X12_rows {Γ : xG} {l : Launch} {d : Nat} {r : Int32} {h' : xH} (x0 : Nat) (x1 : Int32) (h : xH) (hdp : 103 ≤ d) (hF : F_X12_rows x0 x1 h = some (r, h')) : Gm Γ l d 0 0 m_X12_rows [.ref x0, .int x1] h (fun a u => a = some (.int r) ∧ u = h') := by
  refine Gm.of pn_X12 (Nat.le_of_ble_eq_true rfl) ?_
  show Gd Γ l d m_X12_rows 0 [.ref x0, .int x1] [] h 0 0 _
  generalize hQ : (fun (a : Option Value) (u : xH) => a = some (.int r) ∧ u = h') = Q
  have hq : Q (some (.int r)) h' := by rw [← hQ]; exact ⟨rfl, rfl⟩
  clear hQ
  unfold F_X12_rows at hF
  refine g_aloadn d_X12_rows_0 rfl ?_
  refine g_ic (0) d_X12_rows_1 ic_0 ?_
  obtain ⟨h2, e2, hF⟩ := Option.bind_eq_some_iff.mp hF
  refine q_wI d_X12_rows_2 (w_X12_1 _) e2 ?_
  refine g_aloadn d_X12_rows_5 rfl ?_
  refine g_iloadn d_X12_rows_6 rfl ?_
  obtain ⟨_, g7, hF⟩ := Option.bind_eq_some_iff.mp hF
  obtain ⟨⟨r7, h7⟩, e7, hF⟩ := Option.bind_eq_some_iff.mp hF
  try dsimp only at hF
  refine q_callV [.int x1] [] rfl d_X12_rows_7 v_X12_370 (by omega) rfl (Nat.le_of_ble_eq_true rfl) (rc_rc g7 (by decide) rfl) (R_X12_isNotes _ _ _ (by omega) e7) ?_
  refine g_if_eq 21 d_X12_rows_10 rfl (fun c10 => ?_) (fun c10 => ?_)
  · have hF := x_t hF c10
    refine g_bi (-3) d_X12_rows_21 bi_m3 ?_
    obtain ⟨rfl, rfl⟩ := x_inj hF
    exact g_iret d_X12_rows_23 rfl hq
  · have hF := x_f hF c10
    refine g_aloadn d_X12_rows_13 rfl ?_
    refine g_iloadn d_X12_rows_14 rfl ?_
    obtain ⟨_, g15, hF⟩ := Option.bind_eq_some_iff.mp hF
    obtain ⟨⟨r15, h15⟩, e15, hF⟩ := Option.bind_eq_some_iff.mp hF
    try dsimp only at hF
    refine q_callV [.int x1] [] rfl d_X12_rows_15 v_X12_391 (by omega) rfl (Nat.le_of_ble_eq_true rfl) (rc_rc g15 (by decide) rfl) (R_X12_laysRows _ _ _ (by omega) e15) ?_
    refine g_goto 23 d_X12_rows_18 rfl ?_
    obtain ⟨rfl, rfl⟩ := x_inj hF
    exact g_iret d_X12_rows_23 rfl hq
theorem d_X12_lowest_0 : decode cX12_lowest 0 = .ok (.iconst 0, 1) := by decide +kernel
theorem d_X12_lowest_1 : decode cX12_lowest 1 = .ok (.istore_n 1, 1) := by decide +kernel
theorem d_X12_lowest_2 : decode cX12_lowest 2 = .ok (.iload_n 0, 1) := by decide +kernel
theorem d_X12_lowest_3 : decode cX12_lowest 3 = .ok (.i2l, 1) := by decide +kernel
theorem d_X12_lowest_4 : decode cX12_lowest 4 = .ok (.iload_n 1, 1) := by decide +kernel
theorem d_X12_lowest_5 : decode cX12_lowest 5 = .ok (.invokestatic 228, 3) := by decide +kernel
theorem d_X12_lowest_8 : decode cX12_lowest 8 = .ok (.ifCond .ne 9, 3) := by decide +kernel
theorem d_X12_lowest_11 : decode cX12_lowest 11 = .ok (.iinc 1 1, 3) := by decide +kernel
theorem d_X12_lowest_14 : decode cX12_lowest 14 = .ok (.goto (-12), 3) := by decide +kernel
theorem d_X12_lowest_17 : decode cX12_lowest 17 = .ok (.iload_n 1, 1) := by decide +kernel
theorem d_X12_lowest_18 : decode cX12_lowest 18 = .ok (.ireturn, 1) := by decide +kernel
def F_X12_lowest_b2 : Nat → Int32 → Int32 → xH → Option (Int32 × xH)
  | 0, _, _, _ => none
  | n + 1, x0, x1, h => (F_X12_isIn x0.toInt64 x1 h).bind fun z5 => if ¬ z5.1 = 0 then some (x1, z5.2) else F_X12_lowest_b2 n x0 (x1 + 1) z5.2
theorem R_X12_lowest_b2 {Γ : xG} {l : Launch} {d : Nat} {Q : Option Value → xH → Prop} {r : Int32} {h' : xH} (hdp : 1 ≤ d) (hq : Q (some (.int r)) h') : ∀ (n : Nat) (x0 : Int32) (x1 : Int32) (h : xH), F_X12_lowest_b2 n x0 x1 h = some (r, h') → Gd Γ l d m_X12_lowest 2 [.int x0, .int x1] [] h 0 0 Q := by
  intro n
  induction n with
  | zero => intro x0 x1 h hF; cases hF
  | succ n ih =>
  intro x0 x1 h hF
  rw [F_X12_lowest_b2] at hF
  refine g_iloadn d_X12_lowest_2 rfl ?_
  refine g_i2l d_X12_lowest_3 ?_
  refine g_iloadn d_X12_lowest_4 rfl ?_
  obtain ⟨⟨r5, h5⟩, e5, hF⟩ := Option.bind_eq_some_iff.mp hF
  try dsimp only at hF
  refine q_callS [.long (x0.toInt64), .int x1] [] rfl d_X12_lowest_5 s_X12_228 (by omega) rfl (Nat.le_of_ble_eq_true rfl) (R_X12_isIn _ _ _ (by omega) e5) ?_
  refine g_if_ne 17 d_X12_lowest_8 rfl (fun c8 => ?_) (fun c8 => ?_)
  · have hF := x_t hF c8
    refine g_iloadn d_X12_lowest_17 rfl ?_
    obtain ⟨rfl, rfl⟩ := x_inj hF
    exact g_iret d_X12_lowest_18 rfl hq
  · have hF := x_f hF (not_not_intro c8)
    refine q_iinc (1) [.int x0, .int (x1 + 1)] d_X12_lowest_11 ic_1 rfl (by decide) rfl ?_
    refine g_goto 2 d_X12_lowest_14 rfl ?_
    exact q_to (xs_r (xs_r xs_n)) (ih _ _ _ hF)
def F_X12_lowest (x0 : Int32) (h : xH) : Option (Int32 × xH) := F_X12_lowest_b2 FU x0 0 h
theorem R_X12_lowest {Γ : xG} {l : Launch} {d : Nat} {r : Int32} {h' : xH} (x0 : Int32) (h : xH) (hdp : 1 ≤ d) (hF : F_X12_lowest x0 h = some (r, h')) : Gm Γ l d 0 0 m_X12_lowest [.int x0] h (fun a u => a = some (.int r) ∧ u = h') := by
  refine Gm.of pn_X12 (Nat.le_of_ble_eq_true rfl) ?_
  show Gd Γ l d m_X12_lowest 0 [.int x0, xhole] [] h 0 0 _
  generalize hQ : (fun (a : Option Value) (u : xH) => a = some (.int r) ∧ u = h') = Q
  have hq : Q (some (.int r)) h' := by rw [← hQ]; exact ⟨rfl, rfl⟩
  clear hQ
  unfold F_X12_lowest at hF
  refine g_ic (0) d_X12_lowest_0 ic_0 ?_
  refine q_istoren [.int x0, .int 0] d_X12_lowest_1 (by decide) rfl ?_
  exact q_to (xs_r (xs_r xs_n)) (R_X12_lowest_b2 hdp hq FU _ _ _ hF)
theorem d_X12_pairsBy_0 : decode cX12_pairsBy 0 = .ok (.iload_n 1, 1) := by decide +kernel
theorem d_X12_pairsBy_1 : decode cX12_pairsBy 1 = .ok (.invokestatic 394, 3) := by decide +kernel
theorem d_X12_pairsBy_4 : decode cX12_pairsBy 4 = .ok (.istore 4, 2) := by decide +kernel
theorem d_X12_pairsBy_6 : decode cX12_pairsBy 6 = .ok (.aload_n 0, 1) := by decide +kernel
theorem d_X12_pairsBy_7 : decode cX12_pairsBy 7 = .ok (.iload 4, 2) := by decide +kernel
theorem d_X12_pairsBy_9 : decode cX12_pairsBy 9 = .ok (.iload_n 2, 1) := by decide +kernel
theorem d_X12_pairsBy_10 : decode cX12_pairsBy 10 = .ok (.iload_n 3, 1) := by decide +kernel
theorem d_X12_pairsBy_11 : decode cX12_pairsBy 11 = .ok (.invokevirtual 384, 3) := by decide +kernel
theorem d_X12_pairsBy_14 : decode cX12_pairsBy 14 = .ok (.ifCond .ne 7, 3) := by decide +kernel
theorem d_X12_pairsBy_17 : decode cX12_pairsBy 17 = .ok (.iconst (-1), 1) := by decide +kernel
theorem d_X12_pairsBy_18 : decode cX12_pairsBy 18 = .ok (.goto 24, 3) := by decide +kernel
theorem d_X12_pairsBy_21 : decode cX12_pairsBy 21 = .ok (.iconst 1, 1) := by decide +kernel
theorem d_X12_pairsBy_22 : decode cX12_pairsBy 22 = .ok (.aload_n 0, 1) := by decide +kernel
theorem d_X12_pairsBy_23 : decode cX12_pairsBy 23 = .ok (.getfield 54, 3) := by decide +kernel
theorem d_X12_pairsBy_26 : decode cX12_pairsBy 26 = .ok (.iload_n 1, 1) := by decide +kernel
theorem d_X12_pairsBy_27 : decode cX12_pairsBy 27 = .ok (.iconst 1, 1) := by decide +kernel
theorem d_X12_pairsBy_28 : decode cX12_pairsBy 28 = .ok (.iload 4, 2) := by decide +kernel
theorem d_X12_pairsBy_30 : decode cX12_pairsBy 30 = .ok (.ishl, 1) := by decide +kernel
theorem d_X12_pairsBy_31 : decode cX12_pairsBy 31 = .ok (.iconst (-1), 1) := by decide +kernel
theorem d_X12_pairsBy_32 : decode cX12_pairsBy 32 = .ok (.ixor, 1) := by decide +kernel
theorem d_X12_pairsBy_33 : decode cX12_pairsBy 33 = .ok (.iand, 1) := by decide +kernel
theorem d_X12_pairsBy_34 : decode cX12_pairsBy 34 = .ok (.iconst 1, 1) := by decide +kernel
theorem d_X12_pairsBy_35 : decode cX12_pairsBy 35 = .ok (.iload_n 2, 1) := by decide +kernel
theorem d_X12_pairsBy_36 : decode cX12_pairsBy 36 = .ok (.ishl, 1) := by decide +kernel
theorem d_X12_pairsBy_37 : decode cX12_pairsBy 37 = .ok (.iconst (-1), 1) := by decide +kernel
theorem d_X12_pairsBy_38 : decode cX12_pairsBy 38 = .ok (.ixor, 1) := by decide +kernel
theorem d_X12_pairsBy_39 : decode cX12_pairsBy 39 = .ok (.iand, 1) := by decide +kernel
theorem d_X12_pairsBy_40 : decode cX12_pairsBy 40 = .ok (.iaload, 1) := by decide +kernel
theorem d_X12_pairsBy_41 : decode cX12_pairsBy 41 = .ok (.iadd, 1) := by decide +kernel
theorem d_X12_pairsBy_42 : decode cX12_pairsBy 42 = .ok (.ireturn, 1) := by decide +kernel
def F_X12_pairsBy (x0 : Nat) (x1 : Int32) (x2 : Int32) (x3 : Int32) (h : xH) : Option (Int32 × xH) := (F_X12_lowest x1 h).bind fun z1 => (rc z1.2 x0 11).bind fun _ => (F_X12_areTwo x0 z1.1 x2 x3 z1.2).bind fun z11 => if ¬ z11.1 = 0 then (fR z11.2 x0 11 27).bind fun v23 => (aI z11.2 v23 ((x1 &&& ((((1 : Int32)) <<< (z1.1 &&& 31)) ^^^ ((-1)))) &&& ((((1 : Int32)) <<< (x2 &&& 31)) ^^^ ((-1))))).bind fun v40 => some (((1 : Int32)) + v40, z11.2) else some ((-1), z11.2)
theorem R_X12_pairsBy {Γ : xG} {l : Launch} {d : Nat} {r : Int32} {h' : xH} (x0 : Nat) (x1 : Int32) (x2 : Int32) (x3 : Int32) (h : xH) (hdp : 2 ≤ d) (hF : F_X12_pairsBy x0 x1 x2 x3 h = some (r, h')) : Gm Γ l d 0 0 m_X12_pairsBy [.ref x0, .int x1, .int x2, .int x3] h (fun a u => a = some (.int r) ∧ u = h') := by
  refine Gm.of pn_X12 (Nat.le_of_ble_eq_true rfl) ?_
  show Gd Γ l d m_X12_pairsBy 0 [.ref x0, .int x1, .int x2, .int x3, xhole] [] h 0 0 _
  generalize hQ : (fun (a : Option Value) (u : xH) => a = some (.int r) ∧ u = h') = Q
  have hq : Q (some (.int r)) h' := by rw [← hQ]; exact ⟨rfl, rfl⟩
  clear hQ
  unfold F_X12_pairsBy at hF
  refine g_iloadn d_X12_pairsBy_0 rfl ?_
  obtain ⟨⟨r1, h1⟩, e1, hF⟩ := Option.bind_eq_some_iff.mp hF
  try dsimp only at hF
  refine q_callS [.int x1] [] rfl d_X12_pairsBy_1 s_X12_394 (by omega) rfl (Nat.le_of_ble_eq_true rfl) (R_X12_lowest _ _ (by omega) e1) ?_
  refine q_istore [.ref x0, .int x1, .int x2, .int x3, .int (r1)] d_X12_pairsBy_4 (by decide) rfl ?_
  refine g_aloadn d_X12_pairsBy_6 rfl ?_
  refine g_iload d_X12_pairsBy_7 rfl ?_
  refine g_iloadn d_X12_pairsBy_9 rfl ?_
  refine g_iloadn d_X12_pairsBy_10 rfl ?_
  obtain ⟨_, g11, hF⟩ := Option.bind_eq_some_iff.mp hF
  obtain ⟨⟨r11, h11⟩, e11, hF⟩ := Option.bind_eq_some_iff.mp hF
  try dsimp only at hF
  refine q_callV [.int (r1), .int x2, .int x3] [] rfl d_X12_pairsBy_11 v_X12_384 (by omega) rfl (Nat.le_of_ble_eq_true rfl) (rc_rc g11 (by decide) rfl) (R_X12_areTwo _ _ _ _ _ (by omega) e11) ?_
  refine g_if_ne 21 d_X12_pairsBy_14 rfl (fun c14 => ?_) (fun c14 => ?_)
  · have hF := x_t hF c14
    refine g_ic (1) d_X12_pairsBy_21 ic_1 ?_
    refine g_aloadn d_X12_pairsBy_22 rfl ?_
    obtain ⟨v23, e23, hF⟩ := Option.bind_eq_some_iff.mp hF
    refine q_fR d_X12_pairsBy_23 f_X12_54 e23 ?_
    refine g_iloadn d_X12_pairsBy_26 rfl ?_
    refine g_ic (1) d_X12_pairsBy_27 ic_1 ?_
    refine g_iload d_X12_pairsBy_28 rfl ?_
    refine g_ishl d_X12_pairsBy_30 ?_
    refine g_ic (-1) d_X12_pairsBy_31 ic_m1 ?_
    refine g_ixor d_X12_pairsBy_32 ?_
    refine g_iand d_X12_pairsBy_33 ?_
    refine g_ic (1) d_X12_pairsBy_34 ic_1 ?_
    refine g_iloadn d_X12_pairsBy_35 rfl ?_
    refine g_ishl d_X12_pairsBy_36 ?_
    refine g_ic (-1) d_X12_pairsBy_37 ic_m1 ?_
    refine g_ixor d_X12_pairsBy_38 ?_
    refine g_iand d_X12_pairsBy_39 ?_
    obtain ⟨v40, e40, hF⟩ := Option.bind_eq_some_iff.mp hF
    refine q_aI d_X12_pairsBy_40 e40 ?_
    refine g_iadd d_X12_pairsBy_41 ?_
    obtain ⟨rfl, rfl⟩ := x_inj hF
    exact g_iret d_X12_pairsBy_42 rfl hq
  · have hF := x_f hF (not_not_intro c14)
    refine g_ic (-1) d_X12_pairsBy_17 ic_m1 ?_
    refine g_goto 42 d_X12_pairsBy_18 rfl ?_
    obtain ⟨rfl, rfl⟩ := x_inj hF
    exact g_iret d_X12_pairsBy_42 rfl hq
theorem d_X12_laysPairs_0 : decode cX12_laysPairs 0 = .ok (.aload_n 0, 1) := by decide +kernel
theorem d_X12_laysPairs_1 : decode cX12_laysPairs 1 = .ok (.invokevirtual 375, 3) := by decide +kernel
theorem d_X12_laysPairs_4 : decode cX12_laysPairs 4 = .ok (.iconst 1, 1) := by decide +kernel
theorem d_X12_laysPairs_5 : decode cX12_laysPairs 5 = .ok (.istore_n 2, 1) := by decide +kernel
theorem d_X12_laysPairs_6 : decode cX12_laysPairs 6 = .ok (.iload_n 2, 1) := by decide +kernel
theorem d_X12_laysPairs_7 : decode cX12_laysPairs 7 = .ok (.iconst 1, 1) := by decide +kernel
theorem d_X12_laysPairs_8 : decode cX12_laysPairs 8 = .ok (.aload_n 0, 1) := by decide +kernel
theorem d_X12_laysPairs_9 : decode cX12_laysPairs 9 = .ok (.getfield 13, 3) := by decide +kernel
theorem d_X12_laysPairs_12 : decode cX12_laysPairs 12 = .ok (.iconst 4, 1) := by decide +kernel
theorem d_X12_laysPairs_13 : decode cX12_laysPairs 13 = .ok (.iaload, 1) := by decide +kernel
theorem d_X12_laysPairs_14 : decode cX12_laysPairs 14 = .ok (.ishl, 1) := by decide +kernel
theorem d_X12_laysPairs_15 : decode cX12_laysPairs 15 = .ok (.if_icmp .ge 83, 3) := by decide +kernel
theorem d_X12_laysPairs_18 : decode cX12_laysPairs 18 = .ok (.aload_n 0, 1) := by decide +kernel
theorem d_X12_laysPairs_19 : decode cX12_laysPairs 19 = .ok (.getfield 54, 3) := by decide +kernel
theorem d_X12_laysPairs_22 : decode cX12_laysPairs 22 = .ok (.iload_n 2, 1) := by decide +kernel
theorem d_X12_laysPairs_23 : decode cX12_laysPairs 23 = .ok (.iload_n 2, 1) := by decide +kernel
theorem d_X12_laysPairs_24 : decode cX12_laysPairs 24 = .ok (.iconst 1, 1) := by decide +kernel
theorem d_X12_laysPairs_25 : decode cX12_laysPairs 25 = .ok (.isub, 1) := by decide +kernel
theorem d_X12_laysPairs_26 : decode cX12_laysPairs 26 = .ok (.iand, 1) := by decide +kernel
theorem d_X12_laysPairs_27 : decode cX12_laysPairs 27 = .ok (.iaload, 1) := by decide +kernel
theorem d_X12_laysPairs_28 : decode cX12_laysPairs 28 = .ok (.istore_n 3, 1) := by decide +kernel
theorem d_X12_laysPairs_29 : decode cX12_laysPairs 29 = .ok (.iload_n 2, 1) := by decide +kernel
theorem d_X12_laysPairs_30 : decode cX12_laysPairs 30 = .ok (.invokestatic 394, 3) := by decide +kernel
theorem d_X12_laysPairs_33 : decode cX12_laysPairs 33 = .ok (.iconst 1, 1) := by decide +kernel
theorem d_X12_laysPairs_34 : decode cX12_laysPairs 34 = .ok (.iadd, 1) := by decide +kernel
theorem d_X12_laysPairs_35 : decode cX12_laysPairs 35 = .ok (.istore 4, 2) := by decide +kernel
theorem d_X12_laysPairs_37 : decode cX12_laysPairs 37 = .ok (.iload 4, 2) := by decide +kernel
theorem d_X12_laysPairs_39 : decode cX12_laysPairs 39 = .ok (.aload_n 0, 1) := by decide +kernel
theorem d_X12_laysPairs_40 : decode cX12_laysPairs 40 = .ok (.getfield 13, 3) := by decide +kernel
theorem d_X12_laysPairs_43 : decode cX12_laysPairs 43 = .ok (.iconst 4, 1) := by decide +kernel
theorem d_X12_laysPairs_44 : decode cX12_laysPairs 44 = .ok (.iaload, 1) := by decide +kernel
theorem d_X12_laysPairs_45 : decode cX12_laysPairs 45 = .ok (.if_icmp .ge 40, 3) := by decide +kernel
theorem d_X12_laysPairs_48 : decode cX12_laysPairs 48 = .ok (.iload_n 2, 1) := by decide +kernel
theorem d_X12_laysPairs_49 : decode cX12_laysPairs 49 = .ok (.i2l, 1) := by decide +kernel
theorem d_X12_laysPairs_50 : decode cX12_laysPairs 50 = .ok (.iload 4, 2) := by decide +kernel
theorem d_X12_laysPairs_52 : decode cX12_laysPairs 52 = .ok (.invokestatic 228, 3) := by decide +kernel
theorem d_X12_laysPairs_55 : decode cX12_laysPairs 55 = .ok (.ifCond .eq 24, 3) := by decide +kernel
theorem d_X12_laysPairs_58 : decode cX12_laysPairs 58 = .ok (.aload_n 0, 1) := by decide +kernel
theorem d_X12_laysPairs_59 : decode cX12_laysPairs 59 = .ok (.iload_n 2, 1) := by decide +kernel
theorem d_X12_laysPairs_60 : decode cX12_laysPairs 60 = .ok (.iload 4, 2) := by decide +kernel
theorem d_X12_laysPairs_62 : decode cX12_laysPairs 62 = .ok (.iload_n 1, 1) := by decide +kernel
theorem d_X12_laysPairs_63 : decode cX12_laysPairs 63 = .ok (.invokevirtual 397, 3) := by decide +kernel
theorem d_X12_laysPairs_66 : decode cX12_laysPairs 66 = .ok (.iload_n 3, 1) := by decide +kernel
theorem d_X12_laysPairs_67 : decode cX12_laysPairs 67 = .ok (.if_icmp .le 12, 3) := by decide +kernel
theorem d_X12_laysPairs_70 : decode cX12_laysPairs 70 = .ok (.aload_n 0, 1) := by decide +kernel
theorem d_X12_laysPairs_71 : decode cX12_laysPairs 71 = .ok (.iload_n 2, 1) := by decide +kernel
theorem d_X12_laysPairs_72 : decode cX12_laysPairs 72 = .ok (.iload 4, 2) := by decide +kernel
theorem d_X12_laysPairs_74 : decode cX12_laysPairs 74 = .ok (.iload_n 1, 1) := by decide +kernel
theorem d_X12_laysPairs_75 : decode cX12_laysPairs 75 = .ok (.invokevirtual 397, 3) := by decide +kernel
theorem d_X12_laysPairs_78 : decode cX12_laysPairs 78 = .ok (.istore_n 3, 1) := by decide +kernel
theorem d_X12_laysPairs_79 : decode cX12_laysPairs 79 = .ok (.iinc 4 1, 3) := by decide +kernel
theorem d_X12_laysPairs_82 : decode cX12_laysPairs 82 = .ok (.goto (-45), 3) := by decide +kernel
theorem d_X12_laysPairs_85 : decode cX12_laysPairs 85 = .ok (.aload_n 0, 1) := by decide +kernel
theorem d_X12_laysPairs_86 : decode cX12_laysPairs 86 = .ok (.getfield 54, 3) := by decide +kernel
theorem d_X12_laysPairs_89 : decode cX12_laysPairs 89 = .ok (.iload_n 2, 1) := by decide +kernel
theorem d_X12_laysPairs_90 : decode cX12_laysPairs 90 = .ok (.iload_n 3, 1) := by decide +kernel
theorem d_X12_laysPairs_91 : decode cX12_laysPairs 91 = .ok (.iastore, 1) := by decide +kernel
theorem d_X12_laysPairs_92 : decode cX12_laysPairs 92 = .ok (.iinc 2 1, 3) := by decide +kernel
theorem d_X12_laysPairs_95 : decode cX12_laysPairs 95 = .ok (.goto (-89), 3) := by decide +kernel
theorem d_X12_laysPairs_98 : decode cX12_laysPairs 98 = .ok (.return_, 1) := by decide +kernel
def F_X12_laysPairs_b37 (k6 : Nat → Int32 → Int32 → xH → Option (Unit × xH)) : Nat → Nat → Int32 → Int32 → Int32 → Int32 → xH → Option (Unit × xH)
  | 0, _, _, _, _, _, _ => none
  | n + 1, x0, x1, x2, x3, x4, h => (fR h x0 11 1).bind fun v40 => (aI h v40 4).bind fun v44 => if v44 ≤ x4 then (fR h x0 11 27).bind fun v86 => (sI h v86 x2 x3).bind fun h91 => k6 x0 x1 (x2 + 1) h91 else (F_X12_isIn x2.toInt64 x4 h).bind fun z52 => if z52.1 = 0 then F_X12_laysPairs_b37 k6 n x0 x1 x2 x3 (x4 + 1) z52.2 else (rc z52.2 x0 11).bind fun _ => (F_X12_pairsBy x0 x2 x4 x1 z52.2).bind fun z63 => if z63.1 ≤ x3 then F_X12_laysPairs_b37 k6 n x0 x1 x2 x3 (x4 + 1) z63.2 else (rc z63.2 x0 11).bind fun _ => (F_X12_pairsBy x0 x2 x4 x1 z63.2).bind fun z75 => F_X12_laysPairs_b37 k6 n x0 x1 x2 z75.1 (x4 + 1) z75.2
theorem R_X12_laysPairs_b37 {Γ : xG} {l : Launch} {d : Nat} {Q : Option Value → xH → Prop} {r : Unit} {h' : xH} {k6 : Nat → Int32 → Int32 → xH → Option (Unit × xH)} (K6 : ∀ (x0 : Nat) (x1 : Int32) (x2 : Int32)  (h : xH), k6 x0 x1 x2 h = some (r, h') → Gd Γ l d m_X12_laysPairs 6 [.ref x0, .int x1, .int x2, xhole, xhole] [] h 0 0 Q) (hdp : 6 ≤ d) (hq : Q (none) h') : ∀ (n : Nat) (x0 : Nat) (x1 : Int32) (x2 : Int32) (x3 : Int32) (x4 : Int32) (h : xH), F_X12_laysPairs_b37 k6 n x0 x1 x2 x3 x4 h = some (r, h') → Gd Γ l d m_X12_laysPairs 37 [.ref x0, .int x1, .int x2, .int x3, .int x4] [] h 0 0 Q := by
  intro n
  induction n with
  | zero => intro x0 x1 x2 x3 x4 h hF; cases hF
  | succ n ih =>
  intro x0 x1 x2 x3 x4 h hF
  rw [F_X12_laysPairs_b37] at hF
  refine g_iload d_X12_laysPairs_37 rfl ?_
  refine g_aloadn d_X12_laysPairs_39 rfl ?_
  obtain ⟨v40, e40, hF⟩ := Option.bind_eq_some_iff.mp hF
  refine q_fR d_X12_laysPairs_40 f_X12_13 e40 ?_
  refine g_ic (4) d_X12_laysPairs_43 ic_4 ?_
  obtain ⟨v44, e44, hF⟩ := Option.bind_eq_some_iff.mp hF
  refine q_aI d_X12_laysPairs_44 e44 ?_
  refine g_icmp_ge 85 d_X12_laysPairs_45 rfl (fun c45 => ?_) (fun c45 => ?_)
  · have hF := x_t hF c45
    refine g_aloadn d_X12_laysPairs_85 rfl ?_
    obtain ⟨v86, e86, hF⟩ := Option.bind_eq_some_iff.mp hF
    refine q_fR d_X12_laysPairs_86 f_X12_54 e86 ?_
    refine g_iloadn d_X12_laysPairs_89 rfl ?_
    refine g_iloadn d_X12_laysPairs_90 rfl ?_
    obtain ⟨h91, e91, hF⟩ := Option.bind_eq_some_iff.mp hF
    refine q_sI d_X12_laysPairs_91 e91 ?_
    refine q_iinc (1) [.ref x0, .int x1, .int (x2 + 1), .int x3, .int x4] d_X12_laysPairs_92 ic_1 rfl (by decide) rfl ?_
    refine g_goto 6 d_X12_laysPairs_95 rfl ?_
    exact q_to (xs_r (xs_r (xs_r (xs_h (xs_h xs_n))))) (K6 _ _ _ _ hF)
  · have hF := x_f hF c45
    refine g_iloadn d_X12_laysPairs_48 rfl ?_
    refine g_i2l d_X12_laysPairs_49 ?_
    refine g_iload d_X12_laysPairs_50 rfl ?_
    obtain ⟨⟨r52, h52⟩, e52, hF⟩ := Option.bind_eq_some_iff.mp hF
    try dsimp only at hF
    refine q_callS [.long (x2.toInt64), .int x4] [] rfl d_X12_laysPairs_52 s_X12_228 (by omega) rfl (Nat.le_of_ble_eq_true rfl) (R_X12_isIn _ _ _ (by omega) e52) ?_
    refine g_if_eq 79 d_X12_laysPairs_55 rfl (fun c55 => ?_) (fun c55 => ?_)
    · have hF := x_t hF c55
      refine q_iinc (1) [.ref x0, .int x1, .int x2, .int x3, .int (x4 + 1)] d_X12_laysPairs_79 ic_1 rfl (by decide) rfl ?_
      refine g_goto 37 d_X12_laysPairs_82 rfl ?_
      exact q_to (xs_r (xs_r (xs_r (xs_r (xs_r xs_n))))) (ih _ _ _ _ _ _ hF)
    · have hF := x_f hF c55
      refine g_aloadn d_X12_laysPairs_58 rfl ?_
      refine g_iloadn d_X12_laysPairs_59 rfl ?_
      refine g_iload d_X12_laysPairs_60 rfl ?_
      refine g_iloadn d_X12_laysPairs_62 rfl ?_
      obtain ⟨_, g63, hF⟩ := Option.bind_eq_some_iff.mp hF
      obtain ⟨⟨r63, h63⟩, e63, hF⟩ := Option.bind_eq_some_iff.mp hF
      try dsimp only at hF
      refine q_callV [.int x2, .int x4, .int x1] [] rfl d_X12_laysPairs_63 v_X12_397 (by omega) rfl (Nat.le_of_ble_eq_true rfl) (rc_rc g63 (by decide) rfl) (R_X12_pairsBy _ _ _ _ _ (by omega) e63) ?_
      refine g_iloadn d_X12_laysPairs_66 rfl ?_
      refine g_icmp_le 79 d_X12_laysPairs_67 rfl (fun c67 => ?_) (fun c67 => ?_)
      · have hF := x_t hF c67
        refine q_iinc (1) [.ref x0, .int x1, .int x2, .int x3, .int (x4 + 1)] d_X12_laysPairs_79 ic_1 rfl (by decide) rfl ?_
        refine g_goto 37 d_X12_laysPairs_82 rfl ?_
        exact q_to (xs_r (xs_r (xs_r (xs_r (xs_r xs_n))))) (ih _ _ _ _ _ _ hF)
      · have hF := x_f hF c67
        refine g_aloadn d_X12_laysPairs_70 rfl ?_
        refine g_iloadn d_X12_laysPairs_71 rfl ?_
        refine g_iload d_X12_laysPairs_72 rfl ?_
        refine g_iloadn d_X12_laysPairs_74 rfl ?_
        obtain ⟨_, g75, hF⟩ := Option.bind_eq_some_iff.mp hF
        obtain ⟨⟨r75, h75⟩, e75, hF⟩ := Option.bind_eq_some_iff.mp hF
        try dsimp only at hF
        refine q_callV [.int x2, .int x4, .int x1] [] rfl d_X12_laysPairs_75 v_X12_397 (by omega) rfl (Nat.le_of_ble_eq_true rfl) (rc_rc g75 (by decide) rfl) (R_X12_pairsBy _ _ _ _ _ (by omega) e75) ?_
        refine q_istoren [.ref x0, .int x1, .int x2, .int (r75), .int x4] d_X12_laysPairs_78 (by decide) rfl ?_
        refine q_iinc (1) [.ref x0, .int x1, .int x2, .int (r75), .int (x4 + 1)] d_X12_laysPairs_79 ic_1 rfl (by decide) rfl ?_
        refine g_goto 37 d_X12_laysPairs_82 rfl ?_
        exact q_to (xs_r (xs_r (xs_r (xs_r (xs_r xs_n))))) (ih _ _ _ _ _ _ hF)
def F_X12_laysPairs_b6 : Nat → Nat → Int32 → Int32 → xH → Option (Unit × xH)
  | 0, _, _, _, _ => none
  | n + 1, x0, x1, x2, h => (fR h x0 11 1).bind fun v9 => (aI h v9 4).bind fun v13 => if (((1 : Int32)) <<< (v13 &&& 31)) ≤ x2 then some ((), h) else (fR h x0 11 27).bind fun v19 => (aI h v19 (x2 &&& (x2 - 1))).bind fun v27 => (F_X12_lowest x2 h).bind fun z30 => F_X12_laysPairs_b37 (F_X12_laysPairs_b6 n) FU x0 x1 x2 v27 (z30.1 + 1) z30.2
theorem R_X12_laysPairs_b6 {Γ : xG} {l : Launch} {d : Nat} {Q : Option Value → xH → Prop} {r : Unit} {h' : xH} (hdp : 6 ≤ d) (hq : Q (none) h') : ∀ (n : Nat) (x0 : Nat) (x1 : Int32) (x2 : Int32) (h : xH), F_X12_laysPairs_b6 n x0 x1 x2 h = some (r, h') → Gd Γ l d m_X12_laysPairs 6 [.ref x0, .int x1, .int x2, xhole, xhole] [] h 0 0 Q := by
  intro n
  induction n with
  | zero => intro x0 x1 x2 h hF; cases hF
  | succ n ih =>
  intro x0 x1 x2 h hF
  rw [F_X12_laysPairs_b6] at hF
  refine g_iloadn d_X12_laysPairs_6 rfl ?_
  refine g_ic (1) d_X12_laysPairs_7 ic_1 ?_
  refine g_aloadn d_X12_laysPairs_8 rfl ?_
  obtain ⟨v9, e9, hF⟩ := Option.bind_eq_some_iff.mp hF
  refine q_fR d_X12_laysPairs_9 f_X12_13 e9 ?_
  refine g_ic (4) d_X12_laysPairs_12 ic_4 ?_
  obtain ⟨v13, e13, hF⟩ := Option.bind_eq_some_iff.mp hF
  refine q_aI d_X12_laysPairs_13 e13 ?_
  refine g_ishl d_X12_laysPairs_14 ?_
  refine g_icmp_ge 98 d_X12_laysPairs_15 rfl (fun c15 => ?_) (fun c15 => ?_)
  · have hF := x_t hF c15
    obtain ⟨rfl, rfl⟩ := x_inj hF
    exact g_vret d_X12_laysPairs_98 rfl hq
  · have hF := x_f hF c15
    refine g_aloadn d_X12_laysPairs_18 rfl ?_
    obtain ⟨v19, e19, hF⟩ := Option.bind_eq_some_iff.mp hF
    refine q_fR d_X12_laysPairs_19 f_X12_54 e19 ?_
    refine g_iloadn d_X12_laysPairs_22 rfl ?_
    refine g_iloadn d_X12_laysPairs_23 rfl ?_
    refine g_ic (1) d_X12_laysPairs_24 ic_1 ?_
    refine g_isub d_X12_laysPairs_25 ?_
    refine g_iand d_X12_laysPairs_26 ?_
    obtain ⟨v27, e27, hF⟩ := Option.bind_eq_some_iff.mp hF
    refine q_aI d_X12_laysPairs_27 e27 ?_
    refine q_istoren [.ref x0, .int x1, .int x2, .int v27, xhole] d_X12_laysPairs_28 (by decide) rfl ?_
    refine g_iloadn d_X12_laysPairs_29 rfl ?_
    obtain ⟨⟨r30, h30⟩, e30, hF⟩ := Option.bind_eq_some_iff.mp hF
    try dsimp only at hF
    refine q_callS [.int x2] [] rfl d_X12_laysPairs_30 s_X12_394 (by omega) rfl (Nat.le_of_ble_eq_true rfl) (R_X12_lowest _ _ (by omega) e30) ?_
    refine g_ic (1) d_X12_laysPairs_33 ic_1 ?_
    refine g_iadd d_X12_laysPairs_34 ?_
    refine q_istore [.ref x0, .int x1, .int x2, .int v27, .int (r30 + 1)] d_X12_laysPairs_35 (by decide) rfl ?_
    exact q_to (xs_r (xs_r (xs_r (xs_r (xs_r xs_n))))) (R_X12_laysPairs_b37 ih hdp hq FU _ _ _ _ _ _ hF)
def F_X12_laysPairs (x0 : Nat) (x1 : Int32) (h : xH) : Option (Unit × xH) := (rc h x0 11).bind fun _ => (F_X12_laysHears x0 h).bind fun z1 => F_X12_laysPairs_b6 FU x0 x1 1 z1.2
theorem R_X12_laysPairs {Γ : xG} {l : Launch} {d : Nat} {r : Unit} {h' : xH} (x0 : Nat) (x1 : Int32) (h : xH) (hdp : 6 ≤ d) (hF : F_X12_laysPairs x0 x1 h = some (r, h')) : Gm Γ l d 0 0 m_X12_laysPairs [.ref x0, .int x1] h (fun a u => a = none ∧ u = h') := by
  refine Gm.of pn_X12 (Nat.le_of_ble_eq_true rfl) ?_
  show Gd Γ l d m_X12_laysPairs 0 [.ref x0, .int x1, xhole, xhole, xhole] [] h 0 0 _
  generalize hQ : (fun (a : Option Value) (u : xH) => a = none ∧ u = h') = Q
  have hq : Q (none) h' := by rw [← hQ]; exact ⟨rfl, rfl⟩
  clear hQ
  unfold F_X12_laysPairs at hF
  refine g_aloadn d_X12_laysPairs_0 rfl ?_
  obtain ⟨_, g1, hF⟩ := Option.bind_eq_some_iff.mp hF
  obtain ⟨⟨r1, h1⟩, e1, hF⟩ := Option.bind_eq_some_iff.mp hF
  try dsimp only at hF
  refine q_callV [] [] rfl d_X12_laysPairs_1 v_X12_375 (by omega) rfl (Nat.le_of_ble_eq_true rfl) (rc_rc g1 (by decide) rfl) (R_X12_laysHears _ _ (by omega) e1) ?_
  refine g_ic (1) d_X12_laysPairs_4 ic_1 ?_
  refine q_istoren [.ref x0, .int x1, .int 1, xhole, xhole] d_X12_laysPairs_5 (by decide) rfl ?_
  exact q_to (xs_r (xs_r (xs_r (xs_h (xs_h xs_n))))) (R_X12_laysPairs_b6 hdp hq FU _ _ _ _ hF)
theorem d_X12_pairs_0 : decode cX12_pairs 0 = .ok (.aload_n 0, 1) := by decide +kernel
theorem d_X12_pairs_1 : decode cX12_pairs 1 = .ok (.iconst 0, 1) := by decide +kernel
theorem d_X12_pairs_2 : decode cX12_pairs 2 = .ok (.putfield 1, 3) := by decide +kernel
theorem d_X12_pairs_5 : decode cX12_pairs 5 = .ok (.iload_n 2, 1) := by decide +kernel
theorem d_X12_pairs_6 : decode cX12_pairs 6 = .ok (.ifCond .eq 24, 3) := by decide +kernel
theorem d_X12_pairs_9 : decode cX12_pairs 9 = .ok (.iload_n 2, 1) := by decide +kernel
theorem d_X12_pairs_10 : decode cX12_pairs 10 = .ok (.bipush 10, 2) := by decide +kernel
theorem d_X12_pairs_12 : decode cX12_pairs 12 = .ok (.if_icmp .lt 15, 3) := by decide +kernel
theorem d_X12_pairs_15 : decode cX12_pairs 15 = .ok (.aload_n 0, 1) := by decide +kernel
theorem d_X12_pairs_16 : decode cX12_pairs 16 = .ok (.iload_n 2, 1) := by decide +kernel
theorem d_X12_pairs_17 : decode cX12_pairs 17 = .ok (.bipush 10, 2) := by decide +kernel
theorem d_X12_pairs_19 : decode cX12_pairs 19 = .ok (.isub, 1) := by decide +kernel
theorem d_X12_pairs_20 : decode cX12_pairs 20 = .ok (.i2l, 1) := by decide +kernel
theorem d_X12_pairs_21 : decode cX12_pairs 21 = .ok (.invokevirtual 246, 3) := by decide +kernel
theorem d_X12_pairs_24 : decode cX12_pairs 24 = .ok (.ifCond .ne 6, 3) := by decide +kernel
theorem d_X12_pairs_27 : decode cX12_pairs 27 = .ok (.bipush (-2), 2) := by decide +kernel
theorem d_X12_pairs_29 : decode cX12_pairs 29 = .ok (.ireturn, 1) := by decide +kernel
theorem d_X12_pairs_30 : decode cX12_pairs 30 = .ok (.aload_n 0, 1) := by decide +kernel
theorem d_X12_pairs_31 : decode cX12_pairs 31 = .ok (.iload_n 1, 1) := by decide +kernel
theorem d_X12_pairs_32 : decode cX12_pairs 32 = .ok (.invokevirtual 370, 3) := by decide +kernel
theorem d_X12_pairs_35 : decode cX12_pairs 35 = .ok (.ifCond .ne 6, 3) := by decide +kernel
theorem d_X12_pairs_38 : decode cX12_pairs 38 = .ok (.bipush (-3), 2) := by decide +kernel
theorem d_X12_pairs_40 : decode cX12_pairs 40 = .ok (.ireturn, 1) := by decide +kernel
theorem d_X12_pairs_41 : decode cX12_pairs 41 = .ok (.aload_n 0, 1) := by decide +kernel
theorem d_X12_pairs_42 : decode cX12_pairs 42 = .ok (.iload_n 1, 1) := by decide +kernel
theorem d_X12_pairs_43 : decode cX12_pairs 43 = .ok (.invokevirtual 400, 3) := by decide +kernel
theorem d_X12_pairs_46 : decode cX12_pairs 46 = .ok (.iconst 1, 1) := by decide +kernel
theorem d_X12_pairs_47 : decode cX12_pairs 47 = .ok (.aload_n 0, 1) := by decide +kernel
theorem d_X12_pairs_48 : decode cX12_pairs 48 = .ok (.getfield 13, 3) := by decide +kernel
theorem d_X12_pairs_51 : decode cX12_pairs 51 = .ok (.iconst 4, 1) := by decide +kernel
theorem d_X12_pairs_52 : decode cX12_pairs 52 = .ok (.iaload, 1) := by decide +kernel
theorem d_X12_pairs_53 : decode cX12_pairs 53 = .ok (.ishl, 1) := by decide +kernel
theorem d_X12_pairs_54 : decode cX12_pairs 54 = .ok (.iconst 1, 1) := by decide +kernel
theorem d_X12_pairs_55 : decode cX12_pairs 55 = .ok (.isub, 1) := by decide +kernel
theorem d_X12_pairs_56 : decode cX12_pairs 56 = .ok (.istore_n 3, 1) := by decide +kernel
theorem d_X12_pairs_57 : decode cX12_pairs 57 = .ok (.iload_n 2, 1) := by decide +kernel
theorem d_X12_pairs_58 : decode cX12_pairs 58 = .ok (.ifCond .ne 10, 3) := by decide +kernel
theorem d_X12_pairs_61 : decode cX12_pairs 61 = .ok (.aload_n 0, 1) := by decide +kernel
theorem d_X12_pairs_62 : decode cX12_pairs 62 = .ok (.getfield 54, 3) := by decide +kernel
theorem d_X12_pairs_65 : decode cX12_pairs 65 = .ok (.iload_n 3, 1) := by decide +kernel
theorem d_X12_pairs_66 : decode cX12_pairs 66 = .ok (.iaload, 1) := by decide +kernel
theorem d_X12_pairs_67 : decode cX12_pairs 67 = .ok (.ireturn, 1) := by decide +kernel
theorem d_X12_pairs_68 : decode cX12_pairs 68 = .ok (.iload_n 2, 1) := by decide +kernel
theorem d_X12_pairs_69 : decode cX12_pairs 69 = .ok (.bipush 10, 2) := by decide +kernel
theorem d_X12_pairs_71 : decode cX12_pairs 71 = .ok (.isub, 1) := by decide +kernel
theorem d_X12_pairs_72 : decode cX12_pairs 72 = .ok (.istore 4, 2) := by decide +kernel
theorem d_X12_pairs_74 : decode cX12_pairs 74 = .ok (.iload_n 3, 1) := by decide +kernel
theorem d_X12_pairs_75 : decode cX12_pairs 75 = .ok (.invokestatic 394, 3) := by decide +kernel
theorem d_X12_pairs_78 : decode cX12_pairs 78 = .ok (.istore 5, 2) := by decide +kernel
theorem d_X12_pairs_80 : decode cX12_pairs 80 = .ok (.iload 5, 2) := by decide +kernel
theorem d_X12_pairs_82 : decode cX12_pairs 82 = .ok (.iconst 1, 1) := by decide +kernel
theorem d_X12_pairs_83 : decode cX12_pairs 83 = .ok (.iadd, 1) := by decide +kernel
theorem d_X12_pairs_84 : decode cX12_pairs 84 = .ok (.istore 6, 2) := by decide +kernel
theorem d_X12_pairs_86 : decode cX12_pairs 86 = .ok (.iload 6, 2) := by decide +kernel
theorem d_X12_pairs_88 : decode cX12_pairs 88 = .ok (.aload_n 0, 1) := by decide +kernel
theorem d_X12_pairs_89 : decode cX12_pairs 89 = .ok (.getfield 13, 3) := by decide +kernel
theorem d_X12_pairs_92 : decode cX12_pairs 92 = .ok (.iconst 4, 1) := by decide +kernel
theorem d_X12_pairs_93 : decode cX12_pairs 93 = .ok (.iaload, 1) := by decide +kernel
theorem d_X12_pairs_94 : decode cX12_pairs 94 = .ok (.if_icmp .ge 36, 3) := by decide +kernel
theorem d_X12_pairs_97 : decode cX12_pairs 97 = .ok (.iload_n 3, 1) := by decide +kernel
theorem d_X12_pairs_98 : decode cX12_pairs 98 = .ok (.i2l, 1) := by decide +kernel
theorem d_X12_pairs_99 : decode cX12_pairs 99 = .ok (.iload 6, 2) := by decide +kernel
theorem d_X12_pairs_101 : decode cX12_pairs 101 = .ok (.invokestatic 228, 3) := by decide +kernel
theorem d_X12_pairs_104 : decode cX12_pairs 104 = .ok (.ifCond .eq 20, 3) := by decide +kernel
theorem d_X12_pairs_107 : decode cX12_pairs 107 = .ok (.aload_n 0, 1) := by decide +kernel
theorem d_X12_pairs_108 : decode cX12_pairs 108 = .ok (.iload_n 3, 1) := by decide +kernel
theorem d_X12_pairs_109 : decode cX12_pairs 109 = .ok (.iload 6, 2) := by decide +kernel
theorem d_X12_pairs_111 : decode cX12_pairs 111 = .ok (.iload_n 1, 1) := by decide +kernel
theorem d_X12_pairs_112 : decode cX12_pairs 112 = .ok (.invokevirtual 397, 3) := by decide +kernel
theorem d_X12_pairs_115 : decode cX12_pairs 115 = .ok (.aload_n 0, 1) := by decide +kernel
theorem d_X12_pairs_116 : decode cX12_pairs 116 = .ok (.getfield 54, 3) := by decide +kernel
theorem d_X12_pairs_119 : decode cX12_pairs 119 = .ok (.iload_n 3, 1) := by decide +kernel
theorem d_X12_pairs_120 : decode cX12_pairs 120 = .ok (.iaload, 1) := by decide +kernel
theorem d_X12_pairs_121 : decode cX12_pairs 121 = .ok (.if_icmp .eq 9, 3) := by decide +kernel
theorem d_X12_pairs_124 : decode cX12_pairs 124 = .ok (.iinc 6 1, 3) := by decide +kernel
theorem d_X12_pairs_127 : decode cX12_pairs 127 = .ok (.goto (-41), 3) := by decide +kernel
theorem d_X12_pairs_130 : decode cX12_pairs 130 = .ok (.iload 5, 2) := by decide +kernel
theorem d_X12_pairs_132 : decode cX12_pairs 132 = .ok (.iload 4, 2) := by decide +kernel
theorem d_X12_pairs_134 : decode cX12_pairs 134 = .ok (.if_icmp .eq 10, 3) := by decide +kernel
theorem d_X12_pairs_137 : decode cX12_pairs 137 = .ok (.iload 6, 2) := by decide +kernel
theorem d_X12_pairs_139 : decode cX12_pairs 139 = .ok (.iload 4, 2) := by decide +kernel
theorem d_X12_pairs_141 : decode cX12_pairs 141 = .ok (.if_icmp .ne 33, 3) := by decide +kernel
theorem d_X12_pairs_144 : decode cX12_pairs 144 = .ok (.iload 6, 2) := by decide +kernel
theorem d_X12_pairs_146 : decode cX12_pairs 146 = .ok (.aload_n 0, 1) := by decide +kernel
theorem d_X12_pairs_147 : decode cX12_pairs 147 = .ok (.getfield 13, 3) := by decide +kernel
theorem d_X12_pairs_150 : decode cX12_pairs 150 = .ok (.iconst 4, 1) := by decide +kernel
theorem d_X12_pairs_151 : decode cX12_pairs 151 = .ok (.iaload, 1) := by decide +kernel
theorem d_X12_pairs_152 : decode cX12_pairs 152 = .ok (.if_icmp .ne 7, 3) := by decide +kernel
theorem d_X12_pairs_155 : decode cX12_pairs 155 = .ok (.iconst (-1), 1) := by decide +kernel
theorem d_X12_pairs_156 : decode cX12_pairs 156 = .ok (.goto 17, 3) := by decide +kernel
theorem d_X12_pairs_159 : decode cX12_pairs 159 = .ok (.iload 5, 2) := by decide +kernel
theorem d_X12_pairs_161 : decode cX12_pairs 161 = .ok (.iload 4, 2) := by decide +kernel
theorem d_X12_pairs_163 : decode cX12_pairs 163 = .ok (.if_icmp .ne 8, 3) := by decide +kernel
theorem d_X12_pairs_166 : decode cX12_pairs 166 = .ok (.iload 6, 2) := by decide +kernel
theorem d_X12_pairs_168 : decode cX12_pairs 168 = .ok (.goto 5, 3) := by decide +kernel
theorem d_X12_pairs_171 : decode cX12_pairs 171 = .ok (.iload 5, 2) := by decide +kernel
theorem d_X12_pairs_173 : decode cX12_pairs 173 = .ok (.ireturn, 1) := by decide +kernel
theorem d_X12_pairs_174 : decode cX12_pairs 174 = .ok (.iload_n 3, 1) := by decide +kernel
theorem d_X12_pairs_175 : decode cX12_pairs 175 = .ok (.iconst 1, 1) := by decide +kernel
theorem d_X12_pairs_176 : decode cX12_pairs 176 = .ok (.iload 5, 2) := by decide +kernel
theorem d_X12_pairs_178 : decode cX12_pairs 178 = .ok (.ishl, 1) := by decide +kernel
theorem d_X12_pairs_179 : decode cX12_pairs 179 = .ok (.iconst (-1), 1) := by decide +kernel
theorem d_X12_pairs_180 : decode cX12_pairs 180 = .ok (.ixor, 1) := by decide +kernel
theorem d_X12_pairs_181 : decode cX12_pairs 181 = .ok (.iand, 1) := by decide +kernel
theorem d_X12_pairs_182 : decode cX12_pairs 182 = .ok (.istore_n 3, 1) := by decide +kernel
theorem d_X12_pairs_183 : decode cX12_pairs 183 = .ok (.iload_n 3, 1) := by decide +kernel
theorem d_X12_pairs_184 : decode cX12_pairs 184 = .ok (.iload 6, 2) := by decide +kernel
theorem d_X12_pairs_186 : decode cX12_pairs 186 = .ok (.aload_n 0, 1) := by decide +kernel
theorem d_X12_pairs_187 : decode cX12_pairs 187 = .ok (.getfield 13, 3) := by decide +kernel
theorem d_X12_pairs_190 : decode cX12_pairs 190 = .ok (.iconst 4, 1) := by decide +kernel
theorem d_X12_pairs_191 : decode cX12_pairs 191 = .ok (.iaload, 1) := by decide +kernel
theorem d_X12_pairs_192 : decode cX12_pairs 192 = .ok (.if_icmp .ne 7, 3) := by decide +kernel
theorem d_X12_pairs_195 : decode cX12_pairs 195 = .ok (.iload_n 3, 1) := by decide +kernel
theorem d_X12_pairs_196 : decode cX12_pairs 196 = .ok (.goto 9, 3) := by decide +kernel
theorem d_X12_pairs_199 : decode cX12_pairs 199 = .ok (.iconst 1, 1) := by decide +kernel
theorem d_X12_pairs_200 : decode cX12_pairs 200 = .ok (.iload 6, 2) := by decide +kernel
theorem d_X12_pairs_202 : decode cX12_pairs 202 = .ok (.ishl, 1) := by decide +kernel
theorem d_X12_pairs_203 : decode cX12_pairs 203 = .ok (.iconst (-1), 1) := by decide +kernel
theorem d_X12_pairs_204 : decode cX12_pairs 204 = .ok (.ixor, 1) := by decide +kernel
theorem d_X12_pairs_205 : decode cX12_pairs 205 = .ok (.iand, 1) := by decide +kernel
theorem d_X12_pairs_206 : decode cX12_pairs 206 = .ok (.istore_n 3, 1) := by decide +kernel
theorem d_X12_pairs_207 : decode cX12_pairs 207 = .ok (.goto (-133), 3) := by decide +kernel
def F_X12_pairs_b144 (x0 : Nat) (x4 : Int32) (x5 : Int32) (x6 : Int32) (h : xH) : Option (Int32 × xH) := (fR h x0 11 1).bind fun v147 => (aI h v147 4).bind fun v151 => if ¬ x6 = v151 then if ¬ x5 = x4 then some (x5, h) else some (x6, h) else some ((-1), h)
theorem R_X12_pairs_b144 {Γ : xG} {l : Launch} {d : Nat} {Q : Option Value → xH → Prop} {r : Int32} {h' : xH} (hdp : 7 ≤ d) (hq : Q (some (.int r)) h') : ∀ (x0 : Nat) (x4 : Int32) (x5 : Int32) (x6 : Int32) (h : xH), F_X12_pairs_b144 x0 x4 x5 x6 h = some (r, h') → Gd Γ l d m_X12_pairs 144 [.ref x0, xhole, xhole, xhole, .int x4, .int x5, .int x6] [] h 0 0 Q := by
  intro x0 x4 x5 x6 h hF
  unfold F_X12_pairs_b144 at hF
  refine g_iload d_X12_pairs_144 rfl ?_
  refine g_aloadn d_X12_pairs_146 rfl ?_
  obtain ⟨v147, e147, hF⟩ := Option.bind_eq_some_iff.mp hF
  refine q_fR d_X12_pairs_147 f_X12_13 e147 ?_
  refine g_ic (4) d_X12_pairs_150 ic_4 ?_
  obtain ⟨v151, e151, hF⟩ := Option.bind_eq_some_iff.mp hF
  refine q_aI d_X12_pairs_151 e151 ?_
  refine g_icmp_ne 159 d_X12_pairs_152 rfl (fun c152 => ?_) (fun c152 => ?_)
  · have hF := x_t hF c152
    refine g_iload d_X12_pairs_159 rfl ?_
    refine g_iload d_X12_pairs_161 rfl ?_
    refine g_icmp_ne 171 d_X12_pairs_163 rfl (fun c163 => ?_) (fun c163 => ?_)
    · have hF := x_t hF c163
      refine g_iload d_X12_pairs_171 rfl ?_
      obtain ⟨rfl, rfl⟩ := x_inj hF
      exact g_iret d_X12_pairs_173 rfl hq
    · have hF := x_f hF (not_not_intro c163)
      refine g_iload d_X12_pairs_166 rfl ?_
      refine g_goto 173 d_X12_pairs_168 rfl ?_
      obtain ⟨rfl, rfl⟩ := x_inj hF
      exact g_iret d_X12_pairs_173 rfl hq
  · have hF := x_f hF (not_not_intro c152)
    refine g_ic (-1) d_X12_pairs_155 ic_m1 ?_
    refine g_goto 173 d_X12_pairs_156 rfl ?_
    obtain ⟨rfl, rfl⟩ := x_inj hF
    exact g_iret d_X12_pairs_173 rfl hq
def F_X12_pairs_b130 (k74 : Nat → Int32 → Int32 → Int32 → xH → Option (Int32 × xH)) (x0 : Nat) (x1 : Int32) (x3 : Int32) (x4 : Int32) (x5 : Int32) (x6 : Int32) (h : xH) : Option (Int32 × xH) := if x5 = x4 then F_X12_pairs_b144 x0 x4 x5 x6 h else if ¬ x6 = x4 then (fR h x0 11 1).bind fun v187 => (aI h v187 4).bind fun v191 => if ¬ x6 = v191 then k74 x0 x1 ((x3 &&& ((((1 : Int32)) <<< (x5 &&& 31)) ^^^ ((-1)))) &&& ((((1 : Int32)) <<< (x6 &&& 31)) ^^^ ((-1)))) x4 h else k74 x0 x1 ((x3 &&& ((((1 : Int32)) <<< (x5 &&& 31)) ^^^ ((-1)))) &&& (x3 &&& ((((1 : Int32)) <<< (x5 &&& 31)) ^^^ ((-1))))) x4 h else F_X12_pairs_b144 x0 x4 x5 x6 h
theorem R_X12_pairs_b130 {Γ : xG} {l : Launch} {d : Nat} {Q : Option Value → xH → Prop} {r : Int32} {h' : xH} {k74 : Nat → Int32 → Int32 → Int32 → xH → Option (Int32 × xH)} (K74 : ∀ (x0 : Nat) (x1 : Int32) (x3 : Int32) (x4 : Int32)  (h : xH), k74 x0 x1 x3 x4 h = some (r, h') → Gd Γ l d m_X12_pairs 74 [.ref x0, .int x1, xhole, .int x3, .int x4, xhole, xhole] [] h 0 0 Q) (hdp : 7 ≤ d) (hq : Q (some (.int r)) h') : ∀ (x0 : Nat) (x1 : Int32) (x3 : Int32) (x4 : Int32) (x5 : Int32) (x6 : Int32) (h : xH), F_X12_pairs_b130 k74 x0 x1 x3 x4 x5 x6 h = some (r, h') → Gd Γ l d m_X12_pairs 130 [.ref x0, .int x1, xhole, .int x3, .int x4, .int x5, .int x6] [] h 0 0 Q := by
  intro x0 x1 x3 x4 x5 x6 h hF
  unfold F_X12_pairs_b130 at hF
  refine g_iload d_X12_pairs_130 rfl ?_
  refine g_iload d_X12_pairs_132 rfl ?_
  refine g_icmp_eq 144 d_X12_pairs_134 rfl (fun c134 => ?_) (fun c134 => ?_)
  · have hF := x_t hF c134
    exact q_to (xs_r (xs_h (xs_h (xs_h (xs_r (xs_r (xs_r xs_n))))))) (R_X12_pairs_b144 hdp hq _ _ _ _ _ hF)
  · have hF := x_f hF c134
    refine g_iload d_X12_pairs_137 rfl ?_
    refine g_iload d_X12_pairs_139 rfl ?_
    refine g_icmp_ne 174 d_X12_pairs_141 rfl (fun c141 => ?_) (fun c141 => ?_)
    · have hF := x_t hF c141
      refine g_iloadn d_X12_pairs_174 rfl ?_
      refine g_ic (1) d_X12_pairs_175 ic_1 ?_
      refine g_iload d_X12_pairs_176 rfl ?_
      refine g_ishl d_X12_pairs_178 ?_
      refine g_ic (-1) d_X12_pairs_179 ic_m1 ?_
      refine g_ixor d_X12_pairs_180 ?_
      refine g_iand d_X12_pairs_181 ?_
      refine q_istoren [.ref x0, .int x1, xhole, .int (x3 &&& ((((1 : Int32)) <<< (x5 &&& 31)) ^^^ ((-1)))), .int x4, .int x5, .int x6] d_X12_pairs_182 (by decide) rfl ?_
      refine g_iloadn d_X12_pairs_183 rfl ?_
      refine g_iload d_X12_pairs_184 rfl ?_
      refine g_aloadn d_X12_pairs_186 rfl ?_
      obtain ⟨v187, e187, hF⟩ := Option.bind_eq_some_iff.mp hF
      refine q_fR d_X12_pairs_187 f_X12_13 e187 ?_
      refine g_ic (4) d_X12_pairs_190 ic_4 ?_
      obtain ⟨v191, e191, hF⟩ := Option.bind_eq_some_iff.mp hF
      refine q_aI d_X12_pairs_191 e191 ?_
      refine g_icmp_ne 199 d_X12_pairs_192 rfl (fun c192 => ?_) (fun c192 => ?_)
      · have hF := x_t hF c192
        refine g_ic (1) d_X12_pairs_199 ic_1 ?_
        refine g_iload d_X12_pairs_200 rfl ?_
        refine g_ishl d_X12_pairs_202 ?_
        refine g_ic (-1) d_X12_pairs_203 ic_m1 ?_
        refine g_ixor d_X12_pairs_204 ?_
        refine g_iand d_X12_pairs_205 ?_
        refine q_istoren [.ref x0, .int x1, xhole, .int ((x3 &&& ((((1 : Int32)) <<< (x5 &&& 31)) ^^^ ((-1)))) &&& ((((1 : Int32)) <<< (x6 &&& 31)) ^^^ ((-1)))), .int x4, .int x5, .int x6] d_X12_pairs_206 (by decide) rfl ?_
        refine g_goto 74 d_X12_pairs_207 rfl ?_
        exact q_to (xs_r (xs_r (xs_h (xs_r (xs_r (xs_h (xs_h xs_n))))))) (K74 _ _ _ _ _ hF)
      · have hF := x_f hF (not_not_intro c192)
        refine g_iloadn d_X12_pairs_195 rfl ?_
        refine g_goto 205 d_X12_pairs_196 rfl ?_
        refine g_iand d_X12_pairs_205 ?_
        refine q_istoren [.ref x0, .int x1, xhole, .int ((x3 &&& ((((1 : Int32)) <<< (x5 &&& 31)) ^^^ ((-1)))) &&& (x3 &&& ((((1 : Int32)) <<< (x5 &&& 31)) ^^^ ((-1))))), .int x4, .int x5, .int x6] d_X12_pairs_206 (by decide) rfl ?_
        refine g_goto 74 d_X12_pairs_207 rfl ?_
        exact q_to (xs_r (xs_r (xs_h (xs_r (xs_r (xs_h (xs_h xs_n))))))) (K74 _ _ _ _ _ hF)
    · have hF := x_f hF (not_not_intro c141)
      exact q_to (xs_r (xs_h (xs_h (xs_h (xs_r (xs_r (xs_r xs_n))))))) (R_X12_pairs_b144 hdp hq _ _ _ _ _ hF)
def F_X12_pairs_b86 (k74 : Nat → Int32 → Int32 → Int32 → xH → Option (Int32 × xH)) : Nat → Nat → Int32 → Int32 → Int32 → Int32 → Int32 → xH → Option (Int32 × xH)
  | 0, _, _, _, _, _, _, _ => none
  | n + 1, x0, x1, x3, x4, x5, x6, h => (fR h x0 11 1).bind fun v89 => (aI h v89 4).bind fun v93 => if v93 ≤ x6 then F_X12_pairs_b130 k74 x0 x1 x3 x4 x5 x6 h else (F_X12_isIn x3.toInt64 x6 h).bind fun z101 => if z101.1 = 0 then F_X12_pairs_b86 k74 n x0 x1 x3 x4 x5 (x6 + 1) z101.2 else (rc z101.2 x0 11).bind fun _ => (F_X12_pairsBy x0 x3 x6 x1 z101.2).bind fun z112 => (fR z112.2 x0 11 27).bind fun v116 => (aI z112.2 v116 x3).bind fun v120 => if z112.1 = v120 then F_X12_pairs_b130 k74 x0 x1 x3 x4 x5 x6 z112.2 else F_X12_pairs_b86 k74 n x0 x1 x3 x4 x5 (x6 + 1) z112.2
theorem R_X12_pairs_b86 {Γ : xG} {l : Launch} {d : Nat} {Q : Option Value → xH → Prop} {r : Int32} {h' : xH} {k74 : Nat → Int32 → Int32 → Int32 → xH → Option (Int32 × xH)} (K74 : ∀ (x0 : Nat) (x1 : Int32) (x3 : Int32) (x4 : Int32)  (h : xH), k74 x0 x1 x3 x4 h = some (r, h') → Gd Γ l d m_X12_pairs 74 [.ref x0, .int x1, xhole, .int x3, .int x4, xhole, xhole] [] h 0 0 Q) (hdp : 7 ≤ d) (hq : Q (some (.int r)) h') : ∀ (n : Nat) (x0 : Nat) (x1 : Int32) (x3 : Int32) (x4 : Int32) (x5 : Int32) (x6 : Int32) (h : xH), F_X12_pairs_b86 k74 n x0 x1 x3 x4 x5 x6 h = some (r, h') → Gd Γ l d m_X12_pairs 86 [.ref x0, .int x1, xhole, .int x3, .int x4, .int x5, .int x6] [] h 0 0 Q := by
  intro n
  induction n with
  | zero => intro x0 x1 x3 x4 x5 x6 h hF; cases hF
  | succ n ih =>
  intro x0 x1 x3 x4 x5 x6 h hF
  rw [F_X12_pairs_b86] at hF
  refine g_iload d_X12_pairs_86 rfl ?_
  refine g_aloadn d_X12_pairs_88 rfl ?_
  obtain ⟨v89, e89, hF⟩ := Option.bind_eq_some_iff.mp hF
  refine q_fR d_X12_pairs_89 f_X12_13 e89 ?_
  refine g_ic (4) d_X12_pairs_92 ic_4 ?_
  obtain ⟨v93, e93, hF⟩ := Option.bind_eq_some_iff.mp hF
  refine q_aI d_X12_pairs_93 e93 ?_
  refine g_icmp_ge 130 d_X12_pairs_94 rfl (fun c94 => ?_) (fun c94 => ?_)
  · have hF := x_t hF c94
    exact q_to (xs_r (xs_r (xs_h (xs_r (xs_r (xs_r (xs_r xs_n))))))) (R_X12_pairs_b130 K74 hdp hq _ _ _ _ _ _ _ hF)
  · have hF := x_f hF c94
    refine g_iloadn d_X12_pairs_97 rfl ?_
    refine g_i2l d_X12_pairs_98 ?_
    refine g_iload d_X12_pairs_99 rfl ?_
    obtain ⟨⟨r101, h101⟩, e101, hF⟩ := Option.bind_eq_some_iff.mp hF
    try dsimp only at hF
    refine q_callS [.long (x3.toInt64), .int x6] [] rfl d_X12_pairs_101 s_X12_228 (by omega) rfl (Nat.le_of_ble_eq_true rfl) (R_X12_isIn _ _ _ (by omega) e101) ?_
    refine g_if_eq 124 d_X12_pairs_104 rfl (fun c104 => ?_) (fun c104 => ?_)
    · have hF := x_t hF c104
      refine q_iinc (1) [.ref x0, .int x1, xhole, .int x3, .int x4, .int x5, .int (x6 + 1)] d_X12_pairs_124 ic_1 rfl (by decide) rfl ?_
      refine g_goto 86 d_X12_pairs_127 rfl ?_
      exact q_to (xs_r (xs_r (xs_h (xs_r (xs_r (xs_r (xs_r xs_n))))))) (ih _ _ _ _ _ _ _ hF)
    · have hF := x_f hF c104
      refine g_aloadn d_X12_pairs_107 rfl ?_
      refine g_iloadn d_X12_pairs_108 rfl ?_
      refine g_iload d_X12_pairs_109 rfl ?_
      refine g_iloadn d_X12_pairs_111 rfl ?_
      obtain ⟨_, g112, hF⟩ := Option.bind_eq_some_iff.mp hF
      obtain ⟨⟨r112, h112⟩, e112, hF⟩ := Option.bind_eq_some_iff.mp hF
      try dsimp only at hF
      refine q_callV [.int x3, .int x6, .int x1] [] rfl d_X12_pairs_112 v_X12_397 (by omega) rfl (Nat.le_of_ble_eq_true rfl) (rc_rc g112 (by decide) rfl) (R_X12_pairsBy _ _ _ _ _ (by omega) e112) ?_
      refine g_aloadn d_X12_pairs_115 rfl ?_
      obtain ⟨v116, e116, hF⟩ := Option.bind_eq_some_iff.mp hF
      refine q_fR d_X12_pairs_116 f_X12_54 e116 ?_
      refine g_iloadn d_X12_pairs_119 rfl ?_
      obtain ⟨v120, e120, hF⟩ := Option.bind_eq_some_iff.mp hF
      refine q_aI d_X12_pairs_120 e120 ?_
      refine g_icmp_eq 130 d_X12_pairs_121 rfl (fun c121 => ?_) (fun c121 => ?_)
      · have hF := x_t hF c121
        exact q_to (xs_r (xs_r (xs_h (xs_r (xs_r (xs_r (xs_r xs_n))))))) (R_X12_pairs_b130 K74 hdp hq _ _ _ _ _ _ _ hF)
      · have hF := x_f hF c121
        refine q_iinc (1) [.ref x0, .int x1, xhole, .int x3, .int x4, .int x5, .int (x6 + 1)] d_X12_pairs_124 ic_1 rfl (by decide) rfl ?_
        refine g_goto 86 d_X12_pairs_127 rfl ?_
        exact q_to (xs_r (xs_r (xs_h (xs_r (xs_r (xs_r (xs_r xs_n))))))) (ih _ _ _ _ _ _ _ hF)
def F_X12_pairs_b74 : Nat → Nat → Int32 → Int32 → Int32 → xH → Option (Int32 × xH)
  | 0, _, _, _, _, _ => none
  | n + 1, x0, x1, x3, x4, h => (F_X12_lowest x3 h).bind fun z75 => F_X12_pairs_b86 (F_X12_pairs_b74 n) FU x0 x1 x3 x4 z75.1 (z75.1 + 1) z75.2
theorem R_X12_pairs_b74 {Γ : xG} {l : Launch} {d : Nat} {Q : Option Value → xH → Prop} {r : Int32} {h' : xH} (hdp : 7 ≤ d) (hq : Q (some (.int r)) h') : ∀ (n : Nat) (x0 : Nat) (x1 : Int32) (x3 : Int32) (x4 : Int32) (h : xH), F_X12_pairs_b74 n x0 x1 x3 x4 h = some (r, h') → Gd Γ l d m_X12_pairs 74 [.ref x0, .int x1, xhole, .int x3, .int x4, xhole, xhole] [] h 0 0 Q := by
  intro n
  induction n with
  | zero => intro x0 x1 x3 x4 h hF; cases hF
  | succ n ih =>
  intro x0 x1 x3 x4 h hF
  rw [F_X12_pairs_b74] at hF
  refine g_iloadn d_X12_pairs_74 rfl ?_
  obtain ⟨⟨r75, h75⟩, e75, hF⟩ := Option.bind_eq_some_iff.mp hF
  try dsimp only at hF
  refine q_callS [.int x3] [] rfl d_X12_pairs_75 s_X12_394 (by omega) rfl (Nat.le_of_ble_eq_true rfl) (R_X12_lowest _ _ (by omega) e75) ?_
  refine q_istore [.ref x0, .int x1, xhole, .int x3, .int x4, .int (r75), xhole] d_X12_pairs_78 (by decide) rfl ?_
  refine g_iload d_X12_pairs_80 rfl ?_
  refine g_ic (1) d_X12_pairs_82 ic_1 ?_
  refine g_iadd d_X12_pairs_83 ?_
  refine q_istore [.ref x0, .int x1, xhole, .int x3, .int x4, .int (r75), .int (r75 + 1)] d_X12_pairs_84 (by decide) rfl ?_
  exact q_to (xs_r (xs_r (xs_h (xs_r (xs_r (xs_r (xs_r xs_n))))))) (R_X12_pairs_b86 ih hdp hq FU _ _ _ _ _ _ _ hF)
def F_X12_pairs_b30 (x0 : Nat) (x1 : Int32) (x2 : Int32) (h : xH) : Option (Int32 × xH) := (rc h x0 11).bind fun _ => (F_X12_isNotes x0 x1 h).bind fun z32 => if ¬ z32.1 = 0 then (rc z32.2 x0 11).bind fun _ => (F_X12_laysPairs x0 x1 z32.2).bind fun z43 => (fR z43.2 x0 11 1).bind fun v48 => (aI z43.2 v48 4).bind fun v52 => if ¬ x2 = 0 then F_X12_pairs_b74 FU x0 x1 ((((1 : Int32)) <<< (v52 &&& 31)) - 1) (x2 - 10) z43.2 else (fR z43.2 x0 11 27).bind fun v62 => (aI z43.2 v62 ((((1 : Int32)) <<< (v52 &&& 31)) - 1)).bind fun v66 => some (v66, z43.2) else some ((-3), z32.2)
theorem R_X12_pairs_b30 {Γ : xG} {l : Launch} {d : Nat} {Q : Option Value → xH → Prop} {r : Int32} {h' : xH} (hdp : 7 ≤ d) (hq : Q (some (.int r)) h') : ∀ (x0 : Nat) (x1 : Int32) (x2 : Int32) (h : xH), F_X12_pairs_b30 x0 x1 x2 h = some (r, h') → Gd Γ l d m_X12_pairs 30 [.ref x0, .int x1, .int x2, xhole, xhole, xhole, xhole] [] h 0 0 Q := by
  intro x0 x1 x2 h hF
  unfold F_X12_pairs_b30 at hF
  refine g_aloadn d_X12_pairs_30 rfl ?_
  refine g_iloadn d_X12_pairs_31 rfl ?_
  obtain ⟨_, g32, hF⟩ := Option.bind_eq_some_iff.mp hF
  obtain ⟨⟨r32, h32⟩, e32, hF⟩ := Option.bind_eq_some_iff.mp hF
  try dsimp only at hF
  refine q_callV [.int x1] [] rfl d_X12_pairs_32 v_X12_370 (by omega) rfl (Nat.le_of_ble_eq_true rfl) (rc_rc g32 (by decide) rfl) (R_X12_isNotes _ _ _ (by omega) e32) ?_
  refine g_if_ne 41 d_X12_pairs_35 rfl (fun c35 => ?_) (fun c35 => ?_)
  · have hF := x_t hF c35
    refine g_aloadn d_X12_pairs_41 rfl ?_
    refine g_iloadn d_X12_pairs_42 rfl ?_
    obtain ⟨_, g43, hF⟩ := Option.bind_eq_some_iff.mp hF
    obtain ⟨⟨r43, h43⟩, e43, hF⟩ := Option.bind_eq_some_iff.mp hF
    try dsimp only at hF
    refine q_callV [.int x1] [] rfl d_X12_pairs_43 v_X12_400 (by omega) rfl (Nat.le_of_ble_eq_true rfl) (rc_rc g43 (by decide) rfl) (R_X12_laysPairs _ _ _ (by omega) e43) ?_
    refine g_ic (1) d_X12_pairs_46 ic_1 ?_
    refine g_aloadn d_X12_pairs_47 rfl ?_
    obtain ⟨v48, e48, hF⟩ := Option.bind_eq_some_iff.mp hF
    refine q_fR d_X12_pairs_48 f_X12_13 e48 ?_
    refine g_ic (4) d_X12_pairs_51 ic_4 ?_
    obtain ⟨v52, e52, hF⟩ := Option.bind_eq_some_iff.mp hF
    refine q_aI d_X12_pairs_52 e52 ?_
    refine g_ishl d_X12_pairs_53 ?_
    refine g_ic (1) d_X12_pairs_54 ic_1 ?_
    refine g_isub d_X12_pairs_55 ?_
    refine q_istoren [.ref x0, .int x1, .int x2, .int ((((1 : Int32)) <<< (v52 &&& 31)) - 1), xhole, xhole, xhole] d_X12_pairs_56 (by decide) rfl ?_
    refine g_iloadn d_X12_pairs_57 rfl ?_
    refine g_if_ne 68 d_X12_pairs_58 rfl (fun c58 => ?_) (fun c58 => ?_)
    · have hF := x_t hF c58
      refine g_iloadn d_X12_pairs_68 rfl ?_
      refine g_bi (10) d_X12_pairs_69 bi_10 ?_
      refine g_isub d_X12_pairs_71 ?_
      refine q_istore [.ref x0, .int x1, .int x2, .int ((((1 : Int32)) <<< (v52 &&& 31)) - 1), .int (x2 - 10), xhole, xhole] d_X12_pairs_72 (by decide) rfl ?_
      exact q_to (xs_r (xs_r (xs_h (xs_r (xs_r (xs_h (xs_h xs_n))))))) (R_X12_pairs_b74 hdp hq FU _ _ _ _ _ hF)
    · have hF := x_f hF (not_not_intro c58)
      refine g_aloadn d_X12_pairs_61 rfl ?_
      obtain ⟨v62, e62, hF⟩ := Option.bind_eq_some_iff.mp hF
      refine q_fR d_X12_pairs_62 f_X12_54 e62 ?_
      refine g_iloadn d_X12_pairs_65 rfl ?_
      obtain ⟨v66, e66, hF⟩ := Option.bind_eq_some_iff.mp hF
      refine q_aI d_X12_pairs_66 e66 ?_
      obtain ⟨rfl, rfl⟩ := x_inj hF
      exact g_iret d_X12_pairs_67 rfl hq
  · have hF := x_f hF (not_not_intro c35)
    refine g_bi (-3) d_X12_pairs_38 bi_m3 ?_
    obtain ⟨rfl, rfl⟩ := x_inj hF
    exact g_iret d_X12_pairs_40 rfl hq
def F_X12_pairs (x0 : Nat) (x1 : Int32) (x2 : Int32) (h : xH) : Option (Int32 × xH) := (wI h x0 11 0 0).bind fun h2 => if x2 = 0 then F_X12_pairs_b30 x0 x1 x2 h2 else if x2 < ((10 : Int32)) then some ((-2), h2) else (rc h2 x0 11).bind fun _ => (F_X12_isPerson x0 ((x2 - 10).toInt64) h2).bind fun z21 => if ¬ z21.1 = 0 then F_X12_pairs_b30 x0 x1 x2 z21.2 else some ((-2), z21.2)
theorem R_X12_pairs {Γ : xG} {l : Launch} {d : Nat} {r : Int32} {h' : xH} (x0 : Nat) (x1 : Int32) (x2 : Int32) (h : xH) (hdp : 7 ≤ d) (hF : F_X12_pairs x0 x1 x2 h = some (r, h')) : Gm Γ l d 0 0 m_X12_pairs [.ref x0, .int x1, .int x2] h (fun a u => a = some (.int r) ∧ u = h') := by
  refine Gm.of pn_X12 (Nat.le_of_ble_eq_true rfl) ?_
  show Gd Γ l d m_X12_pairs 0 [.ref x0, .int x1, .int x2, xhole, xhole, xhole, xhole] [] h 0 0 _
  generalize hQ : (fun (a : Option Value) (u : xH) => a = some (.int r) ∧ u = h') = Q
  have hq : Q (some (.int r)) h' := by rw [← hQ]; exact ⟨rfl, rfl⟩
  clear hQ
  unfold F_X12_pairs at hF
  refine g_aloadn d_X12_pairs_0 rfl ?_
  refine g_ic (0) d_X12_pairs_1 ic_0 ?_
  obtain ⟨h2, e2, hF⟩ := Option.bind_eq_some_iff.mp hF
  refine q_wI d_X12_pairs_2 (w_X12_1 _) e2 ?_
  refine g_iloadn d_X12_pairs_5 rfl ?_
  refine g_if_eq 30 d_X12_pairs_6 rfl (fun c6 => ?_) (fun c6 => ?_)
  · have hF := x_t hF c6
    exact q_to (xs_r (xs_r (xs_r (xs_h (xs_h (xs_h (xs_h xs_n))))))) (R_X12_pairs_b30 hdp hq _ _ _ _ hF)
  · have hF := x_f hF c6
    refine g_iloadn d_X12_pairs_9 rfl ?_
    refine g_bi (10) d_X12_pairs_10 bi_10 ?_
    refine g_icmp_lt 27 d_X12_pairs_12 rfl (fun c12 => ?_) (fun c12 => ?_)
    · have hF := x_t hF c12
      refine g_bi (-2) d_X12_pairs_27 bi_m2 ?_
      obtain ⟨rfl, rfl⟩ := x_inj hF
      exact g_iret d_X12_pairs_29 rfl hq
    · have hF := x_f hF c12
      refine g_aloadn d_X12_pairs_15 rfl ?_
      refine g_iloadn d_X12_pairs_16 rfl ?_
      refine g_bi (10) d_X12_pairs_17 bi_10 ?_
      refine g_isub d_X12_pairs_19 ?_
      refine g_i2l d_X12_pairs_20 ?_
      obtain ⟨_, g21, hF⟩ := Option.bind_eq_some_iff.mp hF
      obtain ⟨⟨r21, h21⟩, e21, hF⟩ := Option.bind_eq_some_iff.mp hF
      try dsimp only at hF
      refine q_callV [.long ((x2 - 10).toInt64)] [] rfl d_X12_pairs_21 v_X12_246 (by omega) rfl (Nat.le_of_ble_eq_true rfl) (rc_rc g21 (by decide) rfl) (R_X12_isPerson _ _ _ (by omega) e21) ?_
      refine g_if_ne 30 d_X12_pairs_24 rfl (fun c24 => ?_) (fun c24 => ?_)
      · have hF := x_t hF c24
        exact q_to (xs_r (xs_r (xs_r (xs_h (xs_h (xs_h (xs_h xs_n))))))) (R_X12_pairs_b30 hdp hq _ _ _ _ hF)
      · have hF := x_f hF (not_not_intro c24)
        refine g_bi (-2) d_X12_pairs_27 bi_m2 ?_
        obtain ⟨rfl, rfl⟩ := x_inj hF
        exact g_iret d_X12_pairs_29 rfl hq
theorem d_X12_laysHeardAll_0 : decode cX12_laysHeardAll 0 = .ok (.aload_n 0, 1) := by decide +kernel
theorem d_X12_laysHeardAll_1 : decode cX12_laysHeardAll 1 = .ok (.iconst 1, 1) := by decide +kernel
theorem d_X12_laysHeardAll_2 : decode cX12_laysHeardAll 2 = .ok (.aload_n 0, 1) := by decide +kernel
theorem d_X12_laysHeardAll_3 : decode cX12_laysHeardAll 3 = .ok (.getfield 13, 3) := by decide +kernel
theorem d_X12_laysHeardAll_6 : decode cX12_laysHeardAll 6 = .ok (.iconst 1, 1) := by decide +kernel
theorem d_X12_laysHeardAll_7 : decode cX12_laysHeardAll 7 = .ok (.iaload, 1) := by decide +kernel
theorem d_X12_laysHeardAll_8 : decode cX12_laysHeardAll 8 = .ok (.ishl, 1) := by decide +kernel
theorem d_X12_laysHeardAll_9 : decode cX12_laysHeardAll 9 = .ok (.iconst 1, 1) := by decide +kernel
theorem d_X12_laysHeardAll_10 : decode cX12_laysHeardAll 10 = .ok (.isub, 1) := by decide +kernel
theorem d_X12_laysHeardAll_11 : decode cX12_laysHeardAll 11 = .ok (.putfield 403, 3) := by decide +kernel
theorem d_X12_laysHeardAll_14 : decode cX12_laysHeardAll 14 = .ok (.iconst 0, 1) := by decide +kernel
theorem d_X12_laysHeardAll_15 : decode cX12_laysHeardAll 15 = .ok (.istore_n 2, 1) := by decide +kernel
theorem d_X12_laysHeardAll_16 : decode cX12_laysHeardAll 16 = .ok (.iload_n 2, 1) := by decide +kernel
theorem d_X12_laysHeardAll_17 : decode cX12_laysHeardAll 17 = .ok (.aload_n 0, 1) := by decide +kernel
theorem d_X12_laysHeardAll_18 : decode cX12_laysHeardAll 18 = .ok (.getfield 13, 3) := by decide +kernel
theorem d_X12_laysHeardAll_21 : decode cX12_laysHeardAll 21 = .ok (.iconst 4, 1) := by decide +kernel
theorem d_X12_laysHeardAll_22 : decode cX12_laysHeardAll 22 = .ok (.iaload, 1) := by decide +kernel
theorem d_X12_laysHeardAll_23 : decode cX12_laysHeardAll 23 = .ok (.if_icmp .ge 36, 3) := by decide +kernel
theorem d_X12_laysHeardAll_26 : decode cX12_laysHeardAll 26 = .ok (.aload_n 0, 1) := by decide +kernel
theorem d_X12_laysHeardAll_27 : decode cX12_laysHeardAll 27 = .ok (.dup, 1) := by decide +kernel
theorem d_X12_laysHeardAll_28 : decode cX12_laysHeardAll 28 = .ok (.getfield 403, 3) := by decide +kernel
theorem d_X12_laysHeardAll_31 : decode cX12_laysHeardAll 31 = .ok (.iload_n 1, 1) := by decide +kernel
theorem d_X12_laysHeardAll_32 : decode cX12_laysHeardAll 32 = .ok (.i2l, 1) := by decide +kernel
theorem d_X12_laysHeardAll_33 : decode cX12_laysHeardAll 33 = .ok (.iload_n 2, 1) := by decide +kernel
theorem d_X12_laysHeardAll_34 : decode cX12_laysHeardAll 34 = .ok (.invokestatic 228, 3) := by decide +kernel
theorem d_X12_laysHeardAll_37 : decode cX12_laysHeardAll 37 = .ok (.ifCond .eq 11, 3) := by decide +kernel
theorem d_X12_laysHeardAll_40 : decode cX12_laysHeardAll 40 = .ok (.aload_n 0, 1) := by decide +kernel
theorem d_X12_laysHeardAll_41 : decode cX12_laysHeardAll 41 = .ok (.iload_n 2, 1) := by decide +kernel
theorem d_X12_laysHeardAll_42 : decode cX12_laysHeardAll 42 = .ok (.invokevirtual 250, 3) := by decide +kernel
theorem d_X12_laysHeardAll_45 : decode cX12_laysHeardAll 45 = .ok (.goto 4, 3) := by decide +kernel
theorem d_X12_laysHeardAll_48 : decode cX12_laysHeardAll 48 = .ok (.iconst (-1), 1) := by decide +kernel
theorem d_X12_laysHeardAll_49 : decode cX12_laysHeardAll 49 = .ok (.iand, 1) := by decide +kernel
theorem d_X12_laysHeardAll_50 : decode cX12_laysHeardAll 50 = .ok (.putfield 403, 3) := by decide +kernel
theorem d_X12_laysHeardAll_53 : decode cX12_laysHeardAll 53 = .ok (.iinc 2 1, 3) := by decide +kernel
theorem d_X12_laysHeardAll_56 : decode cX12_laysHeardAll 56 = .ok (.goto (-40), 3) := by decide +kernel
theorem d_X12_laysHeardAll_59 : decode cX12_laysHeardAll 59 = .ok (.return_, 1) := by decide +kernel
def F_X12_laysHeardAll_b49 (k16 : Nat → Int32 → Int32 → xH → Option (Unit × xH)) (x0 : Nat) (x1 : Int32) (x2 : Int32) (s0 : Nat) (s1 : Int32) (s2 : Int32) (h : xH) : Option (Unit × xH) := (wI h s0 11 30 (s1 &&& s2)).bind fun h50 => k16 x0 x1 (x2 + 1) h50
theorem R_X12_laysHeardAll_b49 {Γ : xG} {l : Launch} {d : Nat} {Q : Option Value → xH → Prop} {r : Unit} {h' : xH} {k16 : Nat → Int32 → Int32 → xH → Option (Unit × xH)} (K16 : ∀ (x0 : Nat) (x1 : Int32) (x2 : Int32)  (h : xH), k16 x0 x1 x2 h = some (r, h') → Gd Γ l d m_X12_laysHeardAll 16 [.ref x0, .int x1, .int x2] [] h 0 0 Q) (hdp : 5 ≤ d) (hq : Q (none) h') : ∀ (x0 : Nat) (x1 : Int32) (x2 : Int32) (s0 : Nat) (s1 : Int32) (s2 : Int32) (h : xH), F_X12_laysHeardAll_b49 k16 x0 x1 x2 s0 s1 s2 h = some (r, h') → Gd Γ l d m_X12_laysHeardAll 49 [.ref x0, .int x1, .int x2] [.int s2, .int s1, .ref s0] h 0 0 Q := by
  intro x0 x1 x2 s0 s1 s2 h hF
  unfold F_X12_laysHeardAll_b49 at hF
  refine g_iand d_X12_laysHeardAll_49 ?_
  obtain ⟨h50, e50, hF⟩ := Option.bind_eq_some_iff.mp hF
  refine q_wI d_X12_laysHeardAll_50 (w_X12_403 _) e50 ?_
  refine q_iinc (1) [.ref x0, .int x1, .int (x2 + 1)] d_X12_laysHeardAll_53 ic_1 rfl (by decide) rfl ?_
  refine g_goto 16 d_X12_laysHeardAll_56 rfl ?_
  exact q_to (xs_r (xs_r (xs_r xs_n))) (K16 _ _ _ _ hF)
def F_X12_laysHeardAll_b16 : Nat → Nat → Int32 → Int32 → xH → Option (Unit × xH)
  | 0, _, _, _, _ => none
  | n + 1, x0, x1, x2, h => (fR h x0 11 1).bind fun v18 => (aI h v18 4).bind fun v22 => if v22 ≤ x2 then some ((), h) else (fI h x0 11 30).bind fun v28 => (F_X12_isIn x1.toInt64 x2 h).bind fun z34 => if z34.1 = 0 then F_X12_laysHeardAll_b49 (F_X12_laysHeardAll_b16 n) x0 x1 x2 x0 v28 ((-1)) z34.2 else (rc z34.2 x0 11).bind fun _ => (F_X12_heardBy x0 x2 z34.2).bind fun z42 => F_X12_laysHeardAll_b49 (F_X12_laysHeardAll_b16 n) x0 x1 x2 x0 v28 z42.1 z42.2
theorem R_X12_laysHeardAll_b16 {Γ : xG} {l : Launch} {d : Nat} {Q : Option Value → xH → Prop} {r : Unit} {h' : xH} (hdp : 5 ≤ d) (hq : Q (none) h') : ∀ (n : Nat) (x0 : Nat) (x1 : Int32) (x2 : Int32) (h : xH), F_X12_laysHeardAll_b16 n x0 x1 x2 h = some (r, h') → Gd Γ l d m_X12_laysHeardAll 16 [.ref x0, .int x1, .int x2] [] h 0 0 Q := by
  intro n
  induction n with
  | zero => intro x0 x1 x2 h hF; cases hF
  | succ n ih =>
  intro x0 x1 x2 h hF
  rw [F_X12_laysHeardAll_b16] at hF
  refine g_iloadn d_X12_laysHeardAll_16 rfl ?_
  refine g_aloadn d_X12_laysHeardAll_17 rfl ?_
  obtain ⟨v18, e18, hF⟩ := Option.bind_eq_some_iff.mp hF
  refine q_fR d_X12_laysHeardAll_18 f_X12_13 e18 ?_
  refine g_ic (4) d_X12_laysHeardAll_21 ic_4 ?_
  obtain ⟨v22, e22, hF⟩ := Option.bind_eq_some_iff.mp hF
  refine q_aI d_X12_laysHeardAll_22 e22 ?_
  refine g_icmp_ge 59 d_X12_laysHeardAll_23 rfl (fun c23 => ?_) (fun c23 => ?_)
  · have hF := x_t hF c23
    obtain ⟨rfl, rfl⟩ := x_inj hF
    exact g_vret d_X12_laysHeardAll_59 rfl hq
  · have hF := x_f hF c23
    refine g_aloadn d_X12_laysHeardAll_26 rfl ?_
    refine g_dup d_X12_laysHeardAll_27 rfl ?_
    obtain ⟨v28, e28, hF⟩ := Option.bind_eq_some_iff.mp hF
    refine q_fI d_X12_laysHeardAll_28 f_X12_403 e28 ?_
    refine g_iloadn d_X12_laysHeardAll_31 rfl ?_
    refine g_i2l d_X12_laysHeardAll_32 ?_
    refine g_iloadn d_X12_laysHeardAll_33 rfl ?_
    obtain ⟨⟨r34, h34⟩, e34, hF⟩ := Option.bind_eq_some_iff.mp hF
    try dsimp only at hF
    refine q_callS [.long (x1.toInt64), .int x2] [.int v28, .ref x0] rfl d_X12_laysHeardAll_34 s_X12_228 (by omega) rfl (Nat.le_of_ble_eq_true rfl) (R_X12_isIn _ _ _ (by omega) e34) ?_
    refine g_if_eq 48 d_X12_laysHeardAll_37 rfl (fun c37 => ?_) (fun c37 => ?_)
    · have hF := x_t hF c37
      refine g_ic (-1) d_X12_laysHeardAll_48 ic_m1 ?_
      exact q_to (xs_r (xs_r (xs_r xs_n))) (R_X12_laysHeardAll_b49 ih hdp hq _ _ _ _ _ _ _ hF)
    · have hF := x_f hF c37
      refine g_aloadn d_X12_laysHeardAll_40 rfl ?_
      refine g_iloadn d_X12_laysHeardAll_41 rfl ?_
      obtain ⟨_, g42, hF⟩ := Option.bind_eq_some_iff.mp hF
      obtain ⟨⟨r42, h42⟩, e42, hF⟩ := Option.bind_eq_some_iff.mp hF
      try dsimp only at hF
      refine q_callV [.int x2] [.int v28, .ref x0] rfl d_X12_laysHeardAll_42 v_X12_250 (by omega) rfl (Nat.le_of_ble_eq_true rfl) (rc_rc g42 (by decide) rfl) (R_X12_heardBy _ _ _ (by omega) e42) ?_
      refine g_goto 49 d_X12_laysHeardAll_45 rfl ?_
      exact q_to (xs_r (xs_r (xs_r xs_n))) (R_X12_laysHeardAll_b49 ih hdp hq _ _ _ _ _ _ _ hF)
def F_X12_laysHeardAll (x0 : Nat) (x1 : Int32) (h : xH) : Option (Unit × xH) := (fR h x0 11 1).bind fun v3 => (aI h v3 1).bind fun v7 => (wI h x0 11 30 ((((1 : Int32)) <<< (v7 &&& 31)) - 1)).bind fun h11 => F_X12_laysHeardAll_b16 FU x0 x1 0 h11
theorem R_X12_laysHeardAll {Γ : xG} {l : Launch} {d : Nat} {r : Unit} {h' : xH} (x0 : Nat) (x1 : Int32) (h : xH) (hdp : 5 ≤ d) (hF : F_X12_laysHeardAll x0 x1 h = some (r, h')) : Gm Γ l d 0 0 m_X12_laysHeardAll [.ref x0, .int x1] h (fun a u => a = none ∧ u = h') := by
  refine Gm.of pn_X12 (Nat.le_of_ble_eq_true rfl) ?_
  show Gd Γ l d m_X12_laysHeardAll 0 [.ref x0, .int x1, xhole] [] h 0 0 _
  generalize hQ : (fun (a : Option Value) (u : xH) => a = none ∧ u = h') = Q
  have hq : Q (none) h' := by rw [← hQ]; exact ⟨rfl, rfl⟩
  clear hQ
  unfold F_X12_laysHeardAll at hF
  refine g_aloadn d_X12_laysHeardAll_0 rfl ?_
  refine g_ic (1) d_X12_laysHeardAll_1 ic_1 ?_
  refine g_aloadn d_X12_laysHeardAll_2 rfl ?_
  obtain ⟨v3, e3, hF⟩ := Option.bind_eq_some_iff.mp hF
  refine q_fR d_X12_laysHeardAll_3 f_X12_13 e3 ?_
  refine g_ic (1) d_X12_laysHeardAll_6 ic_1 ?_
  obtain ⟨v7, e7, hF⟩ := Option.bind_eq_some_iff.mp hF
  refine q_aI d_X12_laysHeardAll_7 e7 ?_
  refine g_ishl d_X12_laysHeardAll_8 ?_
  refine g_ic (1) d_X12_laysHeardAll_9 ic_1 ?_
  refine g_isub d_X12_laysHeardAll_10 ?_
  obtain ⟨h11, e11, hF⟩ := Option.bind_eq_some_iff.mp hF
  refine q_wI d_X12_laysHeardAll_11 (w_X12_403 _) e11 ?_
  refine g_ic (0) d_X12_laysHeardAll_14 ic_0 ?_
  refine q_istoren [.ref x0, .int x1, .int 0] d_X12_laysHeardAll_15 (by decide) rfl ?_
  exact q_to (xs_r (xs_r (xs_r xs_n))) (R_X12_laysHeardAll_b16 hdp hq FU _ _ _ _ hF)
theorem d_X12_tuneAt_0 : decode cX12_tuneAt 0 = .ok (.bipush 11, 2) := by decide +kernel
theorem d_X12_tuneAt_2 : decode cX12_tuneAt 2 = .ok (.iload_n 0, 1) := by decide +kernel
theorem d_X12_tuneAt_3 : decode cX12_tuneAt 3 = .ok (.imul, 1) := by decide +kernel
theorem d_X12_tuneAt_4 : decode cX12_tuneAt 4 = .ok (.iload_n 1, 1) := by decide +kernel
theorem d_X12_tuneAt_5 : decode cX12_tuneAt 5 = .ok (.iadd, 1) := by decide +kernel
theorem d_X12_tuneAt_6 : decode cX12_tuneAt 6 = .ok (.ireturn, 1) := by decide +kernel
def F_X12_tuneAt (x0 : Int32) (x1 : Int32) (h : xH) : Option (Int32 × xH) := some ((((11 : Int32)) * x0) + x1, h)
theorem R_X12_tuneAt {Γ : xG} {l : Launch} {d : Nat} {r : Int32} {h' : xH} (x0 : Int32) (x1 : Int32) (h : xH) (hdp : 0 ≤ d) (hF : F_X12_tuneAt x0 x1 h = some (r, h')) : Gm Γ l d 0 0 m_X12_tuneAt [.int x0, .int x1] h (fun a u => a = some (.int r) ∧ u = h') := by
  refine Gm.of pn_X12 (Nat.le_of_ble_eq_true rfl) ?_
  show Gd Γ l d m_X12_tuneAt 0 [.int x0, .int x1] [] h 0 0 _
  generalize hQ : (fun (a : Option Value) (u : xH) => a = some (.int r) ∧ u = h') = Q
  have hq : Q (some (.int r)) h' := by rw [← hQ]; exact ⟨rfl, rfl⟩
  clear hQ
  unfold F_X12_tuneAt at hF
  refine g_bi (11) d_X12_tuneAt_0 bi_11 ?_
  refine g_iloadn d_X12_tuneAt_2 rfl ?_
  refine g_imul d_X12_tuneAt_3 ?_
  refine g_iloadn d_X12_tuneAt_4 rfl ?_
  refine g_iadd d_X12_tuneAt_5 ?_
  obtain ⟨rfl, rfl⟩ := x_inj hF
  exact g_iret d_X12_tuneAt_6 rfl hq
theorem d_X12_mayNext_0 : decode cX12_mayNext 0 = .ok (.aload_n 0, 1) := by decide +kernel
theorem d_X12_mayNext_1 : decode cX12_mayNext 1 = .ok (.getfield 403, 3) := by decide +kernel
theorem d_X12_mayNext_4 : decode cX12_mayNext 4 = .ok (.i2l, 1) := by decide +kernel
theorem d_X12_mayNext_5 : decode cX12_mayNext 5 = .ok (.iload_n 2, 1) := by decide +kernel
theorem d_X12_mayNext_6 : decode cX12_mayNext 6 = .ok (.invokestatic 228, 3) := by decide +kernel
theorem d_X12_mayNext_9 : decode cX12_mayNext 9 = .ok (.ifCond .eq 22, 3) := by decide +kernel
theorem d_X12_mayNext_12 : decode cX12_mayNext 12 = .ok (.iload_n 1, 1) := by decide +kernel
theorem d_X12_mayNext_13 : decode cX12_mayNext 13 = .ok (.bipush 10, 2) := by decide +kernel
theorem d_X12_mayNext_15 : decode cX12_mayNext 15 = .ok (.if_icmp .eq 12, 3) := by decide +kernel
theorem d_X12_mayNext_18 : decode cX12_mayNext 18 = .ok (.aload_n 0, 1) := by decide +kernel
theorem d_X12_mayNext_19 : decode cX12_mayNext 19 = .ok (.iload_n 1, 1) := by decide +kernel
theorem d_X12_mayNext_20 : decode cX12_mayNext 20 = .ok (.iload_n 2, 1) := by decide +kernel
theorem d_X12_mayNext_21 : decode cX12_mayNext 21 = .ok (.invokevirtual 406, 3) := by decide +kernel
theorem d_X12_mayNext_24 : decode cX12_mayNext 24 = .ok (.ifCond .eq 7, 3) := by decide +kernel
theorem d_X12_mayNext_27 : decode cX12_mayNext 27 = .ok (.iconst 1, 1) := by decide +kernel
theorem d_X12_mayNext_28 : decode cX12_mayNext 28 = .ok (.goto 4, 3) := by decide +kernel
theorem d_X12_mayNext_31 : decode cX12_mayNext 31 = .ok (.iconst 0, 1) := by decide +kernel
theorem d_X12_mayNext_32 : decode cX12_mayNext 32 = .ok (.ireturn, 1) := by decide +kernel
def F_X12_mayNext (x0 : Nat) (x1 : Int32) (x2 : Int32) (h : xH) : Option (Int32 × xH) := (fI h x0 11 30).bind fun v1 => (F_X12_isIn v1.toInt64 x2 h).bind fun z6 => if z6.1 = 0 then some (0, z6.2) else if x1 = ((10 : Int32)) then some (1, z6.2) else (rc z6.2 x0 11).bind fun _ => (F_X12_follows x0 x1 x2 z6.2).bind fun z21 => if z21.1 = 0 then some (0, z21.2) else some (1, z21.2)
theorem R_X12_mayNext {Γ : xG} {l : Launch} {d : Nat} {r : Int32} {h' : xH} (x0 : Nat) (x1 : Int32) (x2 : Int32) (h : xH) (hdp : 3 ≤ d) (hF : F_X12_mayNext x0 x1 x2 h = some (r, h')) : Gm Γ l d 0 0 m_X12_mayNext [.ref x0, .int x1, .int x2] h (fun a u => a = some (.int r) ∧ u = h') := by
  refine Gm.of pn_X12 (Nat.le_of_ble_eq_true rfl) ?_
  show Gd Γ l d m_X12_mayNext 0 [.ref x0, .int x1, .int x2] [] h 0 0 _
  generalize hQ : (fun (a : Option Value) (u : xH) => a = some (.int r) ∧ u = h') = Q
  have hq : Q (some (.int r)) h' := by rw [← hQ]; exact ⟨rfl, rfl⟩
  clear hQ
  unfold F_X12_mayNext at hF
  refine g_aloadn d_X12_mayNext_0 rfl ?_
  obtain ⟨v1, e1, hF⟩ := Option.bind_eq_some_iff.mp hF
  refine q_fI d_X12_mayNext_1 f_X12_403 e1 ?_
  refine g_i2l d_X12_mayNext_4 ?_
  refine g_iloadn d_X12_mayNext_5 rfl ?_
  obtain ⟨⟨r6, h6⟩, e6, hF⟩ := Option.bind_eq_some_iff.mp hF
  try dsimp only at hF
  refine q_callS [.long (v1.toInt64), .int x2] [] rfl d_X12_mayNext_6 s_X12_228 (by omega) rfl (Nat.le_of_ble_eq_true rfl) (R_X12_isIn _ _ _ (by omega) e6) ?_
  refine g_if_eq 31 d_X12_mayNext_9 rfl (fun c9 => ?_) (fun c9 => ?_)
  · have hF := x_t hF c9
    refine g_ic (0) d_X12_mayNext_31 ic_0 ?_
    obtain ⟨rfl, rfl⟩ := x_inj hF
    exact g_zret d_X12_mayNext_32 rfl rfl hq
  · have hF := x_f hF c9
    refine g_iloadn d_X12_mayNext_12 rfl ?_
    refine g_bi (10) d_X12_mayNext_13 bi_10 ?_
    refine g_icmp_eq 27 d_X12_mayNext_15 rfl (fun c15 => ?_) (fun c15 => ?_)
    · have hF := x_t hF c15
      refine g_ic (1) d_X12_mayNext_27 ic_1 ?_
      refine g_goto 32 d_X12_mayNext_28 rfl ?_
      obtain ⟨rfl, rfl⟩ := x_inj hF
      exact g_zret d_X12_mayNext_32 rfl rfl hq
    · have hF := x_f hF c15
      refine g_aloadn d_X12_mayNext_18 rfl ?_
      refine g_iloadn d_X12_mayNext_19 rfl ?_
      refine g_iloadn d_X12_mayNext_20 rfl ?_
      obtain ⟨_, g21, hF⟩ := Option.bind_eq_some_iff.mp hF
      obtain ⟨⟨r21, h21⟩, e21, hF⟩ := Option.bind_eq_some_iff.mp hF
      try dsimp only at hF
      refine q_callV [.int x1, .int x2] [] rfl d_X12_mayNext_21 v_X12_406 (by omega) rfl (Nat.le_of_ble_eq_true rfl) (rc_rc g21 (by decide) rfl) (R_X12_follows _ _ _ _ (by omega) e21) ?_
      refine g_if_eq 31 d_X12_mayNext_24 rfl (fun c24 => ?_) (fun c24 => ?_)
      · have hF := x_t hF c24
        refine g_ic (0) d_X12_mayNext_31 ic_0 ?_
        obtain ⟨rfl, rfl⟩ := x_inj hF
        exact g_zret d_X12_mayNext_32 rfl rfl hq
      · have hF := x_f hF c24
        refine g_ic (1) d_X12_mayNext_27 ic_1 ?_
        refine g_goto 32 d_X12_mayNext_28 rfl ?_
        obtain ⟨rfl, rfl⟩ := x_inj hF
        exact g_zret d_X12_mayNext_32 rfl rfl hq
theorem d_X12_longestAt_0 : decode cX12_longestAt 0 = .ok (.iconst 0, 1) := by decide +kernel
theorem d_X12_longestAt_1 : decode cX12_longestAt 1 = .ok (.istore_n 3, 1) := by decide +kernel
theorem d_X12_longestAt_2 : decode cX12_longestAt 2 = .ok (.iconst 0, 1) := by decide +kernel
theorem d_X12_longestAt_3 : decode cX12_longestAt 3 = .ok (.istore 4, 2) := by decide +kernel
theorem d_X12_longestAt_5 : decode cX12_longestAt 5 = .ok (.iload 4, 2) := by decide +kernel
theorem d_X12_longestAt_7 : decode cX12_longestAt 7 = .ok (.aload_n 0, 1) := by decide +kernel
theorem d_X12_longestAt_8 : decode cX12_longestAt 8 = .ok (.getfield 13, 3) := by decide +kernel
theorem d_X12_longestAt_11 : decode cX12_longestAt 11 = .ok (.iconst 1, 1) := by decide +kernel
theorem d_X12_longestAt_12 : decode cX12_longestAt 12 = .ok (.iaload, 1) := by decide +kernel
theorem d_X12_longestAt_13 : decode cX12_longestAt 13 = .ok (.if_icmp .ge 65, 3) := by decide +kernel
theorem d_X12_longestAt_16 : decode cX12_longestAt 16 = .ok (.iload_n 1, 1) := by decide +kernel
theorem d_X12_longestAt_17 : decode cX12_longestAt 17 = .ok (.i2l, 1) := by decide +kernel
theorem d_X12_longestAt_18 : decode cX12_longestAt 18 = .ok (.iload 4, 2) := by decide +kernel
theorem d_X12_longestAt_20 : decode cX12_longestAt 20 = .ok (.invokestatic 228, 3) := by decide +kernel
theorem d_X12_longestAt_23 : decode cX12_longestAt 23 = .ok (.ifCond .ne 49, 3) := by decide +kernel
theorem d_X12_longestAt_26 : decode cX12_longestAt 26 = .ok (.aload_n 0, 1) := by decide +kernel
theorem d_X12_longestAt_27 : decode cX12_longestAt 27 = .ok (.iload_n 2, 1) := by decide +kernel
theorem d_X12_longestAt_28 : decode cX12_longestAt 28 = .ok (.iload 4, 2) := by decide +kernel
theorem d_X12_longestAt_30 : decode cX12_longestAt 30 = .ok (.invokevirtual 409, 3) := by decide +kernel
theorem d_X12_longestAt_33 : decode cX12_longestAt 33 = .ok (.ifCond .ne 6, 3) := by decide +kernel
theorem d_X12_longestAt_36 : decode cX12_longestAt 36 = .ok (.goto 36, 3) := by decide +kernel
theorem d_X12_longestAt_39 : decode cX12_longestAt 39 = .ok (.iconst 1, 1) := by decide +kernel
theorem d_X12_longestAt_40 : decode cX12_longestAt 40 = .ok (.aload_n 0, 1) := by decide +kernel
theorem d_X12_longestAt_41 : decode cX12_longestAt 41 = .ok (.getfield 57, 3) := by decide +kernel
theorem d_X12_longestAt_44 : decode cX12_longestAt 44 = .ok (.iload_n 1, 1) := by decide +kernel
theorem d_X12_longestAt_45 : decode cX12_longestAt 45 = .ok (.iconst 1, 1) := by decide +kernel
theorem d_X12_longestAt_46 : decode cX12_longestAt 46 = .ok (.iload 4, 2) := by decide +kernel
theorem d_X12_longestAt_48 : decode cX12_longestAt 48 = .ok (.ishl, 1) := by decide +kernel
theorem d_X12_longestAt_49 : decode cX12_longestAt 49 = .ok (.ior, 1) := by decide +kernel
theorem d_X12_longestAt_50 : decode cX12_longestAt 50 = .ok (.iload 4, 2) := by decide +kernel
theorem d_X12_longestAt_52 : decode cX12_longestAt 52 = .ok (.invokestatic 412, 3) := by decide +kernel
theorem d_X12_longestAt_55 : decode cX12_longestAt 55 = .ok (.iaload, 1) := by decide +kernel
theorem d_X12_longestAt_56 : decode cX12_longestAt 56 = .ok (.iadd, 1) := by decide +kernel
theorem d_X12_longestAt_57 : decode cX12_longestAt 57 = .ok (.istore 5, 2) := by decide +kernel
theorem d_X12_longestAt_59 : decode cX12_longestAt 59 = .ok (.iload 5, 2) := by decide +kernel
theorem d_X12_longestAt_61 : decode cX12_longestAt 61 = .ok (.iload_n 3, 1) := by decide +kernel
theorem d_X12_longestAt_62 : decode cX12_longestAt 62 = .ok (.if_icmp .le 8, 3) := by decide +kernel
theorem d_X12_longestAt_65 : decode cX12_longestAt 65 = .ok (.iload 5, 2) := by decide +kernel
theorem d_X12_longestAt_67 : decode cX12_longestAt 67 = .ok (.goto 4, 3) := by decide +kernel
theorem d_X12_longestAt_70 : decode cX12_longestAt 70 = .ok (.iload_n 3, 1) := by decide +kernel
theorem d_X12_longestAt_71 : decode cX12_longestAt 71 = .ok (.istore_n 3, 1) := by decide +kernel
theorem d_X12_longestAt_72 : decode cX12_longestAt 72 = .ok (.iinc 4 1, 3) := by decide +kernel
theorem d_X12_longestAt_75 : decode cX12_longestAt 75 = .ok (.goto (-70), 3) := by decide +kernel
theorem d_X12_longestAt_78 : decode cX12_longestAt 78 = .ok (.iload_n 3, 1) := by decide +kernel
theorem d_X12_longestAt_79 : decode cX12_longestAt 79 = .ok (.ireturn, 1) := by decide +kernel
def F_X12_longestAt_b5 : Nat → Nat → Int32 → Int32 → Int32 → Int32 → xH → Option (Int32 × xH)
  | 0, _, _, _, _, _, _ => none
  | n + 1, x0, x1, x2, x3, x4, h => (fR h x0 11 1).bind fun v8 => (aI h v8 1).bind fun v12 => if v12 ≤ x4 then some (x3, h) else (F_X12_isIn x1.toInt64 x4 h).bind fun z20 => if ¬ z20.1 = 0 then F_X12_longestAt_b5 n x0 x1 x2 x3 (x4 + 1) z20.2 else (rc z20.2 x0 11).bind fun _ => (F_X12_mayNext x0 x2 x4 z20.2).bind fun z30 => if ¬ z30.1 = 0 then (fR z30.2 x0 11 28).bind fun v41 => (F_X12_tuneAt (x1 ||| (((1 : Int32)) <<< (x4 &&& 31))) x4 z30.2).bind fun z52 => (aI z52.2 v41 z52.1).bind fun v55 => if (((1 : Int32)) + v55) ≤ x3 then F_X12_longestAt_b5 n x0 x1 x2 x3 (x4 + 1) z52.2 else F_X12_longestAt_b5 n x0 x1 x2 (((1 : Int32)) + v55) (x4 + 1) z52.2 else F_X12_longestAt_b5 n x0 x1 x2 x3 (x4 + 1) z30.2
theorem R_X12_longestAt_b5 {Γ : xG} {l : Launch} {d : Nat} {Q : Option Value → xH → Prop} {r : Int32} {h' : xH} (hdp : 4 ≤ d) (hq : Q (some (.int r)) h') : ∀ (n : Nat) (x0 : Nat) (x1 : Int32) (x2 : Int32) (x3 : Int32) (x4 : Int32) (h : xH), F_X12_longestAt_b5 n x0 x1 x2 x3 x4 h = some (r, h') → Gd Γ l d m_X12_longestAt 5 [.ref x0, .int x1, .int x2, .int x3, .int x4, xhole] [] h 0 0 Q := by
  intro n
  induction n with
  | zero => intro x0 x1 x2 x3 x4 h hF; cases hF
  | succ n ih =>
  intro x0 x1 x2 x3 x4 h hF
  rw [F_X12_longestAt_b5] at hF
  refine g_iload d_X12_longestAt_5 rfl ?_
  refine g_aloadn d_X12_longestAt_7 rfl ?_
  obtain ⟨v8, e8, hF⟩ := Option.bind_eq_some_iff.mp hF
  refine q_fR d_X12_longestAt_8 f_X12_13 e8 ?_
  refine g_ic (1) d_X12_longestAt_11 ic_1 ?_
  obtain ⟨v12, e12, hF⟩ := Option.bind_eq_some_iff.mp hF
  refine q_aI d_X12_longestAt_12 e12 ?_
  refine g_icmp_ge 78 d_X12_longestAt_13 rfl (fun c13 => ?_) (fun c13 => ?_)
  · have hF := x_t hF c13
    refine g_iloadn d_X12_longestAt_78 rfl ?_
    obtain ⟨rfl, rfl⟩ := x_inj hF
    exact g_iret d_X12_longestAt_79 rfl hq
  · have hF := x_f hF c13
    refine g_iloadn d_X12_longestAt_16 rfl ?_
    refine g_i2l d_X12_longestAt_17 ?_
    refine g_iload d_X12_longestAt_18 rfl ?_
    obtain ⟨⟨r20, h20⟩, e20, hF⟩ := Option.bind_eq_some_iff.mp hF
    try dsimp only at hF
    refine q_callS [.long (x1.toInt64), .int x4] [] rfl d_X12_longestAt_20 s_X12_228 (by omega) rfl (Nat.le_of_ble_eq_true rfl) (R_X12_isIn _ _ _ (by omega) e20) ?_
    refine g_if_ne 72 d_X12_longestAt_23 rfl (fun c23 => ?_) (fun c23 => ?_)
    · have hF := x_t hF c23
      refine q_iinc (1) [.ref x0, .int x1, .int x2, .int x3, .int (x4 + 1), xhole] d_X12_longestAt_72 ic_1 rfl (by decide) rfl ?_
      refine g_goto 5 d_X12_longestAt_75 rfl ?_
      exact q_to (xs_r (xs_r (xs_r (xs_r (xs_r (xs_h xs_n)))))) (ih _ _ _ _ _ _ hF)
    · have hF := x_f hF (not_not_intro c23)
      refine g_aloadn d_X12_longestAt_26 rfl ?_
      refine g_iloadn d_X12_longestAt_27 rfl ?_
      refine g_iload d_X12_longestAt_28 rfl ?_
      obtain ⟨_, g30, hF⟩ := Option.bind_eq_some_iff.mp hF
      obtain ⟨⟨r30, h30⟩, e30, hF⟩ := Option.bind_eq_some_iff.mp hF
      try dsimp only at hF
      refine q_callV [.int x2, .int x4] [] rfl d_X12_longestAt_30 v_X12_409 (by omega) rfl (Nat.le_of_ble_eq_true rfl) (rc_rc g30 (by decide) rfl) (R_X12_mayNext _ _ _ _ (by omega) e30) ?_
      refine g_if_ne 39 d_X12_longestAt_33 rfl (fun c33 => ?_) (fun c33 => ?_)
      · have hF := x_t hF c33
        refine g_ic (1) d_X12_longestAt_39 ic_1 ?_
        refine g_aloadn d_X12_longestAt_40 rfl ?_
        obtain ⟨v41, e41, hF⟩ := Option.bind_eq_some_iff.mp hF
        refine q_fR d_X12_longestAt_41 f_X12_57 e41 ?_
        refine g_iloadn d_X12_longestAt_44 rfl ?_
        refine g_ic (1) d_X12_longestAt_45 ic_1 ?_
        refine g_iload d_X12_longestAt_46 rfl ?_
        refine g_ishl d_X12_longestAt_48 ?_
        refine g_ior d_X12_longestAt_49 ?_
        refine g_iload d_X12_longestAt_50 rfl ?_
        obtain ⟨⟨r52, h52⟩, e52, hF⟩ := Option.bind_eq_some_iff.mp hF
        try dsimp only at hF
        refine q_callS [.int (x1 ||| (((1 : Int32)) <<< (x4 &&& 31))), .int x4] [.ref v41, .int 1] rfl d_X12_longestAt_52 s_X12_412 (by omega) rfl (Nat.le_of_ble_eq_true rfl) (R_X12_tuneAt _ _ _ (by omega) e52) ?_
        obtain ⟨v55, e55, hF⟩ := Option.bind_eq_some_iff.mp hF
        refine q_aI d_X12_longestAt_55 e55 ?_
        refine g_iadd d_X12_longestAt_56 ?_
        refine q_istore [.ref x0, .int x1, .int x2, .int x3, .int x4, .int (((1 : Int32)) + v55)] d_X12_longestAt_57 (by decide) rfl ?_
        refine g_iload d_X12_longestAt_59 rfl ?_
        refine g_iloadn d_X12_longestAt_61 rfl ?_
        refine g_icmp_le 70 d_X12_longestAt_62 rfl (fun c62 => ?_) (fun c62 => ?_)
        · have hF := x_t hF c62
          refine g_iloadn d_X12_longestAt_70 rfl ?_
          refine q_istoren [.ref x0, .int x1, .int x2, .int x3, .int x4, .int (((1 : Int32)) + v55)] d_X12_longestAt_71 (by decide) rfl ?_
          refine q_iinc (1) [.ref x0, .int x1, .int x2, .int x3, .int (x4 + 1), .int (((1 : Int32)) + v55)] d_X12_longestAt_72 ic_1 rfl (by decide) rfl ?_
          refine g_goto 5 d_X12_longestAt_75 rfl ?_
          exact q_to (xs_r (xs_r (xs_r (xs_r (xs_r (xs_h xs_n)))))) (ih _ _ _ _ _ _ hF)
        · have hF := x_f hF c62
          refine g_iload d_X12_longestAt_65 rfl ?_
          refine g_goto 71 d_X12_longestAt_67 rfl ?_
          refine q_istoren [.ref x0, .int x1, .int x2, .int (((1 : Int32)) + v55), .int x4, .int (((1 : Int32)) + v55)] d_X12_longestAt_71 (by decide) rfl ?_
          refine q_iinc (1) [.ref x0, .int x1, .int x2, .int (((1 : Int32)) + v55), .int (x4 + 1), .int (((1 : Int32)) + v55)] d_X12_longestAt_72 ic_1 rfl (by decide) rfl ?_
          refine g_goto 5 d_X12_longestAt_75 rfl ?_
          exact q_to (xs_r (xs_r (xs_r (xs_r (xs_r (xs_h xs_n)))))) (ih _ _ _ _ _ _ hF)
      · have hF := x_f hF (not_not_intro c33)
        refine g_goto 72 d_X12_longestAt_36 rfl ?_
        refine q_iinc (1) [.ref x0, .int x1, .int x2, .int x3, .int (x4 + 1), xhole] d_X12_longestAt_72 ic_1 rfl (by decide) rfl ?_
        refine g_goto 5 d_X12_longestAt_75 rfl ?_
        exact q_to (xs_r (xs_r (xs_r (xs_r (xs_r (xs_h xs_n)))))) (ih _ _ _ _ _ _ hF)
def F_X12_longestAt (x0 : Nat) (x1 : Int32) (x2 : Int32) (h : xH) : Option (Int32 × xH) := F_X12_longestAt_b5 FU x0 x1 x2 0 0 h
theorem R_X12_longestAt {Γ : xG} {l : Launch} {d : Nat} {r : Int32} {h' : xH} (x0 : Nat) (x1 : Int32) (x2 : Int32) (h : xH) (hdp : 4 ≤ d) (hF : F_X12_longestAt x0 x1 x2 h = some (r, h')) : Gm Γ l d 0 0 m_X12_longestAt [.ref x0, .int x1, .int x2] h (fun a u => a = some (.int r) ∧ u = h') := by
  refine Gm.of pn_X12 (Nat.le_of_ble_eq_true rfl) ?_
  show Gd Γ l d m_X12_longestAt 0 [.ref x0, .int x1, .int x2, xhole, xhole, xhole] [] h 0 0 _
  generalize hQ : (fun (a : Option Value) (u : xH) => a = some (.int r) ∧ u = h') = Q
  have hq : Q (some (.int r)) h' := by rw [← hQ]; exact ⟨rfl, rfl⟩
  clear hQ
  unfold F_X12_longestAt at hF
  refine g_ic (0) d_X12_longestAt_0 ic_0 ?_
  refine q_istoren [.ref x0, .int x1, .int x2, .int 0, xhole, xhole] d_X12_longestAt_1 (by decide) rfl ?_
  refine g_ic (0) d_X12_longestAt_2 ic_0 ?_
  refine q_istore [.ref x0, .int x1, .int x2, .int 0, .int 0, xhole] d_X12_longestAt_3 (by decide) rfl ?_
  exact q_to (xs_r (xs_r (xs_r (xs_r (xs_r (xs_h xs_n)))))) (R_X12_longestAt_b5 hdp hq FU _ _ _ _ _ _ hF)
theorem d_X12_laysLongest_0 : decode cX12_laysLongest 0 = .ok (.aload_n 0, 1) := by decide +kernel
theorem d_X12_laysLongest_1 : decode cX12_laysLongest 1 = .ok (.iload_n 1, 1) := by decide +kernel
theorem d_X12_laysLongest_2 : decode cX12_laysLongest 2 = .ok (.invokevirtual 415, 3) := by decide +kernel
theorem d_X12_laysLongest_5 : decode cX12_laysLongest 5 = .ok (.iconst 1, 1) := by decide +kernel
theorem d_X12_laysLongest_6 : decode cX12_laysLongest 6 = .ok (.aload_n 0, 1) := by decide +kernel
theorem d_X12_laysLongest_7 : decode cX12_laysLongest 7 = .ok (.getfield 13, 3) := by decide +kernel
theorem d_X12_laysLongest_10 : decode cX12_laysLongest 10 = .ok (.iconst 1, 1) := by decide +kernel
theorem d_X12_laysLongest_11 : decode cX12_laysLongest 11 = .ok (.iaload, 1) := by decide +kernel
theorem d_X12_laysLongest_12 : decode cX12_laysLongest 12 = .ok (.ishl, 1) := by decide +kernel
theorem d_X12_laysLongest_13 : decode cX12_laysLongest 13 = .ok (.iconst 1, 1) := by decide +kernel
theorem d_X12_laysLongest_14 : decode cX12_laysLongest 14 = .ok (.isub, 1) := by decide +kernel
theorem d_X12_laysLongest_15 : decode cX12_laysLongest 15 = .ok (.istore_n 2, 1) := by decide +kernel
theorem d_X12_laysLongest_16 : decode cX12_laysLongest 16 = .ok (.iload_n 2, 1) := by decide +kernel
theorem d_X12_laysLongest_17 : decode cX12_laysLongest 17 = .ok (.ifCond .lt 61, 3) := by decide +kernel
theorem d_X12_laysLongest_20 : decode cX12_laysLongest 20 = .ok (.iconst 0, 1) := by decide +kernel
theorem d_X12_laysLongest_21 : decode cX12_laysLongest 21 = .ok (.istore_n 3, 1) := by decide +kernel
theorem d_X12_laysLongest_22 : decode cX12_laysLongest 22 = .ok (.iload_n 3, 1) := by decide +kernel
theorem d_X12_laysLongest_23 : decode cX12_laysLongest 23 = .ok (.bipush 10, 2) := by decide +kernel
theorem d_X12_laysLongest_25 : decode cX12_laysLongest 25 = .ok (.if_icmp .gt 47, 3) := by decide +kernel
theorem d_X12_laysLongest_28 : decode cX12_laysLongest 28 = .ok (.iload_n 3, 1) := by decide +kernel
theorem d_X12_laysLongest_29 : decode cX12_laysLongest 29 = .ok (.bipush 10, 2) := by decide +kernel
theorem d_X12_laysLongest_31 : decode cX12_laysLongest 31 = .ok (.if_icmp .ne 10, 3) := by decide +kernel
theorem d_X12_laysLongest_34 : decode cX12_laysLongest 34 = .ok (.iload_n 2, 1) := by decide +kernel
theorem d_X12_laysLongest_35 : decode cX12_laysLongest 35 = .ok (.ifCond .ne 31, 3) := by decide +kernel
theorem d_X12_laysLongest_38 : decode cX12_laysLongest 38 = .ok (.goto 12, 3) := by decide +kernel
theorem d_X12_laysLongest_41 : decode cX12_laysLongest 41 = .ok (.iload_n 2, 1) := by decide +kernel
theorem d_X12_laysLongest_42 : decode cX12_laysLongest 42 = .ok (.i2l, 1) := by decide +kernel
theorem d_X12_laysLongest_43 : decode cX12_laysLongest 43 = .ok (.iload_n 3, 1) := by decide +kernel
theorem d_X12_laysLongest_44 : decode cX12_laysLongest 44 = .ok (.invokestatic 228, 3) := by decide +kernel
theorem d_X12_laysLongest_47 : decode cX12_laysLongest 47 = .ok (.ifCond .eq 19, 3) := by decide +kernel
theorem d_X12_laysLongest_50 : decode cX12_laysLongest 50 = .ok (.aload_n 0, 1) := by decide +kernel
theorem d_X12_laysLongest_51 : decode cX12_laysLongest 51 = .ok (.getfield 57, 3) := by decide +kernel
theorem d_X12_laysLongest_54 : decode cX12_laysLongest 54 = .ok (.iload_n 2, 1) := by decide +kernel
theorem d_X12_laysLongest_55 : decode cX12_laysLongest 55 = .ok (.iload_n 3, 1) := by decide +kernel
theorem d_X12_laysLongest_56 : decode cX12_laysLongest 56 = .ok (.invokestatic 412, 3) := by decide +kernel
theorem d_X12_laysLongest_59 : decode cX12_laysLongest 59 = .ok (.aload_n 0, 1) := by decide +kernel
theorem d_X12_laysLongest_60 : decode cX12_laysLongest 60 = .ok (.iload_n 2, 1) := by decide +kernel
theorem d_X12_laysLongest_61 : decode cX12_laysLongest 61 = .ok (.iload_n 3, 1) := by decide +kernel
theorem d_X12_laysLongest_62 : decode cX12_laysLongest 62 = .ok (.invokevirtual 418, 3) := by decide +kernel
theorem d_X12_laysLongest_65 : decode cX12_laysLongest 65 = .ok (.iastore, 1) := by decide +kernel
theorem d_X12_laysLongest_66 : decode cX12_laysLongest 66 = .ok (.iinc 3 1, 3) := by decide +kernel
theorem d_X12_laysLongest_69 : decode cX12_laysLongest 69 = .ok (.goto (-47), 3) := by decide +kernel
theorem d_X12_laysLongest_72 : decode cX12_laysLongest 72 = .ok (.iinc 2 (-1), 3) := by decide +kernel
theorem d_X12_laysLongest_75 : decode cX12_laysLongest 75 = .ok (.goto (-59), 3) := by decide +kernel
theorem d_X12_laysLongest_78 : decode cX12_laysLongest 78 = .ok (.iconst 0, 1) := by decide +kernel
theorem d_X12_laysLongest_79 : decode cX12_laysLongest 79 = .ok (.istore_n 2, 1) := by decide +kernel
theorem d_X12_laysLongest_80 : decode cX12_laysLongest 80 = .ok (.bipush 10, 2) := by decide +kernel
theorem d_X12_laysLongest_82 : decode cX12_laysLongest 82 = .ok (.istore_n 3, 1) := by decide +kernel
theorem d_X12_laysLongest_83 : decode cX12_laysLongest 83 = .ok (.aload_n 0, 1) := by decide +kernel
theorem d_X12_laysLongest_84 : decode cX12_laysLongest 84 = .ok (.getfield 57, 3) := by decide +kernel
theorem d_X12_laysLongest_87 : decode cX12_laysLongest 87 = .ok (.iconst 0, 1) := by decide +kernel
theorem d_X12_laysLongest_88 : decode cX12_laysLongest 88 = .ok (.bipush 10, 2) := by decide +kernel
theorem d_X12_laysLongest_90 : decode cX12_laysLongest 90 = .ok (.invokestatic 412, 3) := by decide +kernel
theorem d_X12_laysLongest_93 : decode cX12_laysLongest 93 = .ok (.iaload, 1) := by decide +kernel
theorem d_X12_laysLongest_94 : decode cX12_laysLongest 94 = .ok (.istore 4, 2) := by decide +kernel
theorem d_X12_laysLongest_96 : decode cX12_laysLongest 96 = .ok (.iconst 0, 1) := by decide +kernel
theorem d_X12_laysLongest_97 : decode cX12_laysLongest 97 = .ok (.istore 5, 2) := by decide +kernel
theorem d_X12_laysLongest_99 : decode cX12_laysLongest 99 = .ok (.iload 5, 2) := by decide +kernel
theorem d_X12_laysLongest_101 : decode cX12_laysLongest 101 = .ok (.iload 4, 2) := by decide +kernel
theorem d_X12_laysLongest_103 : decode cX12_laysLongest 103 = .ok (.if_icmp .ge 83, 3) := by decide +kernel
theorem d_X12_laysLongest_106 : decode cX12_laysLongest 106 = .ok (.iconst 0, 1) := by decide +kernel
theorem d_X12_laysLongest_107 : decode cX12_laysLongest 107 = .ok (.istore 6, 2) := by decide +kernel
theorem d_X12_laysLongest_109 : decode cX12_laysLongest 109 = .ok (.iload_n 2, 1) := by decide +kernel
theorem d_X12_laysLongest_110 : decode cX12_laysLongest 110 = .ok (.i2l, 1) := by decide +kernel
theorem d_X12_laysLongest_111 : decode cX12_laysLongest 111 = .ok (.iload 6, 2) := by decide +kernel
theorem d_X12_laysLongest_113 : decode cX12_laysLongest 113 = .ok (.invokestatic 228, 3) := by decide +kernel
theorem d_X12_laysLongest_116 : decode cX12_laysLongest 116 = .ok (.ifCond .ne 39, 3) := by decide +kernel
theorem d_X12_laysLongest_119 : decode cX12_laysLongest 119 = .ok (.aload_n 0, 1) := by decide +kernel
theorem d_X12_laysLongest_120 : decode cX12_laysLongest 120 = .ok (.iload_n 3, 1) := by decide +kernel
theorem d_X12_laysLongest_121 : decode cX12_laysLongest 121 = .ok (.iload 6, 2) := by decide +kernel
theorem d_X12_laysLongest_123 : decode cX12_laysLongest 123 = .ok (.invokevirtual 409, 3) := by decide +kernel
theorem d_X12_laysLongest_126 : decode cX12_laysLongest 126 = .ok (.ifCond .eq 29, 3) := by decide +kernel
theorem d_X12_laysLongest_129 : decode cX12_laysLongest 129 = .ok (.aload_n 0, 1) := by decide +kernel
theorem d_X12_laysLongest_130 : decode cX12_laysLongest 130 = .ok (.getfield 57, 3) := by decide +kernel
theorem d_X12_laysLongest_133 : decode cX12_laysLongest 133 = .ok (.iload_n 2, 1) := by decide +kernel
theorem d_X12_laysLongest_134 : decode cX12_laysLongest 134 = .ok (.iconst 1, 1) := by decide +kernel
theorem d_X12_laysLongest_135 : decode cX12_laysLongest 135 = .ok (.iload 6, 2) := by decide +kernel
theorem d_X12_laysLongest_137 : decode cX12_laysLongest 137 = .ok (.ishl, 1) := by decide +kernel
theorem d_X12_laysLongest_138 : decode cX12_laysLongest 138 = .ok (.ior, 1) := by decide +kernel
theorem d_X12_laysLongest_139 : decode cX12_laysLongest 139 = .ok (.iload 6, 2) := by decide +kernel
theorem d_X12_laysLongest_141 : decode cX12_laysLongest 141 = .ok (.invokestatic 412, 3) := by decide +kernel
theorem d_X12_laysLongest_144 : decode cX12_laysLongest 144 = .ok (.iaload, 1) := by decide +kernel
theorem d_X12_laysLongest_145 : decode cX12_laysLongest 145 = .ok (.iload 4, 2) := by decide +kernel
theorem d_X12_laysLongest_147 : decode cX12_laysLongest 147 = .ok (.iload 5, 2) := by decide +kernel
theorem d_X12_laysLongest_149 : decode cX12_laysLongest 149 = .ok (.isub, 1) := by decide +kernel
theorem d_X12_laysLongest_150 : decode cX12_laysLongest 150 = .ok (.iconst 1, 1) := by decide +kernel
theorem d_X12_laysLongest_151 : decode cX12_laysLongest 151 = .ok (.isub, 1) := by decide +kernel
theorem d_X12_laysLongest_152 : decode cX12_laysLongest 152 = .ok (.if_icmp .eq 9, 3) := by decide +kernel
theorem d_X12_laysLongest_155 : decode cX12_laysLongest 155 = .ok (.iinc 6 1, 3) := by decide +kernel
theorem d_X12_laysLongest_158 : decode cX12_laysLongest 158 = .ok (.goto (-49), 3) := by decide +kernel
theorem d_X12_laysLongest_161 : decode cX12_laysLongest 161 = .ok (.aload_n 0, 1) := by decide +kernel
theorem d_X12_laysLongest_162 : decode cX12_laysLongest 162 = .ok (.getfield 60, 3) := by decide +kernel
theorem d_X12_laysLongest_165 : decode cX12_laysLongest 165 = .ok (.iload 5, 2) := by decide +kernel
theorem d_X12_laysLongest_167 : decode cX12_laysLongest 167 = .ok (.iload 6, 2) := by decide +kernel
theorem d_X12_laysLongest_169 : decode cX12_laysLongest 169 = .ok (.iastore, 1) := by decide +kernel
theorem d_X12_laysLongest_170 : decode cX12_laysLongest 170 = .ok (.iload_n 2, 1) := by decide +kernel
theorem d_X12_laysLongest_171 : decode cX12_laysLongest 171 = .ok (.iconst 1, 1) := by decide +kernel
theorem d_X12_laysLongest_172 : decode cX12_laysLongest 172 = .ok (.iload 6, 2) := by decide +kernel
theorem d_X12_laysLongest_174 : decode cX12_laysLongest 174 = .ok (.ishl, 1) := by decide +kernel
theorem d_X12_laysLongest_175 : decode cX12_laysLongest 175 = .ok (.ior, 1) := by decide +kernel
theorem d_X12_laysLongest_176 : decode cX12_laysLongest 176 = .ok (.istore_n 2, 1) := by decide +kernel
theorem d_X12_laysLongest_177 : decode cX12_laysLongest 177 = .ok (.iload 6, 2) := by decide +kernel
theorem d_X12_laysLongest_179 : decode cX12_laysLongest 179 = .ok (.istore_n 3, 1) := by decide +kernel
theorem d_X12_laysLongest_180 : decode cX12_laysLongest 180 = .ok (.iinc 5 1, 3) := by decide +kernel
theorem d_X12_laysLongest_183 : decode cX12_laysLongest 183 = .ok (.goto (-84), 3) := by decide +kernel
theorem d_X12_laysLongest_186 : decode cX12_laysLongest 186 = .ok (.iload 4, 2) := by decide +kernel
theorem d_X12_laysLongest_188 : decode cX12_laysLongest 188 = .ok (.ireturn, 1) := by decide +kernel
def F_X12_laysLongest_b109 (k99 : Nat → Int32 → Int32 → Int32 → Int32 → xH → Option (Int32 × xH)) : Nat → Nat → Int32 → Int32 → Int32 → Int32 → Int32 → xH → Option (Int32 × xH)
  | 0, _, _, _, _, _, _, _ => none
  | n + 1, x0, x2, x3, x4, x5, x6, h => (F_X12_isIn x2.toInt64 x6 h).bind fun z113 => if ¬ z113.1 = 0 then F_X12_laysLongest_b109 k99 n x0 x2 x3 x4 x5 (x6 + 1) z113.2 else (rc z113.2 x0 11).bind fun _ => (F_X12_mayNext x0 x3 x6 z113.2).bind fun z123 => if z123.1 = 0 then F_X12_laysLongest_b109 k99 n x0 x2 x3 x4 x5 (x6 + 1) z123.2 else (fR z123.2 x0 11 28).bind fun v130 => (F_X12_tuneAt (x2 ||| (((1 : Int32)) <<< (x6 &&& 31))) x6 z123.2).bind fun z141 => (aI z141.2 v130 z141.1).bind fun v144 => if v144 = ((x4 - x5) - 1) then (fR z141.2 x0 11 29).bind fun v162 => (sI z141.2 v162 x5 x6).bind fun h169 => k99 x0 (x2 ||| (((1 : Int32)) <<< (x6 &&& 31))) x6 x4 (x5 + 1) h169 else F_X12_laysLongest_b109 k99 n x0 x2 x3 x4 x5 (x6 + 1) z141.2
theorem R_X12_laysLongest_b109 {Γ : xG} {l : Launch} {d : Nat} {Q : Option Value → xH → Prop} {r : Int32} {h' : xH} {k99 : Nat → Int32 → Int32 → Int32 → Int32 → xH → Option (Int32 × xH)} (K99 : ∀ (x0 : Nat) (x2 : Int32) (x3 : Int32) (x4 : Int32) (x5 : Int32)  (h : xH), k99 x0 x2 x3 x4 x5 h = some (r, h') → Gd Γ l d m_X12_laysLongest 99 [.ref x0, xhole, .int x2, .int x3, .int x4, .int x5, xhole] [] h 0 0 Q) (hdp : 6 ≤ d) (hq : Q (some (.int r)) h') : ∀ (n : Nat) (x0 : Nat) (x2 : Int32) (x3 : Int32) (x4 : Int32) (x5 : Int32) (x6 : Int32) (h : xH), F_X12_laysLongest_b109 k99 n x0 x2 x3 x4 x5 x6 h = some (r, h') → Gd Γ l d m_X12_laysLongest 109 [.ref x0, xhole, .int x2, .int x3, .int x4, .int x5, .int x6] [] h 0 0 Q := by
  intro n
  induction n with
  | zero => intro x0 x2 x3 x4 x5 x6 h hF; cases hF
  | succ n ih =>
  intro x0 x2 x3 x4 x5 x6 h hF
  rw [F_X12_laysLongest_b109] at hF
  refine g_iloadn d_X12_laysLongest_109 rfl ?_
  refine g_i2l d_X12_laysLongest_110 ?_
  refine g_iload d_X12_laysLongest_111 rfl ?_
  obtain ⟨⟨r113, h113⟩, e113, hF⟩ := Option.bind_eq_some_iff.mp hF
  try dsimp only at hF
  refine q_callS [.long (x2.toInt64), .int x6] [] rfl d_X12_laysLongest_113 s_X12_228 (by omega) rfl (Nat.le_of_ble_eq_true rfl) (R_X12_isIn _ _ _ (by omega) e113) ?_
  refine g_if_ne 155 d_X12_laysLongest_116 rfl (fun c116 => ?_) (fun c116 => ?_)
  · have hF := x_t hF c116
    refine q_iinc (1) [.ref x0, xhole, .int x2, .int x3, .int x4, .int x5, .int (x6 + 1)] d_X12_laysLongest_155 ic_1 rfl (by decide) rfl ?_
    refine g_goto 109 d_X12_laysLongest_158 rfl ?_
    exact q_to (xs_r (xs_h (xs_r (xs_r (xs_r (xs_r (xs_r xs_n))))))) (ih _ _ _ _ _ _ _ hF)
  · have hF := x_f hF (not_not_intro c116)
    refine g_aloadn d_X12_laysLongest_119 rfl ?_
    refine g_iloadn d_X12_laysLongest_120 rfl ?_
    refine g_iload d_X12_laysLongest_121 rfl ?_
    obtain ⟨_, g123, hF⟩ := Option.bind_eq_some_iff.mp hF
    obtain ⟨⟨r123, h123⟩, e123, hF⟩ := Option.bind_eq_some_iff.mp hF
    try dsimp only at hF
    refine q_callV [.int x3, .int x6] [] rfl d_X12_laysLongest_123 v_X12_409 (by omega) rfl (Nat.le_of_ble_eq_true rfl) (rc_rc g123 (by decide) rfl) (R_X12_mayNext _ _ _ _ (by omega) e123) ?_
    refine g_if_eq 155 d_X12_laysLongest_126 rfl (fun c126 => ?_) (fun c126 => ?_)
    · have hF := x_t hF c126
      refine q_iinc (1) [.ref x0, xhole, .int x2, .int x3, .int x4, .int x5, .int (x6 + 1)] d_X12_laysLongest_155 ic_1 rfl (by decide) rfl ?_
      refine g_goto 109 d_X12_laysLongest_158 rfl ?_
      exact q_to (xs_r (xs_h (xs_r (xs_r (xs_r (xs_r (xs_r xs_n))))))) (ih _ _ _ _ _ _ _ hF)
    · have hF := x_f hF c126
      refine g_aloadn d_X12_laysLongest_129 rfl ?_
      obtain ⟨v130, e130, hF⟩ := Option.bind_eq_some_iff.mp hF
      refine q_fR d_X12_laysLongest_130 f_X12_57 e130 ?_
      refine g_iloadn d_X12_laysLongest_133 rfl ?_
      refine g_ic (1) d_X12_laysLongest_134 ic_1 ?_
      refine g_iload d_X12_laysLongest_135 rfl ?_
      refine g_ishl d_X12_laysLongest_137 ?_
      refine g_ior d_X12_laysLongest_138 ?_
      refine g_iload d_X12_laysLongest_139 rfl ?_
      obtain ⟨⟨r141, h141⟩, e141, hF⟩ := Option.bind_eq_some_iff.mp hF
      try dsimp only at hF
      refine q_callS [.int (x2 ||| (((1 : Int32)) <<< (x6 &&& 31))), .int x6] [.ref v130] rfl d_X12_laysLongest_141 s_X12_412 (by omega) rfl (Nat.le_of_ble_eq_true rfl) (R_X12_tuneAt _ _ _ (by omega) e141) ?_
      obtain ⟨v144, e144, hF⟩ := Option.bind_eq_some_iff.mp hF
      refine q_aI d_X12_laysLongest_144 e144 ?_
      refine g_iload d_X12_laysLongest_145 rfl ?_
      refine g_iload d_X12_laysLongest_147 rfl ?_
      refine g_isub d_X12_laysLongest_149 ?_
      refine g_ic (1) d_X12_laysLongest_150 ic_1 ?_
      refine g_isub d_X12_laysLongest_151 ?_
      refine g_icmp_eq 161 d_X12_laysLongest_152 rfl (fun c152 => ?_) (fun c152 => ?_)
      · have hF := x_t hF c152
        refine g_aloadn d_X12_laysLongest_161 rfl ?_
        obtain ⟨v162, e162, hF⟩ := Option.bind_eq_some_iff.mp hF
        refine q_fR d_X12_laysLongest_162 f_X12_60 e162 ?_
        refine g_iload d_X12_laysLongest_165 rfl ?_
        refine g_iload d_X12_laysLongest_167 rfl ?_
        obtain ⟨h169, e169, hF⟩ := Option.bind_eq_some_iff.mp hF
        refine q_sI d_X12_laysLongest_169 e169 ?_
        refine g_iloadn d_X12_laysLongest_170 rfl ?_
        refine g_ic (1) d_X12_laysLongest_171 ic_1 ?_
        refine g_iload d_X12_laysLongest_172 rfl ?_
        refine g_ishl d_X12_laysLongest_174 ?_
        refine g_ior d_X12_laysLongest_175 ?_
        refine q_istoren [.ref x0, xhole, .int (x2 ||| (((1 : Int32)) <<< (x6 &&& 31))), .int x3, .int x4, .int x5, .int x6] d_X12_laysLongest_176 (by decide) rfl ?_
        refine g_iload d_X12_laysLongest_177 rfl ?_
        refine q_istoren [.ref x0, xhole, .int (x2 ||| (((1 : Int32)) <<< (x6 &&& 31))), .int x6, .int x4, .int x5, .int x6] d_X12_laysLongest_179 (by decide) rfl ?_
        refine q_iinc (1) [.ref x0, xhole, .int (x2 ||| (((1 : Int32)) <<< (x6 &&& 31))), .int x6, .int x4, .int (x5 + 1), .int x6] d_X12_laysLongest_180 ic_1 rfl (by decide) rfl ?_
        refine g_goto 99 d_X12_laysLongest_183 rfl ?_
        exact q_to (xs_r (xs_h (xs_r (xs_r (xs_r (xs_r (xs_h xs_n))))))) (K99 _ _ _ _ _ _ hF)
      · have hF := x_f hF c152
        refine q_iinc (1) [.ref x0, xhole, .int x2, .int x3, .int x4, .int x5, .int (x6 + 1)] d_X12_laysLongest_155 ic_1 rfl (by decide) rfl ?_
        refine g_goto 109 d_X12_laysLongest_158 rfl ?_
        exact q_to (xs_r (xs_h (xs_r (xs_r (xs_r (xs_r (xs_r xs_n))))))) (ih _ _ _ _ _ _ _ hF)
def F_X12_laysLongest_b99 : Nat → Nat → Int32 → Int32 → Int32 → Int32 → xH → Option (Int32 × xH)
  | 0, _, _, _, _, _, _ => none
  | n + 1, x0, x2, x3, x4, x5, h => if x4 ≤ x5 then some (x4, h) else F_X12_laysLongest_b109 (F_X12_laysLongest_b99 n) FU x0 x2 x3 x4 x5 0 h
theorem R_X12_laysLongest_b99 {Γ : xG} {l : Launch} {d : Nat} {Q : Option Value → xH → Prop} {r : Int32} {h' : xH} (hdp : 6 ≤ d) (hq : Q (some (.int r)) h') : ∀ (n : Nat) (x0 : Nat) (x2 : Int32) (x3 : Int32) (x4 : Int32) (x5 : Int32) (h : xH), F_X12_laysLongest_b99 n x0 x2 x3 x4 x5 h = some (r, h') → Gd Γ l d m_X12_laysLongest 99 [.ref x0, xhole, .int x2, .int x3, .int x4, .int x5, xhole] [] h 0 0 Q := by
  intro n
  induction n with
  | zero => intro x0 x2 x3 x4 x5 h hF; cases hF
  | succ n ih =>
  intro x0 x2 x3 x4 x5 h hF
  rw [F_X12_laysLongest_b99] at hF
  refine g_iload d_X12_laysLongest_99 rfl ?_
  refine g_iload d_X12_laysLongest_101 rfl ?_
  refine g_icmp_ge 186 d_X12_laysLongest_103 rfl (fun c103 => ?_) (fun c103 => ?_)
  · have hF := x_t hF c103
    refine g_iload d_X12_laysLongest_186 rfl ?_
    obtain ⟨rfl, rfl⟩ := x_inj hF
    exact g_iret d_X12_laysLongest_188 rfl hq
  · have hF := x_f hF c103
    refine g_ic (0) d_X12_laysLongest_106 ic_0 ?_
    refine q_istore [.ref x0, xhole, .int x2, .int x3, .int x4, .int x5, .int 0] d_X12_laysLongest_107 (by decide) rfl ?_
    exact q_to (xs_r (xs_h (xs_r (xs_r (xs_r (xs_r (xs_r xs_n))))))) (R_X12_laysLongest_b109 ih hdp hq FU _ _ _ _ _ _ _ hF)
def F_X12_laysLongest_b50 (k16 : Nat → Int32 → xH → Option (Int32 × xH)) (k22 : Nat → Int32 → Int32 → xH → Option (Int32 × xH)) (x0 : Nat) (x2 : Int32) (x3 : Int32) (h : xH) : Option (Int32 × xH) := (fR h x0 11 28).bind fun v51 => (F_X12_tuneAt x2 x3 h).bind fun z56 => (rc z56.2 x0 11).bind fun _ => (F_X12_longestAt x0 x2 x3 z56.2).bind fun z62 => (sI z62.2 v51 z56.1 z62.1).bind fun h65 => k22 x0 x2 (x3 + 1) h65
theorem R_X12_laysLongest_b50 {Γ : xG} {l : Launch} {d : Nat} {Q : Option Value → xH → Prop} {r : Int32} {h' : xH} {k16 : Nat → Int32 → xH → Option (Int32 × xH)} {k22 : Nat → Int32 → Int32 → xH → Option (Int32 × xH)} (K16 : ∀ (x0 : Nat) (x2 : Int32)  (h : xH), k16 x0 x2 h = some (r, h') → Gd Γ l d m_X12_laysLongest 16 [.ref x0, xhole, .int x2, xhole, xhole, xhole, xhole] [] h 0 0 Q) (K22 : ∀ (x0 : Nat) (x2 : Int32) (x3 : Int32)  (h : xH), k22 x0 x2 x3 h = some (r, h') → Gd Γ l d m_X12_laysLongest 22 [.ref x0, xhole, .int x2, .int x3, xhole, xhole, xhole] [] h 0 0 Q) (hdp : 6 ≤ d) (hq : Q (some (.int r)) h') : ∀ (x0 : Nat) (x2 : Int32) (x3 : Int32) (h : xH), F_X12_laysLongest_b50 k16 k22 x0 x2 x3 h = some (r, h') → Gd Γ l d m_X12_laysLongest 50 [.ref x0, xhole, .int x2, .int x3, xhole, xhole, xhole] [] h 0 0 Q := by
  intro x0 x2 x3 h hF
  unfold F_X12_laysLongest_b50 at hF
  refine g_aloadn d_X12_laysLongest_50 rfl ?_
  obtain ⟨v51, e51, hF⟩ := Option.bind_eq_some_iff.mp hF
  refine q_fR d_X12_laysLongest_51 f_X12_57 e51 ?_
  refine g_iloadn d_X12_laysLongest_54 rfl ?_
  refine g_iloadn d_X12_laysLongest_55 rfl ?_
  obtain ⟨⟨r56, h56⟩, e56, hF⟩ := Option.bind_eq_some_iff.mp hF
  try dsimp only at hF
  refine q_callS [.int x2, .int x3] [.ref v51] rfl d_X12_laysLongest_56 s_X12_412 (by omega) rfl (Nat.le_of_ble_eq_true rfl) (R_X12_tuneAt _ _ _ (by omega) e56) ?_
  refine g_aloadn d_X12_laysLongest_59 rfl ?_
  refine g_iloadn d_X12_laysLongest_60 rfl ?_
  refine g_iloadn d_X12_laysLongest_61 rfl ?_
  obtain ⟨_, g62, hF⟩ := Option.bind_eq_some_iff.mp hF
  obtain ⟨⟨r62, h62⟩, e62, hF⟩ := Option.bind_eq_some_iff.mp hF
  try dsimp only at hF
  refine q_callV [.int x2, .int x3] [.int (r56), .ref v51] rfl d_X12_laysLongest_62 v_X12_418 (by omega) rfl (Nat.le_of_ble_eq_true rfl) (rc_rc g62 (by decide) rfl) (R_X12_longestAt _ _ _ _ (by omega) e62) ?_
  obtain ⟨h65, e65, hF⟩ := Option.bind_eq_some_iff.mp hF
  refine q_sI d_X12_laysLongest_65 e65 ?_
  refine q_iinc (1) [.ref x0, xhole, .int x2, .int (x3 + 1), xhole, xhole, xhole] d_X12_laysLongest_66 ic_1 rfl (by decide) rfl ?_
  refine g_goto 22 d_X12_laysLongest_69 rfl ?_
  exact q_to (xs_r (xs_h (xs_r (xs_r (xs_h (xs_h (xs_h xs_n))))))) (K22 _ _ _ _ hF)
def F_X12_laysLongest_b22 (k16 : Nat → Int32 → xH → Option (Int32 × xH)) : Nat → Nat → Int32 → Int32 → xH → Option (Int32 × xH)
  | 0, _, _, _, _ => none
  | n + 1, x0, x2, x3, h => if ((10 : Int32)) < x3 then k16 x0 (x2 + (-1)) h else if ¬ x3 = ((10 : Int32)) then (F_X12_isIn x2.toInt64 x3 h).bind fun z44 => if z44.1 = 0 then F_X12_laysLongest_b22 k16 n x0 x2 (x3 + 1) z44.2 else F_X12_laysLongest_b50 k16 (F_X12_laysLongest_b22 k16 n) x0 x2 x3 z44.2 else if ¬ x2 = 0 then F_X12_laysLongest_b22 k16 n x0 x2 (x3 + 1) h else F_X12_laysLongest_b50 k16 (F_X12_laysLongest_b22 k16 n) x0 x2 x3 h
theorem R_X12_laysLongest_b22 {Γ : xG} {l : Launch} {d : Nat} {Q : Option Value → xH → Prop} {r : Int32} {h' : xH} {k16 : Nat → Int32 → xH → Option (Int32 × xH)} (K16 : ∀ (x0 : Nat) (x2 : Int32)  (h : xH), k16 x0 x2 h = some (r, h') → Gd Γ l d m_X12_laysLongest 16 [.ref x0, xhole, .int x2, xhole, xhole, xhole, xhole] [] h 0 0 Q) (hdp : 6 ≤ d) (hq : Q (some (.int r)) h') : ∀ (n : Nat) (x0 : Nat) (x2 : Int32) (x3 : Int32) (h : xH), F_X12_laysLongest_b22 k16 n x0 x2 x3 h = some (r, h') → Gd Γ l d m_X12_laysLongest 22 [.ref x0, xhole, .int x2, .int x3, xhole, xhole, xhole] [] h 0 0 Q := by
  intro n
  induction n with
  | zero => intro x0 x2 x3 h hF; cases hF
  | succ n ih =>
  intro x0 x2 x3 h hF
  rw [F_X12_laysLongest_b22] at hF
  refine g_iloadn d_X12_laysLongest_22 rfl ?_
  refine g_bi (10) d_X12_laysLongest_23 bi_10 ?_
  refine g_icmp_gt 72 d_X12_laysLongest_25 rfl (fun c25 => ?_) (fun c25 => ?_)
  · have hF := x_t hF c25
    refine q_iinc (-1) [.ref x0, xhole, .int (x2 + (-1)), .int x3, xhole, xhole, xhole] d_X12_laysLongest_72 ic_m1 rfl (by decide) rfl ?_
    refine g_goto 16 d_X12_laysLongest_75 rfl ?_
    exact q_to (xs_r (xs_h (xs_r (xs_h (xs_h (xs_h (xs_h xs_n))))))) (K16 _ _ _ hF)
  · have hF := x_f hF c25
    refine g_iloadn d_X12_laysLongest_28 rfl ?_
    refine g_bi (10) d_X12_laysLongest_29 bi_10 ?_
    refine g_icmp_ne 41 d_X12_laysLongest_31 rfl (fun c31 => ?_) (fun c31 => ?_)
    · have hF := x_t hF c31
      refine g_iloadn d_X12_laysLongest_41 rfl ?_
      refine g_i2l d_X12_laysLongest_42 ?_
      refine g_iloadn d_X12_laysLongest_43 rfl ?_
      obtain ⟨⟨r44, h44⟩, e44, hF⟩ := Option.bind_eq_some_iff.mp hF
      try dsimp only at hF
      refine q_callS [.long (x2.toInt64), .int x3] [] rfl d_X12_laysLongest_44 s_X12_228 (by omega) rfl (Nat.le_of_ble_eq_true rfl) (R_X12_isIn _ _ _ (by omega) e44) ?_
      refine g_if_eq 66 d_X12_laysLongest_47 rfl (fun c47 => ?_) (fun c47 => ?_)
      · have hF := x_t hF c47
        refine q_iinc (1) [.ref x0, xhole, .int x2, .int (x3 + 1), xhole, xhole, xhole] d_X12_laysLongest_66 ic_1 rfl (by decide) rfl ?_
        refine g_goto 22 d_X12_laysLongest_69 rfl ?_
        exact q_to (xs_r (xs_h (xs_r (xs_r (xs_h (xs_h (xs_h xs_n))))))) (ih _ _ _ _ hF)
      · have hF := x_f hF c47
        exact q_to (xs_r (xs_h (xs_r (xs_r (xs_h (xs_h (xs_h xs_n))))))) (R_X12_laysLongest_b50 K16 ih hdp hq _ _ _ _ hF)
    · have hF := x_f hF (not_not_intro c31)
      refine g_iloadn d_X12_laysLongest_34 rfl ?_
      refine g_if_ne 66 d_X12_laysLongest_35 rfl (fun c35 => ?_) (fun c35 => ?_)
      · have hF := x_t hF c35
        refine q_iinc (1) [.ref x0, xhole, .int x2, .int (x3 + 1), xhole, xhole, xhole] d_X12_laysLongest_66 ic_1 rfl (by decide) rfl ?_
        refine g_goto 22 d_X12_laysLongest_69 rfl ?_
        exact q_to (xs_r (xs_h (xs_r (xs_r (xs_h (xs_h (xs_h xs_n))))))) (ih _ _ _ _ hF)
      · have hF := x_f hF (not_not_intro c35)
        refine g_goto 50 d_X12_laysLongest_38 rfl ?_
        exact q_to (xs_r (xs_h (xs_r (xs_r (xs_h (xs_h (xs_h xs_n))))))) (R_X12_laysLongest_b50 K16 ih hdp hq _ _ _ _ hF)
def F_X12_laysLongest_b16 : Nat → Nat → Int32 → xH → Option (Int32 × xH)
  | 0, _, _, _ => none
  | n + 1, x0, x2, h => if x2 < 0 then (fR h x0 11 28).bind fun v84 => (F_X12_tuneAt 0 10 h).bind fun z90 => (aI z90.2 v84 z90.1).bind fun v93 => F_X12_laysLongest_b99 FU x0 0 10 v93 0 z90.2 else F_X12_laysLongest_b22 (F_X12_laysLongest_b16 n) FU x0 x2 0 h
theorem R_X12_laysLongest_b16 {Γ : xG} {l : Launch} {d : Nat} {Q : Option Value → xH → Prop} {r : Int32} {h' : xH} (hdp : 6 ≤ d) (hq : Q (some (.int r)) h') : ∀ (n : Nat) (x0 : Nat) (x2 : Int32) (h : xH), F_X12_laysLongest_b16 n x0 x2 h = some (r, h') → Gd Γ l d m_X12_laysLongest 16 [.ref x0, xhole, .int x2, xhole, xhole, xhole, xhole] [] h 0 0 Q := by
  intro n
  induction n with
  | zero => intro x0 x2 h hF; cases hF
  | succ n ih =>
  intro x0 x2 h hF
  rw [F_X12_laysLongest_b16] at hF
  refine g_iloadn d_X12_laysLongest_16 rfl ?_
  refine g_if_lt 78 d_X12_laysLongest_17 rfl (fun c17 => ?_) (fun c17 => ?_)
  · have hF := x_t hF c17
    refine g_ic (0) d_X12_laysLongest_78 ic_0 ?_
    refine q_istoren [.ref x0, xhole, .int 0, xhole, xhole, xhole, xhole] d_X12_laysLongest_79 (by decide) rfl ?_
    refine g_bi (10) d_X12_laysLongest_80 bi_10 ?_
    refine q_istoren [.ref x0, xhole, .int 0, .int 10, xhole, xhole, xhole] d_X12_laysLongest_82 (by decide) rfl ?_
    refine g_aloadn d_X12_laysLongest_83 rfl ?_
    obtain ⟨v84, e84, hF⟩ := Option.bind_eq_some_iff.mp hF
    refine q_fR d_X12_laysLongest_84 f_X12_57 e84 ?_
    refine g_ic (0) d_X12_laysLongest_87 ic_0 ?_
    refine g_bi (10) d_X12_laysLongest_88 bi_10 ?_
    obtain ⟨⟨r90, h90⟩, e90, hF⟩ := Option.bind_eq_some_iff.mp hF
    try dsimp only at hF
    refine q_callS [.int 0, .int 10] [.ref v84] rfl d_X12_laysLongest_90 s_X12_412 (by omega) rfl (Nat.le_of_ble_eq_true rfl) (R_X12_tuneAt _ _ _ (by omega) e90) ?_
    obtain ⟨v93, e93, hF⟩ := Option.bind_eq_some_iff.mp hF
    refine q_aI d_X12_laysLongest_93 e93 ?_
    refine q_istore [.ref x0, xhole, .int 0, .int 10, .int v93, xhole, xhole] d_X12_laysLongest_94 (by decide) rfl ?_
    refine g_ic (0) d_X12_laysLongest_96 ic_0 ?_
    refine q_istore [.ref x0, xhole, .int 0, .int 10, .int v93, .int 0, xhole] d_X12_laysLongest_97 (by decide) rfl ?_
    exact q_to (xs_r (xs_h (xs_r (xs_r (xs_r (xs_r (xs_h xs_n))))))) (R_X12_laysLongest_b99 hdp hq FU _ _ _ _ _ _ hF)
  · have hF := x_f hF c17
    refine g_ic (0) d_X12_laysLongest_20 ic_0 ?_
    refine q_istoren [.ref x0, xhole, .int x2, .int 0, xhole, xhole, xhole] d_X12_laysLongest_21 (by decide) rfl ?_
    exact q_to (xs_r (xs_h (xs_r (xs_r (xs_h (xs_h (xs_h xs_n))))))) (R_X12_laysLongest_b22 ih hdp hq FU _ _ _ _ hF)
def F_X12_laysLongest (x0 : Nat) (x1 : Int32) (h : xH) : Option (Int32 × xH) := (rc h x0 11).bind fun _ => (F_X12_laysHeardAll x0 x1 h).bind fun z2 => (fR z2.2 x0 11 1).bind fun v7 => (aI z2.2 v7 1).bind fun v11 => F_X12_laysLongest_b16 FU x0 ((((1 : Int32)) <<< (v11 &&& 31)) - 1) z2.2
theorem R_X12_laysLongest {Γ : xG} {l : Launch} {d : Nat} {r : Int32} {h' : xH} (x0 : Nat) (x1 : Int32) (h : xH) (hdp : 6 ≤ d) (hF : F_X12_laysLongest x0 x1 h = some (r, h')) : Gm Γ l d 0 0 m_X12_laysLongest [.ref x0, .int x1] h (fun a u => a = some (.int r) ∧ u = h') := by
  refine Gm.of pn_X12 (Nat.le_of_ble_eq_true rfl) ?_
  show Gd Γ l d m_X12_laysLongest 0 [.ref x0, .int x1, xhole, xhole, xhole, xhole, xhole] [] h 0 0 _
  generalize hQ : (fun (a : Option Value) (u : xH) => a = some (.int r) ∧ u = h') = Q
  have hq : Q (some (.int r)) h' := by rw [← hQ]; exact ⟨rfl, rfl⟩
  clear hQ
  unfold F_X12_laysLongest at hF
  refine g_aloadn d_X12_laysLongest_0 rfl ?_
  refine g_iloadn d_X12_laysLongest_1 rfl ?_
  obtain ⟨_, g2, hF⟩ := Option.bind_eq_some_iff.mp hF
  obtain ⟨⟨r2, h2⟩, e2, hF⟩ := Option.bind_eq_some_iff.mp hF
  try dsimp only at hF
  refine q_callV [.int x1] [] rfl d_X12_laysLongest_2 v_X12_415 (by omega) rfl (Nat.le_of_ble_eq_true rfl) (rc_rc g2 (by decide) rfl) (R_X12_laysHeardAll _ _ _ (by omega) e2) ?_
  refine g_ic (1) d_X12_laysLongest_5 ic_1 ?_
  refine g_aloadn d_X12_laysLongest_6 rfl ?_
  obtain ⟨v7, e7, hF⟩ := Option.bind_eq_some_iff.mp hF
  refine q_fR d_X12_laysLongest_7 f_X12_13 e7 ?_
  refine g_ic (1) d_X12_laysLongest_10 ic_1 ?_
  obtain ⟨v11, e11, hF⟩ := Option.bind_eq_some_iff.mp hF
  refine q_aI d_X12_laysLongest_11 e11 ?_
  refine g_ishl d_X12_laysLongest_12 ?_
  refine g_ic (1) d_X12_laysLongest_13 ic_1 ?_
  refine g_isub d_X12_laysLongest_14 ?_
  refine q_istoren [.ref x0, .int x1, .int ((((1 : Int32)) <<< (v11 &&& 31)) - 1), xhole, xhole, xhole, xhole] d_X12_laysLongest_15 (by decide) rfl ?_
  exact q_to (xs_r (xs_h (xs_r (xs_h (xs_h (xs_h (xs_h xs_n))))))) (R_X12_laysLongest_b16 hdp hq FU _ _ _ hF)
theorem d_X12_longest_0 : decode cX12_longest 0 = .ok (.aload_n 0, 1) := by decide +kernel
theorem d_X12_longest_1 : decode cX12_longest 1 = .ok (.iconst 0, 1) := by decide +kernel
theorem d_X12_longest_2 : decode cX12_longest 2 = .ok (.putfield 1, 3) := by decide +kernel
theorem d_X12_longest_5 : decode cX12_longest 5 = .ok (.aload_n 0, 1) := by decide +kernel
theorem d_X12_longest_6 : decode cX12_longest 6 = .ok (.iload_n 1, 1) := by decide +kernel
theorem d_X12_longest_7 : decode cX12_longest 7 = .ok (.invokevirtual 268, 3) := by decide +kernel
theorem d_X12_longest_10 : decode cX12_longest 10 = .ok (.ifCond .eq 11, 3) := by decide +kernel
theorem d_X12_longest_13 : decode cX12_longest 13 = .ok (.aload_n 0, 1) := by decide +kernel
theorem d_X12_longest_14 : decode cX12_longest 14 = .ok (.iload_n 1, 1) := by decide +kernel
theorem d_X12_longest_15 : decode cX12_longest 15 = .ok (.invokevirtual 421, 3) := by decide +kernel
theorem d_X12_longest_18 : decode cX12_longest 18 = .ok (.goto 5, 3) := by decide +kernel
theorem d_X12_longest_21 : decode cX12_longest 21 = .ok (.bipush (-3), 2) := by decide +kernel
theorem d_X12_longest_23 : decode cX12_longest 23 = .ok (.ireturn, 1) := by decide +kernel
def F_X12_longest (x0 : Nat) (x1 : Int32) (h : xH) : Option (Int32 × xH) := (wI h x0 11 0 0).bind fun h2 => (rc h2 x0 11).bind fun _ => (F_X12_isPeople x0 x1 h2).bind fun z7 => if z7.1 = 0 then some ((-3), z7.2) else (rc z7.2 x0 11).bind fun _ => (F_X12_laysLongest x0 x1 z7.2).bind fun z15 => some (z15.1, z15.2)
theorem R_X12_longest {Γ : xG} {l : Launch} {d : Nat} {r : Int32} {h' : xH} (x0 : Nat) (x1 : Int32) (h : xH) (hdp : 7 ≤ d) (hF : F_X12_longest x0 x1 h = some (r, h')) : Gm Γ l d 0 0 m_X12_longest [.ref x0, .int x1] h (fun a u => a = some (.int r) ∧ u = h') := by
  refine Gm.of pn_X12 (Nat.le_of_ble_eq_true rfl) ?_
  show Gd Γ l d m_X12_longest 0 [.ref x0, .int x1] [] h 0 0 _
  generalize hQ : (fun (a : Option Value) (u : xH) => a = some (.int r) ∧ u = h') = Q
  have hq : Q (some (.int r)) h' := by rw [← hQ]; exact ⟨rfl, rfl⟩
  clear hQ
  unfold F_X12_longest at hF
  refine g_aloadn d_X12_longest_0 rfl ?_
  refine g_ic (0) d_X12_longest_1 ic_0 ?_
  obtain ⟨h2, e2, hF⟩ := Option.bind_eq_some_iff.mp hF
  refine q_wI d_X12_longest_2 (w_X12_1 _) e2 ?_
  refine g_aloadn d_X12_longest_5 rfl ?_
  refine g_iloadn d_X12_longest_6 rfl ?_
  obtain ⟨_, g7, hF⟩ := Option.bind_eq_some_iff.mp hF
  obtain ⟨⟨r7, h7⟩, e7, hF⟩ := Option.bind_eq_some_iff.mp hF
  try dsimp only at hF
  refine q_callV [.int x1] [] rfl d_X12_longest_7 v_X12_268 (by omega) rfl (Nat.le_of_ble_eq_true rfl) (rc_rc g7 (by decide) rfl) (R_X12_isPeople _ _ _ (by omega) e7) ?_
  refine g_if_eq 21 d_X12_longest_10 rfl (fun c10 => ?_) (fun c10 => ?_)
  · have hF := x_t hF c10
    refine g_bi (-3) d_X12_longest_21 bi_m3 ?_
    obtain ⟨rfl, rfl⟩ := x_inj hF
    exact g_iret d_X12_longest_23 rfl hq
  · have hF := x_f hF c10
    refine g_aloadn d_X12_longest_13 rfl ?_
    refine g_iloadn d_X12_longest_14 rfl ?_
    obtain ⟨_, g15, hF⟩ := Option.bind_eq_some_iff.mp hF
    obtain ⟨⟨r15, h15⟩, e15, hF⟩ := Option.bind_eq_some_iff.mp hF
    try dsimp only at hF
    refine q_callV [.int x1] [] rfl d_X12_longest_15 v_X12_421 (by omega) rfl (Nat.le_of_ble_eq_true rfl) (rc_rc g15 (by decide) rfl) (R_X12_laysLongest _ _ _ (by omega) e15) ?_
    refine g_goto 23 d_X12_longest_18 rfl ?_
    obtain ⟨rfl, rfl⟩ := x_inj hF
    exact g_iret d_X12_longest_23 rfl hq
theorem d_X12_longNote_0 : decode cX12_longNote 0 = .ok (.aload_n 0, 1) := by decide +kernel
theorem d_X12_longNote_1 : decode cX12_longNote 1 = .ok (.iconst 0, 1) := by decide +kernel
theorem d_X12_longNote_2 : decode cX12_longNote 2 = .ok (.putfield 1, 3) := by decide +kernel
theorem d_X12_longNote_5 : decode cX12_longNote 5 = .ok (.aload_n 0, 1) := by decide +kernel
theorem d_X12_longNote_6 : decode cX12_longNote 6 = .ok (.iload_n 1, 1) := by decide +kernel
theorem d_X12_longNote_7 : decode cX12_longNote 7 = .ok (.invokevirtual 268, 3) := by decide +kernel
theorem d_X12_longNote_10 : decode cX12_longNote 10 = .ok (.ifCond .eq 7, 3) := by decide +kernel
theorem d_X12_longNote_13 : decode cX12_longNote 13 = .ok (.iload_n 2, 1) := by decide +kernel
theorem d_X12_longNote_14 : decode cX12_longNote 14 = .ok (.ifCond .ge 6, 3) := by decide +kernel
theorem d_X12_longNote_17 : decode cX12_longNote 17 = .ok (.bipush (-3), 2) := by decide +kernel
theorem d_X12_longNote_19 : decode cX12_longNote 19 = .ok (.ireturn, 1) := by decide +kernel
theorem d_X12_longNote_20 : decode cX12_longNote 20 = .ok (.iload_n 2, 1) := by decide +kernel
theorem d_X12_longNote_21 : decode cX12_longNote 21 = .ok (.aload_n 0, 1) := by decide +kernel
theorem d_X12_longNote_22 : decode cX12_longNote 22 = .ok (.iload_n 1, 1) := by decide +kernel
theorem d_X12_longNote_23 : decode cX12_longNote 23 = .ok (.invokevirtual 421, 3) := by decide +kernel
theorem d_X12_longNote_26 : decode cX12_longNote 26 = .ok (.if_icmp .ge 12, 3) := by decide +kernel
theorem d_X12_longNote_29 : decode cX12_longNote 29 = .ok (.aload_n 0, 1) := by decide +kernel
theorem d_X12_longNote_30 : decode cX12_longNote 30 = .ok (.getfield 60, 3) := by decide +kernel
theorem d_X12_longNote_33 : decode cX12_longNote 33 = .ok (.iload_n 2, 1) := by decide +kernel
theorem d_X12_longNote_34 : decode cX12_longNote 34 = .ok (.iaload, 1) := by decide +kernel
theorem d_X12_longNote_35 : decode cX12_longNote 35 = .ok (.goto 4, 3) := by decide +kernel
theorem d_X12_longNote_38 : decode cX12_longNote 38 = .ok (.iconst (-1), 1) := by decide +kernel
theorem d_X12_longNote_39 : decode cX12_longNote 39 = .ok (.ireturn, 1) := by decide +kernel
def F_X12_longNote (x0 : Nat) (x1 : Int32) (x2 : Int32) (h : xH) : Option (Int32 × xH) := (wI h x0 11 0 0).bind fun h2 => (rc h2 x0 11).bind fun _ => (F_X12_isPeople x0 x1 h2).bind fun z7 => if z7.1 = 0 then some ((-3), z7.2) else if 0 ≤ x2 then (rc z7.2 x0 11).bind fun _ => (F_X12_laysLongest x0 x1 z7.2).bind fun z23 => if z23.1 ≤ x2 then some ((-1), z23.2) else (fR z23.2 x0 11 29).bind fun v30 => (aI z23.2 v30 x2).bind fun v34 => some (v34, z23.2) else some ((-3), z7.2)
theorem R_X12_longNote {Γ : xG} {l : Launch} {d : Nat} {r : Int32} {h' : xH} (x0 : Nat) (x1 : Int32) (x2 : Int32) (h : xH) (hdp : 7 ≤ d) (hF : F_X12_longNote x0 x1 x2 h = some (r, h')) : Gm Γ l d 0 0 m_X12_longNote [.ref x0, .int x1, .int x2] h (fun a u => a = some (.int r) ∧ u = h') := by
  refine Gm.of pn_X12 (Nat.le_of_ble_eq_true rfl) ?_
  show Gd Γ l d m_X12_longNote 0 [.ref x0, .int x1, .int x2] [] h 0 0 _
  generalize hQ : (fun (a : Option Value) (u : xH) => a = some (.int r) ∧ u = h') = Q
  have hq : Q (some (.int r)) h' := by rw [← hQ]; exact ⟨rfl, rfl⟩
  clear hQ
  unfold F_X12_longNote at hF
  refine g_aloadn d_X12_longNote_0 rfl ?_
  refine g_ic (0) d_X12_longNote_1 ic_0 ?_
  obtain ⟨h2, e2, hF⟩ := Option.bind_eq_some_iff.mp hF
  refine q_wI d_X12_longNote_2 (w_X12_1 _) e2 ?_
  refine g_aloadn d_X12_longNote_5 rfl ?_
  refine g_iloadn d_X12_longNote_6 rfl ?_
  obtain ⟨_, g7, hF⟩ := Option.bind_eq_some_iff.mp hF
  obtain ⟨⟨r7, h7⟩, e7, hF⟩ := Option.bind_eq_some_iff.mp hF
  try dsimp only at hF
  refine q_callV [.int x1] [] rfl d_X12_longNote_7 v_X12_268 (by omega) rfl (Nat.le_of_ble_eq_true rfl) (rc_rc g7 (by decide) rfl) (R_X12_isPeople _ _ _ (by omega) e7) ?_
  refine g_if_eq 17 d_X12_longNote_10 rfl (fun c10 => ?_) (fun c10 => ?_)
  · have hF := x_t hF c10
    refine g_bi (-3) d_X12_longNote_17 bi_m3 ?_
    obtain ⟨rfl, rfl⟩ := x_inj hF
    exact g_iret d_X12_longNote_19 rfl hq
  · have hF := x_f hF c10
    refine g_iloadn d_X12_longNote_13 rfl ?_
    refine g_if_ge 20 d_X12_longNote_14 rfl (fun c14 => ?_) (fun c14 => ?_)
    · have hF := x_t hF c14
      refine g_iloadn d_X12_longNote_20 rfl ?_
      refine g_aloadn d_X12_longNote_21 rfl ?_
      refine g_iloadn d_X12_longNote_22 rfl ?_
      obtain ⟨_, g23, hF⟩ := Option.bind_eq_some_iff.mp hF
      obtain ⟨⟨r23, h23⟩, e23, hF⟩ := Option.bind_eq_some_iff.mp hF
      try dsimp only at hF
      refine q_callV [.int x1] [.int x2] rfl d_X12_longNote_23 v_X12_421 (by omega) rfl (Nat.le_of_ble_eq_true rfl) (rc_rc g23 (by decide) rfl) (R_X12_laysLongest _ _ _ (by omega) e23) ?_
      refine g_icmp_ge 38 d_X12_longNote_26 rfl (fun c26 => ?_) (fun c26 => ?_)
      · have hF := x_t hF c26
        refine g_ic (-1) d_X12_longNote_38 ic_m1 ?_
        obtain ⟨rfl, rfl⟩ := x_inj hF
        exact g_iret d_X12_longNote_39 rfl hq
      · have hF := x_f hF c26
        refine g_aloadn d_X12_longNote_29 rfl ?_
        obtain ⟨v30, e30, hF⟩ := Option.bind_eq_some_iff.mp hF
        refine q_fR d_X12_longNote_30 f_X12_60 e30 ?_
        refine g_iloadn d_X12_longNote_33 rfl ?_
        obtain ⟨v34, e34, hF⟩ := Option.bind_eq_some_iff.mp hF
        refine q_aI d_X12_longNote_34 e34 ?_
        refine g_goto 39 d_X12_longNote_35 rfl ?_
        obtain ⟨rfl, rfl⟩ := x_inj hF
        exact g_iret d_X12_longNote_39 rfl hq
    · have hF := x_f hF c14
      refine g_bi (-3) d_X12_longNote_17 bi_m3 ?_
      obtain ⟨rfl, rfl⟩ := x_inj hF
      exact g_iret d_X12_longNote_19 rfl hq
theorem d_X12_fewestBy_0 : decode cX12_fewestBy 0 = .ok (.aload_n 0, 1) := by decide +kernel
theorem d_X12_fewestBy_1 : decode cX12_fewestBy 1 = .ok (.iload_n 2, 1) := by decide +kernel
theorem d_X12_fewestBy_2 : decode cX12_fewestBy 2 = .ok (.iload 4, 2) := by decide +kernel
theorem d_X12_fewestBy_4 : decode cX12_fewestBy 4 = .ok (.invokevirtual 409, 3) := by decide +kernel
theorem d_X12_fewestBy_7 : decode cX12_fewestBy 7 = .ok (.ifCond .ne 7, 3) := by decide +kernel
theorem d_X12_fewestBy_10 : decode cX12_fewestBy 10 = .ok (.ldc_w 357, 3) := by decide +kernel
theorem d_X12_fewestBy_13 : decode cX12_fewestBy 13 = .ok (.ireturn, 1) := by decide +kernel
theorem d_X12_fewestBy_14 : decode cX12_fewestBy 14 = .ok (.aload_n 0, 1) := by decide +kernel
theorem d_X12_fewestBy_15 : decode cX12_fewestBy 15 = .ok (.getfield 57, 3) := by decide +kernel
theorem d_X12_fewestBy_18 : decode cX12_fewestBy 18 = .ok (.iload_n 1, 1) := by decide +kernel
theorem d_X12_fewestBy_19 : decode cX12_fewestBy 19 = .ok (.iconst 1, 1) := by decide +kernel
theorem d_X12_fewestBy_20 : decode cX12_fewestBy 20 = .ok (.iload 4, 2) := by decide +kernel
theorem d_X12_fewestBy_22 : decode cX12_fewestBy 22 = .ok (.ishl, 1) := by decide +kernel
theorem d_X12_fewestBy_23 : decode cX12_fewestBy 23 = .ok (.iload_n 3, 1) := by decide +kernel
theorem d_X12_fewestBy_24 : decode cX12_fewestBy 24 = .ok (.iand, 1) := by decide +kernel
theorem d_X12_fewestBy_25 : decode cX12_fewestBy 25 = .ok (.ior, 1) := by decide +kernel
theorem d_X12_fewestBy_26 : decode cX12_fewestBy 26 = .ok (.iload 4, 2) := by decide +kernel
theorem d_X12_fewestBy_28 : decode cX12_fewestBy 28 = .ok (.invokestatic 412, 3) := by decide +kernel
theorem d_X12_fewestBy_31 : decode cX12_fewestBy 31 = .ok (.iaload, 1) := by decide +kernel
theorem d_X12_fewestBy_32 : decode cX12_fewestBy 32 = .ok (.istore 5, 2) := by decide +kernel
theorem d_X12_fewestBy_34 : decode cX12_fewestBy 34 = .ok (.iload 5, 2) := by decide +kernel
theorem d_X12_fewestBy_36 : decode cX12_fewestBy 36 = .ok (.ldc_w 357, 3) := by decide +kernel
theorem d_X12_fewestBy_39 : decode cX12_fewestBy 39 = .ok (.if_icmp .ne 9, 3) := by decide +kernel
theorem d_X12_fewestBy_42 : decode cX12_fewestBy 42 = .ok (.ldc_w 357, 3) := by decide +kernel
theorem d_X12_fewestBy_45 : decode cX12_fewestBy 45 = .ok (.goto 7, 3) := by decide +kernel
theorem d_X12_fewestBy_48 : decode cX12_fewestBy 48 = .ok (.iconst 1, 1) := by decide +kernel
theorem d_X12_fewestBy_49 : decode cX12_fewestBy 49 = .ok (.iload 5, 2) := by decide +kernel
theorem d_X12_fewestBy_51 : decode cX12_fewestBy 51 = .ok (.iadd, 1) := by decide +kernel
theorem d_X12_fewestBy_52 : decode cX12_fewestBy 52 = .ok (.ireturn, 1) := by decide +kernel
def F_X12_fewestBy (x0 : Nat) (x1 : Int32) (x2 : Int32) (x3 : Int32) (x4 : Int32) (h : xH) : Option (Int32 × xH) := (rc h x0 11).bind fun _ => (F_X12_mayNext x0 x2 x4 h).bind fun z4 => if ¬ z4.1 = 0 then (fR z4.2 x0 11 28).bind fun v15 => (F_X12_tuneAt (x1 ||| ((((1 : Int32)) <<< (x4 &&& 31)) &&& x3)) x4 z4.2).bind fun z28 => (aI z28.2 v15 z28.1).bind fun v31 => if ¬ v31 = ((268435456 : Int32)) then some (((1 : Int32)) + v31, z28.2) else some (268435456, z28.2) else some (268435456, z4.2)
theorem R_X12_fewestBy {Γ : xG} {l : Launch} {d : Nat} {r : Int32} {h' : xH} (x0 : Nat) (x1 : Int32) (x2 : Int32) (x3 : Int32) (x4 : Int32) (h : xH) (hdp : 4 ≤ d) (hF : F_X12_fewestBy x0 x1 x2 x3 x4 h = some (r, h')) : Gm Γ l d 0 0 m_X12_fewestBy [.ref x0, .int x1, .int x2, .int x3, .int x4] h (fun a u => a = some (.int r) ∧ u = h') := by
  refine Gm.of pn_X12 (Nat.le_of_ble_eq_true rfl) ?_
  show Gd Γ l d m_X12_fewestBy 0 [.ref x0, .int x1, .int x2, .int x3, .int x4, xhole] [] h 0 0 _
  generalize hQ : (fun (a : Option Value) (u : xH) => a = some (.int r) ∧ u = h') = Q
  have hq : Q (some (.int r)) h' := by rw [← hQ]; exact ⟨rfl, rfl⟩
  clear hQ
  unfold F_X12_fewestBy at hF
  refine g_aloadn d_X12_fewestBy_0 rfl ?_
  refine g_iloadn d_X12_fewestBy_1 rfl ?_
  refine g_iload d_X12_fewestBy_2 rfl ?_
  obtain ⟨_, g4, hF⟩ := Option.bind_eq_some_iff.mp hF
  obtain ⟨⟨r4, h4⟩, e4, hF⟩ := Option.bind_eq_some_iff.mp hF
  try dsimp only at hF
  refine q_callV [.int x2, .int x4] [] rfl d_X12_fewestBy_4 v_X12_409 (by omega) rfl (Nat.le_of_ble_eq_true rfl) (rc_rc g4 (by decide) rfl) (R_X12_mayNext _ _ _ _ (by omega) e4) ?_
  refine g_if_ne 14 d_X12_fewestBy_7 rfl (fun c7 => ?_) (fun c7 => ?_)
  · have hF := x_t hF c7
    refine g_aloadn d_X12_fewestBy_14 rfl ?_
    obtain ⟨v15, e15, hF⟩ := Option.bind_eq_some_iff.mp hF
    refine q_fR d_X12_fewestBy_15 f_X12_57 e15 ?_
    refine g_iloadn d_X12_fewestBy_18 rfl ?_
    refine g_ic (1) d_X12_fewestBy_19 ic_1 ?_
    refine g_iload d_X12_fewestBy_20 rfl ?_
    refine g_ishl d_X12_fewestBy_22 ?_
    refine g_iloadn d_X12_fewestBy_23 rfl ?_
    refine g_iand d_X12_fewestBy_24 ?_
    refine g_ior d_X12_fewestBy_25 ?_
    refine g_iload d_X12_fewestBy_26 rfl ?_
    obtain ⟨⟨r28, h28⟩, e28, hF⟩ := Option.bind_eq_some_iff.mp hF
    try dsimp only at hF
    refine q_callS [.int (x1 ||| ((((1 : Int32)) <<< (x4 &&& 31)) &&& x3)), .int x4] [.ref v15] rfl d_X12_fewestBy_28 s_X12_412 (by omega) rfl (Nat.le_of_ble_eq_true rfl) (R_X12_tuneAt _ _ _ (by omega) e28) ?_
    obtain ⟨v31, e31, hF⟩ := Option.bind_eq_some_iff.mp hF
    refine q_aI d_X12_fewestBy_31 e31 ?_
    refine q_istore [.ref x0, .int x1, .int x2, .int x3, .int x4, .int v31] d_X12_fewestBy_32 (by decide) rfl ?_
    refine g_iload d_X12_fewestBy_34 rfl ?_
    refine g_ldcw d_X12_fewestBy_36 k_X12_357 ?_
    refine g_icmp_ne 48 d_X12_fewestBy_39 rfl (fun c39 => ?_) (fun c39 => ?_)
    · have hF := x_t hF c39
      refine g_ic (1) d_X12_fewestBy_48 ic_1 ?_
      refine g_iload d_X12_fewestBy_49 rfl ?_
      refine g_iadd d_X12_fewestBy_51 ?_
      obtain ⟨rfl, rfl⟩ := x_inj hF
      exact g_iret d_X12_fewestBy_52 rfl hq
    · have hF := x_f hF (not_not_intro c39)
      refine g_ldcw d_X12_fewestBy_42 k_X12_357 ?_
      refine g_goto 52 d_X12_fewestBy_45 rfl ?_
      obtain ⟨rfl, rfl⟩ := x_inj hF
      exact g_iret d_X12_fewestBy_52 rfl hq
  · have hF := x_f hF (not_not_intro c7)
    refine g_ldcw d_X12_fewestBy_10 k_X12_357 ?_
    obtain ⟨rfl, rfl⟩ := x_inj hF
    exact g_iret d_X12_fewestBy_13 rfl hq
theorem d_X12_laysThrough_0 : decode cX12_laysThrough 0 = .ok (.aload_n 0, 1) := by decide +kernel
theorem d_X12_laysThrough_1 : decode cX12_laysThrough 1 = .ok (.iload_n 1, 1) := by decide +kernel
theorem d_X12_laysThrough_2 : decode cX12_laysThrough 2 = .ok (.invokevirtual 415, 3) := by decide +kernel
theorem d_X12_laysThrough_5 : decode cX12_laysThrough 5 = .ok (.iconst 0, 1) := by decide +kernel
theorem d_X12_laysThrough_6 : decode cX12_laysThrough 6 = .ok (.istore_n 3, 1) := by decide +kernel
theorem d_X12_laysThrough_7 : decode cX12_laysThrough 7 = .ok (.iload_n 3, 1) := by decide +kernel
theorem d_X12_laysThrough_8 : decode cX12_laysThrough 8 = .ok (.sipush 11264, 3) := by decide +kernel
theorem d_X12_laysThrough_11 : decode cX12_laysThrough 11 = .ok (.if_icmp .ge 32, 3) := by decide +kernel
theorem d_X12_laysThrough_14 : decode cX12_laysThrough 14 = .ok (.aload_n 0, 1) := by decide +kernel
theorem d_X12_laysThrough_15 : decode cX12_laysThrough 15 = .ok (.getfield 57, 3) := by decide +kernel
theorem d_X12_laysThrough_18 : decode cX12_laysThrough 18 = .ok (.iload_n 3, 1) := by decide +kernel
theorem d_X12_laysThrough_19 : decode cX12_laysThrough 19 = .ok (.iload_n 3, 1) := by decide +kernel
theorem d_X12_laysThrough_20 : decode cX12_laysThrough 20 = .ok (.bipush 11, 2) := by decide +kernel
theorem d_X12_laysThrough_22 : decode cX12_laysThrough 22 = .ok (.idiv, 1) := by decide +kernel
theorem d_X12_laysThrough_23 : decode cX12_laysThrough 23 = .ok (.iload_n 2, 1) := by decide +kernel
theorem d_X12_laysThrough_24 : decode cX12_laysThrough 24 = .ok (.iand, 1) := by decide +kernel
theorem d_X12_laysThrough_25 : decode cX12_laysThrough 25 = .ok (.iload_n 2, 1) := by decide +kernel
theorem d_X12_laysThrough_26 : decode cX12_laysThrough 26 = .ok (.if_icmp .ne 7, 3) := by decide +kernel
theorem d_X12_laysThrough_29 : decode cX12_laysThrough 29 = .ok (.iconst 0, 1) := by decide +kernel
theorem d_X12_laysThrough_30 : decode cX12_laysThrough 30 = .ok (.goto 6, 3) := by decide +kernel
theorem d_X12_laysThrough_33 : decode cX12_laysThrough 33 = .ok (.ldc_w 357, 3) := by decide +kernel
theorem d_X12_laysThrough_36 : decode cX12_laysThrough 36 = .ok (.iastore, 1) := by decide +kernel
theorem d_X12_laysThrough_37 : decode cX12_laysThrough 37 = .ok (.iinc 3 1, 3) := by decide +kernel
theorem d_X12_laysThrough_40 : decode cX12_laysThrough 40 = .ok (.goto (-33), 3) := by decide +kernel
theorem d_X12_laysThrough_43 : decode cX12_laysThrough 43 = .ok (.iconst 1, 1) := by decide +kernel
theorem d_X12_laysThrough_44 : decode cX12_laysThrough 44 = .ok (.istore_n 3, 1) := by decide +kernel
theorem d_X12_laysThrough_45 : decode cX12_laysThrough 45 = .ok (.iload_n 3, 1) := by decide +kernel
theorem d_X12_laysThrough_46 : decode cX12_laysThrough 46 = .ok (.ifCond .eq 122, 3) := by decide +kernel
theorem d_X12_laysThrough_49 : decode cX12_laysThrough 49 = .ok (.iconst 0, 1) := by decide +kernel
theorem d_X12_laysThrough_50 : decode cX12_laysThrough 50 = .ok (.istore_n 3, 1) := by decide +kernel
theorem d_X12_laysThrough_51 : decode cX12_laysThrough 51 = .ok (.iconst 0, 1) := by decide +kernel
theorem d_X12_laysThrough_52 : decode cX12_laysThrough 52 = .ok (.istore 4, 2) := by decide +kernel
theorem d_X12_laysThrough_54 : decode cX12_laysThrough 54 = .ok (.iload 4, 2) := by decide +kernel
theorem d_X12_laysThrough_56 : decode cX12_laysThrough 56 = .ok (.bipush 11, 2) := by decide +kernel
theorem d_X12_laysThrough_58 : decode cX12_laysThrough 58 = .ok (.aload_n 0, 1) := by decide +kernel
theorem d_X12_laysThrough_59 : decode cX12_laysThrough 59 = .ok (.getfield 13, 3) := by decide +kernel
theorem d_X12_laysThrough_62 : decode cX12_laysThrough 62 = .ok (.iconst 1, 1) := by decide +kernel
theorem d_X12_laysThrough_63 : decode cX12_laysThrough 63 = .ok (.iaload, 1) := by decide +kernel
theorem d_X12_laysThrough_64 : decode cX12_laysThrough 64 = .ok (.ishl, 1) := by decide +kernel
theorem d_X12_laysThrough_65 : decode cX12_laysThrough 65 = .ok (.if_icmp .ge 100, 3) := by decide +kernel
theorem d_X12_laysThrough_68 : decode cX12_laysThrough 68 = .ok (.iload 4, 2) := by decide +kernel
theorem d_X12_laysThrough_70 : decode cX12_laysThrough 70 = .ok (.bipush 11, 2) := by decide +kernel
theorem d_X12_laysThrough_72 : decode cX12_laysThrough 72 = .ok (.idiv, 1) := by decide +kernel
theorem d_X12_laysThrough_73 : decode cX12_laysThrough 73 = .ok (.iload_n 2, 1) := by decide +kernel
theorem d_X12_laysThrough_74 : decode cX12_laysThrough 74 = .ok (.iconst (-1), 1) := by decide +kernel
theorem d_X12_laysThrough_75 : decode cX12_laysThrough 75 = .ok (.ixor, 1) := by decide +kernel
theorem d_X12_laysThrough_76 : decode cX12_laysThrough 76 = .ok (.iand, 1) := by decide +kernel
theorem d_X12_laysThrough_77 : decode cX12_laysThrough 77 = .ok (.ifCond .eq 6, 3) := by decide +kernel
theorem d_X12_laysThrough_80 : decode cX12_laysThrough 80 = .ok (.goto 79, 3) := by decide +kernel
theorem d_X12_laysThrough_83 : decode cX12_laysThrough 83 = .ok (.iconst 0, 1) := by decide +kernel
theorem d_X12_laysThrough_84 : decode cX12_laysThrough 84 = .ok (.istore 5, 2) := by decide +kernel
theorem d_X12_laysThrough_86 : decode cX12_laysThrough 86 = .ok (.iload 5, 2) := by decide +kernel
theorem d_X12_laysThrough_88 : decode cX12_laysThrough 88 = .ok (.aload_n 0, 1) := by decide +kernel
theorem d_X12_laysThrough_89 : decode cX12_laysThrough 89 = .ok (.getfield 13, 3) := by decide +kernel
theorem d_X12_laysThrough_92 : decode cX12_laysThrough 92 = .ok (.iconst 1, 1) := by decide +kernel
theorem d_X12_laysThrough_93 : decode cX12_laysThrough 93 = .ok (.iaload, 1) := by decide +kernel
theorem d_X12_laysThrough_94 : decode cX12_laysThrough 94 = .ok (.if_icmp .ge 65, 3) := by decide +kernel
theorem d_X12_laysThrough_97 : decode cX12_laysThrough 97 = .ok (.aload_n 0, 1) := by decide +kernel
theorem d_X12_laysThrough_98 : decode cX12_laysThrough 98 = .ok (.iload 4, 2) := by decide +kernel
theorem d_X12_laysThrough_100 : decode cX12_laysThrough 100 = .ok (.bipush 11, 2) := by decide +kernel
theorem d_X12_laysThrough_102 : decode cX12_laysThrough 102 = .ok (.idiv, 1) := by decide +kernel
theorem d_X12_laysThrough_103 : decode cX12_laysThrough 103 = .ok (.iload 4, 2) := by decide +kernel
theorem d_X12_laysThrough_105 : decode cX12_laysThrough 105 = .ok (.bipush 11, 2) := by decide +kernel
theorem d_X12_laysThrough_107 : decode cX12_laysThrough 107 = .ok (.irem, 1) := by decide +kernel
theorem d_X12_laysThrough_108 : decode cX12_laysThrough 108 = .ok (.iload_n 2, 1) := by decide +kernel
theorem d_X12_laysThrough_109 : decode cX12_laysThrough 109 = .ok (.iload 5, 2) := by decide +kernel
theorem d_X12_laysThrough_111 : decode cX12_laysThrough 111 = .ok (.invokevirtual 424, 3) := by decide +kernel
theorem d_X12_laysThrough_114 : decode cX12_laysThrough 114 = .ok (.aload_n 0, 1) := by decide +kernel
theorem d_X12_laysThrough_115 : decode cX12_laysThrough 115 = .ok (.getfield 57, 3) := by decide +kernel
theorem d_X12_laysThrough_118 : decode cX12_laysThrough 118 = .ok (.iload 4, 2) := by decide +kernel
theorem d_X12_laysThrough_120 : decode cX12_laysThrough 120 = .ok (.iaload, 1) := by decide +kernel
theorem d_X12_laysThrough_121 : decode cX12_laysThrough 121 = .ok (.if_icmp .lt 6, 3) := by decide +kernel
theorem d_X12_laysThrough_124 : decode cX12_laysThrough 124 = .ok (.goto 29, 3) := by decide +kernel
theorem d_X12_laysThrough_127 : decode cX12_laysThrough 127 = .ok (.aload_n 0, 1) := by decide +kernel
theorem d_X12_laysThrough_128 : decode cX12_laysThrough 128 = .ok (.getfield 57, 3) := by decide +kernel
theorem d_X12_laysThrough_131 : decode cX12_laysThrough 131 = .ok (.iload 4, 2) := by decide +kernel
theorem d_X12_laysThrough_133 : decode cX12_laysThrough 133 = .ok (.aload_n 0, 1) := by decide +kernel
theorem d_X12_laysThrough_134 : decode cX12_laysThrough 134 = .ok (.iload 4, 2) := by decide +kernel
theorem d_X12_laysThrough_136 : decode cX12_laysThrough 136 = .ok (.bipush 11, 2) := by decide +kernel
theorem d_X12_laysThrough_138 : decode cX12_laysThrough 138 = .ok (.idiv, 1) := by decide +kernel
theorem d_X12_laysThrough_139 : decode cX12_laysThrough 139 = .ok (.iload 4, 2) := by decide +kernel
theorem d_X12_laysThrough_141 : decode cX12_laysThrough 141 = .ok (.bipush 11, 2) := by decide +kernel
theorem d_X12_laysThrough_143 : decode cX12_laysThrough 143 = .ok (.irem, 1) := by decide +kernel
theorem d_X12_laysThrough_144 : decode cX12_laysThrough 144 = .ok (.iload_n 2, 1) := by decide +kernel
theorem d_X12_laysThrough_145 : decode cX12_laysThrough 145 = .ok (.iload 5, 2) := by decide +kernel
theorem d_X12_laysThrough_147 : decode cX12_laysThrough 147 = .ok (.invokevirtual 424, 3) := by decide +kernel
theorem d_X12_laysThrough_150 : decode cX12_laysThrough 150 = .ok (.iastore, 1) := by decide +kernel
theorem d_X12_laysThrough_151 : decode cX12_laysThrough 151 = .ok (.iconst 1, 1) := by decide +kernel
theorem d_X12_laysThrough_152 : decode cX12_laysThrough 152 = .ok (.istore_n 3, 1) := by decide +kernel
theorem d_X12_laysThrough_153 : decode cX12_laysThrough 153 = .ok (.iinc 5 1, 3) := by decide +kernel
theorem d_X12_laysThrough_156 : decode cX12_laysThrough 156 = .ok (.goto (-70), 3) := by decide +kernel
theorem d_X12_laysThrough_159 : decode cX12_laysThrough 159 = .ok (.iinc 4 1, 3) := by decide +kernel
theorem d_X12_laysThrough_162 : decode cX12_laysThrough 162 = .ok (.goto (-108), 3) := by decide +kernel
theorem d_X12_laysThrough_165 : decode cX12_laysThrough 165 = .ok (.goto (-120), 3) := by decide +kernel
theorem d_X12_laysThrough_168 : decode cX12_laysThrough 168 = .ok (.iconst 0, 1) := by decide +kernel
theorem d_X12_laysThrough_169 : decode cX12_laysThrough 169 = .ok (.istore 4, 2) := by decide +kernel
theorem d_X12_laysThrough_171 : decode cX12_laysThrough 171 = .ok (.bipush 10, 2) := by decide +kernel
theorem d_X12_laysThrough_173 : decode cX12_laysThrough 173 = .ok (.istore 5, 2) := by decide +kernel
theorem d_X12_laysThrough_175 : decode cX12_laysThrough 175 = .ok (.aload_n 0, 1) := by decide +kernel
theorem d_X12_laysThrough_176 : decode cX12_laysThrough 176 = .ok (.getfield 57, 3) := by decide +kernel
theorem d_X12_laysThrough_179 : decode cX12_laysThrough 179 = .ok (.iconst 0, 1) := by decide +kernel
theorem d_X12_laysThrough_180 : decode cX12_laysThrough 180 = .ok (.bipush 10, 2) := by decide +kernel
theorem d_X12_laysThrough_182 : decode cX12_laysThrough 182 = .ok (.invokestatic 412, 3) := by decide +kernel
theorem d_X12_laysThrough_185 : decode cX12_laysThrough 185 = .ok (.iaload, 1) := by decide +kernel
theorem d_X12_laysThrough_186 : decode cX12_laysThrough 186 = .ok (.istore 6, 2) := by decide +kernel
theorem d_X12_laysThrough_188 : decode cX12_laysThrough 188 = .ok (.iload 6, 2) := by decide +kernel
theorem d_X12_laysThrough_190 : decode cX12_laysThrough 190 = .ok (.ldc_w 357, 3) := by decide +kernel
theorem d_X12_laysThrough_193 : decode cX12_laysThrough 193 = .ok (.if_icmp .ne 5, 3) := by decide +kernel
theorem d_X12_laysThrough_196 : decode cX12_laysThrough 196 = .ok (.iconst (-1), 1) := by decide +kernel
theorem d_X12_laysThrough_197 : decode cX12_laysThrough 197 = .ok (.ireturn, 1) := by decide +kernel
theorem d_X12_laysThrough_198 : decode cX12_laysThrough 198 = .ok (.iconst 0, 1) := by decide +kernel
theorem d_X12_laysThrough_199 : decode cX12_laysThrough 199 = .ok (.istore 7, 2) := by decide +kernel
theorem d_X12_laysThrough_201 : decode cX12_laysThrough 201 = .ok (.iload 7, 2) := by decide +kernel
theorem d_X12_laysThrough_203 : decode cX12_laysThrough 203 = .ok (.iload 6, 2) := by decide +kernel
theorem d_X12_laysThrough_205 : decode cX12_laysThrough 205 = .ok (.if_icmp .ge 61, 3) := by decide +kernel
theorem d_X12_laysThrough_208 : decode cX12_laysThrough 208 = .ok (.iconst 0, 1) := by decide +kernel
theorem d_X12_laysThrough_209 : decode cX12_laysThrough 209 = .ok (.istore 8, 2) := by decide +kernel
theorem d_X12_laysThrough_211 : decode cX12_laysThrough 211 = .ok (.aload_n 0, 1) := by decide +kernel
theorem d_X12_laysThrough_212 : decode cX12_laysThrough 212 = .ok (.iload 4, 2) := by decide +kernel
theorem d_X12_laysThrough_214 : decode cX12_laysThrough 214 = .ok (.iload 5, 2) := by decide +kernel
theorem d_X12_laysThrough_216 : decode cX12_laysThrough 216 = .ok (.iload_n 2, 1) := by decide +kernel
theorem d_X12_laysThrough_217 : decode cX12_laysThrough 217 = .ok (.iload 8, 2) := by decide +kernel
theorem d_X12_laysThrough_219 : decode cX12_laysThrough 219 = .ok (.invokevirtual 424, 3) := by decide +kernel
theorem d_X12_laysThrough_222 : decode cX12_laysThrough 222 = .ok (.iload 6, 2) := by decide +kernel
theorem d_X12_laysThrough_224 : decode cX12_laysThrough 224 = .ok (.iload 7, 2) := by decide +kernel
theorem d_X12_laysThrough_226 : decode cX12_laysThrough 226 = .ok (.isub, 1) := by decide +kernel
theorem d_X12_laysThrough_227 : decode cX12_laysThrough 227 = .ok (.if_icmp .eq 9, 3) := by decide +kernel
theorem d_X12_laysThrough_230 : decode cX12_laysThrough 230 = .ok (.iinc 8 1, 3) := by decide +kernel
theorem d_X12_laysThrough_233 : decode cX12_laysThrough 233 = .ok (.goto (-22), 3) := by decide +kernel
theorem d_X12_laysThrough_236 : decode cX12_laysThrough 236 = .ok (.aload_n 0, 1) := by decide +kernel
theorem d_X12_laysThrough_237 : decode cX12_laysThrough 237 = .ok (.getfield 60, 3) := by decide +kernel
theorem d_X12_laysThrough_240 : decode cX12_laysThrough 240 = .ok (.iload 7, 2) := by decide +kernel
theorem d_X12_laysThrough_242 : decode cX12_laysThrough 242 = .ok (.iload 8, 2) := by decide +kernel
theorem d_X12_laysThrough_244 : decode cX12_laysThrough 244 = .ok (.iastore, 1) := by decide +kernel
theorem d_X12_laysThrough_245 : decode cX12_laysThrough 245 = .ok (.iload 4, 2) := by decide +kernel
theorem d_X12_laysThrough_247 : decode cX12_laysThrough 247 = .ok (.iconst 1, 1) := by decide +kernel
theorem d_X12_laysThrough_248 : decode cX12_laysThrough 248 = .ok (.iload 8, 2) := by decide +kernel
theorem d_X12_laysThrough_250 : decode cX12_laysThrough 250 = .ok (.ishl, 1) := by decide +kernel
theorem d_X12_laysThrough_251 : decode cX12_laysThrough 251 = .ok (.iload_n 2, 1) := by decide +kernel
theorem d_X12_laysThrough_252 : decode cX12_laysThrough 252 = .ok (.iand, 1) := by decide +kernel
theorem d_X12_laysThrough_253 : decode cX12_laysThrough 253 = .ok (.ior, 1) := by decide +kernel
theorem d_X12_laysThrough_254 : decode cX12_laysThrough 254 = .ok (.istore 4, 2) := by decide +kernel
theorem d_X12_laysThrough_256 : decode cX12_laysThrough 256 = .ok (.iload 8, 2) := by decide +kernel
theorem d_X12_laysThrough_258 : decode cX12_laysThrough 258 = .ok (.istore 5, 2) := by decide +kernel
theorem d_X12_laysThrough_260 : decode cX12_laysThrough 260 = .ok (.iinc 7 1, 3) := by decide +kernel
theorem d_X12_laysThrough_263 : decode cX12_laysThrough 263 = .ok (.goto (-62), 3) := by decide +kernel
theorem d_X12_laysThrough_266 : decode cX12_laysThrough 266 = .ok (.iload 6, 2) := by decide +kernel
theorem d_X12_laysThrough_268 : decode cX12_laysThrough 268 = .ok (.ireturn, 1) := by decide +kernel
def F_X12_laysThrough_b211 (k201 : Nat → Int32 → Int32 → Int32 → Int32 → Int32 → xH → Option (Int32 × xH)) : Nat → Nat → Int32 → Int32 → Int32 → Int32 → Int32 → Int32 → xH → Option (Int32 × xH)
  | 0, _, _, _, _, _, _, _, _ => none
  | n + 1, x0, x2, x4, x5, x6, x7, x8, h => (rc h x0 11).bind fun _ => (F_X12_fewestBy x0 x4 x5 x2 x8 h).bind fun z219 => if z219.1 = (x6 - x7) then (fR z219.2 x0 11 29).bind fun v237 => (sI z219.2 v237 x7 x8).bind fun h244 => k201 x0 x2 (x4 ||| ((((1 : Int32)) <<< (x8 &&& 31)) &&& x2)) x8 x6 (x7 + 1) h244 else F_X12_laysThrough_b211 k201 n x0 x2 x4 x5 x6 x7 (x8 + 1) z219.2
theorem R_X12_laysThrough_b211 {Γ : xG} {l : Launch} {d : Nat} {Q : Option Value → xH → Prop} {r : Int32} {h' : xH} {k201 : Nat → Int32 → Int32 → Int32 → Int32 → Int32 → xH → Option (Int32 × xH)} (K201 : ∀ (x0 : Nat) (x2 : Int32) (x4 : Int32) (x5 : Int32) (x6 : Int32) (x7 : Int32)  (h : xH), k201 x0 x2 x4 x5 x6 x7 h = some (r, h') → Gd Γ l d m_X12_laysThrough 201 [.ref x0, xhole, .int x2, xhole, .int x4, .int x5, .int x6, .int x7, xhole] [] h 0 0 Q) (hdp : 6 ≤ d) (hq : Q (some (.int r)) h') : ∀ (n : Nat) (x0 : Nat) (x2 : Int32) (x4 : Int32) (x5 : Int32) (x6 : Int32) (x7 : Int32) (x8 : Int32) (h : xH), F_X12_laysThrough_b211 k201 n x0 x2 x4 x5 x6 x7 x8 h = some (r, h') → Gd Γ l d m_X12_laysThrough 211 [.ref x0, xhole, .int x2, xhole, .int x4, .int x5, .int x6, .int x7, .int x8] [] h 0 0 Q := by
  intro n
  induction n with
  | zero => intro x0 x2 x4 x5 x6 x7 x8 h hF; cases hF
  | succ n ih =>
  intro x0 x2 x4 x5 x6 x7 x8 h hF
  rw [F_X12_laysThrough_b211] at hF
  refine g_aloadn d_X12_laysThrough_211 rfl ?_
  refine g_iload d_X12_laysThrough_212 rfl ?_
  refine g_iload d_X12_laysThrough_214 rfl ?_
  refine g_iloadn d_X12_laysThrough_216 rfl ?_
  refine g_iload d_X12_laysThrough_217 rfl ?_
  obtain ⟨_, g219, hF⟩ := Option.bind_eq_some_iff.mp hF
  obtain ⟨⟨r219, h219⟩, e219, hF⟩ := Option.bind_eq_some_iff.mp hF
  try dsimp only at hF
  refine q_callV [.int x4, .int x5, .int x2, .int x8] [] rfl d_X12_laysThrough_219 v_X12_424 (by omega) rfl (Nat.le_of_ble_eq_true rfl) (rc_rc g219 (by decide) rfl) (R_X12_fewestBy _ _ _ _ _ _ (by omega) e219) ?_
  refine g_iload d_X12_laysThrough_222 rfl ?_
  refine g_iload d_X12_laysThrough_224 rfl ?_
  refine g_isub d_X12_laysThrough_226 ?_
  refine g_icmp_eq 236 d_X12_laysThrough_227 rfl (fun c227 => ?_) (fun c227 => ?_)
  · have hF := x_t hF c227
    refine g_aloadn d_X12_laysThrough_236 rfl ?_
    obtain ⟨v237, e237, hF⟩ := Option.bind_eq_some_iff.mp hF
    refine q_fR d_X12_laysThrough_237 f_X12_60 e237 ?_
    refine g_iload d_X12_laysThrough_240 rfl ?_
    refine g_iload d_X12_laysThrough_242 rfl ?_
    obtain ⟨h244, e244, hF⟩ := Option.bind_eq_some_iff.mp hF
    refine q_sI d_X12_laysThrough_244 e244 ?_
    refine g_iload d_X12_laysThrough_245 rfl ?_
    refine g_ic (1) d_X12_laysThrough_247 ic_1 ?_
    refine g_iload d_X12_laysThrough_248 rfl ?_
    refine g_ishl d_X12_laysThrough_250 ?_
    refine g_iloadn d_X12_laysThrough_251 rfl ?_
    refine g_iand d_X12_laysThrough_252 ?_
    refine g_ior d_X12_laysThrough_253 ?_
    refine q_istore [.ref x0, xhole, .int x2, xhole, .int (x4 ||| ((((1 : Int32)) <<< (x8 &&& 31)) &&& x2)), .int x5, .int x6, .int x7, .int x8] d_X12_laysThrough_254 (by decide) rfl ?_
    refine g_iload d_X12_laysThrough_256 rfl ?_
    refine q_istore [.ref x0, xhole, .int x2, xhole, .int (x4 ||| ((((1 : Int32)) <<< (x8 &&& 31)) &&& x2)), .int x8, .int x6, .int x7, .int x8] d_X12_laysThrough_258 (by decide) rfl ?_
    refine q_iinc (1) [.ref x0, xhole, .int x2, xhole, .int (x4 ||| ((((1 : Int32)) <<< (x8 &&& 31)) &&& x2)), .int x8, .int x6, .int (x7 + 1), .int x8] d_X12_laysThrough_260 ic_1 rfl (by decide) rfl ?_
    refine g_goto 201 d_X12_laysThrough_263 rfl ?_
    exact q_to (xs_r (xs_h (xs_r (xs_h (xs_r (xs_r (xs_r (xs_r (xs_h xs_n))))))))) (K201 _ _ _ _ _ _ _ hF)
  · have hF := x_f hF c227
    refine q_iinc (1) [.ref x0, xhole, .int x2, xhole, .int x4, .int x5, .int x6, .int x7, .int (x8 + 1)] d_X12_laysThrough_230 ic_1 rfl (by decide) rfl ?_
    refine g_goto 211 d_X12_laysThrough_233 rfl ?_
    exact q_to (xs_r (xs_h (xs_r (xs_h (xs_r (xs_r (xs_r (xs_r (xs_r xs_n))))))))) (ih _ _ _ _ _ _ _ _ hF)
def F_X12_laysThrough_b201 : Nat → Nat → Int32 → Int32 → Int32 → Int32 → Int32 → xH → Option (Int32 × xH)
  | 0, _, _, _, _, _, _, _ => none
  | n + 1, x0, x2, x4, x5, x6, x7, h => if x6 ≤ x7 then some (x6, h) else F_X12_laysThrough_b211 (F_X12_laysThrough_b201 n) FU x0 x2 x4 x5 x6 x7 0 h
theorem R_X12_laysThrough_b201 {Γ : xG} {l : Launch} {d : Nat} {Q : Option Value → xH → Prop} {r : Int32} {h' : xH} (hdp : 6 ≤ d) (hq : Q (some (.int r)) h') : ∀ (n : Nat) (x0 : Nat) (x2 : Int32) (x4 : Int32) (x5 : Int32) (x6 : Int32) (x7 : Int32) (h : xH), F_X12_laysThrough_b201 n x0 x2 x4 x5 x6 x7 h = some (r, h') → Gd Γ l d m_X12_laysThrough 201 [.ref x0, xhole, .int x2, xhole, .int x4, .int x5, .int x6, .int x7, xhole] [] h 0 0 Q := by
  intro n
  induction n with
  | zero => intro x0 x2 x4 x5 x6 x7 h hF; cases hF
  | succ n ih =>
  intro x0 x2 x4 x5 x6 x7 h hF
  rw [F_X12_laysThrough_b201] at hF
  refine g_iload d_X12_laysThrough_201 rfl ?_
  refine g_iload d_X12_laysThrough_203 rfl ?_
  refine g_icmp_ge 266 d_X12_laysThrough_205 rfl (fun c205 => ?_) (fun c205 => ?_)
  · have hF := x_t hF c205
    refine g_iload d_X12_laysThrough_266 rfl ?_
    obtain ⟨rfl, rfl⟩ := x_inj hF
    exact g_iret d_X12_laysThrough_268 rfl hq
  · have hF := x_f hF c205
    refine g_ic (0) d_X12_laysThrough_208 ic_0 ?_
    refine q_istore [.ref x0, xhole, .int x2, xhole, .int x4, .int x5, .int x6, .int x7, .int 0] d_X12_laysThrough_209 (by decide) rfl ?_
    exact q_to (xs_r (xs_h (xs_r (xs_h (xs_r (xs_r (xs_r (xs_r (xs_r xs_n))))))))) (R_X12_laysThrough_b211 ih hdp hq FU _ _ _ _ _ _ _ _ hF)
def F_X12_laysThrough_b86 (k45 : Nat → Int32 → Int32 → xH → Option (Int32 × xH)) (k54 : Nat → Int32 → Int32 → Int32 → xH → Option (Int32 × xH)) : Nat → Nat → Int32 → Int32 → Int32 → Int32 → xH → Option (Int32 × xH)
  | 0, _, _, _, _, _, _ => none
  | n + 1, x0, x2, x3, x4, x5, h => (fR h x0 11 1).bind fun v89 => (aI h v89 1).bind fun v93 => if v93 ≤ x5 then k54 x0 x2 x3 (x4 + 1) h else (rc h x0 11).bind fun _ => (F_X12_fewestBy x0 (idv x4 11) (irm x4 11) x2 x5 h).bind fun z111 => (fR z111.2 x0 11 28).bind fun v115 => (aI z111.2 v115 x4).bind fun v120 => if z111.1 < v120 then (fR z111.2 x0 11 28).bind fun v128 => (rc z111.2 x0 11).bind fun _ => (F_X12_fewestBy x0 (idv x4 11) (irm x4 11) x2 x5 z111.2).bind fun z147 => (sI z147.2 v128 x4 z147.1).bind fun h150 => F_X12_laysThrough_b86 k45 k54 n x0 x2 1 x4 (x5 + 1) h150 else F_X12_laysThrough_b86 k45 k54 n x0 x2 x3 x4 (x5 + 1) z111.2
theorem R_X12_laysThrough_b86 {Γ : xG} {l : Launch} {d : Nat} {Q : Option Value → xH → Prop} {r : Int32} {h' : xH} {k45 : Nat → Int32 → Int32 → xH → Option (Int32 × xH)} {k54 : Nat → Int32 → Int32 → Int32 → xH → Option (Int32 × xH)} (K45 : ∀ (x0 : Nat) (x2 : Int32) (x3 : Int32)  (h : xH), k45 x0 x2 x3 h = some (r, h') → Gd Γ l d m_X12_laysThrough 45 [.ref x0, xhole, .int x2, .int x3, xhole, xhole, xhole, xhole, xhole] [] h 0 0 Q) (K54 : ∀ (x0 : Nat) (x2 : Int32) (x3 : Int32) (x4 : Int32)  (h : xH), k54 x0 x2 x3 x4 h = some (r, h') → Gd Γ l d m_X12_laysThrough 54 [.ref x0, xhole, .int x2, .int x3, .int x4, xhole, xhole, xhole, xhole] [] h 0 0 Q) (hdp : 6 ≤ d) (hq : Q (some (.int r)) h') : ∀ (n : Nat) (x0 : Nat) (x2 : Int32) (x3 : Int32) (x4 : Int32) (x5 : Int32) (h : xH), F_X12_laysThrough_b86 k45 k54 n x0 x2 x3 x4 x5 h = some (r, h') → Gd Γ l d m_X12_laysThrough 86 [.ref x0, xhole, .int x2, .int x3, .int x4, .int x5, xhole, xhole, xhole] [] h 0 0 Q := by
  intro n
  induction n with
  | zero => intro x0 x2 x3 x4 x5 h hF; cases hF
  | succ n ih =>
  intro x0 x2 x3 x4 x5 h hF
  rw [F_X12_laysThrough_b86] at hF
  refine g_iload d_X12_laysThrough_86 rfl ?_
  refine g_aloadn d_X12_laysThrough_88 rfl ?_
  obtain ⟨v89, e89, hF⟩ := Option.bind_eq_some_iff.mp hF
  refine q_fR d_X12_laysThrough_89 f_X12_13 e89 ?_
  refine g_ic (1) d_X12_laysThrough_92 ic_1 ?_
  obtain ⟨v93, e93, hF⟩ := Option.bind_eq_some_iff.mp hF
  refine q_aI d_X12_laysThrough_93 e93 ?_
  refine g_icmp_ge 159 d_X12_laysThrough_94 rfl (fun c94 => ?_) (fun c94 => ?_)
  · have hF := x_t hF c94
    refine q_iinc (1) [.ref x0, xhole, .int x2, .int x3, .int (x4 + 1), .int x5, xhole, xhole, xhole] d_X12_laysThrough_159 ic_1 rfl (by decide) rfl ?_
    refine g_goto 54 d_X12_laysThrough_162 rfl ?_
    exact q_to (xs_r (xs_h (xs_r (xs_r (xs_r (xs_h (xs_h (xs_h (xs_h xs_n))))))))) (K54 _ _ _ _ _ hF)
  · have hF := x_f hF c94
    refine g_aloadn d_X12_laysThrough_97 rfl ?_
    refine g_iload d_X12_laysThrough_98 rfl ?_
    refine g_bi (11) d_X12_laysThrough_100 bi_11 ?_
    refine q_idiv d_X12_laysThrough_102 (by decide) ?_
    refine g_iload d_X12_laysThrough_103 rfl ?_
    refine g_bi (11) d_X12_laysThrough_105 bi_11 ?_
    refine q_irem d_X12_laysThrough_107 (by decide) ?_
    refine g_iloadn d_X12_laysThrough_108 rfl ?_
    refine g_iload d_X12_laysThrough_109 rfl ?_
    obtain ⟨_, g111, hF⟩ := Option.bind_eq_some_iff.mp hF
    obtain ⟨⟨r111, h111⟩, e111, hF⟩ := Option.bind_eq_some_iff.mp hF
    try dsimp only at hF
    refine q_callV [.int (idv x4 11), .int (irm x4 11), .int x2, .int x5] [] rfl d_X12_laysThrough_111 v_X12_424 (by omega) rfl (Nat.le_of_ble_eq_true rfl) (rc_rc g111 (by decide) rfl) (R_X12_fewestBy _ _ _ _ _ _ (by omega) e111) ?_
    refine g_aloadn d_X12_laysThrough_114 rfl ?_
    obtain ⟨v115, e115, hF⟩ := Option.bind_eq_some_iff.mp hF
    refine q_fR d_X12_laysThrough_115 f_X12_57 e115 ?_
    refine g_iload d_X12_laysThrough_118 rfl ?_
    obtain ⟨v120, e120, hF⟩ := Option.bind_eq_some_iff.mp hF
    refine q_aI d_X12_laysThrough_120 e120 ?_
    refine g_icmp_lt 127 d_X12_laysThrough_121 rfl (fun c121 => ?_) (fun c121 => ?_)
    · have hF := x_t hF c121
      refine g_aloadn d_X12_laysThrough_127 rfl ?_
      obtain ⟨v128, e128, hF⟩ := Option.bind_eq_some_iff.mp hF
      refine q_fR d_X12_laysThrough_128 f_X12_57 e128 ?_
      refine g_iload d_X12_laysThrough_131 rfl ?_
      refine g_aloadn d_X12_laysThrough_133 rfl ?_
      refine g_iload d_X12_laysThrough_134 rfl ?_
      refine g_bi (11) d_X12_laysThrough_136 bi_11 ?_
      refine q_idiv d_X12_laysThrough_138 (by decide) ?_
      refine g_iload d_X12_laysThrough_139 rfl ?_
      refine g_bi (11) d_X12_laysThrough_141 bi_11 ?_
      refine q_irem d_X12_laysThrough_143 (by decide) ?_
      refine g_iloadn d_X12_laysThrough_144 rfl ?_
      refine g_iload d_X12_laysThrough_145 rfl ?_
      obtain ⟨_, g147, hF⟩ := Option.bind_eq_some_iff.mp hF
      obtain ⟨⟨r147, h147⟩, e147, hF⟩ := Option.bind_eq_some_iff.mp hF
      try dsimp only at hF
      refine q_callV [.int (idv x4 11), .int (irm x4 11), .int x2, .int x5] [.int x4, .ref v128] rfl d_X12_laysThrough_147 v_X12_424 (by omega) rfl (Nat.le_of_ble_eq_true rfl) (rc_rc g147 (by decide) rfl) (R_X12_fewestBy _ _ _ _ _ _ (by omega) e147) ?_
      obtain ⟨h150, e150, hF⟩ := Option.bind_eq_some_iff.mp hF
      refine q_sI d_X12_laysThrough_150 e150 ?_
      refine g_ic (1) d_X12_laysThrough_151 ic_1 ?_
      refine q_istoren [.ref x0, xhole, .int x2, .int 1, .int x4, .int x5, xhole, xhole, xhole] d_X12_laysThrough_152 (by decide) rfl ?_
      refine q_iinc (1) [.ref x0, xhole, .int x2, .int 1, .int x4, .int (x5 + 1), xhole, xhole, xhole] d_X12_laysThrough_153 ic_1 rfl (by decide) rfl ?_
      refine g_goto 86 d_X12_laysThrough_156 rfl ?_
      exact q_to (xs_r (xs_h (xs_r (xs_r (xs_r (xs_r (xs_h (xs_h (xs_h xs_n))))))))) (ih _ _ _ _ _ _ hF)
    · have hF := x_f hF c121
      refine g_goto 153 d_X12_laysThrough_124 rfl ?_
      refine q_iinc (1) [.ref x0, xhole, .int x2, .int x3, .int x4, .int (x5 + 1), xhole, xhole, xhole] d_X12_laysThrough_153 ic_1 rfl (by decide) rfl ?_
      refine g_goto 86 d_X12_laysThrough_156 rfl ?_
      exact q_to (xs_r (xs_h (xs_r (xs_r (xs_r (xs_r (xs_h (xs_h (xs_h xs_n))))))))) (ih _ _ _ _ _ _ hF)
def F_X12_laysThrough_b54 (k45 : Nat → Int32 → Int32 → xH → Option (Int32 × xH)) : Nat → Nat → Int32 → Int32 → Int32 → xH → Option (Int32 × xH)
  | 0, _, _, _, _, _ => none
  | n + 1, x0, x2, x3, x4, h => (fR h x0 11 1).bind fun v59 => (aI h v59 1).bind fun v63 => if (((11 : Int32)) <<< (v63 &&& 31)) ≤ x4 then k45 x0 x2 x3 h else if ((idv x4 11) &&& (x2 ^^^ ((-1)))) = 0 then F_X12_laysThrough_b86 k45 (F_X12_laysThrough_b54 k45 n) FU x0 x2 x3 x4 0 h else F_X12_laysThrough_b54 k45 n x0 x2 x3 (x4 + 1) h
theorem R_X12_laysThrough_b54 {Γ : xG} {l : Launch} {d : Nat} {Q : Option Value → xH → Prop} {r : Int32} {h' : xH} {k45 : Nat → Int32 → Int32 → xH → Option (Int32 × xH)} (K45 : ∀ (x0 : Nat) (x2 : Int32) (x3 : Int32)  (h : xH), k45 x0 x2 x3 h = some (r, h') → Gd Γ l d m_X12_laysThrough 45 [.ref x0, xhole, .int x2, .int x3, xhole, xhole, xhole, xhole, xhole] [] h 0 0 Q) (hdp : 6 ≤ d) (hq : Q (some (.int r)) h') : ∀ (n : Nat) (x0 : Nat) (x2 : Int32) (x3 : Int32) (x4 : Int32) (h : xH), F_X12_laysThrough_b54 k45 n x0 x2 x3 x4 h = some (r, h') → Gd Γ l d m_X12_laysThrough 54 [.ref x0, xhole, .int x2, .int x3, .int x4, xhole, xhole, xhole, xhole] [] h 0 0 Q := by
  intro n
  induction n with
  | zero => intro x0 x2 x3 x4 h hF; cases hF
  | succ n ih =>
  intro x0 x2 x3 x4 h hF
  rw [F_X12_laysThrough_b54] at hF
  refine g_iload d_X12_laysThrough_54 rfl ?_
  refine g_bi (11) d_X12_laysThrough_56 bi_11 ?_
  refine g_aloadn d_X12_laysThrough_58 rfl ?_
  obtain ⟨v59, e59, hF⟩ := Option.bind_eq_some_iff.mp hF
  refine q_fR d_X12_laysThrough_59 f_X12_13 e59 ?_
  refine g_ic (1) d_X12_laysThrough_62 ic_1 ?_
  obtain ⟨v63, e63, hF⟩ := Option.bind_eq_some_iff.mp hF
  refine q_aI d_X12_laysThrough_63 e63 ?_
  refine g_ishl d_X12_laysThrough_64 ?_
  refine g_icmp_ge 165 d_X12_laysThrough_65 rfl (fun c65 => ?_) (fun c65 => ?_)
  · have hF := x_t hF c65
    refine g_goto 45 d_X12_laysThrough_165 rfl ?_
    exact q_to (xs_r (xs_h (xs_r (xs_r (xs_h (xs_h (xs_h (xs_h (xs_h xs_n))))))))) (K45 _ _ _ _ hF)
  · have hF := x_f hF c65
    refine g_iload d_X12_laysThrough_68 rfl ?_
    refine g_bi (11) d_X12_laysThrough_70 bi_11 ?_
    refine q_idiv d_X12_laysThrough_72 (by decide) ?_
    refine g_iloadn d_X12_laysThrough_73 rfl ?_
    refine g_ic (-1) d_X12_laysThrough_74 ic_m1 ?_
    refine g_ixor d_X12_laysThrough_75 ?_
    refine g_iand d_X12_laysThrough_76 ?_
    refine g_if_eq 83 d_X12_laysThrough_77 rfl (fun c77 => ?_) (fun c77 => ?_)
    · have hF := x_t hF c77
      refine g_ic (0) d_X12_laysThrough_83 ic_0 ?_
      refine q_istore [.ref x0, xhole, .int x2, .int x3, .int x4, .int 0, xhole, xhole, xhole] d_X12_laysThrough_84 (by decide) rfl ?_
      exact q_to (xs_r (xs_h (xs_r (xs_r (xs_r (xs_r (xs_h (xs_h (xs_h xs_n))))))))) (R_X12_laysThrough_b86 K45 ih hdp hq FU _ _ _ _ _ _ hF)
    · have hF := x_f hF c77
      refine g_goto 159 d_X12_laysThrough_80 rfl ?_
      refine q_iinc (1) [.ref x0, xhole, .int x2, .int x3, .int (x4 + 1), xhole, xhole, xhole, xhole] d_X12_laysThrough_159 ic_1 rfl (by decide) rfl ?_
      refine g_goto 54 d_X12_laysThrough_162 rfl ?_
      exact q_to (xs_r (xs_h (xs_r (xs_r (xs_r (xs_h (xs_h (xs_h (xs_h xs_n))))))))) (ih _ _ _ _ _ hF)
def F_X12_laysThrough_b45 : Nat → Nat → Int32 → Int32 → xH → Option (Int32 × xH)
  | 0, _, _, _, _ => none
  | n + 1, x0, x2, x3, h => if x3 = 0 then (fR h x0 11 28).bind fun v176 => (F_X12_tuneAt 0 10 h).bind fun z182 => (aI z182.2 v176 z182.1).bind fun v185 => if ¬ v185 = ((268435456 : Int32)) then F_X12_laysThrough_b201 FU x0 x2 0 10 v185 0 z182.2 else some ((-1), z182.2) else F_X12_laysThrough_b54 (F_X12_laysThrough_b45 n) FU x0 x2 0 0 h
theorem R_X12_laysThrough_b45 {Γ : xG} {l : Launch} {d : Nat} {Q : Option Value → xH → Prop} {r : Int32} {h' : xH} (hdp : 6 ≤ d) (hq : Q (some (.int r)) h') : ∀ (n : Nat) (x0 : Nat) (x2 : Int32) (x3 : Int32) (h : xH), F_X12_laysThrough_b45 n x0 x2 x3 h = some (r, h') → Gd Γ l d m_X12_laysThrough 45 [.ref x0, xhole, .int x2, .int x3, xhole, xhole, xhole, xhole, xhole] [] h 0 0 Q := by
  intro n
  induction n with
  | zero => intro x0 x2 x3 h hF; cases hF
  | succ n ih =>
  intro x0 x2 x3 h hF
  rw [F_X12_laysThrough_b45] at hF
  refine g_iloadn d_X12_laysThrough_45 rfl ?_
  refine g_if_eq 168 d_X12_laysThrough_46 rfl (fun c46 => ?_) (fun c46 => ?_)
  · have hF := x_t hF c46
    refine g_ic (0) d_X12_laysThrough_168 ic_0 ?_
    refine q_istore [.ref x0, xhole, .int x2, .int x3, .int 0, xhole, xhole, xhole, xhole] d_X12_laysThrough_169 (by decide) rfl ?_
    refine g_bi (10) d_X12_laysThrough_171 bi_10 ?_
    refine q_istore [.ref x0, xhole, .int x2, .int x3, .int 0, .int 10, xhole, xhole, xhole] d_X12_laysThrough_173 (by decide) rfl ?_
    refine g_aloadn d_X12_laysThrough_175 rfl ?_
    obtain ⟨v176, e176, hF⟩ := Option.bind_eq_some_iff.mp hF
    refine q_fR d_X12_laysThrough_176 f_X12_57 e176 ?_
    refine g_ic (0) d_X12_laysThrough_179 ic_0 ?_
    refine g_bi (10) d_X12_laysThrough_180 bi_10 ?_
    obtain ⟨⟨r182, h182⟩, e182, hF⟩ := Option.bind_eq_some_iff.mp hF
    try dsimp only at hF
    refine q_callS [.int 0, .int 10] [.ref v176] rfl d_X12_laysThrough_182 s_X12_412 (by omega) rfl (Nat.le_of_ble_eq_true rfl) (R_X12_tuneAt _ _ _ (by omega) e182) ?_
    obtain ⟨v185, e185, hF⟩ := Option.bind_eq_some_iff.mp hF
    refine q_aI d_X12_laysThrough_185 e185 ?_
    refine q_istore [.ref x0, xhole, .int x2, .int x3, .int 0, .int 10, .int v185, xhole, xhole] d_X12_laysThrough_186 (by decide) rfl ?_
    refine g_iload d_X12_laysThrough_188 rfl ?_
    refine g_ldcw d_X12_laysThrough_190 k_X12_357 ?_
    refine g_icmp_ne 198 d_X12_laysThrough_193 rfl (fun c193 => ?_) (fun c193 => ?_)
    · have hF := x_t hF c193
      refine g_ic (0) d_X12_laysThrough_198 ic_0 ?_
      refine q_istore [.ref x0, xhole, .int x2, .int x3, .int 0, .int 10, .int v185, .int 0, xhole] d_X12_laysThrough_199 (by decide) rfl ?_
      exact q_to (xs_r (xs_h (xs_r (xs_h (xs_r (xs_r (xs_r (xs_r (xs_h xs_n))))))))) (R_X12_laysThrough_b201 hdp hq FU _ _ _ _ _ _ _ hF)
    · have hF := x_f hF (not_not_intro c193)
      refine g_ic (-1) d_X12_laysThrough_196 ic_m1 ?_
      obtain ⟨rfl, rfl⟩ := x_inj hF
      exact g_iret d_X12_laysThrough_197 rfl hq
  · have hF := x_f hF c46
    refine g_ic (0) d_X12_laysThrough_49 ic_0 ?_
    refine q_istoren [.ref x0, xhole, .int x2, .int 0, xhole, xhole, xhole, xhole, xhole] d_X12_laysThrough_50 (by decide) rfl ?_
    refine g_ic (0) d_X12_laysThrough_51 ic_0 ?_
    refine q_istore [.ref x0, xhole, .int x2, .int 0, .int 0, xhole, xhole, xhole, xhole] d_X12_laysThrough_52 (by decide) rfl ?_
    exact q_to (xs_r (xs_h (xs_r (xs_r (xs_r (xs_h (xs_h (xs_h (xs_h xs_n))))))))) (R_X12_laysThrough_b54 ih hdp hq FU _ _ _ _ _ hF)
def F_X12_laysThrough_b7 : Nat → Nat → Int32 → Int32 → xH → Option (Int32 × xH)
  | 0, _, _, _, _ => none
  | n + 1, x0, x2, x3, h => if ((11264 : Int32)) ≤ x3 then F_X12_laysThrough_b45 FU x0 x2 1 h else (fR h x0 11 28).bind fun v15 => if ¬ ((idv x3 11) &&& x2) = x2 then (sI h v15 x3 268435456).bind fun h36 => F_X12_laysThrough_b7 n x0 x2 (x3 + 1) h36 else (sI h v15 x3 0).bind fun h36 => F_X12_laysThrough_b7 n x0 x2 (x3 + 1) h36
theorem R_X12_laysThrough_b7 {Γ : xG} {l : Launch} {d : Nat} {Q : Option Value → xH → Prop} {r : Int32} {h' : xH} (hdp : 6 ≤ d) (hq : Q (some (.int r)) h') : ∀ (n : Nat) (x0 : Nat) (x2 : Int32) (x3 : Int32) (h : xH), F_X12_laysThrough_b7 n x0 x2 x3 h = some (r, h') → Gd Γ l d m_X12_laysThrough 7 [.ref x0, xhole, .int x2, .int x3, xhole, xhole, xhole, xhole, xhole] [] h 0 0 Q := by
  intro n
  induction n with
  | zero => intro x0 x2 x3 h hF; cases hF
  | succ n ih =>
  intro x0 x2 x3 h hF
  rw [F_X12_laysThrough_b7] at hF
  refine g_iloadn d_X12_laysThrough_7 rfl ?_
  refine g_si (11264) d_X12_laysThrough_8 si_11264 ?_
  refine g_icmp_ge 43 d_X12_laysThrough_11 rfl (fun c11 => ?_) (fun c11 => ?_)
  · have hF := x_t hF c11
    refine g_ic (1) d_X12_laysThrough_43 ic_1 ?_
    refine q_istoren [.ref x0, xhole, .int x2, .int 1, xhole, xhole, xhole, xhole, xhole] d_X12_laysThrough_44 (by decide) rfl ?_
    exact q_to (xs_r (xs_h (xs_r (xs_r (xs_h (xs_h (xs_h (xs_h (xs_h xs_n))))))))) (R_X12_laysThrough_b45 hdp hq FU _ _ _ _ hF)
  · have hF := x_f hF c11
    refine g_aloadn d_X12_laysThrough_14 rfl ?_
    obtain ⟨v15, e15, hF⟩ := Option.bind_eq_some_iff.mp hF
    refine q_fR d_X12_laysThrough_15 f_X12_57 e15 ?_
    refine g_iloadn d_X12_laysThrough_18 rfl ?_
    refine g_iloadn d_X12_laysThrough_19 rfl ?_
    refine g_bi (11) d_X12_laysThrough_20 bi_11 ?_
    refine q_idiv d_X12_laysThrough_22 (by decide) ?_
    refine g_iloadn d_X12_laysThrough_23 rfl ?_
    refine g_iand d_X12_laysThrough_24 ?_
    refine g_iloadn d_X12_laysThrough_25 rfl ?_
    refine g_icmp_ne 33 d_X12_laysThrough_26 rfl (fun c26 => ?_) (fun c26 => ?_)
    · have hF := x_t hF c26
      refine g_ldcw d_X12_laysThrough_33 k_X12_357 ?_
      obtain ⟨h36, e36, hF⟩ := Option.bind_eq_some_iff.mp hF
      refine q_sI d_X12_laysThrough_36 e36 ?_
      refine q_iinc (1) [.ref x0, xhole, .int x2, .int (x3 + 1), xhole, xhole, xhole, xhole, xhole] d_X12_laysThrough_37 ic_1 rfl (by decide) rfl ?_
      refine g_goto 7 d_X12_laysThrough_40 rfl ?_
      exact q_to (xs_r (xs_h (xs_r (xs_r (xs_h (xs_h (xs_h (xs_h (xs_h xs_n))))))))) (ih _ _ _ _ hF)
    · have hF := x_f hF (not_not_intro c26)
      refine g_ic (0) d_X12_laysThrough_29 ic_0 ?_
      refine g_goto 36 d_X12_laysThrough_30 rfl ?_
      obtain ⟨h36, e36, hF⟩ := Option.bind_eq_some_iff.mp hF
      refine q_sI d_X12_laysThrough_36 e36 ?_
      refine q_iinc (1) [.ref x0, xhole, .int x2, .int (x3 + 1), xhole, xhole, xhole, xhole, xhole] d_X12_laysThrough_37 ic_1 rfl (by decide) rfl ?_
      refine g_goto 7 d_X12_laysThrough_40 rfl ?_
      exact q_to (xs_r (xs_h (xs_r (xs_r (xs_h (xs_h (xs_h (xs_h (xs_h xs_n))))))))) (ih _ _ _ _ hF)
def F_X12_laysThrough (x0 : Nat) (x1 : Int32) (x2 : Int32) (h : xH) : Option (Int32 × xH) := (rc h x0 11).bind fun _ => (F_X12_laysHeardAll x0 x1 h).bind fun z2 => F_X12_laysThrough_b7 FU x0 x2 0 z2.2
theorem R_X12_laysThrough {Γ : xG} {l : Launch} {d : Nat} {r : Int32} {h' : xH} (x0 : Nat) (x1 : Int32) (x2 : Int32) (h : xH) (hdp : 6 ≤ d) (hF : F_X12_laysThrough x0 x1 x2 h = some (r, h')) : Gm Γ l d 0 0 m_X12_laysThrough [.ref x0, .int x1, .int x2] h (fun a u => a = some (.int r) ∧ u = h') := by
  refine Gm.of pn_X12 (Nat.le_of_ble_eq_true rfl) ?_
  show Gd Γ l d m_X12_laysThrough 0 [.ref x0, .int x1, .int x2, xhole, xhole, xhole, xhole, xhole, xhole] [] h 0 0 _
  generalize hQ : (fun (a : Option Value) (u : xH) => a = some (.int r) ∧ u = h') = Q
  have hq : Q (some (.int r)) h' := by rw [← hQ]; exact ⟨rfl, rfl⟩
  clear hQ
  unfold F_X12_laysThrough at hF
  refine g_aloadn d_X12_laysThrough_0 rfl ?_
  refine g_iloadn d_X12_laysThrough_1 rfl ?_
  obtain ⟨_, g2, hF⟩ := Option.bind_eq_some_iff.mp hF
  obtain ⟨⟨r2, h2⟩, e2, hF⟩ := Option.bind_eq_some_iff.mp hF
  try dsimp only at hF
  refine q_callV [.int x1] [] rfl d_X12_laysThrough_2 v_X12_415 (by omega) rfl (Nat.le_of_ble_eq_true rfl) (rc_rc g2 (by decide) rfl) (R_X12_laysHeardAll _ _ _ (by omega) e2) ?_
  refine g_ic (0) d_X12_laysThrough_5 ic_0 ?_
  refine q_istoren [.ref x0, .int x1, .int x2, .int 0, xhole, xhole, xhole, xhole, xhole] d_X12_laysThrough_6 (by decide) rfl ?_
  exact q_to (xs_r (xs_h (xs_r (xs_r (xs_h (xs_h (xs_h (xs_h (xs_h xs_n))))))))) (R_X12_laysThrough_b7 hdp hq FU _ _ _ _ hF)
theorem d_X12_through_0 : decode cX12_through 0 = .ok (.aload_n 0, 1) := by decide +kernel
theorem d_X12_through_1 : decode cX12_through 1 = .ok (.iconst 0, 1) := by decide +kernel
theorem d_X12_through_2 : decode cX12_through 2 = .ok (.putfield 1, 3) := by decide +kernel
theorem d_X12_through_5 : decode cX12_through 5 = .ok (.aload_n 0, 1) := by decide +kernel
theorem d_X12_through_6 : decode cX12_through 6 = .ok (.iload_n 1, 1) := by decide +kernel
theorem d_X12_through_7 : decode cX12_through 7 = .ok (.invokevirtual 268, 3) := by decide +kernel
theorem d_X12_through_10 : decode cX12_through 10 = .ok (.ifCond .eq 20, 3) := by decide +kernel
theorem d_X12_through_13 : decode cX12_through 13 = .ok (.aload_n 0, 1) := by decide +kernel
theorem d_X12_through_14 : decode cX12_through 14 = .ok (.iload_n 2, 1) := by decide +kernel
theorem d_X12_through_15 : decode cX12_through 15 = .ok (.invokevirtual 370, 3) := by decide +kernel
theorem d_X12_through_18 : decode cX12_through 18 = .ok (.ifCond .eq 12, 3) := by decide +kernel
theorem d_X12_through_21 : decode cX12_through 21 = .ok (.aload_n 0, 1) := by decide +kernel
theorem d_X12_through_22 : decode cX12_through 22 = .ok (.iload_n 1, 1) := by decide +kernel
theorem d_X12_through_23 : decode cX12_through 23 = .ok (.iload_n 2, 1) := by decide +kernel
theorem d_X12_through_24 : decode cX12_through 24 = .ok (.invokevirtual 428, 3) := by decide +kernel
theorem d_X12_through_27 : decode cX12_through 27 = .ok (.goto 5, 3) := by decide +kernel
theorem d_X12_through_30 : decode cX12_through 30 = .ok (.bipush (-3), 2) := by decide +kernel
theorem d_X12_through_32 : decode cX12_through 32 = .ok (.ireturn, 1) := by decide +kernel
def F_X12_through (x0 : Nat) (x1 : Int32) (x2 : Int32) (h : xH) : Option (Int32 × xH) := (wI h x0 11 0 0).bind fun h2 => (rc h2 x0 11).bind fun _ => (F_X12_isPeople x0 x1 h2).bind fun z7 => if z7.1 = 0 then some ((-3), z7.2) else (rc z7.2 x0 11).bind fun _ => (F_X12_isNotes x0 x2 z7.2).bind fun z15 => if z15.1 = 0 then some ((-3), z15.2) else (rc z15.2 x0 11).bind fun _ => (F_X12_laysThrough x0 x1 x2 z15.2).bind fun z24 => some (z24.1, z24.2)
theorem R_X12_through {Γ : xG} {l : Launch} {d : Nat} {r : Int32} {h' : xH} (x0 : Nat) (x1 : Int32) (x2 : Int32) (h : xH) (hdp : 7 ≤ d) (hF : F_X12_through x0 x1 x2 h = some (r, h')) : Gm Γ l d 0 0 m_X12_through [.ref x0, .int x1, .int x2] h (fun a u => a = some (.int r) ∧ u = h') := by
  refine Gm.of pn_X12 (Nat.le_of_ble_eq_true rfl) ?_
  show Gd Γ l d m_X12_through 0 [.ref x0, .int x1, .int x2] [] h 0 0 _
  generalize hQ : (fun (a : Option Value) (u : xH) => a = some (.int r) ∧ u = h') = Q
  have hq : Q (some (.int r)) h' := by rw [← hQ]; exact ⟨rfl, rfl⟩
  clear hQ
  unfold F_X12_through at hF
  refine g_aloadn d_X12_through_0 rfl ?_
  refine g_ic (0) d_X12_through_1 ic_0 ?_
  obtain ⟨h2, e2, hF⟩ := Option.bind_eq_some_iff.mp hF
  refine q_wI d_X12_through_2 (w_X12_1 _) e2 ?_
  refine g_aloadn d_X12_through_5 rfl ?_
  refine g_iloadn d_X12_through_6 rfl ?_
  obtain ⟨_, g7, hF⟩ := Option.bind_eq_some_iff.mp hF
  obtain ⟨⟨r7, h7⟩, e7, hF⟩ := Option.bind_eq_some_iff.mp hF
  try dsimp only at hF
  refine q_callV [.int x1] [] rfl d_X12_through_7 v_X12_268 (by omega) rfl (Nat.le_of_ble_eq_true rfl) (rc_rc g7 (by decide) rfl) (R_X12_isPeople _ _ _ (by omega) e7) ?_
  refine g_if_eq 30 d_X12_through_10 rfl (fun c10 => ?_) (fun c10 => ?_)
  · have hF := x_t hF c10
    refine g_bi (-3) d_X12_through_30 bi_m3 ?_
    obtain ⟨rfl, rfl⟩ := x_inj hF
    exact g_iret d_X12_through_32 rfl hq
  · have hF := x_f hF c10
    refine g_aloadn d_X12_through_13 rfl ?_
    refine g_iloadn d_X12_through_14 rfl ?_
    obtain ⟨_, g15, hF⟩ := Option.bind_eq_some_iff.mp hF
    obtain ⟨⟨r15, h15⟩, e15, hF⟩ := Option.bind_eq_some_iff.mp hF
    try dsimp only at hF
    refine q_callV [.int x2] [] rfl d_X12_through_15 v_X12_370 (by omega) rfl (Nat.le_of_ble_eq_true rfl) (rc_rc g15 (by decide) rfl) (R_X12_isNotes _ _ _ (by omega) e15) ?_
    refine g_if_eq 30 d_X12_through_18 rfl (fun c18 => ?_) (fun c18 => ?_)
    · have hF := x_t hF c18
      refine g_bi (-3) d_X12_through_30 bi_m3 ?_
      obtain ⟨rfl, rfl⟩ := x_inj hF
      exact g_iret d_X12_through_32 rfl hq
    · have hF := x_f hF c18
      refine g_aloadn d_X12_through_21 rfl ?_
      refine g_iloadn d_X12_through_22 rfl ?_
      refine g_iloadn d_X12_through_23 rfl ?_
      obtain ⟨_, g24, hF⟩ := Option.bind_eq_some_iff.mp hF
      obtain ⟨⟨r24, h24⟩, e24, hF⟩ := Option.bind_eq_some_iff.mp hF
      try dsimp only at hF
      refine q_callV [.int x1, .int x2] [] rfl d_X12_through_24 v_X12_428 (by omega) rfl (Nat.le_of_ble_eq_true rfl) (rc_rc g24 (by decide) rfl) (R_X12_laysThrough _ _ _ _ (by omega) e24) ?_
      refine g_goto 32 d_X12_through_27 rfl ?_
      obtain ⟨rfl, rfl⟩ := x_inj hF
      exact g_iret d_X12_through_32 rfl hq
theorem d_X12_throughNote_0 : decode cX12_throughNote 0 = .ok (.aload_n 0, 1) := by decide +kernel
theorem d_X12_throughNote_1 : decode cX12_throughNote 1 = .ok (.iconst 0, 1) := by decide +kernel
theorem d_X12_throughNote_2 : decode cX12_throughNote 2 = .ok (.putfield 1, 3) := by decide +kernel
theorem d_X12_throughNote_5 : decode cX12_throughNote 5 = .ok (.aload_n 0, 1) := by decide +kernel
theorem d_X12_throughNote_6 : decode cX12_throughNote 6 = .ok (.iload_n 1, 1) := by decide +kernel
theorem d_X12_throughNote_7 : decode cX12_throughNote 7 = .ok (.invokevirtual 268, 3) := by decide +kernel
theorem d_X12_throughNote_10 : decode cX12_throughNote 10 = .ok (.ifCond .eq 15, 3) := by decide +kernel
theorem d_X12_throughNote_13 : decode cX12_throughNote 13 = .ok (.aload_n 0, 1) := by decide +kernel
theorem d_X12_throughNote_14 : decode cX12_throughNote 14 = .ok (.iload_n 2, 1) := by decide +kernel
theorem d_X12_throughNote_15 : decode cX12_throughNote 15 = .ok (.invokevirtual 370, 3) := by decide +kernel
theorem d_X12_throughNote_18 : decode cX12_throughNote 18 = .ok (.ifCond .eq 7, 3) := by decide +kernel
theorem d_X12_throughNote_21 : decode cX12_throughNote 21 = .ok (.iload_n 3, 1) := by decide +kernel
theorem d_X12_throughNote_22 : decode cX12_throughNote 22 = .ok (.ifCond .ge 6, 3) := by decide +kernel
theorem d_X12_throughNote_25 : decode cX12_throughNote 25 = .ok (.bipush (-3), 2) := by decide +kernel
theorem d_X12_throughNote_27 : decode cX12_throughNote 27 = .ok (.ireturn, 1) := by decide +kernel
theorem d_X12_throughNote_28 : decode cX12_throughNote 28 = .ok (.iload_n 3, 1) := by decide +kernel
theorem d_X12_throughNote_29 : decode cX12_throughNote 29 = .ok (.aload_n 0, 1) := by decide +kernel
theorem d_X12_throughNote_30 : decode cX12_throughNote 30 = .ok (.iload_n 1, 1) := by decide +kernel
theorem d_X12_throughNote_31 : decode cX12_throughNote 31 = .ok (.iload_n 2, 1) := by decide +kernel
theorem d_X12_throughNote_32 : decode cX12_throughNote 32 = .ok (.invokevirtual 428, 3) := by decide +kernel
theorem d_X12_throughNote_35 : decode cX12_throughNote 35 = .ok (.if_icmp .ge 12, 3) := by decide +kernel
theorem d_X12_throughNote_38 : decode cX12_throughNote 38 = .ok (.aload_n 0, 1) := by decide +kernel
theorem d_X12_throughNote_39 : decode cX12_throughNote 39 = .ok (.getfield 60, 3) := by decide +kernel
theorem d_X12_throughNote_42 : decode cX12_throughNote 42 = .ok (.iload_n 3, 1) := by decide +kernel
theorem d_X12_throughNote_43 : decode cX12_throughNote 43 = .ok (.iaload, 1) := by decide +kernel
theorem d_X12_throughNote_44 : decode cX12_throughNote 44 = .ok (.goto 4, 3) := by decide +kernel
theorem d_X12_throughNote_47 : decode cX12_throughNote 47 = .ok (.iconst (-1), 1) := by decide +kernel
theorem d_X12_throughNote_48 : decode cX12_throughNote 48 = .ok (.ireturn, 1) := by decide +kernel
def F_X12_throughNote (x0 : Nat) (x1 : Int32) (x2 : Int32) (x3 : Int32) (h : xH) : Option (Int32 × xH) := (wI h x0 11 0 0).bind fun h2 => (rc h2 x0 11).bind fun _ => (F_X12_isPeople x0 x1 h2).bind fun z7 => if z7.1 = 0 then some ((-3), z7.2) else (rc z7.2 x0 11).bind fun _ => (F_X12_isNotes x0 x2 z7.2).bind fun z15 => if z15.1 = 0 then some ((-3), z15.2) else if 0 ≤ x3 then (rc z15.2 x0 11).bind fun _ => (F_X12_laysThrough x0 x1 x2 z15.2).bind fun z32 => if z32.1 ≤ x3 then some ((-1), z32.2) else (fR z32.2 x0 11 29).bind fun v39 => (aI z32.2 v39 x3).bind fun v43 => some (v43, z32.2) else some ((-3), z15.2)
theorem R_X12_throughNote {Γ : xG} {l : Launch} {d : Nat} {r : Int32} {h' : xH} (x0 : Nat) (x1 : Int32) (x2 : Int32) (x3 : Int32) (h : xH) (hdp : 7 ≤ d) (hF : F_X12_throughNote x0 x1 x2 x3 h = some (r, h')) : Gm Γ l d 0 0 m_X12_throughNote [.ref x0, .int x1, .int x2, .int x3] h (fun a u => a = some (.int r) ∧ u = h') := by
  refine Gm.of pn_X12 (Nat.le_of_ble_eq_true rfl) ?_
  show Gd Γ l d m_X12_throughNote 0 [.ref x0, .int x1, .int x2, .int x3] [] h 0 0 _
  generalize hQ : (fun (a : Option Value) (u : xH) => a = some (.int r) ∧ u = h') = Q
  have hq : Q (some (.int r)) h' := by rw [← hQ]; exact ⟨rfl, rfl⟩
  clear hQ
  unfold F_X12_throughNote at hF
  refine g_aloadn d_X12_throughNote_0 rfl ?_
  refine g_ic (0) d_X12_throughNote_1 ic_0 ?_
  obtain ⟨h2, e2, hF⟩ := Option.bind_eq_some_iff.mp hF
  refine q_wI d_X12_throughNote_2 (w_X12_1 _) e2 ?_
  refine g_aloadn d_X12_throughNote_5 rfl ?_
  refine g_iloadn d_X12_throughNote_6 rfl ?_
  obtain ⟨_, g7, hF⟩ := Option.bind_eq_some_iff.mp hF
  obtain ⟨⟨r7, h7⟩, e7, hF⟩ := Option.bind_eq_some_iff.mp hF
  try dsimp only at hF
  refine q_callV [.int x1] [] rfl d_X12_throughNote_7 v_X12_268 (by omega) rfl (Nat.le_of_ble_eq_true rfl) (rc_rc g7 (by decide) rfl) (R_X12_isPeople _ _ _ (by omega) e7) ?_
  refine g_if_eq 25 d_X12_throughNote_10 rfl (fun c10 => ?_) (fun c10 => ?_)
  · have hF := x_t hF c10
    refine g_bi (-3) d_X12_throughNote_25 bi_m3 ?_
    obtain ⟨rfl, rfl⟩ := x_inj hF
    exact g_iret d_X12_throughNote_27 rfl hq
  · have hF := x_f hF c10
    refine g_aloadn d_X12_throughNote_13 rfl ?_
    refine g_iloadn d_X12_throughNote_14 rfl ?_
    obtain ⟨_, g15, hF⟩ := Option.bind_eq_some_iff.mp hF
    obtain ⟨⟨r15, h15⟩, e15, hF⟩ := Option.bind_eq_some_iff.mp hF
    try dsimp only at hF
    refine q_callV [.int x2] [] rfl d_X12_throughNote_15 v_X12_370 (by omega) rfl (Nat.le_of_ble_eq_true rfl) (rc_rc g15 (by decide) rfl) (R_X12_isNotes _ _ _ (by omega) e15) ?_
    refine g_if_eq 25 d_X12_throughNote_18 rfl (fun c18 => ?_) (fun c18 => ?_)
    · have hF := x_t hF c18
      refine g_bi (-3) d_X12_throughNote_25 bi_m3 ?_
      obtain ⟨rfl, rfl⟩ := x_inj hF
      exact g_iret d_X12_throughNote_27 rfl hq
    · have hF := x_f hF c18
      refine g_iloadn d_X12_throughNote_21 rfl ?_
      refine g_if_ge 28 d_X12_throughNote_22 rfl (fun c22 => ?_) (fun c22 => ?_)
      · have hF := x_t hF c22
        refine g_iloadn d_X12_throughNote_28 rfl ?_
        refine g_aloadn d_X12_throughNote_29 rfl ?_
        refine g_iloadn d_X12_throughNote_30 rfl ?_
        refine g_iloadn d_X12_throughNote_31 rfl ?_
        obtain ⟨_, g32, hF⟩ := Option.bind_eq_some_iff.mp hF
        obtain ⟨⟨r32, h32⟩, e32, hF⟩ := Option.bind_eq_some_iff.mp hF
        try dsimp only at hF
        refine q_callV [.int x1, .int x2] [.int x3] rfl d_X12_throughNote_32 v_X12_428 (by omega) rfl (Nat.le_of_ble_eq_true rfl) (rc_rc g32 (by decide) rfl) (R_X12_laysThrough _ _ _ _ (by omega) e32) ?_
        refine g_icmp_ge 47 d_X12_throughNote_35 rfl (fun c35 => ?_) (fun c35 => ?_)
        · have hF := x_t hF c35
          refine g_ic (-1) d_X12_throughNote_47 ic_m1 ?_
          obtain ⟨rfl, rfl⟩ := x_inj hF
          exact g_iret d_X12_throughNote_48 rfl hq
        · have hF := x_f hF c35
          refine g_aloadn d_X12_throughNote_38 rfl ?_
          obtain ⟨v39, e39, hF⟩ := Option.bind_eq_some_iff.mp hF
          refine q_fR d_X12_throughNote_39 f_X12_60 e39 ?_
          refine g_iloadn d_X12_throughNote_42 rfl ?_
          obtain ⟨v43, e43, hF⟩ := Option.bind_eq_some_iff.mp hF
          refine q_aI d_X12_throughNote_43 e43 ?_
          refine g_goto 48 d_X12_throughNote_44 rfl ?_
          obtain ⟨rfl, rfl⟩ := x_inj hF
          exact g_iret d_X12_throughNote_48 rfl hq
      · have hF := x_f hF c22
        refine g_bi (-3) d_X12_throughNote_25 bi_m3 ?_
        obtain ⟨rfl, rfl⟩ := x_inj hF
        exact g_iret d_X12_throughNote_27 rfl hq
theorem d_X12_tunes_0 : decode cX12_tunes 0 = .ok (.aload_n 0, 1) := by decide +kernel
theorem d_X12_tunes_1 : decode cX12_tunes 1 = .ok (.iconst 0, 1) := by decide +kernel
theorem d_X12_tunes_2 : decode cX12_tunes 2 = .ok (.putfield 1, 3) := by decide +kernel
theorem d_X12_tunes_5 : decode cX12_tunes 5 = .ok (.aload_n 0, 1) := by decide +kernel
theorem d_X12_tunes_6 : decode cX12_tunes 6 = .ok (.iload_n 1, 1) := by decide +kernel
theorem d_X12_tunes_7 : decode cX12_tunes 7 = .ok (.invokevirtual 268, 3) := by decide +kernel
theorem d_X12_tunes_10 : decode cX12_tunes 10 = .ok (.ifCond .eq 15, 3) := by decide +kernel
theorem d_X12_tunes_13 : decode cX12_tunes 13 = .ok (.iload_n 2, 1) := by decide +kernel
theorem d_X12_tunes_14 : decode cX12_tunes 14 = .ok (.i2l, 1) := by decide +kernel
theorem d_X12_tunes_15 : decode cX12_tunes 15 = .ok (.lconst 1, 1) := by decide +kernel
theorem d_X12_tunes_16 : decode cX12_tunes 16 = .ok (.ldc2_w 157, 3) := by decide +kernel
theorem d_X12_tunes_19 : decode cX12_tunes 19 = .ok (.invokestatic 148, 3) := by decide +kernel
theorem d_X12_tunes_22 : decode cX12_tunes 22 = .ok (.ifCond .ne 7, 3) := by decide +kernel
theorem d_X12_tunes_25 : decode cX12_tunes 25 = .ok (.ldc2_w 431, 3) := by decide +kernel
theorem d_X12_tunes_28 : decode cX12_tunes 28 = .ok (.lreturn, 1) := by decide +kernel
theorem d_X12_tunes_29 : decode cX12_tunes 29 = .ok (.aload_n 0, 1) := by decide +kernel
theorem d_X12_tunes_30 : decode cX12_tunes 30 = .ok (.iload_n 1, 1) := by decide +kernel
theorem d_X12_tunes_31 : decode cX12_tunes 31 = .ok (.invokevirtual 415, 3) := by decide +kernel
theorem d_X12_tunes_34 : decode cX12_tunes 34 = .ok (.iconst 0, 1) := by decide +kernel
theorem d_X12_tunes_35 : decode cX12_tunes 35 = .ok (.istore_n 3, 1) := by decide +kernel
theorem d_X12_tunes_36 : decode cX12_tunes 36 = .ok (.iload_n 3, 1) := by decide +kernel
theorem d_X12_tunes_37 : decode cX12_tunes 37 = .ok (.aload_n 0, 1) := by decide +kernel
theorem d_X12_tunes_38 : decode cX12_tunes 38 = .ok (.getfield 13, 3) := by decide +kernel
theorem d_X12_tunes_41 : decode cX12_tunes 41 = .ok (.iconst 1, 1) := by decide +kernel
theorem d_X12_tunes_42 : decode cX12_tunes 42 = .ok (.iaload, 1) := by decide +kernel
theorem d_X12_tunes_43 : decode cX12_tunes 43 = .ok (.if_icmp .ge 32, 3) := by decide +kernel
theorem d_X12_tunes_46 : decode cX12_tunes 46 = .ok (.aload_n 0, 1) := by decide +kernel
theorem d_X12_tunes_47 : decode cX12_tunes 47 = .ok (.getfield 63, 3) := by decide +kernel
theorem d_X12_tunes_50 : decode cX12_tunes 50 = .ok (.iload_n 3, 1) := by decide +kernel
theorem d_X12_tunes_51 : decode cX12_tunes 51 = .ok (.aload_n 0, 1) := by decide +kernel
theorem d_X12_tunes_52 : decode cX12_tunes 52 = .ok (.getfield 403, 3) := by decide +kernel
theorem d_X12_tunes_55 : decode cX12_tunes 55 = .ok (.i2l, 1) := by decide +kernel
theorem d_X12_tunes_56 : decode cX12_tunes 56 = .ok (.iload_n 3, 1) := by decide +kernel
theorem d_X12_tunes_57 : decode cX12_tunes 57 = .ok (.invokestatic 228, 3) := by decide +kernel
theorem d_X12_tunes_60 : decode cX12_tunes 60 = .ok (.ifCond .eq 7, 3) := by decide +kernel
theorem d_X12_tunes_63 : decode cX12_tunes 63 = .ok (.lconst 1, 1) := by decide +kernel
theorem d_X12_tunes_64 : decode cX12_tunes 64 = .ok (.goto 4, 3) := by decide +kernel
theorem d_X12_tunes_67 : decode cX12_tunes 67 = .ok (.lconst 0, 1) := by decide +kernel
theorem d_X12_tunes_68 : decode cX12_tunes 68 = .ok (.lastore, 1) := by decide +kernel
theorem d_X12_tunes_69 : decode cX12_tunes 69 = .ok (.iinc 3 1, 3) := by decide +kernel
theorem d_X12_tunes_72 : decode cX12_tunes 72 = .ok (.goto (-36), 3) := by decide +kernel
theorem d_X12_tunes_75 : decode cX12_tunes 75 = .ok (.iconst 1, 1) := by decide +kernel
theorem d_X12_tunes_76 : decode cX12_tunes 76 = .ok (.istore_n 3, 1) := by decide +kernel
theorem d_X12_tunes_77 : decode cX12_tunes 77 = .ok (.iload_n 3, 1) := by decide +kernel
theorem d_X12_tunes_78 : decode cX12_tunes 78 = .ok (.iload_n 2, 1) := by decide +kernel
theorem d_X12_tunes_79 : decode cX12_tunes 79 = .ok (.if_icmp .ge 135, 3) := by decide +kernel
theorem d_X12_tunes_82 : decode cX12_tunes 82 = .ok (.iconst 0, 1) := by decide +kernel
theorem d_X12_tunes_83 : decode cX12_tunes 83 = .ok (.istore 4, 2) := by decide +kernel
theorem d_X12_tunes_85 : decode cX12_tunes 85 = .ok (.iload 4, 2) := by decide +kernel
theorem d_X12_tunes_87 : decode cX12_tunes 87 = .ok (.aload_n 0, 1) := by decide +kernel
theorem d_X12_tunes_88 : decode cX12_tunes 88 = .ok (.getfield 13, 3) := by decide +kernel
theorem d_X12_tunes_91 : decode cX12_tunes 91 = .ok (.iconst 1, 1) := by decide +kernel
theorem d_X12_tunes_92 : decode cX12_tunes 92 = .ok (.iaload, 1) := by decide +kernel
theorem d_X12_tunes_93 : decode cX12_tunes 93 = .ok (.if_icmp .ge 81, 3) := by decide +kernel
theorem d_X12_tunes_96 : decode cX12_tunes 96 = .ok (.aload_n 0, 1) := by decide +kernel
theorem d_X12_tunes_97 : decode cX12_tunes 97 = .ok (.getfield 67, 3) := by decide +kernel
theorem d_X12_tunes_100 : decode cX12_tunes 100 = .ok (.iload 4, 2) := by decide +kernel
theorem d_X12_tunes_102 : decode cX12_tunes 102 = .ok (.lconst 0, 1) := by decide +kernel
theorem d_X12_tunes_103 : decode cX12_tunes 103 = .ok (.lastore, 1) := by decide +kernel
theorem d_X12_tunes_104 : decode cX12_tunes 104 = .ok (.iconst 0, 1) := by decide +kernel
theorem d_X12_tunes_105 : decode cX12_tunes 105 = .ok (.istore 5, 2) := by decide +kernel
theorem d_X12_tunes_107 : decode cX12_tunes 107 = .ok (.iload 5, 2) := by decide +kernel
theorem d_X12_tunes_109 : decode cX12_tunes 109 = .ok (.aload_n 0, 1) := by decide +kernel
theorem d_X12_tunes_110 : decode cX12_tunes 110 = .ok (.getfield 13, 3) := by decide +kernel
theorem d_X12_tunes_113 : decode cX12_tunes 113 = .ok (.iconst 1, 1) := by decide +kernel
theorem d_X12_tunes_114 : decode cX12_tunes 114 = .ok (.iaload, 1) := by decide +kernel
theorem d_X12_tunes_115 : decode cX12_tunes 115 = .ok (.if_icmp .ge 53, 3) := by decide +kernel
theorem d_X12_tunes_118 : decode cX12_tunes 118 = .ok (.aload_n 0, 1) := by decide +kernel
theorem d_X12_tunes_119 : decode cX12_tunes 119 = .ok (.getfield 67, 3) := by decide +kernel
theorem d_X12_tunes_122 : decode cX12_tunes 122 = .ok (.iload 4, 2) := by decide +kernel
theorem d_X12_tunes_124 : decode cX12_tunes 124 = .ok (.dup2, 1) := by decide +kernel
theorem d_X12_tunes_125 : decode cX12_tunes 125 = .ok (.laload, 1) := by decide +kernel
theorem d_X12_tunes_126 : decode cX12_tunes 126 = .ok (.aload_n 0, 1) := by decide +kernel
theorem d_X12_tunes_127 : decode cX12_tunes 127 = .ok (.getfield 63, 3) := by decide +kernel
theorem d_X12_tunes_130 : decode cX12_tunes 130 = .ok (.iload 5, 2) := by decide +kernel
theorem d_X12_tunes_132 : decode cX12_tunes 132 = .ok (.laload, 1) := by decide +kernel
theorem d_X12_tunes_133 : decode cX12_tunes 133 = .ok (.lconst 0, 1) := by decide +kernel
theorem d_X12_tunes_134 : decode cX12_tunes 134 = .ok (.lcmp, 1) := by decide +kernel
theorem d_X12_tunes_135 : decode cX12_tunes 135 = .ok (.ifCond .le 24, 3) := by decide +kernel
theorem d_X12_tunes_138 : decode cX12_tunes 138 = .ok (.aload_n 0, 1) := by decide +kernel
theorem d_X12_tunes_139 : decode cX12_tunes 139 = .ok (.iload 5, 2) := by decide +kernel
theorem d_X12_tunes_141 : decode cX12_tunes 141 = .ok (.iload 4, 2) := by decide +kernel
theorem d_X12_tunes_143 : decode cX12_tunes 143 = .ok (.invokevirtual 409, 3) := by decide +kernel
theorem d_X12_tunes_146 : decode cX12_tunes 146 = .ok (.ifCond .eq 13, 3) := by decide +kernel
theorem d_X12_tunes_149 : decode cX12_tunes 149 = .ok (.aload_n 0, 1) := by decide +kernel
theorem d_X12_tunes_150 : decode cX12_tunes 150 = .ok (.getfield 63, 3) := by decide +kernel
theorem d_X12_tunes_153 : decode cX12_tunes 153 = .ok (.iload 5, 2) := by decide +kernel
theorem d_X12_tunes_155 : decode cX12_tunes 155 = .ok (.laload, 1) := by decide +kernel
theorem d_X12_tunes_156 : decode cX12_tunes 156 = .ok (.goto 4, 3) := by decide +kernel
theorem d_X12_tunes_159 : decode cX12_tunes 159 = .ok (.lconst 0, 1) := by decide +kernel
theorem d_X12_tunes_160 : decode cX12_tunes 160 = .ok (.ladd, 1) := by decide +kernel
theorem d_X12_tunes_161 : decode cX12_tunes 161 = .ok (.lastore, 1) := by decide +kernel
theorem d_X12_tunes_162 : decode cX12_tunes 162 = .ok (.iinc 5 1, 3) := by decide +kernel
theorem d_X12_tunes_165 : decode cX12_tunes 165 = .ok (.goto (-58), 3) := by decide +kernel
theorem d_X12_tunes_168 : decode cX12_tunes 168 = .ok (.iinc 4 1, 3) := by decide +kernel
theorem d_X12_tunes_171 : decode cX12_tunes 171 = .ok (.goto (-86), 3) := by decide +kernel
theorem d_X12_tunes_174 : decode cX12_tunes 174 = .ok (.iconst 0, 1) := by decide +kernel
theorem d_X12_tunes_175 : decode cX12_tunes 175 = .ok (.istore 4, 2) := by decide +kernel
theorem d_X12_tunes_177 : decode cX12_tunes 177 = .ok (.iload 4, 2) := by decide +kernel
theorem d_X12_tunes_179 : decode cX12_tunes 179 = .ok (.aload_n 0, 1) := by decide +kernel
theorem d_X12_tunes_180 : decode cX12_tunes 180 = .ok (.getfield 13, 3) := by decide +kernel
theorem d_X12_tunes_183 : decode cX12_tunes 183 = .ok (.iconst 1, 1) := by decide +kernel
theorem d_X12_tunes_184 : decode cX12_tunes 184 = .ok (.iaload, 1) := by decide +kernel
theorem d_X12_tunes_185 : decode cX12_tunes 185 = .ok (.if_icmp .ge 23, 3) := by decide +kernel
theorem d_X12_tunes_188 : decode cX12_tunes 188 = .ok (.aload_n 0, 1) := by decide +kernel
theorem d_X12_tunes_189 : decode cX12_tunes 189 = .ok (.getfield 63, 3) := by decide +kernel
theorem d_X12_tunes_192 : decode cX12_tunes 192 = .ok (.iload 4, 2) := by decide +kernel
theorem d_X12_tunes_194 : decode cX12_tunes 194 = .ok (.aload_n 0, 1) := by decide +kernel
theorem d_X12_tunes_195 : decode cX12_tunes 195 = .ok (.getfield 67, 3) := by decide +kernel
theorem d_X12_tunes_198 : decode cX12_tunes 198 = .ok (.iload 4, 2) := by decide +kernel
theorem d_X12_tunes_200 : decode cX12_tunes 200 = .ok (.laload, 1) := by decide +kernel
theorem d_X12_tunes_201 : decode cX12_tunes 201 = .ok (.lastore, 1) := by decide +kernel
theorem d_X12_tunes_202 : decode cX12_tunes 202 = .ok (.iinc 4 1, 3) := by decide +kernel
theorem d_X12_tunes_205 : decode cX12_tunes 205 = .ok (.goto (-28), 3) := by decide +kernel
theorem d_X12_tunes_208 : decode cX12_tunes 208 = .ok (.iinc 3 1, 3) := by decide +kernel
theorem d_X12_tunes_211 : decode cX12_tunes 211 = .ok (.goto (-134), 3) := by decide +kernel
theorem d_X12_tunes_214 : decode cX12_tunes 214 = .ok (.lconst 0, 1) := by decide +kernel
theorem d_X12_tunes_215 : decode cX12_tunes 215 = .ok (.lstore_n 3, 1) := by decide +kernel
theorem d_X12_tunes_216 : decode cX12_tunes 216 = .ok (.iconst 0, 1) := by decide +kernel
theorem d_X12_tunes_217 : decode cX12_tunes 217 = .ok (.istore 5, 2) := by decide +kernel
theorem d_X12_tunes_219 : decode cX12_tunes 219 = .ok (.iload 5, 2) := by decide +kernel
theorem d_X12_tunes_221 : decode cX12_tunes 221 = .ok (.aload_n 0, 1) := by decide +kernel
theorem d_X12_tunes_222 : decode cX12_tunes 222 = .ok (.getfield 13, 3) := by decide +kernel
theorem d_X12_tunes_225 : decode cX12_tunes 225 = .ok (.iconst 1, 1) := by decide +kernel
theorem d_X12_tunes_226 : decode cX12_tunes 226 = .ok (.iaload, 1) := by decide +kernel
theorem d_X12_tunes_227 : decode cX12_tunes 227 = .ok (.if_icmp .ge 19, 3) := by decide +kernel
theorem d_X12_tunes_230 : decode cX12_tunes 230 = .ok (.lload_n 3, 1) := by decide +kernel
theorem d_X12_tunes_231 : decode cX12_tunes 231 = .ok (.aload_n 0, 1) := by decide +kernel
theorem d_X12_tunes_232 : decode cX12_tunes 232 = .ok (.getfield 63, 3) := by decide +kernel
theorem d_X12_tunes_235 : decode cX12_tunes 235 = .ok (.iload 5, 2) := by decide +kernel
theorem d_X12_tunes_237 : decode cX12_tunes 237 = .ok (.laload, 1) := by decide +kernel
theorem d_X12_tunes_238 : decode cX12_tunes 238 = .ok (.ladd, 1) := by decide +kernel
theorem d_X12_tunes_239 : decode cX12_tunes 239 = .ok (.lstore_n 3, 1) := by decide +kernel
theorem d_X12_tunes_240 : decode cX12_tunes 240 = .ok (.iinc 5 1, 3) := by decide +kernel
theorem d_X12_tunes_243 : decode cX12_tunes 243 = .ok (.goto (-24), 3) := by decide +kernel
theorem d_X12_tunes_246 : decode cX12_tunes 246 = .ok (.lload_n 3, 1) := by decide +kernel
theorem d_X12_tunes_247 : decode cX12_tunes 247 = .ok (.lreturn, 1) := by decide +kernel
def F_X12_tunes_b219 : Nat → Nat → Int64 → Int32 → xH → Option (Int64 × xH)
  | 0, _, _, _, _ => none
  | n + 1, x0, x3, x5, h => (fR h x0 11 1).bind fun v222 => (aI h v222 1).bind fun v226 => if v226 ≤ x5 then some (x3, h) else (fR h x0 11 31).bind fun v232 => (aJ h v232 x5).bind fun v237 => F_X12_tunes_b219 n x0 (x3 + v237) (x5 + 1) h
theorem R_X12_tunes_b219 {Γ : xG} {l : Launch} {d : Nat} {Q : Option Value → xH → Prop} {r : Int64} {h' : xH} (hdp : 6 ≤ d) (hq : Q (some (.long r)) h') : ∀ (n : Nat) (x0 : Nat) (x3 : Int64) (x5 : Int32) (h : xH), F_X12_tunes_b219 n x0 x3 x5 h = some (r, h') → Gd Γ l d m_X12_tunes 219 [.ref x0, xhole, xhole, .long x3, xhole, .int x5] [] h 0 0 Q := by
  intro n
  induction n with
  | zero => intro x0 x3 x5 h hF; cases hF
  | succ n ih =>
  intro x0 x3 x5 h hF
  rw [F_X12_tunes_b219] at hF
  refine g_iload d_X12_tunes_219 rfl ?_
  refine g_aloadn d_X12_tunes_221 rfl ?_
  obtain ⟨v222, e222, hF⟩ := Option.bind_eq_some_iff.mp hF
  refine q_fR d_X12_tunes_222 f_X12_13 e222 ?_
  refine g_ic (1) d_X12_tunes_225 ic_1 ?_
  obtain ⟨v226, e226, hF⟩ := Option.bind_eq_some_iff.mp hF
  refine q_aI d_X12_tunes_226 e226 ?_
  refine g_icmp_ge 246 d_X12_tunes_227 rfl (fun c227 => ?_) (fun c227 => ?_)
  · have hF := x_t hF c227
    refine g_lloadn d_X12_tunes_246 rfl ?_
    obtain ⟨rfl, rfl⟩ := x_inj hF
    exact g_lret d_X12_tunes_247 rfl hq
  · have hF := x_f hF c227
    refine g_lloadn d_X12_tunes_230 rfl ?_
    refine g_aloadn d_X12_tunes_231 rfl ?_
    obtain ⟨v232, e232, hF⟩ := Option.bind_eq_some_iff.mp hF
    refine q_fR d_X12_tunes_232 f_X12_63 e232 ?_
    refine g_iload d_X12_tunes_235 rfl ?_
    obtain ⟨v237, e237, hF⟩ := Option.bind_eq_some_iff.mp hF
    refine q_aJ d_X12_tunes_237 e237 ?_
    refine g_ladd d_X12_tunes_238 ?_
    refine q_lstoren [.ref x0, xhole, xhole, .long (x3 + v237), xhole, .int x5] d_X12_tunes_239 (by decide) rfl ?_
    refine q_iinc (1) [.ref x0, xhole, xhole, .long (x3 + v237), xhole, .int (x5 + 1)] d_X12_tunes_240 ic_1 rfl (by decide) rfl ?_
    refine g_goto 219 d_X12_tunes_243 rfl ?_
    exact q_to (xs_r (xs_h (xs_h (xs_r (xs_h (xs_r xs_n)))))) (ih _ _ _ _ hF)
def F_X12_tunes_b177 (k77 : Nat → Int32 → Int32 → xH → Option (Int64 × xH)) : Nat → Nat → Int32 → Int32 → Int32 → xH → Option (Int64 × xH)
  | 0, _, _, _, _, _ => none
  | n + 1, x0, x2, x3, x4, h => (fR h x0 11 1).bind fun v180 => (aI h v180 1).bind fun v184 => if v184 ≤ x4 then k77 x0 x2 (x3 + 1) h else (fR h x0 11 31).bind fun v189 => (fR h x0 11 32).bind fun v195 => (aJ h v195 x4).bind fun v200 => (sJ h v189 x4 v200).bind fun h201 => F_X12_tunes_b177 k77 n x0 x2 x3 (x4 + 1) h201
theorem R_X12_tunes_b177 {Γ : xG} {l : Launch} {d : Nat} {Q : Option Value → xH → Prop} {r : Int64} {h' : xH} {k77 : Nat → Int32 → Int32 → xH → Option (Int64 × xH)} (K77 : ∀ (x0 : Nat) (x2 : Int32) (x3 : Int32)  (h : xH), k77 x0 x2 x3 h = some (r, h') → Gd Γ l d m_X12_tunes 77 [.ref x0, xhole, .int x2, .int x3, xhole, xhole] [] h 0 0 Q) (hdp : 6 ≤ d) (hq : Q (some (.long r)) h') : ∀ (n : Nat) (x0 : Nat) (x2 : Int32) (x3 : Int32) (x4 : Int32) (h : xH), F_X12_tunes_b177 k77 n x0 x2 x3 x4 h = some (r, h') → Gd Γ l d m_X12_tunes 177 [.ref x0, xhole, .int x2, .int x3, .int x4, xhole] [] h 0 0 Q := by
  intro n
  induction n with
  | zero => intro x0 x2 x3 x4 h hF; cases hF
  | succ n ih =>
  intro x0 x2 x3 x4 h hF
  rw [F_X12_tunes_b177] at hF
  refine g_iload d_X12_tunes_177 rfl ?_
  refine g_aloadn d_X12_tunes_179 rfl ?_
  obtain ⟨v180, e180, hF⟩ := Option.bind_eq_some_iff.mp hF
  refine q_fR d_X12_tunes_180 f_X12_13 e180 ?_
  refine g_ic (1) d_X12_tunes_183 ic_1 ?_
  obtain ⟨v184, e184, hF⟩ := Option.bind_eq_some_iff.mp hF
  refine q_aI d_X12_tunes_184 e184 ?_
  refine g_icmp_ge 208 d_X12_tunes_185 rfl (fun c185 => ?_) (fun c185 => ?_)
  · have hF := x_t hF c185
    refine q_iinc (1) [.ref x0, xhole, .int x2, .int (x3 + 1), .int x4, xhole] d_X12_tunes_208 ic_1 rfl (by decide) rfl ?_
    refine g_goto 77 d_X12_tunes_211 rfl ?_
    exact q_to (xs_r (xs_h (xs_r (xs_r (xs_h (xs_h xs_n)))))) (K77 _ _ _ _ hF)
  · have hF := x_f hF c185
    refine g_aloadn d_X12_tunes_188 rfl ?_
    obtain ⟨v189, e189, hF⟩ := Option.bind_eq_some_iff.mp hF
    refine q_fR d_X12_tunes_189 f_X12_63 e189 ?_
    refine g_iload d_X12_tunes_192 rfl ?_
    refine g_aloadn d_X12_tunes_194 rfl ?_
    obtain ⟨v195, e195, hF⟩ := Option.bind_eq_some_iff.mp hF
    refine q_fR d_X12_tunes_195 f_X12_67 e195 ?_
    refine g_iload d_X12_tunes_198 rfl ?_
    obtain ⟨v200, e200, hF⟩ := Option.bind_eq_some_iff.mp hF
    refine q_aJ d_X12_tunes_200 e200 ?_
    obtain ⟨h201, e201, hF⟩ := Option.bind_eq_some_iff.mp hF
    refine q_sJ d_X12_tunes_201 e201 ?_
    refine q_iinc (1) [.ref x0, xhole, .int x2, .int x3, .int (x4 + 1), xhole] d_X12_tunes_202 ic_1 rfl (by decide) rfl ?_
    refine g_goto 177 d_X12_tunes_205 rfl ?_
    exact q_to (xs_r (xs_h (xs_r (xs_r (xs_r (xs_h xs_n)))))) (ih _ _ _ _ _ hF)
def F_X12_tunes_b160 (k77 : Nat → Int32 → Int32 → xH → Option (Int64 × xH)) (k85 : Nat → Int32 → Int32 → Int32 → xH → Option (Int64 × xH)) (k107 : Nat → Int32 → Int32 → Int32 → Int32 → xH → Option (Int64 × xH)) (x0 : Nat) (x2 : Int32) (x3 : Int32) (x4 : Int32) (x5 : Int32) (s0 : Nat) (s1 : Int32) (s2 : Int64) (s3 : Int64) (h : xH) : Option (Int64 × xH) := (sJ h s0 s1 (s2 + s3)).bind fun h161 => k107 x0 x2 x3 x4 (x5 + 1) h161
theorem R_X12_tunes_b160 {Γ : xG} {l : Launch} {d : Nat} {Q : Option Value → xH → Prop} {r : Int64} {h' : xH} {k77 : Nat → Int32 → Int32 → xH → Option (Int64 × xH)} {k85 : Nat → Int32 → Int32 → Int32 → xH → Option (Int64 × xH)} {k107 : Nat → Int32 → Int32 → Int32 → Int32 → xH → Option (Int64 × xH)} (K77 : ∀ (x0 : Nat) (x2 : Int32) (x3 : Int32)  (h : xH), k77 x0 x2 x3 h = some (r, h') → Gd Γ l d m_X12_tunes 77 [.ref x0, xhole, .int x2, .int x3, xhole, xhole] [] h 0 0 Q) (K85 : ∀ (x0 : Nat) (x2 : Int32) (x3 : Int32) (x4 : Int32)  (h : xH), k85 x0 x2 x3 x4 h = some (r, h') → Gd Γ l d m_X12_tunes 85 [.ref x0, xhole, .int x2, .int x3, .int x4, xhole] [] h 0 0 Q) (K107 : ∀ (x0 : Nat) (x2 : Int32) (x3 : Int32) (x4 : Int32) (x5 : Int32)  (h : xH), k107 x0 x2 x3 x4 x5 h = some (r, h') → Gd Γ l d m_X12_tunes 107 [.ref x0, xhole, .int x2, .int x3, .int x4, .int x5] [] h 0 0 Q) (hdp : 6 ≤ d) (hq : Q (some (.long r)) h') : ∀ (x0 : Nat) (x2 : Int32) (x3 : Int32) (x4 : Int32) (x5 : Int32) (s0 : Nat) (s1 : Int32) (s2 : Int64) (s3 : Int64) (h : xH), F_X12_tunes_b160 k77 k85 k107 x0 x2 x3 x4 x5 s0 s1 s2 s3 h = some (r, h') → Gd Γ l d m_X12_tunes 160 [.ref x0, xhole, .int x2, .int x3, .int x4, .int x5] [.long s3, .long s2, .int s1, .ref s0] h 0 0 Q := by
  intro x0 x2 x3 x4 x5 s0 s1 s2 s3 h hF
  unfold F_X12_tunes_b160 at hF
  refine g_ladd d_X12_tunes_160 ?_
  obtain ⟨h161, e161, hF⟩ := Option.bind_eq_some_iff.mp hF
  refine q_sJ d_X12_tunes_161 e161 ?_
  refine q_iinc (1) [.ref x0, xhole, .int x2, .int x3, .int x4, .int (x5 + 1)] d_X12_tunes_162 ic_1 rfl (by decide) rfl ?_
  refine g_goto 107 d_X12_tunes_165 rfl ?_
  exact q_to (xs_r (xs_h (xs_r (xs_r (xs_r (xs_r xs_n)))))) (K107 _ _ _ _ _ _ hF)
def F_X12_tunes_b159 (k77 : Nat → Int32 → Int32 → xH → Option (Int64 × xH)) (k85 : Nat → Int32 → Int32 → Int32 → xH → Option (Int64 × xH)) (k107 : Nat → Int32 → Int32 → Int32 → Int32 → xH → Option (Int64 × xH)) (x0 : Nat) (x2 : Int32) (x3 : Int32) (x4 : Int32) (x5 : Int32) (s0 : Nat) (s1 : Int32) (s2 : Int64) (h : xH) : Option (Int64 × xH) := F_X12_tunes_b160 k77 k85 k107 x0 x2 x3 x4 x5 s0 s1 s2 0 h
theorem R_X12_tunes_b159 {Γ : xG} {l : Launch} {d : Nat} {Q : Option Value → xH → Prop} {r : Int64} {h' : xH} {k77 : Nat → Int32 → Int32 → xH → Option (Int64 × xH)} {k85 : Nat → Int32 → Int32 → Int32 → xH → Option (Int64 × xH)} {k107 : Nat → Int32 → Int32 → Int32 → Int32 → xH → Option (Int64 × xH)} (K77 : ∀ (x0 : Nat) (x2 : Int32) (x3 : Int32)  (h : xH), k77 x0 x2 x3 h = some (r, h') → Gd Γ l d m_X12_tunes 77 [.ref x0, xhole, .int x2, .int x3, xhole, xhole] [] h 0 0 Q) (K85 : ∀ (x0 : Nat) (x2 : Int32) (x3 : Int32) (x4 : Int32)  (h : xH), k85 x0 x2 x3 x4 h = some (r, h') → Gd Γ l d m_X12_tunes 85 [.ref x0, xhole, .int x2, .int x3, .int x4, xhole] [] h 0 0 Q) (K107 : ∀ (x0 : Nat) (x2 : Int32) (x3 : Int32) (x4 : Int32) (x5 : Int32)  (h : xH), k107 x0 x2 x3 x4 x5 h = some (r, h') → Gd Γ l d m_X12_tunes 107 [.ref x0, xhole, .int x2, .int x3, .int x4, .int x5] [] h 0 0 Q) (hdp : 6 ≤ d) (hq : Q (some (.long r)) h') : ∀ (x0 : Nat) (x2 : Int32) (x3 : Int32) (x4 : Int32) (x5 : Int32) (s0 : Nat) (s1 : Int32) (s2 : Int64) (h : xH), F_X12_tunes_b159 k77 k85 k107 x0 x2 x3 x4 x5 s0 s1 s2 h = some (r, h') → Gd Γ l d m_X12_tunes 159 [.ref x0, xhole, .int x2, .int x3, .int x4, .int x5] [.long s2, .int s1, .ref s0] h 0 0 Q := by
  intro x0 x2 x3 x4 x5 s0 s1 s2 h hF
  unfold F_X12_tunes_b159 at hF
  refine g_lc 0 d_X12_tunes_159 rfl ?_
  exact q_to (xs_r (xs_h (xs_r (xs_r (xs_r (xs_r xs_n)))))) (R_X12_tunes_b160 K77 K85 K107 hdp hq _ _ _ _ _ _ _ _ _ _ hF)
def F_X12_tunes_b107 (k77 : Nat → Int32 → Int32 → xH → Option (Int64 × xH)) (k85 : Nat → Int32 → Int32 → Int32 → xH → Option (Int64 × xH)) : Nat → Nat → Int32 → Int32 → Int32 → Int32 → xH → Option (Int64 × xH)
  | 0, _, _, _, _, _, _ => none
  | n + 1, x0, x2, x3, x4, x5, h => (fR h x0 11 1).bind fun v110 => (aI h v110 1).bind fun v114 => if v114 ≤ x5 then k85 x0 x2 x3 (x4 + 1) h else (fR h x0 11 32).bind fun v119 => (aJ h v119 x4).bind fun v125 => (fR h x0 11 31).bind fun v127 => (aJ h v127 x5).bind fun v132 => if (lg_cmp v132 0) ≤ 0 then F_X12_tunes_b159 k77 k85 (F_X12_tunes_b107 k77 k85 n) x0 x2 x3 x4 x5 v119 x4 v125 h else (rc h x0 11).bind fun _ => (F_X12_mayNext x0 x5 x4 h).bind fun z143 => if z143.1 = 0 then F_X12_tunes_b159 k77 k85 (F_X12_tunes_b107 k77 k85 n) x0 x2 x3 x4 x5 v119 x4 v125 z143.2 else (fR z143.2 x0 11 31).bind fun v150 => (aJ z143.2 v150 x5).bind fun v155 => F_X12_tunes_b160 k77 k85 (F_X12_tunes_b107 k77 k85 n) x0 x2 x3 x4 x5 v119 x4 v125 v155 z143.2
theorem R_X12_tunes_b107 {Γ : xG} {l : Launch} {d : Nat} {Q : Option Value → xH → Prop} {r : Int64} {h' : xH} {k77 : Nat → Int32 → Int32 → xH → Option (Int64 × xH)} {k85 : Nat → Int32 → Int32 → Int32 → xH → Option (Int64 × xH)} (K77 : ∀ (x0 : Nat) (x2 : Int32) (x3 : Int32)  (h : xH), k77 x0 x2 x3 h = some (r, h') → Gd Γ l d m_X12_tunes 77 [.ref x0, xhole, .int x2, .int x3, xhole, xhole] [] h 0 0 Q) (K85 : ∀ (x0 : Nat) (x2 : Int32) (x3 : Int32) (x4 : Int32)  (h : xH), k85 x0 x2 x3 x4 h = some (r, h') → Gd Γ l d m_X12_tunes 85 [.ref x0, xhole, .int x2, .int x3, .int x4, xhole] [] h 0 0 Q) (hdp : 6 ≤ d) (hq : Q (some (.long r)) h') : ∀ (n : Nat) (x0 : Nat) (x2 : Int32) (x3 : Int32) (x4 : Int32) (x5 : Int32) (h : xH), F_X12_tunes_b107 k77 k85 n x0 x2 x3 x4 x5 h = some (r, h') → Gd Γ l d m_X12_tunes 107 [.ref x0, xhole, .int x2, .int x3, .int x4, .int x5] [] h 0 0 Q := by
  intro n
  induction n with
  | zero => intro x0 x2 x3 x4 x5 h hF; cases hF
  | succ n ih =>
  intro x0 x2 x3 x4 x5 h hF
  rw [F_X12_tunes_b107] at hF
  refine g_iload d_X12_tunes_107 rfl ?_
  refine g_aloadn d_X12_tunes_109 rfl ?_
  obtain ⟨v110, e110, hF⟩ := Option.bind_eq_some_iff.mp hF
  refine q_fR d_X12_tunes_110 f_X12_13 e110 ?_
  refine g_ic (1) d_X12_tunes_113 ic_1 ?_
  obtain ⟨v114, e114, hF⟩ := Option.bind_eq_some_iff.mp hF
  refine q_aI d_X12_tunes_114 e114 ?_
  refine g_icmp_ge 168 d_X12_tunes_115 rfl (fun c115 => ?_) (fun c115 => ?_)
  · have hF := x_t hF c115
    refine q_iinc (1) [.ref x0, xhole, .int x2, .int x3, .int (x4 + 1), .int x5] d_X12_tunes_168 ic_1 rfl (by decide) rfl ?_
    refine g_goto 85 d_X12_tunes_171 rfl ?_
    exact q_to (xs_r (xs_h (xs_r (xs_r (xs_r (xs_h xs_n)))))) (K85 _ _ _ _ _ hF)
  · have hF := x_f hF c115
    refine g_aloadn d_X12_tunes_118 rfl ?_
    obtain ⟨v119, e119, hF⟩ := Option.bind_eq_some_iff.mp hF
    refine q_fR d_X12_tunes_119 f_X12_67 e119 ?_
    refine g_iload d_X12_tunes_122 rfl ?_
    refine g_dup2 d_X12_tunes_124 rfl rfl ?_
    obtain ⟨v125, e125, hF⟩ := Option.bind_eq_some_iff.mp hF
    refine q_aJ d_X12_tunes_125 e125 ?_
    refine g_aloadn d_X12_tunes_126 rfl ?_
    obtain ⟨v127, e127, hF⟩ := Option.bind_eq_some_iff.mp hF
    refine q_fR d_X12_tunes_127 f_X12_63 e127 ?_
    refine g_iload d_X12_tunes_130 rfl ?_
    obtain ⟨v132, e132, hF⟩ := Option.bind_eq_some_iff.mp hF
    refine q_aJ d_X12_tunes_132 e132 ?_
    refine g_lc 0 d_X12_tunes_133 rfl ?_
    refine g_lcmp d_X12_tunes_134 ?_
    refine g_if_le 159 d_X12_tunes_135 rfl (fun c135 => ?_) (fun c135 => ?_)
    · have hF := x_t hF c135
      exact q_to (xs_r (xs_h (xs_r (xs_r (xs_r (xs_r xs_n)))))) (R_X12_tunes_b159 K77 K85 ih hdp hq _ _ _ _ _ _ _ _ _ hF)
    · have hF := x_f hF c135
      refine g_aloadn d_X12_tunes_138 rfl ?_
      refine g_iload d_X12_tunes_139 rfl ?_
      refine g_iload d_X12_tunes_141 rfl ?_
      obtain ⟨_, g143, hF⟩ := Option.bind_eq_some_iff.mp hF
      obtain ⟨⟨r143, h143⟩, e143, hF⟩ := Option.bind_eq_some_iff.mp hF
      try dsimp only at hF
      refine q_callV [.int x5, .int x4] [.long v125, .int x4, .ref v119] rfl d_X12_tunes_143 v_X12_409 (by omega) rfl (Nat.le_of_ble_eq_true rfl) (rc_rc g143 (by decide) rfl) (R_X12_mayNext _ _ _ _ (by omega) e143) ?_
      refine g_if_eq 159 d_X12_tunes_146 rfl (fun c146 => ?_) (fun c146 => ?_)
      · have hF := x_t hF c146
        exact q_to (xs_r (xs_h (xs_r (xs_r (xs_r (xs_r xs_n)))))) (R_X12_tunes_b159 K77 K85 ih hdp hq _ _ _ _ _ _ _ _ _ hF)
      · have hF := x_f hF c146
        refine g_aloadn d_X12_tunes_149 rfl ?_
        obtain ⟨v150, e150, hF⟩ := Option.bind_eq_some_iff.mp hF
        refine q_fR d_X12_tunes_150 f_X12_63 e150 ?_
        refine g_iload d_X12_tunes_153 rfl ?_
        obtain ⟨v155, e155, hF⟩ := Option.bind_eq_some_iff.mp hF
        refine q_aJ d_X12_tunes_155 e155 ?_
        refine g_goto 160 d_X12_tunes_156 rfl ?_
        exact q_to (xs_r (xs_h (xs_r (xs_r (xs_r (xs_r xs_n)))))) (R_X12_tunes_b160 K77 K85 ih hdp hq _ _ _ _ _ _ _ _ _ _ hF)
def F_X12_tunes_b85 (k77 : Nat → Int32 → Int32 → xH → Option (Int64 × xH)) : Nat → Nat → Int32 → Int32 → Int32 → xH → Option (Int64 × xH)
  | 0, _, _, _, _, _ => none
  | n + 1, x0, x2, x3, x4, h => (fR h x0 11 1).bind fun v88 => (aI h v88 1).bind fun v92 => if v92 ≤ x4 then F_X12_tunes_b177 k77 FU x0 x2 x3 0 h else (fR h x0 11 32).bind fun v97 => (sJ h v97 x4 0).bind fun h103 => F_X12_tunes_b107 k77 (F_X12_tunes_b85 k77 n) FU x0 x2 x3 x4 0 h103
theorem R_X12_tunes_b85 {Γ : xG} {l : Launch} {d : Nat} {Q : Option Value → xH → Prop} {r : Int64} {h' : xH} {k77 : Nat → Int32 → Int32 → xH → Option (Int64 × xH)} (K77 : ∀ (x0 : Nat) (x2 : Int32) (x3 : Int32)  (h : xH), k77 x0 x2 x3 h = some (r, h') → Gd Γ l d m_X12_tunes 77 [.ref x0, xhole, .int x2, .int x3, xhole, xhole] [] h 0 0 Q) (hdp : 6 ≤ d) (hq : Q (some (.long r)) h') : ∀ (n : Nat) (x0 : Nat) (x2 : Int32) (x3 : Int32) (x4 : Int32) (h : xH), F_X12_tunes_b85 k77 n x0 x2 x3 x4 h = some (r, h') → Gd Γ l d m_X12_tunes 85 [.ref x0, xhole, .int x2, .int x3, .int x4, xhole] [] h 0 0 Q := by
  intro n
  induction n with
  | zero => intro x0 x2 x3 x4 h hF; cases hF
  | succ n ih =>
  intro x0 x2 x3 x4 h hF
  rw [F_X12_tunes_b85] at hF
  refine g_iload d_X12_tunes_85 rfl ?_
  refine g_aloadn d_X12_tunes_87 rfl ?_
  obtain ⟨v88, e88, hF⟩ := Option.bind_eq_some_iff.mp hF
  refine q_fR d_X12_tunes_88 f_X12_13 e88 ?_
  refine g_ic (1) d_X12_tunes_91 ic_1 ?_
  obtain ⟨v92, e92, hF⟩ := Option.bind_eq_some_iff.mp hF
  refine q_aI d_X12_tunes_92 e92 ?_
  refine g_icmp_ge 174 d_X12_tunes_93 rfl (fun c93 => ?_) (fun c93 => ?_)
  · have hF := x_t hF c93
    refine g_ic (0) d_X12_tunes_174 ic_0 ?_
    refine q_istore [.ref x0, xhole, .int x2, .int x3, .int 0, xhole] d_X12_tunes_175 (by decide) rfl ?_
    exact q_to (xs_r (xs_h (xs_r (xs_r (xs_r (xs_h xs_n)))))) (R_X12_tunes_b177 K77 hdp hq FU _ _ _ _ _ hF)
  · have hF := x_f hF c93
    refine g_aloadn d_X12_tunes_96 rfl ?_
    obtain ⟨v97, e97, hF⟩ := Option.bind_eq_some_iff.mp hF
    refine q_fR d_X12_tunes_97 f_X12_67 e97 ?_
    refine g_iload d_X12_tunes_100 rfl ?_
    refine g_lc 0 d_X12_tunes_102 rfl ?_
    obtain ⟨h103, e103, hF⟩ := Option.bind_eq_some_iff.mp hF
    refine q_sJ d_X12_tunes_103 e103 ?_
    refine g_ic (0) d_X12_tunes_104 ic_0 ?_
    refine q_istore [.ref x0, xhole, .int x2, .int x3, .int x4, .int 0] d_X12_tunes_105 (by decide) rfl ?_
    exact q_to (xs_r (xs_h (xs_r (xs_r (xs_r (xs_r xs_n)))))) (R_X12_tunes_b107 K77 ih hdp hq FU _ _ _ _ _ _ hF)
def F_X12_tunes_b77 : Nat → Nat → Int32 → Int32 → xH → Option (Int64 × xH)
  | 0, _, _, _, _ => none
  | n + 1, x0, x2, x3, h => if x2 ≤ x3 then F_X12_tunes_b219 FU x0 0 0 h else F_X12_tunes_b85 (F_X12_tunes_b77 n) FU x0 x2 x3 0 h
theorem R_X12_tunes_b77 {Γ : xG} {l : Launch} {d : Nat} {Q : Option Value → xH → Prop} {r : Int64} {h' : xH} (hdp : 6 ≤ d) (hq : Q (some (.long r)) h') : ∀ (n : Nat) (x0 : Nat) (x2 : Int32) (x3 : Int32) (h : xH), F_X12_tunes_b77 n x0 x2 x3 h = some (r, h') → Gd Γ l d m_X12_tunes 77 [.ref x0, xhole, .int x2, .int x3, xhole, xhole] [] h 0 0 Q := by
  intro n
  induction n with
  | zero => intro x0 x2 x3 h hF; cases hF
  | succ n ih =>
  intro x0 x2 x3 h hF
  rw [F_X12_tunes_b77] at hF
  refine g_iloadn d_X12_tunes_77 rfl ?_
  refine g_iloadn d_X12_tunes_78 rfl ?_
  refine g_icmp_ge 214 d_X12_tunes_79 rfl (fun c79 => ?_) (fun c79 => ?_)
  · have hF := x_t hF c79
    refine g_lc 0 d_X12_tunes_214 rfl ?_
    refine q_lstoren [.ref x0, xhole, .int x2, .long 0, xhole, xhole] d_X12_tunes_215 (by decide) rfl ?_
    refine g_ic (0) d_X12_tunes_216 ic_0 ?_
    refine q_istore [.ref x0, xhole, .int x2, .long 0, xhole, .int 0] d_X12_tunes_217 (by decide) rfl ?_
    exact q_to (xs_r (xs_h (xs_h (xs_r (xs_h (xs_r xs_n)))))) (R_X12_tunes_b219 hdp hq FU _ _ _ _ hF)
  · have hF := x_f hF c79
    refine g_ic (0) d_X12_tunes_82 ic_0 ?_
    refine q_istore [.ref x0, xhole, .int x2, .int x3, .int 0, xhole] d_X12_tunes_83 (by decide) rfl ?_
    exact q_to (xs_r (xs_h (xs_r (xs_r (xs_r (xs_h xs_n)))))) (R_X12_tunes_b85 ih hdp hq FU _ _ _ _ _ hF)
def F_X12_tunes_b36 : Nat → Nat → Int32 → Int32 → xH → Option (Int64 × xH)
  | 0, _, _, _, _ => none
  | n + 1, x0, x2, x3, h => (fR h x0 11 1).bind fun v38 => (aI h v38 1).bind fun v42 => if v42 ≤ x3 then F_X12_tunes_b77 FU x0 x2 1 h else (fR h x0 11 31).bind fun v47 => (fI h x0 11 30).bind fun v52 => (F_X12_isIn v52.toInt64 x3 h).bind fun z57 => if z57.1 = 0 then (sJ z57.2 v47 x3 0).bind fun h68 => F_X12_tunes_b36 n x0 x2 (x3 + 1) h68 else (sJ z57.2 v47 x3 1).bind fun h68 => F_X12_tunes_b36 n x0 x2 (x3 + 1) h68
theorem R_X12_tunes_b36 {Γ : xG} {l : Launch} {d : Nat} {Q : Option Value → xH → Prop} {r : Int64} {h' : xH} (hdp : 6 ≤ d) (hq : Q (some (.long r)) h') : ∀ (n : Nat) (x0 : Nat) (x2 : Int32) (x3 : Int32) (h : xH), F_X12_tunes_b36 n x0 x2 x3 h = some (r, h') → Gd Γ l d m_X12_tunes 36 [.ref x0, xhole, .int x2, .int x3, xhole, xhole] [] h 0 0 Q := by
  intro n
  induction n with
  | zero => intro x0 x2 x3 h hF; cases hF
  | succ n ih =>
  intro x0 x2 x3 h hF
  rw [F_X12_tunes_b36] at hF
  refine g_iloadn d_X12_tunes_36 rfl ?_
  refine g_aloadn d_X12_tunes_37 rfl ?_
  obtain ⟨v38, e38, hF⟩ := Option.bind_eq_some_iff.mp hF
  refine q_fR d_X12_tunes_38 f_X12_13 e38 ?_
  refine g_ic (1) d_X12_tunes_41 ic_1 ?_
  obtain ⟨v42, e42, hF⟩ := Option.bind_eq_some_iff.mp hF
  refine q_aI d_X12_tunes_42 e42 ?_
  refine g_icmp_ge 75 d_X12_tunes_43 rfl (fun c43 => ?_) (fun c43 => ?_)
  · have hF := x_t hF c43
    refine g_ic (1) d_X12_tunes_75 ic_1 ?_
    refine q_istoren [.ref x0, xhole, .int x2, .int 1, xhole, xhole] d_X12_tunes_76 (by decide) rfl ?_
    exact q_to (xs_r (xs_h (xs_r (xs_r (xs_h (xs_h xs_n)))))) (R_X12_tunes_b77 hdp hq FU _ _ _ _ hF)
  · have hF := x_f hF c43
    refine g_aloadn d_X12_tunes_46 rfl ?_
    obtain ⟨v47, e47, hF⟩ := Option.bind_eq_some_iff.mp hF
    refine q_fR d_X12_tunes_47 f_X12_63 e47 ?_
    refine g_iloadn d_X12_tunes_50 rfl ?_
    refine g_aloadn d_X12_tunes_51 rfl ?_
    obtain ⟨v52, e52, hF⟩ := Option.bind_eq_some_iff.mp hF
    refine q_fI d_X12_tunes_52 f_X12_403 e52 ?_
    refine g_i2l d_X12_tunes_55 ?_
    refine g_iloadn d_X12_tunes_56 rfl ?_
    obtain ⟨⟨r57, h57⟩, e57, hF⟩ := Option.bind_eq_some_iff.mp hF
    try dsimp only at hF
    refine q_callS [.long (v52.toInt64), .int x3] [.int x3, .ref v47] rfl d_X12_tunes_57 s_X12_228 (by omega) rfl (Nat.le_of_ble_eq_true rfl) (R_X12_isIn _ _ _ (by omega) e57) ?_
    refine g_if_eq 67 d_X12_tunes_60 rfl (fun c60 => ?_) (fun c60 => ?_)
    · have hF := x_t hF c60
      refine g_lc 0 d_X12_tunes_67 rfl ?_
      obtain ⟨h68, e68, hF⟩ := Option.bind_eq_some_iff.mp hF
      refine q_sJ d_X12_tunes_68 e68 ?_
      refine q_iinc (1) [.ref x0, xhole, .int x2, .int (x3 + 1), xhole, xhole] d_X12_tunes_69 ic_1 rfl (by decide) rfl ?_
      refine g_goto 36 d_X12_tunes_72 rfl ?_
      exact q_to (xs_r (xs_h (xs_r (xs_r (xs_h (xs_h xs_n)))))) (ih _ _ _ _ hF)
    · have hF := x_f hF c60
      refine g_lc 1 d_X12_tunes_63 rfl ?_
      refine g_goto 68 d_X12_tunes_64 rfl ?_
      obtain ⟨h68, e68, hF⟩ := Option.bind_eq_some_iff.mp hF
      refine q_sJ d_X12_tunes_68 e68 ?_
      refine q_iinc (1) [.ref x0, xhole, .int x2, .int (x3 + 1), xhole, xhole] d_X12_tunes_69 ic_1 rfl (by decide) rfl ?_
      refine g_goto 36 d_X12_tunes_72 rfl ?_
      exact q_to (xs_r (xs_h (xs_r (xs_r (xs_h (xs_h xs_n)))))) (ih _ _ _ _ hF)
def F_X12_tunes (x0 : Nat) (x1 : Int32) (x2 : Int32) (h : xH) : Option (Int64 × xH) := (wI h x0 11 0 0).bind fun h2 => (rc h2 x0 11).bind fun _ => (F_X12_isPeople x0 x1 h2).bind fun z7 => if z7.1 = 0 then some ((-3), z7.2) else (F_X12_within x2.toInt64 1 15 z7.2).bind fun z19 => if ¬ z19.1 = 0 then (rc z19.2 x0 11).bind fun _ => (F_X12_laysHeardAll x0 x1 z19.2).bind fun z31 => F_X12_tunes_b36 FU x0 x2 0 z31.2 else some ((-3), z19.2)
theorem R_X12_tunes {Γ : xG} {l : Launch} {d : Nat} {r : Int64} {h' : xH} (x0 : Nat) (x1 : Int32) (x2 : Int32) (h : xH) (hdp : 6 ≤ d) (hF : F_X12_tunes x0 x1 x2 h = some (r, h')) : Gm Γ l d 0 0 m_X12_tunes [.ref x0, .int x1, .int x2] h (fun a u => a = some (.long r) ∧ u = h') := by
  refine Gm.of pn_X12 (Nat.le_of_ble_eq_true rfl) ?_
  show Gd Γ l d m_X12_tunes 0 [.ref x0, .int x1, .int x2, xhole, xhole, xhole] [] h 0 0 _
  generalize hQ : (fun (a : Option Value) (u : xH) => a = some (.long r) ∧ u = h') = Q
  have hq : Q (some (.long r)) h' := by rw [← hQ]; exact ⟨rfl, rfl⟩
  clear hQ
  unfold F_X12_tunes at hF
  refine g_aloadn d_X12_tunes_0 rfl ?_
  refine g_ic (0) d_X12_tunes_1 ic_0 ?_
  obtain ⟨h2, e2, hF⟩ := Option.bind_eq_some_iff.mp hF
  refine q_wI d_X12_tunes_2 (w_X12_1 _) e2 ?_
  refine g_aloadn d_X12_tunes_5 rfl ?_
  refine g_iloadn d_X12_tunes_6 rfl ?_
  obtain ⟨_, g7, hF⟩ := Option.bind_eq_some_iff.mp hF
  obtain ⟨⟨r7, h7⟩, e7, hF⟩ := Option.bind_eq_some_iff.mp hF
  try dsimp only at hF
  refine q_callV [.int x1] [] rfl d_X12_tunes_7 v_X12_268 (by omega) rfl (Nat.le_of_ble_eq_true rfl) (rc_rc g7 (by decide) rfl) (R_X12_isPeople _ _ _ (by omega) e7) ?_
  refine g_if_eq 25 d_X12_tunes_10 rfl (fun c10 => ?_) (fun c10 => ?_)
  · have hF := x_t hF c10
    refine g_ldc2 d_X12_tunes_25 k_X12_431 ?_
    obtain ⟨rfl, rfl⟩ := x_inj hF
    exact g_lret d_X12_tunes_28 rfl hq
  · have hF := x_f hF c10
    refine g_iloadn d_X12_tunes_13 rfl ?_
    refine g_i2l d_X12_tunes_14 ?_
    refine g_lc 1 d_X12_tunes_15 rfl ?_
    refine g_ldc2 d_X12_tunes_16 k_X12_157 ?_
    obtain ⟨⟨r19, h19⟩, e19, hF⟩ := Option.bind_eq_some_iff.mp hF
    try dsimp only at hF
    refine q_callS [.long (x2.toInt64), .long 1, .long 15] [] rfl d_X12_tunes_19 s_X12_148 (by omega) rfl (Nat.le_of_ble_eq_true rfl) (R_X12_within _ _ _ _ (by omega) e19) ?_
    refine g_if_ne 29 d_X12_tunes_22 rfl (fun c22 => ?_) (fun c22 => ?_)
    · have hF := x_t hF c22
      refine g_aloadn d_X12_tunes_29 rfl ?_
      refine g_iloadn d_X12_tunes_30 rfl ?_
      obtain ⟨_, g31, hF⟩ := Option.bind_eq_some_iff.mp hF
      obtain ⟨⟨r31, h31⟩, e31, hF⟩ := Option.bind_eq_some_iff.mp hF
      try dsimp only at hF
      refine q_callV [.int x1] [] rfl d_X12_tunes_31 v_X12_415 (by omega) rfl (Nat.le_of_ble_eq_true rfl) (rc_rc g31 (by decide) rfl) (R_X12_laysHeardAll _ _ _ (by omega) e31) ?_
      refine g_ic (0) d_X12_tunes_34 ic_0 ?_
      refine q_istoren [.ref x0, .int x1, .int x2, .int 0, xhole, xhole] d_X12_tunes_35 (by decide) rfl ?_
      exact q_to (xs_r (xs_h (xs_r (xs_r (xs_h (xs_h xs_n)))))) (R_X12_tunes_b36 hdp hq FU _ _ _ _ hF)
    · have hF := x_f hF (not_not_intro c22)
      refine g_ldc2 d_X12_tunes_25 k_X12_431 ?_
      obtain ⟨rfl, rfl⟩ := x_inj hF
      exact g_lret d_X12_tunes_28 rfl hq
theorem d_X12_isFoundAt_0 : decode cX12_isFoundAt 0 = .ok (.aload_n 0, 1) := by decide +kernel
theorem d_X12_isFoundAt_1 : decode cX12_isFoundAt 1 = .ok (.getfield 13, 3) := by decide +kernel
theorem d_X12_isFoundAt_4 : decode cX12_isFoundAt 4 = .ok (.bipush 121, 2) := by decide +kernel
theorem d_X12_isFoundAt_6 : decode cX12_isFoundAt 6 = .ok (.iload_n 1, 1) := by decide +kernel
theorem d_X12_isFoundAt_7 : decode cX12_isFoundAt 7 = .ok (.iadd, 1) := by decide +kernel
theorem d_X12_isFoundAt_8 : decode cX12_isFoundAt 8 = .ok (.iaload, 1) := by decide +kernel
theorem d_X12_isFoundAt_9 : decode cX12_isFoundAt 9 = .ok (.iconst (-1), 1) := by decide +kernel
theorem d_X12_isFoundAt_10 : decode cX12_isFoundAt 10 = .ok (.if_icmp .eq 25, 3) := by decide +kernel
theorem d_X12_isFoundAt_13 : decode cX12_isFoundAt 13 = .ok (.aload_n 0, 1) := by decide +kernel
theorem d_X12_isFoundAt_14 : decode cX12_isFoundAt 14 = .ok (.iload_n 2, 1) := by decide +kernel
theorem d_X12_isFoundAt_15 : decode cX12_isFoundAt 15 = .ok (.iload_n 3, 1) := by decide +kernel
theorem d_X12_isFoundAt_16 : decode cX12_isFoundAt 16 = .ok (.invokevirtual 256, 3) := by decide +kernel
theorem d_X12_isFoundAt_19 : decode cX12_isFoundAt 19 = .ok (.aload_n 0, 1) := by decide +kernel
theorem d_X12_isFoundAt_20 : decode cX12_isFoundAt 20 = .ok (.getfield 13, 3) := by decide +kernel
theorem d_X12_isFoundAt_23 : decode cX12_isFoundAt 23 = .ok (.bipush 121, 2) := by decide +kernel
theorem d_X12_isFoundAt_25 : decode cX12_isFoundAt 25 = .ok (.iload_n 1, 1) := by decide +kernel
theorem d_X12_isFoundAt_26 : decode cX12_isFoundAt 26 = .ok (.iadd, 1) := by decide +kernel
theorem d_X12_isFoundAt_27 : decode cX12_isFoundAt 27 = .ok (.iaload, 1) := by decide +kernel
theorem d_X12_isFoundAt_28 : decode cX12_isFoundAt 28 = .ok (.if_icmp .ne 7, 3) := by decide +kernel
theorem d_X12_isFoundAt_31 : decode cX12_isFoundAt 31 = .ok (.iconst 1, 1) := by decide +kernel
theorem d_X12_isFoundAt_32 : decode cX12_isFoundAt 32 = .ok (.goto 4, 3) := by decide +kernel
theorem d_X12_isFoundAt_35 : decode cX12_isFoundAt 35 = .ok (.iconst 0, 1) := by decide +kernel
theorem d_X12_isFoundAt_36 : decode cX12_isFoundAt 36 = .ok (.ireturn, 1) := by decide +kernel
def F_X12_isFoundAt (x0 : Nat) (x1 : Int32) (x2 : Int32) (x3 : Int32) (h : xH) : Option (Int32 × xH) := (fR h x0 11 1).bind fun v1 => (aI h v1 (((121 : Int32)) + x1)).bind fun v8 => if v8 = (((-1) : Int32)) then some (0, h) else (rc h x0 11).bind fun _ => (F_X12_soundOf x0 x2 x3 h).bind fun z16 => (fR z16.2 x0 11 1).bind fun v20 => (aI z16.2 v20 (((121 : Int32)) + x1)).bind fun v27 => if ¬ z16.1 = v27 then some (0, z16.2) else some (1, z16.2)
theorem R_X12_isFoundAt {Γ : xG} {l : Launch} {d : Nat} {r : Int32} {h' : xH} (x0 : Nat) (x1 : Int32) (x2 : Int32) (x3 : Int32) (h : xH) (hdp : 1 ≤ d) (hF : F_X12_isFoundAt x0 x1 x2 x3 h = some (r, h')) : Gm Γ l d 0 0 m_X12_isFoundAt [.ref x0, .int x1, .int x2, .int x3] h (fun a u => a = some (.int r) ∧ u = h') := by
  refine Gm.of pn_X12 (Nat.le_of_ble_eq_true rfl) ?_
  show Gd Γ l d m_X12_isFoundAt 0 [.ref x0, .int x1, .int x2, .int x3] [] h 0 0 _
  generalize hQ : (fun (a : Option Value) (u : xH) => a = some (.int r) ∧ u = h') = Q
  have hq : Q (some (.int r)) h' := by rw [← hQ]; exact ⟨rfl, rfl⟩
  clear hQ
  unfold F_X12_isFoundAt at hF
  refine g_aloadn d_X12_isFoundAt_0 rfl ?_
  obtain ⟨v1, e1, hF⟩ := Option.bind_eq_some_iff.mp hF
  refine q_fR d_X12_isFoundAt_1 f_X12_13 e1 ?_
  refine g_bi (121) d_X12_isFoundAt_4 bi_121 ?_
  refine g_iloadn d_X12_isFoundAt_6 rfl ?_
  refine g_iadd d_X12_isFoundAt_7 ?_
  obtain ⟨v8, e8, hF⟩ := Option.bind_eq_some_iff.mp hF
  refine q_aI d_X12_isFoundAt_8 e8 ?_
  refine g_ic (-1) d_X12_isFoundAt_9 ic_m1 ?_
  refine g_icmp_eq 35 d_X12_isFoundAt_10 rfl (fun c10 => ?_) (fun c10 => ?_)
  · have hF := x_t hF c10
    refine g_ic (0) d_X12_isFoundAt_35 ic_0 ?_
    obtain ⟨rfl, rfl⟩ := x_inj hF
    exact g_zret d_X12_isFoundAt_36 rfl rfl hq
  · have hF := x_f hF c10
    refine g_aloadn d_X12_isFoundAt_13 rfl ?_
    refine g_iloadn d_X12_isFoundAt_14 rfl ?_
    refine g_iloadn d_X12_isFoundAt_15 rfl ?_
    obtain ⟨_, g16, hF⟩ := Option.bind_eq_some_iff.mp hF
    obtain ⟨⟨r16, h16⟩, e16, hF⟩ := Option.bind_eq_some_iff.mp hF
    try dsimp only at hF
    refine q_callV [.int x2, .int x3] [] rfl d_X12_isFoundAt_16 v_X12_256 (by omega) rfl (Nat.le_of_ble_eq_true rfl) (rc_rc g16 (by decide) rfl) (R_X12_soundOf _ _ _ _ (by omega) e16) ?_
    refine g_aloadn d_X12_isFoundAt_19 rfl ?_
    obtain ⟨v20, e20, hF⟩ := Option.bind_eq_some_iff.mp hF
    refine q_fR d_X12_isFoundAt_20 f_X12_13 e20 ?_
    refine g_bi (121) d_X12_isFoundAt_23 bi_121 ?_
    refine g_iloadn d_X12_isFoundAt_25 rfl ?_
    refine g_iadd d_X12_isFoundAt_26 ?_
    obtain ⟨v27, e27, hF⟩ := Option.bind_eq_some_iff.mp hF
    refine q_aI d_X12_isFoundAt_27 e27 ?_
    refine g_icmp_ne 35 d_X12_isFoundAt_28 rfl (fun c28 => ?_) (fun c28 => ?_)
    · have hF := x_t hF c28
      refine g_ic (0) d_X12_isFoundAt_35 ic_0 ?_
      obtain ⟨rfl, rfl⟩ := x_inj hF
      exact g_zret d_X12_isFoundAt_36 rfl rfl hq
    · have hF := x_f hF (not_not_intro c28)
      refine g_ic (1) d_X12_isFoundAt_31 ic_1 ?_
      refine g_goto 36 d_X12_isFoundAt_32 rfl ?_
      obtain ⟨rfl, rfl⟩ := x_inj hF
      exact g_zret d_X12_isFoundAt_36 rfl rfl hq
theorem d_X12_steppedTo_0 : decode cX12_steppedTo 0 = .ok (.aload_n 0, 1) := by decide +kernel
theorem d_X12_steppedTo_1 : decode cX12_steppedTo 1 = .ok (.getfield 13, 3) := by decide +kernel
theorem d_X12_steppedTo_4 : decode cX12_steppedTo 4 = .ok (.bipush 77, 2) := by decide +kernel
theorem d_X12_steppedTo_6 : decode cX12_steppedTo 6 = .ok (.iload_n 1, 1) := by decide +kernel
theorem d_X12_steppedTo_7 : decode cX12_steppedTo 7 = .ok (.iadd, 1) := by decide +kernel
theorem d_X12_steppedTo_8 : decode cX12_steppedTo 8 = .ok (.iaload, 1) := by decide +kernel
theorem d_X12_steppedTo_9 : decode cX12_steppedTo 9 = .ok (.iconst 1, 1) := by decide +kernel
theorem d_X12_steppedTo_10 : decode cX12_steppedTo 10 = .ok (.iload_n 1, 1) := by decide +kernel
theorem d_X12_steppedTo_11 : decode cX12_steppedTo 11 = .ok (.ishl, 1) := by decide +kernel
theorem d_X12_steppedTo_12 : decode cX12_steppedTo 12 = .ok (.ior, 1) := by decide +kernel
theorem d_X12_steppedTo_13 : decode cX12_steppedTo 13 = .ok (.ireturn, 1) := by decide +kernel
def F_X12_steppedTo (x0 : Nat) (x1 : Int32) (h : xH) : Option (Int32 × xH) := (fR h x0 11 1).bind fun v1 => (aI h v1 (((77 : Int32)) + x1)).bind fun v8 => some (v8 ||| (((1 : Int32)) <<< (x1 &&& 31)), h)
theorem R_X12_steppedTo {Γ : xG} {l : Launch} {d : Nat} {r : Int32} {h' : xH} (x0 : Nat) (x1 : Int32) (h : xH) (hdp : 0 ≤ d) (hF : F_X12_steppedTo x0 x1 h = some (r, h')) : Gm Γ l d 0 0 m_X12_steppedTo [.ref x0, .int x1] h (fun a u => a = some (.int r) ∧ u = h') := by
  refine Gm.of pn_X12 (Nat.le_of_ble_eq_true rfl) ?_
  show Gd Γ l d m_X12_steppedTo 0 [.ref x0, .int x1] [] h 0 0 _
  generalize hQ : (fun (a : Option Value) (u : xH) => a = some (.int r) ∧ u = h') = Q
  have hq : Q (some (.int r)) h' := by rw [← hQ]; exact ⟨rfl, rfl⟩
  clear hQ
  unfold F_X12_steppedTo at hF
  refine g_aloadn d_X12_steppedTo_0 rfl ?_
  obtain ⟨v1, e1, hF⟩ := Option.bind_eq_some_iff.mp hF
  refine q_fR d_X12_steppedTo_1 f_X12_13 e1 ?_
  refine g_bi (77) d_X12_steppedTo_4 bi_77 ?_
  refine g_iloadn d_X12_steppedTo_6 rfl ?_
  refine g_iadd d_X12_steppedTo_7 ?_
  obtain ⟨v8, e8, hF⟩ := Option.bind_eq_some_iff.mp hF
  refine q_aI d_X12_steppedTo_8 e8 ?_
  refine g_ic (1) d_X12_steppedTo_9 ic_1 ?_
  refine g_iloadn d_X12_steppedTo_10 rfl ?_
  refine g_ishl d_X12_steppedTo_11 ?_
  refine g_ior d_X12_steppedTo_12 ?_
  obtain ⟨rfl, rfl⟩ := x_inj hF
  exact g_iret d_X12_steppedTo_13 rfl hq
theorem d_X12_foundBy_0 : decode cX12_foundBy 0 = .ok (.aload_n 0, 1) := by decide +kernel
theorem d_X12_foundBy_1 : decode cX12_foundBy 1 = .ok (.iload_n 1, 1) := by decide +kernel
theorem d_X12_foundBy_2 : decode cX12_foundBy 2 = .ok (.iload_n 2, 1) := by decide +kernel
theorem d_X12_foundBy_3 : decode cX12_foundBy 3 = .ok (.iload_n 3, 1) := by decide +kernel
theorem d_X12_foundBy_4 : decode cX12_foundBy 4 = .ok (.invokevirtual 433, 3) := by decide +kernel
theorem d_X12_foundBy_7 : decode cX12_foundBy 7 = .ok (.ifCond .eq 5, 3) := by decide +kernel
theorem d_X12_foundBy_10 : decode cX12_foundBy 10 = .ok (.iconst 1, 1) := by decide +kernel
theorem d_X12_foundBy_11 : decode cX12_foundBy 11 = .ok (.ireturn, 1) := by decide +kernel
theorem d_X12_foundBy_12 : decode cX12_foundBy 12 = .ok (.aload_n 0, 1) := by decide +kernel
theorem d_X12_foundBy_13 : decode cX12_foundBy 13 = .ok (.getfield 70, 3) := by decide +kernel
theorem d_X12_foundBy_16 : decode cX12_foundBy 16 = .ok (.bipush 6, 2) := by decide +kernel
theorem d_X12_foundBy_18 : decode cX12_foundBy 18 = .ok (.iload_n 3, 1) := by decide +kernel
theorem d_X12_foundBy_19 : decode cX12_foundBy 19 = .ok (.iconst 1, 1) := by decide +kernel
theorem d_X12_foundBy_20 : decode cX12_foundBy 20 = .ok (.iadd, 1) := by decide +kernel
theorem d_X12_foundBy_21 : decode cX12_foundBy 21 = .ok (.bipush 12, 2) := by decide +kernel
theorem d_X12_foundBy_23 : decode cX12_foundBy 23 = .ok (.irem, 1) := by decide +kernel
theorem d_X12_foundBy_24 : decode cX12_foundBy 24 = .ok (.imul, 1) := by decide +kernel
theorem d_X12_foundBy_25 : decode cX12_foundBy 25 = .ok (.iload_n 2, 1) := by decide +kernel
theorem d_X12_foundBy_26 : decode cX12_foundBy 26 = .ok (.iadd, 1) := by decide +kernel
theorem d_X12_foundBy_27 : decode cX12_foundBy 27 = .ok (.iaload, 1) := by decide +kernel
theorem d_X12_foundBy_28 : decode cX12_foundBy 28 = .ok (.istore 4, 2) := by decide +kernel
theorem d_X12_foundBy_30 : decode cX12_foundBy 30 = .ok (.iload 4, 2) := by decide +kernel
theorem d_X12_foundBy_32 : decode cX12_foundBy 32 = .ok (.ldc_w 357, 3) := by decide +kernel
theorem d_X12_foundBy_35 : decode cX12_foundBy 35 = .ok (.if_icmp .ne 9, 3) := by decide +kernel
theorem d_X12_foundBy_38 : decode cX12_foundBy 38 = .ok (.ldc_w 357, 3) := by decide +kernel
theorem d_X12_foundBy_41 : decode cX12_foundBy 41 = .ok (.goto 7, 3) := by decide +kernel
theorem d_X12_foundBy_44 : decode cX12_foundBy 44 = .ok (.iload 4, 2) := by decide +kernel
theorem d_X12_foundBy_46 : decode cX12_foundBy 46 = .ok (.iconst 1, 1) := by decide +kernel
theorem d_X12_foundBy_47 : decode cX12_foundBy 47 = .ok (.iadd, 1) := by decide +kernel
theorem d_X12_foundBy_48 : decode cX12_foundBy 48 = .ok (.ireturn, 1) := by decide +kernel
def F_X12_foundBy (x0 : Nat) (x1 : Int32) (x2 : Int32) (x3 : Int32) (h : xH) : Option (Int32 × xH) := (rc h x0 11).bind fun _ => (F_X12_isFoundAt x0 x1 x2 x3 h).bind fun z4 => if z4.1 = 0 then (fR z4.2 x0 11 33).bind fun v13 => (aI z4.2 v13 ((((6 : Int32)) * (irm (x3 + 1) 12)) + x2)).bind fun v27 => if ¬ v27 = ((268435456 : Int32)) then some (v27 + 1, z4.2) else some (268435456, z4.2) else some (1, z4.2)
theorem R_X12_foundBy {Γ : xG} {l : Launch} {d : Nat} {r : Int32} {h' : xH} (x0 : Nat) (x1 : Int32) (x2 : Int32) (x3 : Int32) (h : xH) (hdp : 2 ≤ d) (hF : F_X12_foundBy x0 x1 x2 x3 h = some (r, h')) : Gm Γ l d 0 0 m_X12_foundBy [.ref x0, .int x1, .int x2, .int x3] h (fun a u => a = some (.int r) ∧ u = h') := by
  refine Gm.of pn_X12 (Nat.le_of_ble_eq_true rfl) ?_
  show Gd Γ l d m_X12_foundBy 0 [.ref x0, .int x1, .int x2, .int x3, xhole] [] h 0 0 _
  generalize hQ : (fun (a : Option Value) (u : xH) => a = some (.int r) ∧ u = h') = Q
  have hq : Q (some (.int r)) h' := by rw [← hQ]; exact ⟨rfl, rfl⟩
  clear hQ
  unfold F_X12_foundBy at hF
  refine g_aloadn d_X12_foundBy_0 rfl ?_
  refine g_iloadn d_X12_foundBy_1 rfl ?_
  refine g_iloadn d_X12_foundBy_2 rfl ?_
  refine g_iloadn d_X12_foundBy_3 rfl ?_
  obtain ⟨_, g4, hF⟩ := Option.bind_eq_some_iff.mp hF
  obtain ⟨⟨r4, h4⟩, e4, hF⟩ := Option.bind_eq_some_iff.mp hF
  try dsimp only at hF
  refine q_callV [.int x1, .int x2, .int x3] [] rfl d_X12_foundBy_4 v_X12_433 (by omega) rfl (Nat.le_of_ble_eq_true rfl) (rc_rc g4 (by decide) rfl) (R_X12_isFoundAt _ _ _ _ _ (by omega) e4) ?_
  refine g_if_eq 12 d_X12_foundBy_7 rfl (fun c7 => ?_) (fun c7 => ?_)
  · have hF := x_t hF c7
    refine g_aloadn d_X12_foundBy_12 rfl ?_
    obtain ⟨v13, e13, hF⟩ := Option.bind_eq_some_iff.mp hF
    refine q_fR d_X12_foundBy_13 f_X12_70 e13 ?_
    refine g_bi (6) d_X12_foundBy_16 bi_6 ?_
    refine g_iloadn d_X12_foundBy_18 rfl ?_
    refine g_ic (1) d_X12_foundBy_19 ic_1 ?_
    refine g_iadd d_X12_foundBy_20 ?_
    refine g_bi (12) d_X12_foundBy_21 bi_12 ?_
    refine q_irem d_X12_foundBy_23 (by decide) ?_
    refine g_imul d_X12_foundBy_24 ?_
    refine g_iloadn d_X12_foundBy_25 rfl ?_
    refine g_iadd d_X12_foundBy_26 ?_
    obtain ⟨v27, e27, hF⟩ := Option.bind_eq_some_iff.mp hF
    refine q_aI d_X12_foundBy_27 e27 ?_
    refine q_istore [.ref x0, .int x1, .int x2, .int x3, .int v27] d_X12_foundBy_28 (by decide) rfl ?_
    refine g_iload d_X12_foundBy_30 rfl ?_
    refine g_ldcw d_X12_foundBy_32 k_X12_357 ?_
    refine g_icmp_ne 44 d_X12_foundBy_35 rfl (fun c35 => ?_) (fun c35 => ?_)
    · have hF := x_t hF c35
      refine g_iload d_X12_foundBy_44 rfl ?_
      refine g_ic (1) d_X12_foundBy_46 ic_1 ?_
      refine g_iadd d_X12_foundBy_47 ?_
      obtain ⟨rfl, rfl⟩ := x_inj hF
      exact g_iret d_X12_foundBy_48 rfl hq
    · have hF := x_f hF (not_not_intro c35)
      refine g_ldcw d_X12_foundBy_38 k_X12_357 ?_
      refine g_goto 48 d_X12_foundBy_41 rfl ?_
      obtain ⟨rfl, rfl⟩ := x_inj hF
      exact g_iret d_X12_foundBy_48 rfl hq
  · have hF := x_f hF c7
    refine g_ic (1) d_X12_foundBy_10 ic_1 ?_
    obtain ⟨rfl, rfl⟩ := x_inj hF
    exact g_iret d_X12_foundBy_11 rfl hq
