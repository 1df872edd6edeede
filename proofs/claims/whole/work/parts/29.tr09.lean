/-! ===== methods as functions, 9: written by a program out of the listings ===== -/
theorem d_X12_perform_0 : decode cX12_perform 0 = .ok (.aload_n 0, 1) := by decide +kernel
theorem d_X12_perform_1 : decode cX12_perform 1 = .ok (.iconst 0, 1) := by decide +kernel
theorem d_X12_perform_2 : decode cX12_perform 2 = .ok (.putfield 1, 3) := by decide +kernel
theorem d_X12_perform_5 : decode cX12_perform 5 = .ok (.aload_n 0, 1) := by decide +kernel
theorem d_X12_perform_6 : decode cX12_perform 6 = .ok (.iload_n 1, 1) := by decide +kernel
theorem d_X12_perform_7 : decode cX12_perform 7 = .ok (.invokevirtual 319, 3) := by decide +kernel
theorem d_X12_perform_10 : decode cX12_perform 10 = .ok (.istore_n 2, 1) := by decide +kernel
theorem d_X12_perform_11 : decode cX12_perform 11 = .ok (.iload_n 2, 1) := by decide +kernel
theorem d_X12_perform_12 : decode cX12_perform 12 = .ok (.ifCond .eq 5, 3) := by decide +kernel
theorem d_X12_perform_15 : decode cX12_perform 15 = .ok (.iload_n 2, 1) := by decide +kernel
theorem d_X12_perform_16 : decode cX12_perform 16 = .ok (.ireturn, 1) := by decide +kernel
theorem d_X12_perform_17 : decode cX12_perform 17 = .ok (.aload_n 0, 1) := by decide +kernel
theorem d_X12_perform_18 : decode cX12_perform 18 = .ok (.invokevirtual 278, 3) := by decide +kernel
theorem d_X12_perform_21 : decode cX12_perform 21 = .ok (.aload_n 0, 1) := by decide +kernel
theorem d_X12_perform_22 : decode cX12_perform 22 = .ok (.iload_n 1, 1) := by decide +kernel
theorem d_X12_perform_23 : decode cX12_perform 23 = .ok (.invokevirtual 322, 3) := by decide +kernel
theorem d_X12_perform_26 : decode cX12_perform 26 = .ok (.istore_n 3, 1) := by decide +kernel
theorem d_X12_perform_27 : decode cX12_perform 27 = .ok (.iload_n 3, 1) := by decide +kernel
theorem d_X12_perform_28 : decode cX12_perform 28 = .ok (.ifCond .le 7, 3) := by decide +kernel
theorem d_X12_perform_31 : decode cX12_perform 31 = .ok (.aload_n 0, 1) := by decide +kernel
theorem d_X12_perform_32 : decode cX12_perform 32 = .ok (.invokevirtual 281, 3) := by decide +kernel
theorem d_X12_perform_35 : decode cX12_perform 35 = .ok (.iload_n 3, 1) := by decide +kernel
theorem d_X12_perform_36 : decode cX12_perform 36 = .ok (.ireturn, 1) := by decide +kernel
def F_X12_perform (x0 : Nat) (x1 : Int32) (h : xH) : Option (Int32 × xH) := (wI h x0 11 0 0).bind fun h2 => (rc h2 x0 11).bind fun _ => (F_X12_noTray x0 x1 h2).bind fun z7 => if z7.1 = 0 then (rc z7.2 x0 11).bind fun _ => (F_X12_keeps x0 z7.2).bind fun z18 => (rc z18.2 x0 11).bind fun _ => (F_X12_tells x0 x1 z18.2).bind fun z23 => if z23.1 ≤ 0 then some (z23.1, z23.2) else (rc z23.2 x0 11).bind fun _ => (F_X12_notes x0 z23.2).bind fun z32 => some (z23.1, z32.2) else some (z7.1, z7.2)
theorem R_X12_perform {Γ : xG} {l : Launch} {d : Nat} {r : Int32} {h' : xH} (x0 : Nat) (x1 : Int32) (h : xH) (hdp : 5 ≤ d) (hF : F_X12_perform x0 x1 h = some (r, h')) : Gm Γ l d 0 0 m_X12_perform [.ref x0, .int x1] h (fun a u => a = some (.int r) ∧ u = h') := by
  refine Gm.of pn_X12 (Nat.le_of_ble_eq_true rfl) ?_
  show Gd Γ l d m_X12_perform 0 [.ref x0, .int x1, xhole, xhole] [] h 0 0 _
  generalize hQ : (fun (a : Option Value) (u : xH) => a = some (.int r) ∧ u = h') = Q
  have hq : Q (some (.int r)) h' := by rw [← hQ]; exact ⟨rfl, rfl⟩
  clear hQ
  unfold F_X12_perform at hF
  refine g_aloadn d_X12_perform_0 rfl ?_
  refine g_ic (0) d_X12_perform_1 ic_0 ?_
  obtain ⟨h2, e2, hF⟩ := Option.bind_eq_some_iff.mp hF
  refine q_wI d_X12_perform_2 (w_X12_1 _) e2 ?_
  refine g_aloadn d_X12_perform_5 rfl ?_
  refine g_iloadn d_X12_perform_6 rfl ?_
  obtain ⟨_, g7, hF⟩ := Option.bind_eq_some_iff.mp hF
  obtain ⟨⟨r7, h7⟩, e7, hF⟩ := Option.bind_eq_some_iff.mp hF
  try dsimp only at hF
  refine q_callV [.int x1] [] rfl d_X12_perform_7 v_X12_319 (by omega) rfl (Nat.le_of_ble_eq_true rfl) (rc_rc g7 (by decide) rfl) (R_X12_noTray _ _ _ (by omega) e7) ?_
  refine q_istoren [.ref x0, .int x1, .int (r7), xhole] d_X12_perform_10 (by decide) rfl ?_
  refine g_iloadn d_X12_perform_11 rfl ?_
  refine g_if_eq 17 d_X12_perform_12 rfl (fun c12 => ?_) (fun c12 => ?_)
  · have hF := x_t hF c12
    refine g_aloadn d_X12_perform_17 rfl ?_
    obtain ⟨_, g18, hF⟩ := Option.bind_eq_some_iff.mp hF
    obtain ⟨⟨r18, h18⟩, e18, hF⟩ := Option.bind_eq_some_iff.mp hF
    try dsimp only at hF
    refine q_callV [] [] rfl d_X12_perform_18 v_X12_278 (by omega) rfl (Nat.le_of_ble_eq_true rfl) (rc_rc g18 (by decide) rfl) (R_X12_keeps _ _ (by omega) e18) ?_
    refine g_aloadn d_X12_perform_21 rfl ?_
    refine g_iloadn d_X12_perform_22 rfl ?_
    obtain ⟨_, g23, hF⟩ := Option.bind_eq_some_iff.mp hF
    obtain ⟨⟨r23, h23⟩, e23, hF⟩ := Option.bind_eq_some_iff.mp hF
    try dsimp only at hF
    refine q_callV [.int x1] [] rfl d_X12_perform_23 v_X12_322 (by omega) rfl (Nat.le_of_ble_eq_true rfl) (rc_rc g23 (by decide) rfl) (R_X12_tells _ _ _ (by omega) e23) ?_
    refine q_istoren [.ref x0, .int x1, .int (r7), .int (r23)] d_X12_perform_26 (by decide) rfl ?_
    refine g_iloadn d_X12_perform_27 rfl ?_
    refine g_if_le 35 d_X12_perform_28 rfl (fun c28 => ?_) (fun c28 => ?_)
    · have hF := x_t hF c28
      refine g_iloadn d_X12_perform_35 rfl ?_
      obtain ⟨rfl, rfl⟩ := x_inj hF
      exact g_iret d_X12_perform_36 rfl hq
    · have hF := x_f hF c28
      refine g_aloadn d_X12_perform_31 rfl ?_
      obtain ⟨_, g32, hF⟩ := Option.bind_eq_some_iff.mp hF
      obtain ⟨⟨r32, h32⟩, e32, hF⟩ := Option.bind_eq_some_iff.mp hF
      try dsimp only at hF
      refine q_callV [] [] rfl d_X12_perform_32 v_X12_281 (by omega) rfl (Nat.le_of_ble_eq_true rfl) (rc_rc g32 (by decide) rfl) (R_X12_notes _ _ (by omega) e32) ?_
      refine g_iloadn d_X12_perform_35 rfl ?_
      obtain ⟨rfl, rfl⟩ := x_inj hF
      exact g_iret d_X12_perform_36 rfl hq
  · have hF := x_f hF c12
    refine g_iloadn d_X12_perform_15 rfl ?_
    obtain ⟨rfl, rfl⟩ := x_inj hF
    exact g_iret d_X12_perform_16 rfl hq
theorem d_X12_draw_0 : decode cX12_draw 0 = .ok (.aload_n 0, 1) := by decide +kernel
theorem d_X12_draw_1 : decode cX12_draw 1 = .ok (.ldc_w 328, 3) := by decide +kernel
theorem d_X12_draw_4 : decode cX12_draw 4 = .ok (.aload_n 0, 1) := by decide +kernel
theorem d_X12_draw_5 : decode cX12_draw 5 = .ok (.getfield 329, 3) := by decide +kernel
theorem d_X12_draw_8 : decode cX12_draw 8 = .ok (.imul, 1) := by decide +kernel
theorem d_X12_draw_9 : decode cX12_draw 9 = .ok (.sipush 12345, 3) := by decide +kernel
theorem d_X12_draw_12 : decode cX12_draw 12 = .ok (.iadd, 1) := by decide +kernel
theorem d_X12_draw_13 : decode cX12_draw 13 = .ok (.putfield 329, 3) := by decide +kernel
theorem d_X12_draw_16 : decode cX12_draw 16 = .ok (.aload_n 0, 1) := by decide +kernel
theorem d_X12_draw_17 : decode cX12_draw 17 = .ok (.getfield 329, 3) := by decide +kernel
theorem d_X12_draw_20 : decode cX12_draw 20 = .ok (.bipush 16, 2) := by decide +kernel
theorem d_X12_draw_22 : decode cX12_draw 22 = .ok (.iushr, 1) := by decide +kernel
theorem d_X12_draw_23 : decode cX12_draw 23 = .ok (.iload_n 1, 1) := by decide +kernel
theorem d_X12_draw_24 : decode cX12_draw 24 = .ok (.irem, 1) := by decide +kernel
theorem d_X12_draw_25 : decode cX12_draw 25 = .ok (.ireturn, 1) := by decide +kernel
def F_X12_draw (x0 : Nat) (x1 : Int32) (h : xH) : Option (Int32 × xH) := (fI h x0 11 20).bind fun v5 => (wI h x0 11 20 ((((1103515245 : Int32)) * v5) + 12345)).bind fun h13 => (fI h13 x0 11 20).bind fun v17 => if x1 = 0 then none else some (irm (ush v17 16) x1, h13)
theorem R_X12_draw {Γ : xG} {l : Launch} {d : Nat} {r : Int32} {h' : xH} (x0 : Nat) (x1 : Int32) (h : xH) (hdp : 0 ≤ d) (hF : F_X12_draw x0 x1 h = some (r, h')) : Gm Γ l d 0 0 m_X12_draw [.ref x0, .int x1] h (fun a u => a = some (.int r) ∧ u = h') := by
  refine Gm.of pn_X12 (Nat.le_of_ble_eq_true rfl) ?_
  show Gd Γ l d m_X12_draw 0 [.ref x0, .int x1] [] h 0 0 _
  generalize hQ : (fun (a : Option Value) (u : xH) => a = some (.int r) ∧ u = h') = Q
  have hq : Q (some (.int r)) h' := by rw [← hQ]; exact ⟨rfl, rfl⟩
  clear hQ
  unfold F_X12_draw at hF
  refine g_aloadn d_X12_draw_0 rfl ?_
  refine g_ldcw d_X12_draw_1 k_X12_328 ?_
  refine g_aloadn d_X12_draw_4 rfl ?_
  obtain ⟨v5, e5, hF⟩ := Option.bind_eq_some_iff.mp hF
  refine q_fI d_X12_draw_5 f_X12_329 e5 ?_
  refine g_imul d_X12_draw_8 ?_
  refine g_si (12345) d_X12_draw_9 si_12345 ?_
  refine g_iadd d_X12_draw_12 ?_
  obtain ⟨h13, e13, hF⟩ := Option.bind_eq_some_iff.mp hF
  refine q_wI d_X12_draw_13 (w_X12_329 _) e13 ?_
  refine g_aloadn d_X12_draw_16 rfl ?_
  obtain ⟨v17, e17, hF⟩ := Option.bind_eq_some_iff.mp hF
  refine q_fI d_X12_draw_17 f_X12_329 e17 ?_
  refine g_bi (16) d_X12_draw_20 bi_16 ?_
  refine q_iushr d_X12_draw_22 ?_
  refine g_iloadn d_X12_draw_23 rfl ?_
  rcases x_nz hF with ⟨z24, hF⟩
  refine q_irem d_X12_draw_24 z24 ?_
  obtain ⟨rfl, rfl⟩ := x_inj hF
  exact g_iret d_X12_draw_25 rfl hq
theorem d_X12_drawn_0 : decode cX12_drawn 0 = .ok (.aload_n 0, 1) := by decide +kernel
theorem d_X12_drawn_1 : decode cX12_drawn 1 = .ok (.iconst 5, 1) := by decide +kernel
theorem d_X12_drawn_2 : decode cX12_drawn 2 = .ok (.invokevirtual 332, 3) := by decide +kernel
theorem d_X12_drawn_5 : decode cX12_drawn 5 = .ok (.istore_n 1, 1) := by decide +kernel
theorem d_X12_drawn_6 : decode cX12_drawn 6 = .ok (.iload_n 1, 1) := by decide +kernel
theorem d_X12_drawn_7 : decode cX12_drawn 7 = .ok (.ifCond .ne 5, 3) := by decide +kernel
theorem d_X12_drawn_10 : decode cX12_drawn 10 = .ok (.iconst (-1), 1) := by decide +kernel
theorem d_X12_drawn_11 : decode cX12_drawn 11 = .ok (.ireturn, 1) := by decide +kernel
theorem d_X12_drawn_12 : decode cX12_drawn 12 = .ok (.aload_n 0, 1) := by decide +kernel
theorem d_X12_drawn_13 : decode cX12_drawn 13 = .ok (.bipush 6, 2) := by decide +kernel
theorem d_X12_drawn_15 : decode cX12_drawn 15 = .ok (.invokevirtual 332, 3) := by decide +kernel
theorem d_X12_drawn_18 : decode cX12_drawn 18 = .ok (.istore_n 2, 1) := by decide +kernel
theorem d_X12_drawn_19 : decode cX12_drawn 19 = .ok (.iload_n 1, 1) := by decide +kernel
theorem d_X12_drawn_20 : decode cX12_drawn 20 = .ok (.iconst 3, 1) := by decide +kernel
theorem d_X12_drawn_21 : decode cX12_drawn 21 = .ok (.if_icmp .ge 17, 3) := by decide +kernel
theorem d_X12_drawn_24 : decode cX12_drawn 24 = .ok (.bipush 10, 2) := by decide +kernel
theorem d_X12_drawn_26 : decode cX12_drawn 26 = .ok (.iload_n 2, 1) := by decide +kernel
theorem d_X12_drawn_27 : decode cX12_drawn 27 = .ok (.imul, 1) := by decide +kernel
theorem d_X12_drawn_28 : decode cX12_drawn 28 = .ok (.aload_n 0, 1) := by decide +kernel
theorem d_X12_drawn_29 : decode cX12_drawn 29 = .ok (.bipush 6, 2) := by decide +kernel
theorem d_X12_drawn_31 : decode cX12_drawn 31 = .ok (.invokevirtual 332, 3) := by decide +kernel
theorem d_X12_drawn_34 : decode cX12_drawn 34 = .ok (.iadd, 1) := by decide +kernel
theorem d_X12_drawn_35 : decode cX12_drawn 35 = .ok (.goto 21, 3) := by decide +kernel
theorem d_X12_drawn_38 : decode cX12_drawn 38 = .ok (.bipush 100, 2) := by decide +kernel
theorem d_X12_drawn_40 : decode cX12_drawn 40 = .ok (.iload_n 1, 1) := by decide +kernel
theorem d_X12_drawn_41 : decode cX12_drawn 41 = .ok (.iconst 2, 1) := by decide +kernel
theorem d_X12_drawn_42 : decode cX12_drawn 42 = .ok (.isub, 1) := by decide +kernel
theorem d_X12_drawn_43 : decode cX12_drawn 43 = .ok (.imul, 1) := by decide +kernel
theorem d_X12_drawn_44 : decode cX12_drawn 44 = .ok (.bipush 10, 2) := by decide +kernel
theorem d_X12_drawn_46 : decode cX12_drawn 46 = .ok (.iload_n 2, 1) := by decide +kernel
theorem d_X12_drawn_47 : decode cX12_drawn 47 = .ok (.imul, 1) := by decide +kernel
theorem d_X12_drawn_48 : decode cX12_drawn 48 = .ok (.iadd, 1) := by decide +kernel
theorem d_X12_drawn_49 : decode cX12_drawn 49 = .ok (.aload_n 0, 1) := by decide +kernel
theorem d_X12_drawn_50 : decode cX12_drawn 50 = .ok (.bipush 10, 2) := by decide +kernel
theorem d_X12_drawn_52 : decode cX12_drawn 52 = .ok (.invokevirtual 332, 3) := by decide +kernel
theorem d_X12_drawn_55 : decode cX12_drawn 55 = .ok (.iadd, 1) := by decide +kernel
theorem d_X12_drawn_56 : decode cX12_drawn 56 = .ok (.ireturn, 1) := by decide +kernel
def F_X12_drawn (x0 : Nat) (h : xH) : Option (Int32 × xH) := (rc h x0 11).bind fun _ => (F_X12_draw x0 5 h).bind fun z2 => if ¬ z2.1 = 0 then (rc z2.2 x0 11).bind fun _ => (F_X12_draw x0 6 z2.2).bind fun z15 => if ((3 : Int32)) ≤ z2.1 then (rc z15.2 x0 11).bind fun _ => (F_X12_draw x0 10 z15.2).bind fun z52 => some (((((100 : Int32)) * (z2.1 - 2)) + (((10 : Int32)) * z15.1)) + z52.1, z52.2) else (rc z15.2 x0 11).bind fun _ => (F_X12_draw x0 6 z15.2).bind fun z31 => some ((((10 : Int32)) * z15.1) + z31.1, z31.2) else some ((-1), z2.2)
theorem R_X12_drawn {Γ : xG} {l : Launch} {d : Nat} {r : Int32} {h' : xH} (x0 : Nat) (h : xH) (hdp : 1 ≤ d) (hF : F_X12_drawn x0 h = some (r, h')) : Gm Γ l d 0 0 m_X12_drawn [.ref x0] h (fun a u => a = some (.int r) ∧ u = h') := by
  refine Gm.of pn_X12 (Nat.le_of_ble_eq_true rfl) ?_
  show Gd Γ l d m_X12_drawn 0 [.ref x0, xhole, xhole] [] h 0 0 _
  generalize hQ : (fun (a : Option Value) (u : xH) => a = some (.int r) ∧ u = h') = Q
  have hq : Q (some (.int r)) h' := by rw [← hQ]; exact ⟨rfl, rfl⟩
  clear hQ
  unfold F_X12_drawn at hF
  refine g_aloadn d_X12_drawn_0 rfl ?_
  refine g_ic (5) d_X12_drawn_1 ic_5 ?_
  obtain ⟨_, g2, hF⟩ := Option.bind_eq_some_iff.mp hF
  obtain ⟨⟨r2, h2⟩, e2, hF⟩ := Option.bind_eq_some_iff.mp hF
  try dsimp only at hF
  refine q_callV [.int 5] [] rfl d_X12_drawn_2 v_X12_332 (by omega) rfl (Nat.le_of_ble_eq_true rfl) (rc_rc g2 (by decide) rfl) (R_X12_draw _ _ _ (by omega) e2) ?_
  refine q_istoren [.ref x0, .int (r2), xhole] d_X12_drawn_5 (by decide) rfl ?_
  refine g_iloadn d_X12_drawn_6 rfl ?_
  refine g_if_ne 12 d_X12_drawn_7 rfl (fun c7 => ?_) (fun c7 => ?_)
  · have hF := x_t hF c7
    refine g_aloadn d_X12_drawn_12 rfl ?_
    refine g_bi (6) d_X12_drawn_13 bi_6 ?_
    obtain ⟨_, g15, hF⟩ := Option.bind_eq_some_iff.mp hF
    obtain ⟨⟨r15, h15⟩, e15, hF⟩ := Option.bind_eq_some_iff.mp hF
    try dsimp only at hF
    refine q_callV [.int 6] [] rfl d_X12_drawn_15 v_X12_332 (by omega) rfl (Nat.le_of_ble_eq_true rfl) (rc_rc g15 (by decide) rfl) (R_X12_draw _ _ _ (by omega) e15) ?_
    refine q_istoren [.ref x0, .int (r2), .int (r15)] d_X12_drawn_18 (by decide) rfl ?_
    refine g_iloadn d_X12_drawn_19 rfl ?_
    refine g_ic (3) d_X12_drawn_20 ic_3 ?_
    refine g_icmp_ge 38 d_X12_drawn_21 rfl (fun c21 => ?_) (fun c21 => ?_)
    · have hF := x_t hF c21
      refine g_bi (100) d_X12_drawn_38 bi_100 ?_
      refine g_iloadn d_X12_drawn_40 rfl ?_
      refine g_ic (2) d_X12_drawn_41 ic_2 ?_
      refine g_isub d_X12_drawn_42 ?_
      refine g_imul d_X12_drawn_43 ?_
      refine g_bi (10) d_X12_drawn_44 bi_10 ?_
      refine g_iloadn d_X12_drawn_46 rfl ?_
      refine g_imul d_X12_drawn_47 ?_
      refine g_iadd d_X12_drawn_48 ?_
      refine g_aloadn d_X12_drawn_49 rfl ?_
      refine g_bi (10) d_X12_drawn_50 bi_10 ?_
      obtain ⟨_, g52, hF⟩ := Option.bind_eq_some_iff.mp hF
      obtain ⟨⟨r52, h52⟩, e52, hF⟩ := Option.bind_eq_some_iff.mp hF
      try dsimp only at hF
      refine q_callV [.int 10] [.int ((((100 : Int32)) * (r2 - 2)) + (((10 : Int32)) * r15))] rfl d_X12_drawn_52 v_X12_332 (by omega) rfl (Nat.le_of_ble_eq_true rfl) (rc_rc g52 (by decide) rfl) (R_X12_draw _ _ _ (by omega) e52) ?_
      refine g_iadd d_X12_drawn_55 ?_
      obtain ⟨rfl, rfl⟩ := x_inj hF
      exact g_iret d_X12_drawn_56 rfl hq
    · have hF := x_f hF c21
      refine g_bi (10) d_X12_drawn_24 bi_10 ?_
      refine g_iloadn d_X12_drawn_26 rfl ?_
      refine g_imul d_X12_drawn_27 ?_
      refine g_aloadn d_X12_drawn_28 rfl ?_
      refine g_bi (6) d_X12_drawn_29 bi_6 ?_
      obtain ⟨_, g31, hF⟩ := Option.bind_eq_some_iff.mp hF
      obtain ⟨⟨r31, h31⟩, e31, hF⟩ := Option.bind_eq_some_iff.mp hF
      try dsimp only at hF
      refine q_callV [.int 6] [.int (((10 : Int32)) * r15)] rfl d_X12_drawn_31 v_X12_332 (by omega) rfl (Nat.le_of_ble_eq_true rfl) (rc_rc g31 (by decide) rfl) (R_X12_draw _ _ _ (by omega) e31) ?_
      refine g_iadd d_X12_drawn_34 ?_
      refine g_goto 56 d_X12_drawn_35 rfl ?_
      obtain ⟨rfl, rfl⟩ := x_inj hF
      exact g_iret d_X12_drawn_56 rfl hq
  · have hF := x_f hF (not_not_intro c7)
    refine g_ic (-1) d_X12_drawn_10 ic_m1 ?_
    obtain ⟨rfl, rfl⟩ := x_inj hF
    exact g_iret d_X12_drawn_11 rfl hq
theorem d_X12_year_0 : decode cX12_year 0 = .ok (.aload_n 0, 1) := by decide +kernel
theorem d_X12_year_1 : decode cX12_year 1 = .ok (.iconst 0, 1) := by decide +kernel
theorem d_X12_year_2 : decode cX12_year 2 = .ok (.putfield 1, 3) := by decide +kernel
theorem d_X12_year_5 : decode cX12_year 5 = .ok (.iload_n 2, 1) := by decide +kernel
theorem d_X12_year_6 : decode cX12_year 6 = .ok (.i2l, 1) := by decide +kernel
theorem d_X12_year_7 : decode cX12_year 7 = .ok (.lconst 1, 1) := by decide +kernel
theorem d_X12_year_8 : decode cX12_year 8 = .ok (.ldc2_w 335, 3) := by decide +kernel
theorem d_X12_year_11 : decode cX12_year 11 = .ok (.invokestatic 148, 3) := by decide +kernel
theorem d_X12_year_14 : decode cX12_year 14 = .ok (.ifCond .ne 6, 3) := by decide +kernel
theorem d_X12_year_17 : decode cX12_year 17 = .ok (.bipush (-3), 2) := by decide +kernel
theorem d_X12_year_19 : decode cX12_year 19 = .ok (.ireturn, 1) := by decide +kernel
theorem d_X12_year_20 : decode cX12_year 20 = .ok (.aload_n 0, 1) := by decide +kernel
theorem d_X12_year_21 : decode cX12_year 21 = .ok (.invokevirtual 278, 3) := by decide +kernel
theorem d_X12_year_24 : decode cX12_year 24 = .ok (.aload_n 0, 1) := by decide +kernel
theorem d_X12_year_25 : decode cX12_year 25 = .ok (.iload_n 1, 1) := by decide +kernel
theorem d_X12_year_26 : decode cX12_year 26 = .ok (.putfield 329, 3) := by decide +kernel
theorem d_X12_year_29 : decode cX12_year 29 = .ok (.iconst 0, 1) := by decide +kernel
theorem d_X12_year_30 : decode cX12_year 30 = .ok (.istore_n 3, 1) := by decide +kernel
theorem d_X12_year_31 : decode cX12_year 31 = .ok (.iconst 0, 1) := by decide +kernel
theorem d_X12_year_32 : decode cX12_year 32 = .ok (.istore 4, 2) := by decide +kernel
theorem d_X12_year_34 : decode cX12_year 34 = .ok (.iload 4, 2) := by decide +kernel
theorem d_X12_year_36 : decode cX12_year 36 = .ok (.iload_n 2, 1) := by decide +kernel
theorem d_X12_year_37 : decode cX12_year 37 = .ok (.if_icmp .ge 37, 3) := by decide +kernel
theorem d_X12_year_40 : decode cX12_year 40 = .ok (.aload_n 0, 1) := by decide +kernel
theorem d_X12_year_41 : decode cX12_year 41 = .ok (.invokevirtual 337, 3) := by decide +kernel
theorem d_X12_year_44 : decode cX12_year 44 = .ok (.istore 5, 2) := by decide +kernel
theorem d_X12_year_46 : decode cX12_year 46 = .ok (.aload_n 0, 1) := by decide +kernel
theorem d_X12_year_47 : decode cX12_year 47 = .ok (.iload 5, 2) := by decide +kernel
theorem d_X12_year_49 : decode cX12_year 49 = .ok (.i2l, 1) := by decide +kernel
theorem d_X12_year_50 : decode cX12_year 50 = .ok (.invokevirtual 310, 3) := by decide +kernel
theorem d_X12_year_53 : decode cX12_year 53 = .ok (.ifCond .eq 6, 3) := by decide +kernel
theorem d_X12_year_56 : decode cX12_year 56 = .ok (.goto 12, 3) := by decide +kernel
theorem d_X12_year_59 : decode cX12_year 59 = .ok (.aload_n 0, 1) := by decide +kernel
theorem d_X12_year_60 : decode cX12_year 60 = .ok (.iload 5, 2) := by decide +kernel
theorem d_X12_year_62 : decode cX12_year 62 = .ok (.invokevirtual 314, 3) := by decide +kernel
theorem d_X12_year_65 : decode cX12_year 65 = .ok (.iinc 3 1, 3) := by decide +kernel
theorem d_X12_year_68 : decode cX12_year 68 = .ok (.iinc 4 1, 3) := by decide +kernel
theorem d_X12_year_71 : decode cX12_year 71 = .ok (.goto (-37), 3) := by decide +kernel
theorem d_X12_year_74 : decode cX12_year 74 = .ok (.iload_n 3, 1) := by decide +kernel
theorem d_X12_year_75 : decode cX12_year 75 = .ok (.ifCond .le 7, 3) := by decide +kernel
theorem d_X12_year_78 : decode cX12_year 78 = .ok (.aload_n 0, 1) := by decide +kernel
theorem d_X12_year_79 : decode cX12_year 79 = .ok (.invokevirtual 281, 3) := by decide +kernel
theorem d_X12_year_82 : decode cX12_year 82 = .ok (.iload_n 3, 1) := by decide +kernel
theorem d_X12_year_83 : decode cX12_year 83 = .ok (.ireturn, 1) := by decide +kernel
def F_X12_year_b34 : Nat → Nat → Int32 → Int32 → Int32 → xH → Option (Int32 × xH)
  | 0, _, _, _, _, _ => none
  | n + 1, x0, x2, x3, x4, h => if x2 ≤ x4 then if x3 ≤ 0 then some (x3, h) else (rc h x0 11).bind fun _ => (F_X12_notes x0 h).bind fun z79 => some (x3, z79.2) else (rc h x0 11).bind fun _ => (F_X12_drawn x0 h).bind fun z41 => (rc z41.2 x0 11).bind fun _ => (F_X12_whyNot x0 z41.1.toInt64 z41.2).bind fun z50 => if z50.1 = 0 then (rc z50.2 x0 11).bind fun _ => (F_X12_does x0 z41.1 z50.2).bind fun z62 => F_X12_year_b34 n x0 x2 (x3 + 1) (x4 + 1) z62.2 else F_X12_year_b34 n x0 x2 x3 (x4 + 1) z50.2
theorem R_X12_year_b34 {Γ : xG} {l : Launch} {d : Nat} {Q : Option Value → xH → Prop} {r : Int32} {h' : xH} (hdp : 4 ≤ d) (hq : Q (some (.int r)) h') : ∀ (n : Nat) (x0 : Nat) (x2 : Int32) (x3 : Int32) (x4 : Int32) (h : xH), F_X12_year_b34 n x0 x2 x3 x4 h = some (r, h') → Gd Γ l d m_X12_year 34 [.ref x0, xhole, .int x2, .int x3, .int x4, xhole] [] h 0 0 Q := by
  intro n
  induction n with
  | zero => intro x0 x2 x3 x4 h hF; cases hF
  | succ n ih =>
  intro x0 x2 x3 x4 h hF
  rw [F_X12_year_b34] at hF
  refine g_iload d_X12_year_34 rfl ?_
  refine g_iloadn d_X12_year_36 rfl ?_
  refine g_icmp_ge 74 d_X12_year_37 rfl (fun c37 => ?_) (fun c37 => ?_)
  · have hF := x_t hF c37
    refine g_iloadn d_X12_year_74 rfl ?_
    refine g_if_le 82 d_X12_year_75 rfl (fun c75 => ?_) (fun c75 => ?_)
    · have hF := x_t hF c75
      refine g_iloadn d_X12_year_82 rfl ?_
      obtain ⟨rfl, rfl⟩ := x_inj hF
      exact g_iret d_X12_year_83 rfl hq
    · have hF := x_f hF c75
      refine g_aloadn d_X12_year_78 rfl ?_
      obtain ⟨_, g79, hF⟩ := Option.bind_eq_some_iff.mp hF
      obtain ⟨⟨r79, h79⟩, e79, hF⟩ := Option.bind_eq_some_iff.mp hF
      try dsimp only at hF
      refine q_callV [] [] rfl d_X12_year_79 v_X12_281 (by omega) rfl (Nat.le_of_ble_eq_true rfl) (rc_rc g79 (by decide) rfl) (R_X12_notes _ _ (by omega) e79) ?_
      refine g_iloadn d_X12_year_82 rfl ?_
      obtain ⟨rfl, rfl⟩ := x_inj hF
      exact g_iret d_X12_year_83 rfl hq
  · have hF := x_f hF c37
    refine g_aloadn d_X12_year_40 rfl ?_
    obtain ⟨_, g41, hF⟩ := Option.bind_eq_some_iff.mp hF
    obtain ⟨⟨r41, h41⟩, e41, hF⟩ := Option.bind_eq_some_iff.mp hF
    try dsimp only at hF
    refine q_callV [] [] rfl d_X12_year_41 v_X12_337 (by omega) rfl (Nat.le_of_ble_eq_true rfl) (rc_rc g41 (by decide) rfl) (R_X12_drawn _ _ (by omega) e41) ?_
    refine q_istore [.ref x0, xhole, .int x2, .int x3, .int x4, .int (r41)] d_X12_year_44 (by decide) rfl ?_
    refine g_aloadn d_X12_year_46 rfl ?_
    refine g_iload d_X12_year_47 rfl ?_
    refine g_i2l d_X12_year_49 ?_
    obtain ⟨_, g50, hF⟩ := Option.bind_eq_some_iff.mp hF
    obtain ⟨⟨r50, h50⟩, e50, hF⟩ := Option.bind_eq_some_iff.mp hF
    try dsimp only at hF
    refine q_callV [.long (r41.toInt64)] [] rfl d_X12_year_50 v_X12_310 (by omega) rfl (Nat.le_of_ble_eq_true rfl) (rc_rc g50 (by decide) rfl) (R_X12_whyNot _ _ _ (by omega) e50) ?_
    refine g_if_eq 59 d_X12_year_53 rfl (fun c53 => ?_) (fun c53 => ?_)
    · have hF := x_t hF c53
      refine g_aloadn d_X12_year_59 rfl ?_
      refine g_iload d_X12_year_60 rfl ?_
      obtain ⟨_, g62, hF⟩ := Option.bind_eq_some_iff.mp hF
      obtain ⟨⟨r62, h62⟩, e62, hF⟩ := Option.bind_eq_some_iff.mp hF
      try dsimp only at hF
      refine q_callV [.int (r41)] [] rfl d_X12_year_62 v_X12_314 (by omega) rfl (Nat.le_of_ble_eq_true rfl) (rc_rc g62 (by decide) rfl) (R_X12_does _ _ _ (by omega) e62) ?_
      refine q_iinc (1) [.ref x0, xhole, .int x2, .int (x3 + 1), .int x4, .int (r41)] d_X12_year_65 ic_1 rfl (by decide) rfl ?_
      refine q_iinc (1) [.ref x0, xhole, .int x2, .int (x3 + 1), .int (x4 + 1), .int (r41)] d_X12_year_68 ic_1 rfl (by decide) rfl ?_
      refine g_goto 34 d_X12_year_71 rfl ?_
      exact q_to (xs_r (xs_h (xs_r (xs_r (xs_r (xs_h xs_n)))))) (ih _ _ _ _ _ hF)
    · have hF := x_f hF c53
      refine g_goto 68 d_X12_year_56 rfl ?_
      refine q_iinc (1) [.ref x0, xhole, .int x2, .int x3, .int (x4 + 1), .int (r41)] d_X12_year_68 ic_1 rfl (by decide) rfl ?_
      refine g_goto 34 d_X12_year_71 rfl ?_
      exact q_to (xs_r (xs_h (xs_r (xs_r (xs_r (xs_h xs_n)))))) (ih _ _ _ _ _ hF)
def F_X12_year (x0 : Nat) (x1 : Int32) (x2 : Int32) (h : xH) : Option (Int32 × xH) := (wI h x0 11 0 0).bind fun h2 => (F_X12_within x2.toInt64 1 40 h2).bind fun z11 => if ¬ z11.1 = 0 then (rc z11.2 x0 11).bind fun _ => (F_X12_keeps x0 z11.2).bind fun z21 => (wI z21.2 x0 11 20 x1).bind fun h26 => F_X12_year_b34 FU x0 x2 0 0 h26 else some ((-3), z11.2)
theorem R_X12_year {Γ : xG} {l : Launch} {d : Nat} {r : Int32} {h' : xH} (x0 : Nat) (x1 : Int32) (x2 : Int32) (h : xH) (hdp : 4 ≤ d) (hF : F_X12_year x0 x1 x2 h = some (r, h')) : Gm Γ l d 0 0 m_X12_year [.ref x0, .int x1, .int x2] h (fun a u => a = some (.int r) ∧ u = h') := by
  refine Gm.of pn_X12 (Nat.le_of_ble_eq_true rfl) ?_
  show Gd Γ l d m_X12_year 0 [.ref x0, .int x1, .int x2, xhole, xhole, xhole] [] h 0 0 _
  generalize hQ : (fun (a : Option Value) (u : xH) => a = some (.int r) ∧ u = h') = Q
  have hq : Q (some (.int r)) h' := by rw [← hQ]; exact ⟨rfl, rfl⟩
  clear hQ
  unfold F_X12_year at hF
  refine g_aloadn d_X12_year_0 rfl ?_
  refine g_ic (0) d_X12_year_1 ic_0 ?_
  obtain ⟨h2, e2, hF⟩ := Option.bind_eq_some_iff.mp hF
  refine q_wI d_X12_year_2 (w_X12_1 _) e2 ?_
  refine g_iloadn d_X12_year_5 rfl ?_
  refine g_i2l d_X12_year_6 ?_
  refine g_lc 1 d_X12_year_7 rfl ?_
  refine g_ldc2 d_X12_year_8 k_X12_335 ?_
  obtain ⟨⟨r11, h11⟩, e11, hF⟩ := Option.bind_eq_some_iff.mp hF
  try dsimp only at hF
  refine q_callS [.long (x2.toInt64), .long 1, .long 40] [] rfl d_X12_year_11 s_X12_148 (by omega) rfl (Nat.le_of_ble_eq_true rfl) (R_X12_within _ _ _ _ (by omega) e11) ?_
  refine g_if_ne 20 d_X12_year_14 rfl (fun c14 => ?_) (fun c14 => ?_)
  · have hF := x_t hF c14
    refine g_aloadn d_X12_year_20 rfl ?_
    obtain ⟨_, g21, hF⟩ := Option.bind_eq_some_iff.mp hF
    obtain ⟨⟨r21, h21⟩, e21, hF⟩ := Option.bind_eq_some_iff.mp hF
    try dsimp only at hF
    refine q_callV [] [] rfl d_X12_year_21 v_X12_278 (by omega) rfl (Nat.le_of_ble_eq_true rfl) (rc_rc g21 (by decide) rfl) (R_X12_keeps _ _ (by omega) e21) ?_
    refine g_aloadn d_X12_year_24 rfl ?_
    refine g_iloadn d_X12_year_25 rfl ?_
    obtain ⟨h26, e26, hF⟩ := Option.bind_eq_some_iff.mp hF
    refine q_wI d_X12_year_26 (w_X12_329 _) e26 ?_
    refine g_ic (0) d_X12_year_29 ic_0 ?_
    refine q_istoren [.ref x0, .int x1, .int x2, .int 0, xhole, xhole] d_X12_year_30 (by decide) rfl ?_
    refine g_ic (0) d_X12_year_31 ic_0 ?_
    refine q_istore [.ref x0, .int x1, .int x2, .int 0, .int 0, xhole] d_X12_year_32 (by decide) rfl ?_
    exact q_to (xs_r (xs_h (xs_r (xs_r (xs_r (xs_h xs_n)))))) (R_X12_year_b34 hdp hq FU _ _ _ _ _ hF)
  · have hF := x_f hF (not_not_intro c14)
    refine g_bi (-3) d_X12_year_17 bi_m3 ?_
    obtain ⟨rfl, rfl⟩ := x_inj hF
    exact g_iret d_X12_year_19 rfl hq
theorem d_X12_laysHeard_0 : decode cX12_laysHeard 0 = .ok (.iconst 0, 1) := by decide +kernel
theorem d_X12_laysHeard_1 : decode cX12_laysHeard 1 = .ok (.istore_n 2, 1) := by decide +kernel
theorem d_X12_laysHeard_2 : decode cX12_laysHeard 2 = .ok (.iload_n 2, 1) := by decide +kernel
theorem d_X12_laysHeard_3 : decode cX12_laysHeard 3 = .ok (.aload_n 0, 1) := by decide +kernel
theorem d_X12_laysHeard_4 : decode cX12_laysHeard 4 = .ok (.getfield 13, 3) := by decide +kernel
theorem d_X12_laysHeard_7 : decode cX12_laysHeard 7 = .ok (.iconst 1, 1) := by decide +kernel
theorem d_X12_laysHeard_8 : decode cX12_laysHeard 8 = .ok (.iaload, 1) := by decide +kernel
theorem d_X12_laysHeard_9 : decode cX12_laysHeard 9 = .ok (.if_icmp .ge 60, 3) := by decide +kernel
theorem d_X12_laysHeard_12 : decode cX12_laysHeard 12 = .ok (.aload_n 0, 1) := by decide +kernel
theorem d_X12_laysHeard_13 : decode cX12_laysHeard 13 = .ok (.getfield 39, 3) := by decide +kernel
theorem d_X12_laysHeard_16 : decode cX12_laysHeard 16 = .ok (.iload_n 2, 1) := by decide +kernel
theorem d_X12_laysHeard_17 : decode cX12_laysHeard 17 = .ok (.iconst 0, 1) := by decide +kernel
theorem d_X12_laysHeard_18 : decode cX12_laysHeard 18 = .ok (.iastore, 1) := by decide +kernel
theorem d_X12_laysHeard_19 : decode cX12_laysHeard 19 = .ok (.iconst 0, 1) := by decide +kernel
theorem d_X12_laysHeard_20 : decode cX12_laysHeard 20 = .ok (.istore_n 3, 1) := by decide +kernel
theorem d_X12_laysHeard_21 : decode cX12_laysHeard 21 = .ok (.iload_n 3, 1) := by decide +kernel
theorem d_X12_laysHeard_22 : decode cX12_laysHeard 22 = .ok (.aload_n 0, 1) := by decide +kernel
theorem d_X12_laysHeard_23 : decode cX12_laysHeard 23 = .ok (.getfield 13, 3) := by decide +kernel
theorem d_X12_laysHeard_26 : decode cX12_laysHeard 26 = .ok (.iconst 1, 1) := by decide +kernel
theorem d_X12_laysHeard_27 : decode cX12_laysHeard 27 = .ok (.iaload, 1) := by decide +kernel
theorem d_X12_laysHeard_28 : decode cX12_laysHeard 28 = .ok (.if_icmp .gt 35, 3) := by decide +kernel
theorem d_X12_laysHeard_31 : decode cX12_laysHeard 31 = .ok (.aload_n 0, 1) := by decide +kernel
theorem d_X12_laysHeard_32 : decode cX12_laysHeard 32 = .ok (.getfield 39, 3) := by decide +kernel
theorem d_X12_laysHeard_35 : decode cX12_laysHeard 35 = .ok (.iload_n 2, 1) := by decide +kernel
theorem d_X12_laysHeard_36 : decode cX12_laysHeard 36 = .ok (.dup2, 1) := by decide +kernel
theorem d_X12_laysHeard_37 : decode cX12_laysHeard 37 = .ok (.iaload, 1) := by decide +kernel
theorem d_X12_laysHeard_38 : decode cX12_laysHeard 38 = .ok (.aload_n 0, 1) := by decide +kernel
theorem d_X12_laysHeard_39 : decode cX12_laysHeard 39 = .ok (.iload_n 1, 1) := by decide +kernel
theorem d_X12_laysHeard_40 : decode cX12_laysHeard 40 = .ok (.iload_n 2, 1) := by decide +kernel
theorem d_X12_laysHeard_41 : decode cX12_laysHeard 41 = .ok (.iload_n 3, 1) := by decide +kernel
theorem d_X12_laysHeard_42 : decode cX12_laysHeard 42 = .ok (.invokevirtual 238, 3) := by decide +kernel
theorem d_X12_laysHeard_45 : decode cX12_laysHeard 45 = .ok (.ifCond .eq 9, 3) := by decide +kernel
theorem d_X12_laysHeard_48 : decode cX12_laysHeard 48 = .ok (.iconst 1, 1) := by decide +kernel
theorem d_X12_laysHeard_49 : decode cX12_laysHeard 49 = .ok (.iload_n 3, 1) := by decide +kernel
theorem d_X12_laysHeard_50 : decode cX12_laysHeard 50 = .ok (.ishl, 1) := by decide +kernel
theorem d_X12_laysHeard_51 : decode cX12_laysHeard 51 = .ok (.goto 4, 3) := by decide +kernel
theorem d_X12_laysHeard_54 : decode cX12_laysHeard 54 = .ok (.iconst 0, 1) := by decide +kernel
theorem d_X12_laysHeard_55 : decode cX12_laysHeard 55 = .ok (.ior, 1) := by decide +kernel
theorem d_X12_laysHeard_56 : decode cX12_laysHeard 56 = .ok (.iastore, 1) := by decide +kernel
theorem d_X12_laysHeard_57 : decode cX12_laysHeard 57 = .ok (.iinc 3 1, 3) := by decide +kernel
theorem d_X12_laysHeard_60 : decode cX12_laysHeard 60 = .ok (.goto (-39), 3) := by decide +kernel
theorem d_X12_laysHeard_63 : decode cX12_laysHeard 63 = .ok (.iinc 2 1, 3) := by decide +kernel
theorem d_X12_laysHeard_66 : decode cX12_laysHeard 66 = .ok (.goto (-64), 3) := by decide +kernel
theorem d_X12_laysHeard_69 : decode cX12_laysHeard 69 = .ok (.return_, 1) := by decide +kernel
def F_X12_laysHeard_b55 (k2 : Nat → Int32 → Int32 → xH → Option (Unit × xH)) (k21 : Nat → Int32 → Int32 → Int32 → xH → Option (Unit × xH)) (x0 : Nat) (x1 : Int32) (x2 : Int32) (x3 : Int32) (s0 : Nat) (s1 : Int32) (s2 : Int32) (s3 : Int32) (h : xH) : Option (Unit × xH) := (sI h s0 s1 (s2 ||| s3)).bind fun h56 => k21 x0 x1 x2 (x3 + 1) h56
theorem R_X12_laysHeard_b55 {Γ : xG} {l : Launch} {d : Nat} {Q : Option Value → xH → Prop} {r : Unit} {h' : xH} {k2 : Nat → Int32 → Int32 → xH → Option (Unit × xH)} {k21 : Nat → Int32 → Int32 → Int32 → xH → Option (Unit × xH)} (K2 : ∀ (x0 : Nat) (x1 : Int32) (x2 : Int32)  (h : xH), k2 x0 x1 x2 h = some (r, h') → Gd Γ l d m_X12_laysHeard 2 [.ref x0, .int x1, .int x2, xhole] [] h 0 0 Q) (K21 : ∀ (x0 : Nat) (x1 : Int32) (x2 : Int32) (x3 : Int32)  (h : xH), k21 x0 x1 x2 x3 h = some (r, h') → Gd Γ l d m_X12_laysHeard 21 [.ref x0, .int x1, .int x2, .int x3] [] h 0 0 Q) (hdp : 3 ≤ d) (hq : Q (none) h') : ∀ (x0 : Nat) (x1 : Int32) (x2 : Int32) (x3 : Int32) (s0 : Nat) (s1 : Int32) (s2 : Int32) (s3 : Int32) (h : xH), F_X12_laysHeard_b55 k2 k21 x0 x1 x2 x3 s0 s1 s2 s3 h = some (r, h') → Gd Γ l d m_X12_laysHeard 55 [.ref x0, .int x1, .int x2, .int x3] [.int s3, .int s2, .int s1, .ref s0] h 0 0 Q := by
  intro x0 x1 x2 x3 s0 s1 s2 s3 h hF
  unfold F_X12_laysHeard_b55 at hF
  refine g_ior d_X12_laysHeard_55 ?_
  obtain ⟨h56, e56, hF⟩ := Option.bind_eq_some_iff.mp hF
  refine q_sI d_X12_laysHeard_56 e56 ?_
  refine q_iinc (1) [.ref x0, .int x1, .int x2, .int (x3 + 1)] d_X12_laysHeard_57 ic_1 rfl (by decide) rfl ?_
  refine g_goto 21 d_X12_laysHeard_60 rfl ?_
  exact q_to (xs_r (xs_r (xs_r (xs_r xs_n)))) (K21 _ _ _ _ _ hF)
def F_X12_laysHeard_b21 (k2 : Nat → Int32 → Int32 → xH → Option (Unit × xH)) : Nat → Nat → Int32 → Int32 → Int32 → xH → Option (Unit × xH)
  | 0, _, _, _, _, _ => none
  | n + 1, x0, x1, x2, x3, h => (fR h x0 11 1).bind fun v23 => (aI h v23 1).bind fun v27 => if v27 < x3 then k2 x0 x1 (x2 + 1) h else (fR h x0 11 21).bind fun v32 => (aI h v32 x2).bind fun v37 => (rc h x0 11).bind fun _ => (F_X12_hearsBy x0 x1 x2 x3 h).bind fun z42 => if z42.1 = 0 then F_X12_laysHeard_b55 k2 (F_X12_laysHeard_b21 k2 n) x0 x1 x2 x3 v32 x2 v37 0 z42.2 else F_X12_laysHeard_b55 k2 (F_X12_laysHeard_b21 k2 n) x0 x1 x2 x3 v32 x2 v37 (((1 : Int32)) <<< (x3 &&& 31)) z42.2
theorem R_X12_laysHeard_b21 {Γ : xG} {l : Launch} {d : Nat} {Q : Option Value → xH → Prop} {r : Unit} {h' : xH} {k2 : Nat → Int32 → Int32 → xH → Option (Unit × xH)} (K2 : ∀ (x0 : Nat) (x1 : Int32) (x2 : Int32)  (h : xH), k2 x0 x1 x2 h = some (r, h') → Gd Γ l d m_X12_laysHeard 2 [.ref x0, .int x1, .int x2, xhole] [] h 0 0 Q) (hdp : 3 ≤ d) (hq : Q (none) h') : ∀ (n : Nat) (x0 : Nat) (x1 : Int32) (x2 : Int32) (x3 : Int32) (h : xH), F_X12_laysHeard_b21 k2 n x0 x1 x2 x3 h = some (r, h') → Gd Γ l d m_X12_laysHeard 21 [.ref x0, .int x1, .int x2, .int x3] [] h 0 0 Q := by
  intro n
  induction n with
  | zero => intro x0 x1 x2 x3 h hF; cases hF
  | succ n ih =>
  intro x0 x1 x2 x3 h hF
  rw [F_X12_laysHeard_b21] at hF
  refine g_iloadn d_X12_laysHeard_21 rfl ?_
  refine g_aloadn d_X12_laysHeard_22 rfl ?_
  obtain ⟨v23, e23, hF⟩ := Option.bind_eq_some_iff.mp hF
  refine q_fR d_X12_laysHeard_23 f_X12_13 e23 ?_
  refine g_ic (1) d_X12_laysHeard_26 ic_1 ?_
  obtain ⟨v27, e27, hF⟩ := Option.bind_eq_some_iff.mp hF
  refine q_aI d_X12_laysHeard_27 e27 ?_
  refine g_icmp_gt 63 d_X12_laysHeard_28 rfl (fun c28 => ?_) (fun c28 => ?_)
  · have hF := x_t hF c28
    refine q_iinc (1) [.ref x0, .int x1, .int (x2 + 1), .int x3] d_X12_laysHeard_63 ic_1 rfl (by decide) rfl ?_
    refine g_goto 2 d_X12_laysHeard_66 rfl ?_
    exact q_to (xs_r (xs_r (xs_r (xs_h xs_n)))) (K2 _ _ _ _ hF)
  · have hF := x_f hF c28
    refine g_aloadn d_X12_laysHeard_31 rfl ?_
    obtain ⟨v32, e32, hF⟩ := Option.bind_eq_some_iff.mp hF
    refine q_fR d_X12_laysHeard_32 f_X12_39 e32 ?_
    refine g_iloadn d_X12_laysHeard_35 rfl ?_
    refine g_dup2 d_X12_laysHeard_36 rfl rfl ?_
    obtain ⟨v37, e37, hF⟩ := Option.bind_eq_some_iff.mp hF
    refine q_aI d_X12_laysHeard_37 e37 ?_
    refine g_aloadn d_X12_laysHeard_38 rfl ?_
    refine g_iloadn d_X12_laysHeard_39 rfl ?_
    refine g_iloadn d_X12_laysHeard_40 rfl ?_
    refine g_iloadn d_X12_laysHeard_41 rfl ?_
    obtain ⟨_, g42, hF⟩ := Option.bind_eq_some_iff.mp hF
    obtain ⟨⟨r42, h42⟩, e42, hF⟩ := Option.bind_eq_some_iff.mp hF
    try dsimp only at hF
    refine q_callV [.int x1, .int x2, .int x3] [.int v37, .int x2, .ref v32] rfl d_X12_laysHeard_42 v_X12_238 (by omega) rfl (Nat.le_of_ble_eq_true rfl) (rc_rc g42 (by decide) rfl) (R_X12_hearsBy _ _ _ _ _ (by omega) e42) ?_
    refine g_if_eq 54 d_X12_laysHeard_45 rfl (fun c45 => ?_) (fun c45 => ?_)
    · have hF := x_t hF c45
      refine g_ic (0) d_X12_laysHeard_54 ic_0 ?_
      exact q_to (xs_r (xs_r (xs_r (xs_r xs_n)))) (R_X12_laysHeard_b55 K2 ih hdp hq _ _ _ _ _ _ _ _ _ hF)
    · have hF := x_f hF c45
      refine g_ic (1) d_X12_laysHeard_48 ic_1 ?_
      refine g_iloadn d_X12_laysHeard_49 rfl ?_
      refine g_ishl d_X12_laysHeard_50 ?_
      refine g_goto 55 d_X12_laysHeard_51 rfl ?_
      exact q_to (xs_r (xs_r (xs_r (xs_r xs_n)))) (R_X12_laysHeard_b55 K2 ih hdp hq _ _ _ _ _ _ _ _ _ hF)
def F_X12_laysHeard_b2 : Nat → Nat → Int32 → Int32 → xH → Option (Unit × xH)
  | 0, _, _, _, _ => none
  | n + 1, x0, x1, x2, h => (fR h x0 11 1).bind fun v4 => (aI h v4 1).bind fun v8 => if v8 ≤ x2 then some ((), h) else (fR h x0 11 21).bind fun v13 => (sI h v13 x2 0).bind fun h18 => F_X12_laysHeard_b21 (F_X12_laysHeard_b2 n) FU x0 x1 x2 0 h18
theorem R_X12_laysHeard_b2 {Γ : xG} {l : Launch} {d : Nat} {Q : Option Value → xH → Prop} {r : Unit} {h' : xH} (hdp : 3 ≤ d) (hq : Q (none) h') : ∀ (n : Nat) (x0 : Nat) (x1 : Int32) (x2 : Int32) (h : xH), F_X12_laysHeard_b2 n x0 x1 x2 h = some (r, h') → Gd Γ l d m_X12_laysHeard 2 [.ref x0, .int x1, .int x2, xhole] [] h 0 0 Q := by
  intro n
  induction n with
  | zero => intro x0 x1 x2 h hF; cases hF
  | succ n ih =>
  intro x0 x1 x2 h hF
  rw [F_X12_laysHeard_b2] at hF
  refine g_iloadn d_X12_laysHeard_2 rfl ?_
  refine g_aloadn d_X12_laysHeard_3 rfl ?_
  obtain ⟨v4, e4, hF⟩ := Option.bind_eq_some_iff.mp hF
  refine q_fR d_X12_laysHeard_4 f_X12_13 e4 ?_
  refine g_ic (1) d_X12_laysHeard_7 ic_1 ?_
  obtain ⟨v8, e8, hF⟩ := Option.bind_eq_some_iff.mp hF
  refine q_aI d_X12_laysHeard_8 e8 ?_
  refine g_icmp_ge 69 d_X12_laysHeard_9 rfl (fun c9 => ?_) (fun c9 => ?_)
  · have hF := x_t hF c9
    obtain ⟨rfl, rfl⟩ := x_inj hF
    exact g_vret d_X12_laysHeard_69 rfl hq
  · have hF := x_f hF c9
    refine g_aloadn d_X12_laysHeard_12 rfl ?_
    obtain ⟨v13, e13, hF⟩ := Option.bind_eq_some_iff.mp hF
    refine q_fR d_X12_laysHeard_13 f_X12_39 e13 ?_
    refine g_iloadn d_X12_laysHeard_16 rfl ?_
    refine g_ic (0) d_X12_laysHeard_17 ic_0 ?_
    obtain ⟨h18, e18, hF⟩ := Option.bind_eq_some_iff.mp hF
    refine q_sI d_X12_laysHeard_18 e18 ?_
    refine g_ic (0) d_X12_laysHeard_19 ic_0 ?_
    refine q_istoren [.ref x0, .int x1, .int x2, .int 0] d_X12_laysHeard_20 (by decide) rfl ?_
    exact q_to (xs_r (xs_r (xs_r (xs_r xs_n)))) (R_X12_laysHeard_b21 ih hdp hq FU _ _ _ _ _ hF)
def F_X12_laysHeard (x0 : Nat) (x1 : Int32) (h : xH) : Option (Unit × xH) := F_X12_laysHeard_b2 FU x0 x1 0 h
theorem R_X12_laysHeard {Γ : xG} {l : Launch} {d : Nat} {r : Unit} {h' : xH} (x0 : Nat) (x1 : Int32) (h : xH) (hdp : 3 ≤ d) (hF : F_X12_laysHeard x0 x1 h = some (r, h')) : Gm Γ l d 0 0 m_X12_laysHeard [.ref x0, .int x1] h (fun a u => a = none ∧ u = h') := by
  refine Gm.of pn_X12 (Nat.le_of_ble_eq_true rfl) ?_
  show Gd Γ l d m_X12_laysHeard 0 [.ref x0, .int x1, xhole, xhole] [] h 0 0 _
  generalize hQ : (fun (a : Option Value) (u : xH) => a = none ∧ u = h') = Q
  have hq : Q (none) h' := by rw [← hQ]; exact ⟨rfl, rfl⟩
  clear hQ
  unfold F_X12_laysHeard at hF
  refine g_ic (0) d_X12_laysHeard_0 ic_0 ?_
  refine q_istoren [.ref x0, .int x1, .int 0, xhole] d_X12_laysHeard_1 (by decide) rfl ?_
  exact q_to (xs_r (xs_r (xs_r (xs_h xs_n)))) (R_X12_laysHeard_b2 hdp hq FU _ _ _ _ hF)
theorem d_X12_everyBlank_0 : decode cX12_everyBlank 0 = .ok (.iconst 1, 1) := by decide +kernel
theorem d_X12_everyBlank_1 : decode cX12_everyBlank 1 = .ok (.aload_n 0, 1) := by decide +kernel
theorem d_X12_everyBlank_2 : decode cX12_everyBlank 2 = .ok (.getfield 13, 3) := by decide +kernel
theorem d_X12_everyBlank_5 : decode cX12_everyBlank 5 = .ok (.iconst 1, 1) := by decide +kernel
theorem d_X12_everyBlank_6 : decode cX12_everyBlank 6 = .ok (.iaload, 1) := by decide +kernel
theorem d_X12_everyBlank_7 : decode cX12_everyBlank 7 = .ok (.iconst 1, 1) := by decide +kernel
theorem d_X12_everyBlank_8 : decode cX12_everyBlank 8 = .ok (.iadd, 1) := by decide +kernel
theorem d_X12_everyBlank_9 : decode cX12_everyBlank 9 = .ok (.ishl, 1) := by decide +kernel
theorem d_X12_everyBlank_10 : decode cX12_everyBlank 10 = .ok (.iconst 1, 1) := by decide +kernel
theorem d_X12_everyBlank_11 : decode cX12_everyBlank 11 = .ok (.isub, 1) := by decide +kernel
theorem d_X12_everyBlank_12 : decode cX12_everyBlank 12 = .ok (.ireturn, 1) := by decide +kernel
def F_X12_everyBlank (x0 : Nat) (h : xH) : Option (Int32 × xH) := (fR h x0 11 1).bind fun v2 => (aI h v2 1).bind fun v6 => some ((((1 : Int32)) <<< ((v6 + 1) &&& 31)) - 1, h)
theorem R_X12_everyBlank {Γ : xG} {l : Launch} {d : Nat} {r : Int32} {h' : xH} (x0 : Nat) (h : xH) (hdp : 0 ≤ d) (hF : F_X12_everyBlank x0 h = some (r, h')) : Gm Γ l d 0 0 m_X12_everyBlank [.ref x0] h (fun a u => a = some (.int r) ∧ u = h') := by
  refine Gm.of pn_X12 (Nat.le_of_ble_eq_true rfl) ?_
  show Gd Γ l d m_X12_everyBlank 0 [.ref x0] [] h 0 0 _
  generalize hQ : (fun (a : Option Value) (u : xH) => a = some (.int r) ∧ u = h') = Q
  have hq : Q (some (.int r)) h' := by rw [← hQ]; exact ⟨rfl, rfl⟩
  clear hQ
  unfold F_X12_everyBlank at hF
  refine g_ic (1) d_X12_everyBlank_0 ic_1 ?_
  refine g_aloadn d_X12_everyBlank_1 rfl ?_
  obtain ⟨v2, e2, hF⟩ := Option.bind_eq_some_iff.mp hF
  refine q_fR d_X12_everyBlank_2 f_X12_13 e2 ?_
  refine g_ic (1) d_X12_everyBlank_5 ic_1 ?_
  obtain ⟨v6, e6, hF⟩ := Option.bind_eq_some_iff.mp hF
  refine q_aI d_X12_everyBlank_6 e6 ?_
  refine g_ic (1) d_X12_everyBlank_7 ic_1 ?_
  refine g_iadd d_X12_everyBlank_8 ?_
  refine g_ishl d_X12_everyBlank_9 ?_
  refine g_ic (1) d_X12_everyBlank_10 ic_1 ?_
  refine g_isub d_X12_everyBlank_11 ?_
  obtain ⟨rfl, rfl⟩ := x_inj hF
  exact g_iret d_X12_everyBlank_12 rfl hq
theorem d_X12_noAnswers_0 : decode cX12_noAnswers 0 = .ok (.iload_n 1, 1) := by decide +kernel
theorem d_X12_noAnswers_1 : decode cX12_noAnswers 1 = .ok (.i2l, 1) := by decide +kernel
theorem d_X12_noAnswers_2 : decode cX12_noAnswers 2 = .ok (.lconst 0, 1) := by decide +kernel
theorem d_X12_noAnswers_3 : decode cX12_noAnswers 3 = .ok (.ldc2_w 317, 3) := by decide +kernel
theorem d_X12_noAnswers_6 : decode cX12_noAnswers 6 = .ok (.invokestatic 148, 3) := by decide +kernel
theorem d_X12_noAnswers_9 : decode cX12_noAnswers 9 = .ok (.ifCond .eq 12, 3) := by decide +kernel
theorem d_X12_noAnswers_12 : decode cX12_noAnswers 12 = .ok (.aload_n 0, 1) := by decide +kernel
theorem d_X12_noAnswers_13 : decode cX12_noAnswers 13 = .ok (.iload_n 2, 1) := by decide +kernel
theorem d_X12_noAnswers_14 : decode cX12_noAnswers 14 = .ok (.i2l, 1) := by decide +kernel
theorem d_X12_noAnswers_15 : decode cX12_noAnswers 15 = .ok (.invokevirtual 246, 3) := by decide +kernel
theorem d_X12_noAnswers_18 : decode cX12_noAnswers 18 = .ok (.ifCond .ne 6, 3) := by decide +kernel
theorem d_X12_noAnswers_21 : decode cX12_noAnswers 21 = .ok (.bipush (-2), 2) := by decide +kernel
theorem d_X12_noAnswers_23 : decode cX12_noAnswers 23 = .ok (.ireturn, 1) := by decide +kernel
theorem d_X12_noAnswers_24 : decode cX12_noAnswers 24 = .ok (.aload_n 0, 1) := by decide +kernel
theorem d_X12_noAnswers_25 : decode cX12_noAnswers 25 = .ok (.iload_n 1, 1) := by decide +kernel
theorem d_X12_noAnswers_26 : decode cX12_noAnswers 26 = .ok (.invokevirtual 319, 3) := by decide +kernel
theorem d_X12_noAnswers_29 : decode cX12_noAnswers 29 = .ok (.istore_n 3, 1) := by decide +kernel
theorem d_X12_noAnswers_30 : decode cX12_noAnswers 30 = .ok (.iload_n 3, 1) := by decide +kernel
theorem d_X12_noAnswers_31 : decode cX12_noAnswers 31 = .ok (.ifCond .eq 5, 3) := by decide +kernel
theorem d_X12_noAnswers_34 : decode cX12_noAnswers 34 = .ok (.iload_n 3, 1) := by decide +kernel
theorem d_X12_noAnswers_35 : decode cX12_noAnswers 35 = .ok (.ireturn, 1) := by decide +kernel
theorem d_X12_noAnswers_36 : decode cX12_noAnswers 36 = .ok (.aload_n 0, 1) := by decide +kernel
theorem d_X12_noAnswers_37 : decode cX12_noAnswers 37 = .ok (.getfield 76, 3) := by decide +kernel
theorem d_X12_noAnswers_40 : decode cX12_noAnswers 40 = .ok (.iload_n 1, 1) := by decide +kernel
theorem d_X12_noAnswers_41 : decode cX12_noAnswers 41 = .ok (.iaload, 1) := by decide +kernel
theorem d_X12_noAnswers_42 : decode cX12_noAnswers 42 = .ok (.i2l, 1) := by decide +kernel
theorem d_X12_noAnswers_43 : decode cX12_noAnswers 43 = .ok (.lconst 1, 1) := by decide +kernel
theorem d_X12_noAnswers_44 : decode cX12_noAnswers 44 = .ok (.ldc2_w 340, 3) := by decide +kernel
theorem d_X12_noAnswers_47 : decode cX12_noAnswers 47 = .ok (.invokestatic 148, 3) := by decide +kernel
theorem d_X12_noAnswers_50 : decode cX12_noAnswers 50 = .ok (.ifCond .ne 6, 3) := by decide +kernel
theorem d_X12_noAnswers_53 : decode cX12_noAnswers 53 = .ok (.bipush (-4), 2) := by decide +kernel
theorem d_X12_noAnswers_55 : decode cX12_noAnswers 55 = .ok (.ireturn, 1) := by decide +kernel
theorem d_X12_noAnswers_56 : decode cX12_noAnswers 56 = .ok (.iconst 0, 1) := by decide +kernel
theorem d_X12_noAnswers_57 : decode cX12_noAnswers 57 = .ok (.istore 4, 2) := by decide +kernel
theorem d_X12_noAnswers_59 : decode cX12_noAnswers 59 = .ok (.iload 4, 2) := by decide +kernel
theorem d_X12_noAnswers_61 : decode cX12_noAnswers 61 = .ok (.aload_n 0, 1) := by decide +kernel
theorem d_X12_noAnswers_62 : decode cX12_noAnswers 62 = .ok (.getfield 76, 3) := by decide +kernel
theorem d_X12_noAnswers_65 : decode cX12_noAnswers 65 = .ok (.iload_n 1, 1) := by decide +kernel
theorem d_X12_noAnswers_66 : decode cX12_noAnswers 66 = .ok (.iaload, 1) := by decide +kernel
theorem d_X12_noAnswers_67 : decode cX12_noAnswers 67 = .ok (.if_icmp .ge 42, 3) := by decide +kernel
theorem d_X12_noAnswers_70 : decode cX12_noAnswers 70 = .ok (.aload_n 0, 1) := by decide +kernel
theorem d_X12_noAnswers_71 : decode cX12_noAnswers 71 = .ok (.getfield 79, 3) := by decide +kernel
theorem d_X12_noAnswers_74 : decode cX12_noAnswers 74 = .ok (.bipush 40, 2) := by decide +kernel
theorem d_X12_noAnswers_76 : decode cX12_noAnswers 76 = .ok (.iload_n 1, 1) := by decide +kernel
theorem d_X12_noAnswers_77 : decode cX12_noAnswers 77 = .ok (.imul, 1) := by decide +kernel
theorem d_X12_noAnswers_78 : decode cX12_noAnswers 78 = .ok (.iload 4, 2) := by decide +kernel
theorem d_X12_noAnswers_80 : decode cX12_noAnswers 80 = .ok (.iadd, 1) := by decide +kernel
theorem d_X12_noAnswers_81 : decode cX12_noAnswers 81 = .ok (.laload, 1) := by decide +kernel
theorem d_X12_noAnswers_82 : decode cX12_noAnswers 82 = .ok (.lconst 0, 1) := by decide +kernel
theorem d_X12_noAnswers_83 : decode cX12_noAnswers 83 = .ok (.iconst 2, 1) := by decide +kernel
theorem d_X12_noAnswers_84 : decode cX12_noAnswers 84 = .ok (.aload_n 0, 1) := by decide +kernel
theorem d_X12_noAnswers_85 : decode cX12_noAnswers 85 = .ok (.getfield 13, 3) := by decide +kernel
theorem d_X12_noAnswers_88 : decode cX12_noAnswers 88 = .ok (.iconst 1, 1) := by decide +kernel
theorem d_X12_noAnswers_89 : decode cX12_noAnswers 89 = .ok (.iaload, 1) := by decide +kernel
theorem d_X12_noAnswers_90 : decode cX12_noAnswers 90 = .ok (.imul, 1) := by decide +kernel
theorem d_X12_noAnswers_91 : decode cX12_noAnswers 91 = .ok (.iconst 1, 1) := by decide +kernel
theorem d_X12_noAnswers_92 : decode cX12_noAnswers 92 = .ok (.isub, 1) := by decide +kernel
theorem d_X12_noAnswers_93 : decode cX12_noAnswers 93 = .ok (.i2l, 1) := by decide +kernel
theorem d_X12_noAnswers_94 : decode cX12_noAnswers 94 = .ok (.invokestatic 148, 3) := by decide +kernel
theorem d_X12_noAnswers_97 : decode cX12_noAnswers 97 = .ok (.ifCond .ne 6, 3) := by decide +kernel
theorem d_X12_noAnswers_100 : decode cX12_noAnswers 100 = .ok (.bipush (-3), 2) := by decide +kernel
theorem d_X12_noAnswers_102 : decode cX12_noAnswers 102 = .ok (.ireturn, 1) := by decide +kernel
theorem d_X12_noAnswers_103 : decode cX12_noAnswers 103 = .ok (.iinc 4 1, 3) := by decide +kernel
theorem d_X12_noAnswers_106 : decode cX12_noAnswers 106 = .ok (.goto (-47), 3) := by decide +kernel
theorem d_X12_noAnswers_109 : decode cX12_noAnswers 109 = .ok (.iconst 0, 1) := by decide +kernel
theorem d_X12_noAnswers_110 : decode cX12_noAnswers 110 = .ok (.ireturn, 1) := by decide +kernel
def F_X12_noAnswers_b59 : Nat → Nat → Int32 → Int32 → xH → Option (Int32 × xH)
  | 0, _, _, _, _ => none
  | n + 1, x0, x1, x4, h => (fR h x0 11 35).bind fun v62 => (aI h v62 x1).bind fun v66 => if v66 ≤ x4 then some (0, h) else (fR h x0 11 36).bind fun v71 => (aJ h v71 ((((40 : Int32)) * x1) + x4)).bind fun v81 => (fR h x0 11 1).bind fun v85 => (aI h v85 1).bind fun v89 => (F_X12_within v81 0 (((((2 : Int32)) * v89) - 1).toInt64) h).bind fun z94 => if ¬ z94.1 = 0 then F_X12_noAnswers_b59 n x0 x1 (x4 + 1) z94.2 else some ((-3), z94.2)
theorem R_X12_noAnswers_b59 {Γ : xG} {l : Launch} {d : Nat} {Q : Option Value → xH → Prop} {r : Int32} {h' : xH} (hdp : 2 ≤ d) (hq : Q (some (.int r)) h') : ∀ (n : Nat) (x0 : Nat) (x1 : Int32) (x4 : Int32) (h : xH), F_X12_noAnswers_b59 n x0 x1 x4 h = some (r, h') → Gd Γ l d m_X12_noAnswers 59 [.ref x0, .int x1, xhole, xhole, .int x4] [] h 0 0 Q := by
  intro n
  induction n with
  | zero => intro x0 x1 x4 h hF; cases hF
  | succ n ih =>
  intro x0 x1 x4 h hF
  rw [F_X12_noAnswers_b59] at hF
  refine g_iload d_X12_noAnswers_59 rfl ?_
  refine g_aloadn d_X12_noAnswers_61 rfl ?_
  obtain ⟨v62, e62, hF⟩ := Option.bind_eq_some_iff.mp hF
  refine q_fR d_X12_noAnswers_62 f_X12_76 e62 ?_
  refine g_iloadn d_X12_noAnswers_65 rfl ?_
  obtain ⟨v66, e66, hF⟩ := Option.bind_eq_some_iff.mp hF
  refine q_aI d_X12_noAnswers_66 e66 ?_
  refine g_icmp_ge 109 d_X12_noAnswers_67 rfl (fun c67 => ?_) (fun c67 => ?_)
  · have hF := x_t hF c67
    refine g_ic (0) d_X12_noAnswers_109 ic_0 ?_
    obtain ⟨rfl, rfl⟩ := x_inj hF
    exact g_iret d_X12_noAnswers_110 rfl hq
  · have hF := x_f hF c67
    refine g_aloadn d_X12_noAnswers_70 rfl ?_
    obtain ⟨v71, e71, hF⟩ := Option.bind_eq_some_iff.mp hF
    refine q_fR d_X12_noAnswers_71 f_X12_79 e71 ?_
    refine g_bi (40) d_X12_noAnswers_74 bi_40 ?_
    refine g_iloadn d_X12_noAnswers_76 rfl ?_
    refine g_imul d_X12_noAnswers_77 ?_
    refine g_iload d_X12_noAnswers_78 rfl ?_
    refine g_iadd d_X12_noAnswers_80 ?_
    obtain ⟨v81, e81, hF⟩ := Option.bind_eq_some_iff.mp hF
    refine q_aJ d_X12_noAnswers_81 e81 ?_
    refine g_lc 0 d_X12_noAnswers_82 rfl ?_
    refine g_ic (2) d_X12_noAnswers_83 ic_2 ?_
    refine g_aloadn d_X12_noAnswers_84 rfl ?_
    obtain ⟨v85, e85, hF⟩ := Option.bind_eq_some_iff.mp hF
    refine q_fR d_X12_noAnswers_85 f_X12_13 e85 ?_
    refine g_ic (1) d_X12_noAnswers_88 ic_1 ?_
    obtain ⟨v89, e89, hF⟩ := Option.bind_eq_some_iff.mp hF
    refine q_aI d_X12_noAnswers_89 e89 ?_
    refine g_imul d_X12_noAnswers_90 ?_
    refine g_ic (1) d_X12_noAnswers_91 ic_1 ?_
    refine g_isub d_X12_noAnswers_92 ?_
    refine g_i2l d_X12_noAnswers_93 ?_
    obtain ⟨⟨r94, h94⟩, e94, hF⟩ := Option.bind_eq_some_iff.mp hF
    try dsimp only at hF
    refine q_callS [.long v81, .long 0, .long (((((2 : Int32)) * v89) - 1).toInt64)] [] rfl d_X12_noAnswers_94 s_X12_148 (by omega) rfl (Nat.le_of_ble_eq_true rfl) (R_X12_within _ _ _ _ (by omega) e94) ?_
    refine g_if_ne 103 d_X12_noAnswers_97 rfl (fun c97 => ?_) (fun c97 => ?_)
    · have hF := x_t hF c97
      refine q_iinc (1) [.ref x0, .int x1, xhole, xhole, .int (x4 + 1)] d_X12_noAnswers_103 ic_1 rfl (by decide) rfl ?_
      refine g_goto 59 d_X12_noAnswers_106 rfl ?_
      exact q_to (xs_r (xs_r (xs_h (xs_h (xs_r xs_n))))) (ih _ _ _ _ hF)
    · have hF := x_f hF (not_not_intro c97)
      refine g_bi (-3) d_X12_noAnswers_100 bi_m3 ?_
      obtain ⟨rfl, rfl⟩ := x_inj hF
      exact g_iret d_X12_noAnswers_102 rfl hq
def F_X12_noAnswers (x0 : Nat) (x1 : Int32) (x2 : Int32) (h : xH) : Option (Int32 × xH) := (F_X12_within x1.toInt64 0 3 h).bind fun z6 => if z6.1 = 0 then some ((-2), z6.2) else (rc z6.2 x0 11).bind fun _ => (F_X12_isPerson x0 x2.toInt64 z6.2).bind fun z15 => if ¬ z15.1 = 0 then (rc z15.2 x0 11).bind fun _ => (F_X12_noTray x0 x1 z15.2).bind fun z26 => if z26.1 = 0 then (fR z26.2 x0 11 35).bind fun v37 => (aI z26.2 v37 x1).bind fun v41 => (F_X12_within v41.toInt64 1 20 z26.2).bind fun z47 => if ¬ z47.1 = 0 then F_X12_noAnswers_b59 FU x0 x1 0 z47.2 else some ((-4), z47.2) else some (z26.1, z26.2) else some ((-2), z15.2)
theorem R_X12_noAnswers {Γ : xG} {l : Launch} {d : Nat} {r : Int32} {h' : xH} (x0 : Nat) (x1 : Int32) (x2 : Int32) (h : xH) (hdp : 2 ≤ d) (hF : F_X12_noAnswers x0 x1 x2 h = some (r, h')) : Gm Γ l d 0 0 m_X12_noAnswers [.ref x0, .int x1, .int x2] h (fun a u => a = some (.int r) ∧ u = h') := by
  refine Gm.of pn_X12 (Nat.le_of_ble_eq_true rfl) ?_
  show Gd Γ l d m_X12_noAnswers 0 [.ref x0, .int x1, .int x2, xhole, xhole] [] h 0 0 _
  generalize hQ : (fun (a : Option Value) (u : xH) => a = some (.int r) ∧ u = h') = Q
  have hq : Q (some (.int r)) h' := by rw [← hQ]; exact ⟨rfl, rfl⟩
  clear hQ
  unfold F_X12_noAnswers at hF
  refine g_iloadn d_X12_noAnswers_0 rfl ?_
  refine g_i2l d_X12_noAnswers_1 ?_
  refine g_lc 0 d_X12_noAnswers_2 rfl ?_
  refine g_ldc2 d_X12_noAnswers_3 k_X12_317 ?_
  obtain ⟨⟨r6, h6⟩, e6, hF⟩ := Option.bind_eq_some_iff.mp hF
  try dsimp only at hF
  refine q_callS [.long (x1.toInt64), .long 0, .long 3] [] rfl d_X12_noAnswers_6 s_X12_148 (by omega) rfl (Nat.le_of_ble_eq_true rfl) (R_X12_within _ _ _ _ (by omega) e6) ?_
  refine g_if_eq 21 d_X12_noAnswers_9 rfl (fun c9 => ?_) (fun c9 => ?_)
  · have hF := x_t hF c9
    refine g_bi (-2) d_X12_noAnswers_21 bi_m2 ?_
    obtain ⟨rfl, rfl⟩ := x_inj hF
    exact g_iret d_X12_noAnswers_23 rfl hq
  · have hF := x_f hF c9
    refine g_aloadn d_X12_noAnswers_12 rfl ?_
    refine g_iloadn d_X12_noAnswers_13 rfl ?_
    refine g_i2l d_X12_noAnswers_14 ?_
    obtain ⟨_, g15, hF⟩ := Option.bind_eq_some_iff.mp hF
    obtain ⟨⟨r15, h15⟩, e15, hF⟩ := Option.bind_eq_some_iff.mp hF
    try dsimp only at hF
    refine q_callV [.long (x2.toInt64)] [] rfl d_X12_noAnswers_15 v_X12_246 (by omega) rfl (Nat.le_of_ble_eq_true rfl) (rc_rc g15 (by decide) rfl) (R_X12_isPerson _ _ _ (by omega) e15) ?_
    refine g_if_ne 24 d_X12_noAnswers_18 rfl (fun c18 => ?_) (fun c18 => ?_)
    · have hF := x_t hF c18
      refine g_aloadn d_X12_noAnswers_24 rfl ?_
      refine g_iloadn d_X12_noAnswers_25 rfl ?_
      obtain ⟨_, g26, hF⟩ := Option.bind_eq_some_iff.mp hF
      obtain ⟨⟨r26, h26⟩, e26, hF⟩ := Option.bind_eq_some_iff.mp hF
      try dsimp only at hF
      refine q_callV [.int x1] [] rfl d_X12_noAnswers_26 v_X12_319 (by omega) rfl (Nat.le_of_ble_eq_true rfl) (rc_rc g26 (by decide) rfl) (R_X12_noTray _ _ _ (by omega) e26) ?_
      refine q_istoren [.ref x0, .int x1, .int x2, .int (r26), xhole] d_X12_noAnswers_29 (by decide) rfl ?_
      refine g_iloadn d_X12_noAnswers_30 rfl ?_
      refine g_if_eq 36 d_X12_noAnswers_31 rfl (fun c31 => ?_) (fun c31 => ?_)
      · have hF := x_t hF c31
        refine g_aloadn d_X12_noAnswers_36 rfl ?_
        obtain ⟨v37, e37, hF⟩ := Option.bind_eq_some_iff.mp hF
        refine q_fR d_X12_noAnswers_37 f_X12_76 e37 ?_
        refine g_iloadn d_X12_noAnswers_40 rfl ?_
        obtain ⟨v41, e41, hF⟩ := Option.bind_eq_some_iff.mp hF
        refine q_aI d_X12_noAnswers_41 e41 ?_
        refine g_i2l d_X12_noAnswers_42 ?_
        refine g_lc 1 d_X12_noAnswers_43 rfl ?_
        refine g_ldc2 d_X12_noAnswers_44 k_X12_340 ?_
        obtain ⟨⟨r47, h47⟩, e47, hF⟩ := Option.bind_eq_some_iff.mp hF
        try dsimp only at hF
        refine q_callS [.long (v41.toInt64), .long 1, .long 20] [] rfl d_X12_noAnswers_47 s_X12_148 (by omega) rfl (Nat.le_of_ble_eq_true rfl) (R_X12_within _ _ _ _ (by omega) e47) ?_
        refine g_if_ne 56 d_X12_noAnswers_50 rfl (fun c50 => ?_) (fun c50 => ?_)
        · have hF := x_t hF c50
          refine g_ic (0) d_X12_noAnswers_56 ic_0 ?_
          refine q_istore [.ref x0, .int x1, .int x2, .int (r26), .int 0] d_X12_noAnswers_57 (by decide) rfl ?_
          exact q_to (xs_r (xs_r (xs_h (xs_h (xs_r xs_n))))) (R_X12_noAnswers_b59 hdp hq FU _ _ _ _ hF)
        · have hF := x_f hF (not_not_intro c50)
          refine g_bi (-4) d_X12_noAnswers_53 bi_m4 ?_
          obtain ⟨rfl, rfl⟩ := x_inj hF
          exact g_iret d_X12_noAnswers_55 rfl hq
      · have hF := x_f hF c31
        refine g_iloadn d_X12_noAnswers_34 rfl ?_
        obtain ⟨rfl, rfl⟩ := x_inj hF
        exact g_iret d_X12_noAnswers_35 rfl hq
    · have hF := x_f hF (not_not_intro c18)
      refine g_bi (-2) d_X12_noAnswers_21 bi_m2 ?_
      obtain ⟨rfl, rfl⟩ := x_inj hF
      exact g_iret d_X12_noAnswers_23 rfl hq
theorem d_X12_blanksOf_0 : decode cX12_blanksOf 0 = .ok (.aload_n 0, 1) := by decide +kernel
theorem d_X12_blanksOf_1 : decode cX12_blanksOf 1 = .ok (.iload_n 2, 1) := by decide +kernel
theorem d_X12_blanksOf_2 : decode cX12_blanksOf 2 = .ok (.invokevirtual 342, 3) := by decide +kernel
theorem d_X12_blanksOf_5 : decode cX12_blanksOf 5 = .ok (.aload_n 0, 1) := by decide +kernel
theorem d_X12_blanksOf_6 : decode cX12_blanksOf 6 = .ok (.invokevirtual 345, 3) := by decide +kernel
theorem d_X12_blanksOf_9 : decode cX12_blanksOf 9 = .ok (.istore_n 3, 1) := by decide +kernel
theorem d_X12_blanksOf_10 : decode cX12_blanksOf 10 = .ok (.iconst 0, 1) := by decide +kernel
theorem d_X12_blanksOf_11 : decode cX12_blanksOf 11 = .ok (.istore 4, 2) := by decide +kernel
theorem d_X12_blanksOf_13 : decode cX12_blanksOf 13 = .ok (.iload 4, 2) := by decide +kernel
theorem d_X12_blanksOf_15 : decode cX12_blanksOf 15 = .ok (.aload_n 0, 1) := by decide +kernel
theorem d_X12_blanksOf_16 : decode cX12_blanksOf 16 = .ok (.getfield 76, 3) := by decide +kernel
theorem d_X12_blanksOf_19 : decode cX12_blanksOf 19 = .ok (.iload_n 1, 1) := by decide +kernel
theorem d_X12_blanksOf_20 : decode cX12_blanksOf 20 = .ok (.iaload, 1) := by decide +kernel
theorem d_X12_blanksOf_21 : decode cX12_blanksOf 21 = .ok (.if_icmp .ge 58, 3) := by decide +kernel
theorem d_X12_blanksOf_24 : decode cX12_blanksOf 24 = .ok (.aload_n 0, 1) := by decide +kernel
theorem d_X12_blanksOf_25 : decode cX12_blanksOf 25 = .ok (.getfield 79, 3) := by decide +kernel
theorem d_X12_blanksOf_28 : decode cX12_blanksOf 28 = .ok (.bipush 40, 2) := by decide +kernel
theorem d_X12_blanksOf_30 : decode cX12_blanksOf 30 = .ok (.iload_n 1, 1) := by decide +kernel
theorem d_X12_blanksOf_31 : decode cX12_blanksOf 31 = .ok (.imul, 1) := by decide +kernel
theorem d_X12_blanksOf_32 : decode cX12_blanksOf 32 = .ok (.iload 4, 2) := by decide +kernel
theorem d_X12_blanksOf_34 : decode cX12_blanksOf 34 = .ok (.iadd, 1) := by decide +kernel
theorem d_X12_blanksOf_35 : decode cX12_blanksOf 35 = .ok (.laload, 1) := by decide +kernel
theorem d_X12_blanksOf_36 : decode cX12_blanksOf 36 = .ok (.l2i, 1) := by decide +kernel
theorem d_X12_blanksOf_37 : decode cX12_blanksOf 37 = .ok (.istore 5, 2) := by decide +kernel
theorem d_X12_blanksOf_39 : decode cX12_blanksOf 39 = .ok (.iload_n 3, 1) := by decide +kernel
theorem d_X12_blanksOf_40 : decode cX12_blanksOf 40 = .ok (.iload 5, 2) := by decide +kernel
theorem d_X12_blanksOf_42 : decode cX12_blanksOf 42 = .ok (.iconst 2, 1) := by decide +kernel
theorem d_X12_blanksOf_43 : decode cX12_blanksOf 43 = .ok (.irem, 1) := by decide +kernel
theorem d_X12_blanksOf_44 : decode cX12_blanksOf 44 = .ok (.iconst 1, 1) := by decide +kernel
theorem d_X12_blanksOf_45 : decode cX12_blanksOf 45 = .ok (.if_icmp .ne 15, 3) := by decide +kernel
theorem d_X12_blanksOf_48 : decode cX12_blanksOf 48 = .ok (.aload_n 0, 1) := by decide +kernel
theorem d_X12_blanksOf_49 : decode cX12_blanksOf 49 = .ok (.getfield 39, 3) := by decide +kernel
theorem d_X12_blanksOf_52 : decode cX12_blanksOf 52 = .ok (.iload 5, 2) := by decide +kernel
theorem d_X12_blanksOf_54 : decode cX12_blanksOf 54 = .ok (.iconst 2, 1) := by decide +kernel
theorem d_X12_blanksOf_55 : decode cX12_blanksOf 55 = .ok (.idiv, 1) := by decide +kernel
theorem d_X12_blanksOf_56 : decode cX12_blanksOf 56 = .ok (.iaload, 1) := by decide +kernel
theorem d_X12_blanksOf_57 : decode cX12_blanksOf 57 = .ok (.goto 14, 3) := by decide +kernel
theorem d_X12_blanksOf_60 : decode cX12_blanksOf 60 = .ok (.aload_n 0, 1) := by decide +kernel
theorem d_X12_blanksOf_61 : decode cX12_blanksOf 61 = .ok (.getfield 39, 3) := by decide +kernel
theorem d_X12_blanksOf_64 : decode cX12_blanksOf 64 = .ok (.iload 5, 2) := by decide +kernel
theorem d_X12_blanksOf_66 : decode cX12_blanksOf 66 = .ok (.iconst 2, 1) := by decide +kernel
theorem d_X12_blanksOf_67 : decode cX12_blanksOf 67 = .ok (.idiv, 1) := by decide +kernel
theorem d_X12_blanksOf_68 : decode cX12_blanksOf 68 = .ok (.iaload, 1) := by decide +kernel
theorem d_X12_blanksOf_69 : decode cX12_blanksOf 69 = .ok (.iconst (-1), 1) := by decide +kernel
theorem d_X12_blanksOf_70 : decode cX12_blanksOf 70 = .ok (.ixor, 1) := by decide +kernel
theorem d_X12_blanksOf_71 : decode cX12_blanksOf 71 = .ok (.iand, 1) := by decide +kernel
theorem d_X12_blanksOf_72 : decode cX12_blanksOf 72 = .ok (.istore_n 3, 1) := by decide +kernel
theorem d_X12_blanksOf_73 : decode cX12_blanksOf 73 = .ok (.iinc 4 1, 3) := by decide +kernel
theorem d_X12_blanksOf_76 : decode cX12_blanksOf 76 = .ok (.goto (-63), 3) := by decide +kernel
theorem d_X12_blanksOf_79 : decode cX12_blanksOf 79 = .ok (.iload_n 3, 1) := by decide +kernel
theorem d_X12_blanksOf_80 : decode cX12_blanksOf 80 = .ok (.ireturn, 1) := by decide +kernel
def F_X12_blanksOf_b71 (k13 : Nat → Int32 → Int32 → Int32 → xH → Option (Int32 × xH)) (x0 : Nat) (x1 : Int32) (x4 : Int32) (s0 : Int32) (s1 : Int32) (h : xH) : Option (Int32 × xH) := k13 x0 x1 (s0 &&& s1) (x4 + 1) h
theorem R_X12_blanksOf_b71 {Γ : xG} {l : Launch} {d : Nat} {Q : Option Value → xH → Prop} {r : Int32} {h' : xH} {k13 : Nat → Int32 → Int32 → Int32 → xH → Option (Int32 × xH)} (K13 : ∀ (x0 : Nat) (x1 : Int32) (x3 : Int32) (x4 : Int32)  (h : xH), k13 x0 x1 x3 x4 h = some (r, h') → Gd Γ l d m_X12_blanksOf 13 [.ref x0, .int x1, xhole, .int x3, .int x4, xhole] [] h 0 0 Q) (hdp : 4 ≤ d) (hq : Q (some (.int r)) h') : ∀ (x0 : Nat) (x1 : Int32) (x4 : Int32) (s0 : Int32) (s1 : Int32) (h : xH), F_X12_blanksOf_b71 k13 x0 x1 x4 s0 s1 h = some (r, h') → Gd Γ l d m_X12_blanksOf 71 [.ref x0, .int x1, xhole, xhole, .int x4, xhole] [.int s1, .int s0] h 0 0 Q := by
  intro x0 x1 x4 s0 s1 h hF
  unfold F_X12_blanksOf_b71 at hF
  refine g_iand d_X12_blanksOf_71 ?_
  refine q_istoren [.ref x0, .int x1, xhole, .int (s0 &&& s1), .int x4, xhole] d_X12_blanksOf_72 (by decide) rfl ?_
  refine q_iinc (1) [.ref x0, .int x1, xhole, .int (s0 &&& s1), .int (x4 + 1), xhole] d_X12_blanksOf_73 ic_1 rfl (by decide) rfl ?_
  refine g_goto 13 d_X12_blanksOf_76 rfl ?_
  exact q_to (xs_r (xs_r (xs_h (xs_r (xs_r (xs_h xs_n)))))) (K13 _ _ _ _ _ hF)
def F_X12_blanksOf_b13 : Nat → Nat → Int32 → Int32 → Int32 → xH → Option (Int32 × xH)
  | 0, _, _, _, _, _ => none
  | n + 1, x0, x1, x3, x4, h => (fR h x0 11 35).bind fun v16 => (aI h v16 x1).bind fun v20 => if v20 ≤ x4 then some (x3, h) else (fR h x0 11 36).bind fun v25 => (aJ h v25 ((((40 : Int32)) * x1) + x4)).bind fun v35 => if ¬ (irm v35.toInt32 2) = ((1 : Int32)) then (fR h x0 11 21).bind fun v61 => (aI h v61 (idv v35.toInt32 2)).bind fun v68 => F_X12_blanksOf_b71 (F_X12_blanksOf_b13 n) x0 x1 x4 x3 (v68 ^^^ ((-1))) h else (fR h x0 11 21).bind fun v49 => (aI h v49 (idv v35.toInt32 2)).bind fun v56 => F_X12_blanksOf_b71 (F_X12_blanksOf_b13 n) x0 x1 x4 x3 v56 h
theorem R_X12_blanksOf_b13 {Γ : xG} {l : Launch} {d : Nat} {Q : Option Value → xH → Prop} {r : Int32} {h' : xH} (hdp : 4 ≤ d) (hq : Q (some (.int r)) h') : ∀ (n : Nat) (x0 : Nat) (x1 : Int32) (x3 : Int32) (x4 : Int32) (h : xH), F_X12_blanksOf_b13 n x0 x1 x3 x4 h = some (r, h') → Gd Γ l d m_X12_blanksOf 13 [.ref x0, .int x1, xhole, .int x3, .int x4, xhole] [] h 0 0 Q := by
  intro n
  induction n with
  | zero => intro x0 x1 x3 x4 h hF; cases hF
  | succ n ih =>
  intro x0 x1 x3 x4 h hF
  rw [F_X12_blanksOf_b13] at hF
  refine g_iload d_X12_blanksOf_13 rfl ?_
  refine g_aloadn d_X12_blanksOf_15 rfl ?_
  obtain ⟨v16, e16, hF⟩ := Option.bind_eq_some_iff.mp hF
  refine q_fR d_X12_blanksOf_16 f_X12_76 e16 ?_
  refine g_iloadn d_X12_blanksOf_19 rfl ?_
  obtain ⟨v20, e20, hF⟩ := Option.bind_eq_some_iff.mp hF
  refine q_aI d_X12_blanksOf_20 e20 ?_
  refine g_icmp_ge 79 d_X12_blanksOf_21 rfl (fun c21 => ?_) (fun c21 => ?_)
  · have hF := x_t hF c21
    refine g_iloadn d_X12_blanksOf_79 rfl ?_
    obtain ⟨rfl, rfl⟩ := x_inj hF
    exact g_iret d_X12_blanksOf_80 rfl hq
  · have hF := x_f hF c21
    refine g_aloadn d_X12_blanksOf_24 rfl ?_
    obtain ⟨v25, e25, hF⟩ := Option.bind_eq_some_iff.mp hF
    refine q_fR d_X12_blanksOf_25 f_X12_79 e25 ?_
    refine g_bi (40) d_X12_blanksOf_28 bi_40 ?_
    refine g_iloadn d_X12_blanksOf_30 rfl ?_
    refine g_imul d_X12_blanksOf_31 ?_
    refine g_iload d_X12_blanksOf_32 rfl ?_
    refine g_iadd d_X12_blanksOf_34 ?_
    obtain ⟨v35, e35, hF⟩ := Option.bind_eq_some_iff.mp hF
    refine q_aJ d_X12_blanksOf_35 e35 ?_
    refine g_l2i d_X12_blanksOf_36 ?_
    refine q_istore [.ref x0, .int x1, xhole, .int x3, .int x4, .int (v35.toInt32)] d_X12_blanksOf_37 (by decide) rfl ?_
    refine g_iloadn d_X12_blanksOf_39 rfl ?_
    refine g_iload d_X12_blanksOf_40 rfl ?_
    refine g_ic (2) d_X12_blanksOf_42 ic_2 ?_
    refine q_irem d_X12_blanksOf_43 (by decide) ?_
    refine g_ic (1) d_X12_blanksOf_44 ic_1 ?_
    refine g_icmp_ne 60 d_X12_blanksOf_45 rfl (fun c45 => ?_) (fun c45 => ?_)
    · have hF := x_t hF c45
      refine g_aloadn d_X12_blanksOf_60 rfl ?_
      obtain ⟨v61, e61, hF⟩ := Option.bind_eq_some_iff.mp hF
      refine q_fR d_X12_blanksOf_61 f_X12_39 e61 ?_
      refine g_iload d_X12_blanksOf_64 rfl ?_
      refine g_ic (2) d_X12_blanksOf_66 ic_2 ?_
      refine q_idiv d_X12_blanksOf_67 (by decide) ?_
      obtain ⟨v68, e68, hF⟩ := Option.bind_eq_some_iff.mp hF
      refine q_aI d_X12_blanksOf_68 e68 ?_
      refine g_ic (-1) d_X12_blanksOf_69 ic_m1 ?_
      refine g_ixor d_X12_blanksOf_70 ?_
      exact q_to (xs_r (xs_r (xs_h (xs_h (xs_r (xs_h xs_n)))))) (R_X12_blanksOf_b71 ih hdp hq _ _ _ _ _ _ hF)
    · have hF := x_f hF (not_not_intro c45)
      refine g_aloadn d_X12_blanksOf_48 rfl ?_
      obtain ⟨v49, e49, hF⟩ := Option.bind_eq_some_iff.mp hF
      refine q_fR d_X12_blanksOf_49 f_X12_39 e49 ?_
      refine g_iload d_X12_blanksOf_52 rfl ?_
      refine g_ic (2) d_X12_blanksOf_54 ic_2 ?_
      refine q_idiv d_X12_blanksOf_55 (by decide) ?_
      obtain ⟨v56, e56, hF⟩ := Option.bind_eq_some_iff.mp hF
      refine q_aI d_X12_blanksOf_56 e56 ?_
      refine g_goto 71 d_X12_blanksOf_57 rfl ?_
      exact q_to (xs_r (xs_r (xs_h (xs_h (xs_r (xs_h xs_n)))))) (R_X12_blanksOf_b71 ih hdp hq _ _ _ _ _ _ hF)
def F_X12_blanksOf (x0 : Nat) (x1 : Int32) (x2 : Int32) (h : xH) : Option (Int32 × xH) := (rc h x0 11).bind fun _ => (F_X12_laysHeard x0 x2 h).bind fun z2 => (rc z2.2 x0 11).bind fun _ => (F_X12_everyBlank x0 z2.2).bind fun z6 => F_X12_blanksOf_b13 FU x0 x1 z6.1 0 z6.2
theorem R_X12_blanksOf {Γ : xG} {l : Launch} {d : Nat} {r : Int32} {h' : xH} (x0 : Nat) (x1 : Int32) (x2 : Int32) (h : xH) (hdp : 4 ≤ d) (hF : F_X12_blanksOf x0 x1 x2 h = some (r, h')) : Gm Γ l d 0 0 m_X12_blanksOf [.ref x0, .int x1, .int x2] h (fun a u => a = some (.int r) ∧ u = h') := by
  refine Gm.of pn_X12 (Nat.le_of_ble_eq_true rfl) ?_
  show Gd Γ l d m_X12_blanksOf 0 [.ref x0, .int x1, .int x2, xhole, xhole, xhole] [] h 0 0 _
  generalize hQ : (fun (a : Option Value) (u : xH) => a = some (.int r) ∧ u = h') = Q
  have hq : Q (some (.int r)) h' := by rw [← hQ]; exact ⟨rfl, rfl⟩
  clear hQ
  unfold F_X12_blanksOf at hF
  refine g_aloadn d_X12_blanksOf_0 rfl ?_
  refine g_iloadn d_X12_blanksOf_1 rfl ?_
  obtain ⟨_, g2, hF⟩ := Option.bind_eq_some_iff.mp hF
  obtain ⟨⟨r2, h2⟩, e2, hF⟩ := Option.bind_eq_some_iff.mp hF
  try dsimp only at hF
  refine q_callV [.int x2] [] rfl d_X12_blanksOf_2 v_X12_342 (by omega) rfl (Nat.le_of_ble_eq_true rfl) (rc_rc g2 (by decide) rfl) (R_X12_laysHeard _ _ _ (by omega) e2) ?_
  refine g_aloadn d_X12_blanksOf_5 rfl ?_
  obtain ⟨_, g6, hF⟩ := Option.bind_eq_some_iff.mp hF
  obtain ⟨⟨r6, h6⟩, e6, hF⟩ := Option.bind_eq_some_iff.mp hF
  try dsimp only at hF
  refine q_callV [] [] rfl d_X12_blanksOf_6 v_X12_345 (by omega) rfl (Nat.le_of_ble_eq_true rfl) (rc_rc g6 (by decide) rfl) (R_X12_everyBlank _ _ (by omega) e6) ?_
  refine q_istoren [.ref x0, .int x1, .int x2, .int (r6), xhole, xhole] d_X12_blanksOf_9 (by decide) rfl ?_
  refine g_ic (0) d_X12_blanksOf_10 ic_0 ?_
  refine q_istore [.ref x0, .int x1, .int x2, .int (r6), .int 0, xhole] d_X12_blanksOf_11 (by decide) rfl ?_
  exact q_to (xs_r (xs_r (xs_h (xs_r (xs_r (xs_h xs_n)))))) (R_X12_blanksOf_b13 hdp hq FU _ _ _ _ _ hF)
theorem d_X12_blanks_0 : decode cX12_blanks 0 = .ok (.aload_n 0, 1) := by decide +kernel
theorem d_X12_blanks_1 : decode cX12_blanks 1 = .ok (.iconst 0, 1) := by decide +kernel
theorem d_X12_blanks_2 : decode cX12_blanks 2 = .ok (.putfield 1, 3) := by decide +kernel
theorem d_X12_blanks_5 : decode cX12_blanks 5 = .ok (.aload_n 0, 1) := by decide +kernel
theorem d_X12_blanks_6 : decode cX12_blanks 6 = .ok (.iload_n 1, 1) := by decide +kernel
theorem d_X12_blanks_7 : decode cX12_blanks 7 = .ok (.iload_n 2, 1) := by decide +kernel
theorem d_X12_blanks_8 : decode cX12_blanks 8 = .ok (.invokevirtual 348, 3) := by decide +kernel
theorem d_X12_blanks_11 : decode cX12_blanks 11 = .ok (.istore_n 3, 1) := by decide +kernel
theorem d_X12_blanks_12 : decode cX12_blanks 12 = .ok (.iload_n 3, 1) := by decide +kernel
theorem d_X12_blanks_13 : decode cX12_blanks 13 = .ok (.ifCond .eq 7, 3) := by decide +kernel
theorem d_X12_blanks_16 : decode cX12_blanks 16 = .ok (.iload_n 3, 1) := by decide +kernel
theorem d_X12_blanks_17 : decode cX12_blanks 17 = .ok (.goto 9, 3) := by decide +kernel
theorem d_X12_blanks_20 : decode cX12_blanks 20 = .ok (.aload_n 0, 1) := by decide +kernel
theorem d_X12_blanks_21 : decode cX12_blanks 21 = .ok (.iload_n 1, 1) := by decide +kernel
theorem d_X12_blanks_22 : decode cX12_blanks 22 = .ok (.iload_n 2, 1) := by decide +kernel
theorem d_X12_blanks_23 : decode cX12_blanks 23 = .ok (.invokevirtual 351, 3) := by decide +kernel
theorem d_X12_blanks_26 : decode cX12_blanks 26 = .ok (.ireturn, 1) := by decide +kernel
def F_X12_blanks (x0 : Nat) (x1 : Int32) (x2 : Int32) (h : xH) : Option (Int32 × xH) := (wI h x0 11 0 0).bind fun h2 => (rc h2 x0 11).bind fun _ => (F_X12_noAnswers x0 x1 x2 h2).bind fun z8 => if z8.1 = 0 then (rc z8.2 x0 11).bind fun _ => (F_X12_blanksOf x0 x1 x2 z8.2).bind fun z23 => some (z23.1, z23.2) else some (z8.1, z8.2)
theorem R_X12_blanks {Γ : xG} {l : Launch} {d : Nat} {r : Int32} {h' : xH} (x0 : Nat) (x1 : Int32) (x2 : Int32) (h : xH) (hdp : 5 ≤ d) (hF : F_X12_blanks x0 x1 x2 h = some (r, h')) : Gm Γ l d 0 0 m_X12_blanks [.ref x0, .int x1, .int x2] h (fun a u => a = some (.int r) ∧ u = h') := by
  refine Gm.of pn_X12 (Nat.le_of_ble_eq_true rfl) ?_
  show Gd Γ l d m_X12_blanks 0 [.ref x0, .int x1, .int x2, xhole] [] h 0 0 _
  generalize hQ : (fun (a : Option Value) (u : xH) => a = some (.int r) ∧ u = h') = Q
  have hq : Q (some (.int r)) h' := by rw [← hQ]; exact ⟨rfl, rfl⟩
  clear hQ
  unfold F_X12_blanks at hF
  refine g_aloadn d_X12_blanks_0 rfl ?_
  refine g_ic (0) d_X12_blanks_1 ic_0 ?_
  obtain ⟨h2, e2, hF⟩ := Option.bind_eq_some_iff.mp hF
  refine q_wI d_X12_blanks_2 (w_X12_1 _) e2 ?_
  refine g_aloadn d_X12_blanks_5 rfl ?_
  refine g_iloadn d_X12_blanks_6 rfl ?_
  refine g_iloadn d_X12_blanks_7 rfl ?_
  obtain ⟨_, g8, hF⟩ := Option.bind_eq_some_iff.mp hF
  obtain ⟨⟨r8, h8⟩, e8, hF⟩ := Option.bind_eq_some_iff.mp hF
  try dsimp only at hF
  refine q_callV [.int x1, .int x2] [] rfl d_X12_blanks_8 v_X12_348 (by omega) rfl (Nat.le_of_ble_eq_true rfl) (rc_rc g8 (by decide) rfl) (R_X12_noAnswers _ _ _ _ (by omega) e8) ?_
  refine q_istoren [.ref x0, .int x1, .int x2, .int (r8)] d_X12_blanks_11 (by decide) rfl ?_
  refine g_iloadn d_X12_blanks_12 rfl ?_
  refine g_if_eq 20 d_X12_blanks_13 rfl (fun c13 => ?_) (fun c13 => ?_)
  · have hF := x_t hF c13
    refine g_aloadn d_X12_blanks_20 rfl ?_
    refine g_iloadn d_X12_blanks_21 rfl ?_
    refine g_iloadn d_X12_blanks_22 rfl ?_
    obtain ⟨_, g23, hF⟩ := Option.bind_eq_some_iff.mp hF
    obtain ⟨⟨r23, h23⟩, e23, hF⟩ := Option.bind_eq_some_iff.mp hF
    try dsimp only at hF
    refine q_callV [.int x1, .int x2] [] rfl d_X12_blanks_23 v_X12_351 (by omega) rfl (Nat.le_of_ble_eq_true rfl) (rc_rc g23 (by decide) rfl) (R_X12_blanksOf _ _ _ _ (by omega) e23) ?_
    obtain ⟨rfl, rfl⟩ := x_inj hF
    exact g_iret d_X12_blanks_26 rfl hq
  · have hF := x_f hF c13
    refine g_iloadn d_X12_blanks_16 rfl ?_
    refine g_goto 26 d_X12_blanks_17 rfl ?_
    obtain ⟨rfl, rfl⟩ := x_inj hF
    exact g_iret d_X12_blanks_26 rfl hq
theorem d_X12_attempt_0 : decode cX12_attempt 0 = .ok (.aload_n 0, 1) := by decide +kernel
theorem d_X12_attempt_1 : decode cX12_attempt 1 = .ok (.iconst 0, 1) := by decide +kernel
theorem d_X12_attempt_2 : decode cX12_attempt 2 = .ok (.putfield 1, 3) := by decide +kernel
theorem d_X12_attempt_5 : decode cX12_attempt 5 = .ok (.aload_n 0, 1) := by decide +kernel
theorem d_X12_attempt_6 : decode cX12_attempt 6 = .ok (.iload_n 1, 1) := by decide +kernel
theorem d_X12_attempt_7 : decode cX12_attempt 7 = .ok (.iload_n 2, 1) := by decide +kernel
theorem d_X12_attempt_8 : decode cX12_attempt 8 = .ok (.invokevirtual 348, 3) := by decide +kernel
theorem d_X12_attempt_11 : decode cX12_attempt 11 = .ok (.istore_n 3, 1) := by decide +kernel
theorem d_X12_attempt_12 : decode cX12_attempt 12 = .ok (.iload_n 3, 1) := by decide +kernel
theorem d_X12_attempt_13 : decode cX12_attempt 13 = .ok (.ifCond .eq 5, 3) := by decide +kernel
theorem d_X12_attempt_16 : decode cX12_attempt 16 = .ok (.iload_n 3, 1) := by decide +kernel
theorem d_X12_attempt_17 : decode cX12_attempt 17 = .ok (.ireturn, 1) := by decide +kernel
theorem d_X12_attempt_18 : decode cX12_attempt 18 = .ok (.aload_n 0, 1) := by decide +kernel
theorem d_X12_attempt_19 : decode cX12_attempt 19 = .ok (.iload_n 1, 1) := by decide +kernel
theorem d_X12_attempt_20 : decode cX12_attempt 20 = .ok (.iload_n 2, 1) := by decide +kernel
theorem d_X12_attempt_21 : decode cX12_attempt 21 = .ok (.invokevirtual 351, 3) := by decide +kernel
theorem d_X12_attempt_24 : decode cX12_attempt 24 = .ok (.istore 4, 2) := by decide +kernel
theorem d_X12_attempt_26 : decode cX12_attempt 26 = .ok (.iconst (-1), 1) := by decide +kernel
theorem d_X12_attempt_27 : decode cX12_attempt 27 = .ok (.istore 5, 2) := by decide +kernel
theorem d_X12_attempt_29 : decode cX12_attempt 29 = .ok (.iconst (-1), 1) := by decide +kernel
theorem d_X12_attempt_30 : decode cX12_attempt 30 = .ok (.istore 6, 2) := by decide +kernel
theorem d_X12_attempt_32 : decode cX12_attempt 32 = .ok (.iconst 0, 1) := by decide +kernel
theorem d_X12_attempt_33 : decode cX12_attempt 33 = .ok (.istore 7, 2) := by decide +kernel
theorem d_X12_attempt_35 : decode cX12_attempt 35 = .ok (.iload 7, 2) := by decide +kernel
theorem d_X12_attempt_37 : decode cX12_attempt 37 = .ok (.aload_n 0, 1) := by decide +kernel
theorem d_X12_attempt_38 : decode cX12_attempt 38 = .ok (.getfield 13, 3) := by decide +kernel
theorem d_X12_attempt_41 : decode cX12_attempt 41 = .ok (.iconst 1, 1) := by decide +kernel
theorem d_X12_attempt_42 : decode cX12_attempt 42 = .ok (.iaload, 1) := by decide +kernel
theorem d_X12_attempt_43 : decode cX12_attempt 43 = .ok (.if_icmp .ge 80, 3) := by decide +kernel
theorem d_X12_attempt_46 : decode cX12_attempt 46 = .ok (.iload 4, 2) := by decide +kernel
theorem d_X12_attempt_48 : decode cX12_attempt 48 = .ok (.ifCond .eq 75, 3) := by decide +kernel
theorem d_X12_attempt_51 : decode cX12_attempt 51 = .ok (.iload 4, 2) := by decide +kernel
theorem d_X12_attempt_53 : decode cX12_attempt 53 = .ok (.aload_n 0, 1) := by decide +kernel
theorem d_X12_attempt_54 : decode cX12_attempt 54 = .ok (.getfield 39, 3) := by decide +kernel
theorem d_X12_attempt_57 : decode cX12_attempt 57 = .ok (.iload 7, 2) := by decide +kernel
theorem d_X12_attempt_59 : decode cX12_attempt 59 = .ok (.iaload, 1) := by decide +kernel
theorem d_X12_attempt_60 : decode cX12_attempt 60 = .ok (.iand, 1) := by decide +kernel
theorem d_X12_attempt_61 : decode cX12_attempt 61 = .ok (.invokestatic 354, 3) := by decide +kernel
theorem d_X12_attempt_64 : decode cX12_attempt 64 = .ok (.istore 8, 2) := by decide +kernel
theorem d_X12_attempt_66 : decode cX12_attempt 66 = .ok (.iload 4, 2) := by decide +kernel
theorem d_X12_attempt_68 : decode cX12_attempt 68 = .ok (.aload_n 0, 1) := by decide +kernel
theorem d_X12_attempt_69 : decode cX12_attempt 69 = .ok (.getfield 39, 3) := by decide +kernel
theorem d_X12_attempt_72 : decode cX12_attempt 72 = .ok (.iload 7, 2) := by decide +kernel
theorem d_X12_attempt_74 : decode cX12_attempt 74 = .ok (.iaload, 1) := by decide +kernel
theorem d_X12_attempt_75 : decode cX12_attempt 75 = .ok (.iconst (-1), 1) := by decide +kernel
theorem d_X12_attempt_76 : decode cX12_attempt 76 = .ok (.ixor, 1) := by decide +kernel
theorem d_X12_attempt_77 : decode cX12_attempt 77 = .ok (.iand, 1) := by decide +kernel
theorem d_X12_attempt_78 : decode cX12_attempt 78 = .ok (.invokestatic 354, 3) := by decide +kernel
theorem d_X12_attempt_81 : decode cX12_attempt 81 = .ok (.istore 9, 2) := by decide +kernel
theorem d_X12_attempt_83 : decode cX12_attempt 83 = .ok (.iload 8, 2) := by decide +kernel
theorem d_X12_attempt_85 : decode cX12_attempt 85 = .ok (.iload 9, 2) := by decide +kernel
theorem d_X12_attempt_87 : decode cX12_attempt 87 = .ok (.if_icmp .ge 8, 3) := by decide +kernel
theorem d_X12_attempt_90 : decode cX12_attempt 90 = .ok (.iload 8, 2) := by decide +kernel
theorem d_X12_attempt_92 : decode cX12_attempt 92 = .ok (.goto 5, 3) := by decide +kernel
theorem d_X12_attempt_95 : decode cX12_attempt 95 = .ok (.iload 9, 2) := by decide +kernel
theorem d_X12_attempt_97 : decode cX12_attempt 97 = .ok (.istore 10, 2) := by decide +kernel
theorem d_X12_attempt_99 : decode cX12_attempt 99 = .ok (.iload 10, 2) := by decide +kernel
theorem d_X12_attempt_101 : decode cX12_attempt 101 = .ok (.iload 6, 2) := by decide +kernel
theorem d_X12_attempt_103 : decode cX12_attempt 103 = .ok (.if_icmp .gt 6, 3) := by decide +kernel
theorem d_X12_attempt_106 : decode cX12_attempt 106 = .ok (.goto 11, 3) := by decide +kernel
theorem d_X12_attempt_109 : decode cX12_attempt 109 = .ok (.iload 7, 2) := by decide +kernel
theorem d_X12_attempt_111 : decode cX12_attempt 111 = .ok (.istore 5, 2) := by decide +kernel
theorem d_X12_attempt_113 : decode cX12_attempt 113 = .ok (.iload 10, 2) := by decide +kernel
theorem d_X12_attempt_115 : decode cX12_attempt 115 = .ok (.istore 6, 2) := by decide +kernel
theorem d_X12_attempt_117 : decode cX12_attempt 117 = .ok (.iinc 7 1, 3) := by decide +kernel
theorem d_X12_attempt_120 : decode cX12_attempt 120 = .ok (.goto (-85), 3) := by decide +kernel
theorem d_X12_attempt_123 : decode cX12_attempt 123 = .ok (.iload 5, 2) := by decide +kernel
theorem d_X12_attempt_125 : decode cX12_attempt 125 = .ok (.ireturn, 1) := by decide +kernel
def F_X12_attempt_b97 (k35 : Nat → Int32 → Int32 → Int32 → Int32 → xH → Option (Int32 × xH)) (x0 : Nat) (x4 : Int32) (x5 : Int32) (x6 : Int32) (x7 : Int32) (s0 : Int32) (h : xH) : Option (Int32 × xH) := if x6 < s0 then k35 x0 x4 x7 s0 (x7 + 1) h else k35 x0 x4 x5 x6 (x7 + 1) h
theorem R_X12_attempt_b97 {Γ : xG} {l : Launch} {d : Nat} {Q : Option Value → xH → Prop} {r : Int32} {h' : xH} {k35 : Nat → Int32 → Int32 → Int32 → Int32 → xH → Option (Int32 × xH)} (K35 : ∀ (x0 : Nat) (x4 : Int32) (x5 : Int32) (x6 : Int32) (x7 : Int32)  (h : xH), k35 x0 x4 x5 x6 x7 h = some (r, h') → Gd Γ l d m_X12_attempt 35 [.ref x0, xhole, xhole, xhole, .int x4, .int x5, .int x6, .int x7, xhole, xhole, xhole] [] h 0 0 Q) (hdp : 5 ≤ d) (hq : Q (some (.int r)) h') : ∀ (x0 : Nat) (x4 : Int32) (x5 : Int32) (x6 : Int32) (x7 : Int32) (s0 : Int32) (h : xH), F_X12_attempt_b97 k35 x0 x4 x5 x6 x7 s0 h = some (r, h') → Gd Γ l d m_X12_attempt 97 [.ref x0, xhole, xhole, xhole, .int x4, .int x5, .int x6, .int x7, xhole, xhole, xhole] [.int s0] h 0 0 Q := by
  intro x0 x4 x5 x6 x7 s0 h hF
  unfold F_X12_attempt_b97 at hF
  refine q_istore [.ref x0, xhole, xhole, xhole, .int x4, .int x5, .int x6, .int x7, xhole, xhole, .int s0] d_X12_attempt_97 (by decide) rfl ?_
  refine g_iload d_X12_attempt_99 rfl ?_
  refine g_iload d_X12_attempt_101 rfl ?_
  refine g_icmp_gt 109 d_X12_attempt_103 rfl (fun c103 => ?_) (fun c103 => ?_)
  · have hF := x_t hF c103
    refine g_iload d_X12_attempt_109 rfl ?_
    refine q_istore [.ref x0, xhole, xhole, xhole, .int x4, .int x7, .int x6, .int x7, xhole, xhole, .int s0] d_X12_attempt_111 (by decide) rfl ?_
    refine g_iload d_X12_attempt_113 rfl ?_
    refine q_istore [.ref x0, xhole, xhole, xhole, .int x4, .int x7, .int s0, .int x7, xhole, xhole, .int s0] d_X12_attempt_115 (by decide) rfl ?_
    refine q_iinc (1) [.ref x0, xhole, xhole, xhole, .int x4, .int x7, .int s0, .int (x7 + 1), xhole, xhole, .int s0] d_X12_attempt_117 ic_1 rfl (by decide) rfl ?_
    refine g_goto 35 d_X12_attempt_120 rfl ?_
    exact q_to (xs_r (xs_h (xs_h (xs_h (xs_r (xs_r (xs_r (xs_r (xs_h (xs_h (xs_h xs_n))))))))))) (K35 _ _ _ _ _ _ hF)
  · have hF := x_f hF c103
    refine g_goto 117 d_X12_attempt_106 rfl ?_
    refine q_iinc (1) [.ref x0, xhole, xhole, xhole, .int x4, .int x5, .int x6, .int (x7 + 1), xhole, xhole, .int s0] d_X12_attempt_117 ic_1 rfl (by decide) rfl ?_
    refine g_goto 35 d_X12_attempt_120 rfl ?_
    exact q_to (xs_r (xs_h (xs_h (xs_h (xs_r (xs_r (xs_r (xs_r (xs_h (xs_h (xs_h xs_n))))))))))) (K35 _ _ _ _ _ _ hF)
def F_X12_attempt_b35 : Nat → Nat → Int32 → Int32 → Int32 → Int32 → xH → Option (Int32 × xH)
  | 0, _, _, _, _, _, _ => none
  | n + 1, x0, x4, x5, x6, x7, h => (fR h x0 11 1).bind fun v38 => (aI h v38 1).bind fun v42 => if v42 ≤ x7 then some (x5, h) else if x4 = 0 then some (x5, h) else (fR h x0 11 21).bind fun v54 => (aI h v54 x7).bind fun v59 => (F_X12_bitsOf (x4 &&& v59) h).bind fun z61 => (fR z61.2 x0 11 21).bind fun v69 => (aI z61.2 v69 x7).bind fun v74 => (F_X12_bitsOf (x4 &&& (v74 ^^^ ((-1)))) z61.2).bind fun z78 => if z78.1 ≤ z61.1 then F_X12_attempt_b97 (F_X12_attempt_b35 n) x0 x4 x5 x6 x7 z78.1 z78.2 else F_X12_attempt_b97 (F_X12_attempt_b35 n) x0 x4 x5 x6 x7 z61.1 z78.2
theorem R_X12_attempt_b35 {Γ : xG} {l : Launch} {d : Nat} {Q : Option Value → xH → Prop} {r : Int32} {h' : xH} (hdp : 5 ≤ d) (hq : Q (some (.int r)) h') : ∀ (n : Nat) (x0 : Nat) (x4 : Int32) (x5 : Int32) (x6 : Int32) (x7 : Int32) (h : xH), F_X12_attempt_b35 n x0 x4 x5 x6 x7 h = some (r, h') → Gd Γ l d m_X12_attempt 35 [.ref x0, xhole, xhole, xhole, .int x4, .int x5, .int x6, .int x7, xhole, xhole, xhole] [] h 0 0 Q := by
  intro n
  induction n with
  | zero => intro x0 x4 x5 x6 x7 h hF; cases hF
  | succ n ih =>
  intro x0 x4 x5 x6 x7 h hF
  rw [F_X12_attempt_b35] at hF
  refine g_iload d_X12_attempt_35 rfl ?_
  refine g_aloadn d_X12_attempt_37 rfl ?_
  obtain ⟨v38, e38, hF⟩ := Option.bind_eq_some_iff.mp hF
  refine q_fR d_X12_attempt_38 f_X12_13 e38 ?_
  refine g_ic (1) d_X12_attempt_41 ic_1 ?_
  obtain ⟨v42, e42, hF⟩ := Option.bind_eq_some_iff.mp hF
  refine q_aI d_X12_attempt_42 e42 ?_
  refine g_icmp_ge 123 d_X12_attempt_43 rfl (fun c43 => ?_) (fun c43 => ?_)
  · have hF := x_t hF c43
    refine g_iload d_X12_attempt_123 rfl ?_
    obtain ⟨rfl, rfl⟩ := x_inj hF
    exact g_iret d_X12_attempt_125 rfl hq
  · have hF := x_f hF c43
    refine g_iload d_X12_attempt_46 rfl ?_
    refine g_if_eq 123 d_X12_attempt_48 rfl (fun c48 => ?_) (fun c48 => ?_)
    · have hF := x_t hF c48
      refine g_iload d_X12_attempt_123 rfl ?_
      obtain ⟨rfl, rfl⟩ := x_inj hF
      exact g_iret d_X12_attempt_125 rfl hq
    · have hF := x_f hF c48
      refine g_iload d_X12_attempt_51 rfl ?_
      refine g_aloadn d_X12_attempt_53 rfl ?_
      obtain ⟨v54, e54, hF⟩ := Option.bind_eq_some_iff.mp hF
      refine q_fR d_X12_attempt_54 f_X12_39 e54 ?_
      refine g_iload d_X12_attempt_57 rfl ?_
      obtain ⟨v59, e59, hF⟩ := Option.bind_eq_some_iff.mp hF
      refine q_aI d_X12_attempt_59 e59 ?_
      refine g_iand d_X12_attempt_60 ?_
      obtain ⟨⟨r61, h61⟩, e61, hF⟩ := Option.bind_eq_some_iff.mp hF
      try dsimp only at hF
      refine q_callS [.int (x4 &&& v59)] [] rfl d_X12_attempt_61 s_X12_354 (by omega) rfl (Nat.le_of_ble_eq_true rfl) (R_X12_bitsOf _ _ (by omega) e61) ?_
      refine q_istore [.ref x0, xhole, xhole, xhole, .int x4, .int x5, .int x6, .int x7, .int (r61), xhole, xhole] d_X12_attempt_64 (by decide) rfl ?_
      refine g_iload d_X12_attempt_66 rfl ?_
      refine g_aloadn d_X12_attempt_68 rfl ?_
      obtain ⟨v69, e69, hF⟩ := Option.bind_eq_some_iff.mp hF
      refine q_fR d_X12_attempt_69 f_X12_39 e69 ?_
      refine g_iload d_X12_attempt_72 rfl ?_
      obtain ⟨v74, e74, hF⟩ := Option.bind_eq_some_iff.mp hF
      refine q_aI d_X12_attempt_74 e74 ?_
      refine g_ic (-1) d_X12_attempt_75 ic_m1 ?_
      refine g_ixor d_X12_attempt_76 ?_
      refine g_iand d_X12_attempt_77 ?_
      obtain ⟨⟨r78, h78⟩, e78, hF⟩ := Option.bind_eq_some_iff.mp hF
      try dsimp only at hF
      refine q_callS [.int (x4 &&& (v74 ^^^ ((-1))))] [] rfl d_X12_attempt_78 s_X12_354 (by omega) rfl (Nat.le_of_ble_eq_true rfl) (R_X12_bitsOf _ _ (by omega) e78) ?_
      refine q_istore [.ref x0, xhole, xhole, xhole, .int x4, .int x5, .int x6, .int x7, .int (r61), .int (r78), xhole] d_X12_attempt_81 (by decide) rfl ?_
      refine g_iload d_X12_attempt_83 rfl ?_
      refine g_iload d_X12_attempt_85 rfl ?_
      refine g_icmp_ge 95 d_X12_attempt_87 rfl (fun c87 => ?_) (fun c87 => ?_)
      · have hF := x_t hF c87
        refine g_iload d_X12_attempt_95 rfl ?_
        exact q_to (xs_r (xs_h (xs_h (xs_h (xs_r (xs_r (xs_r (xs_r (xs_h (xs_h (xs_h xs_n))))))))))) (R_X12_attempt_b97 ih hdp hq _ _ _ _ _ _ _ hF)
      · have hF := x_f hF c87
        refine g_iload d_X12_attempt_90 rfl ?_
        refine g_goto 97 d_X12_attempt_92 rfl ?_
        exact q_to (xs_r (xs_h (xs_h (xs_h (xs_r (xs_r (xs_r (xs_r (xs_h (xs_h (xs_h xs_n))))))))))) (R_X12_attempt_b97 ih hdp hq _ _ _ _ _ _ _ hF)
def F_X12_attempt (x0 : Nat) (x1 : Int32) (x2 : Int32) (h : xH) : Option (Int32 × xH) := (wI h x0 11 0 0).bind fun h2 => (rc h2 x0 11).bind fun _ => (F_X12_noAnswers x0 x1 x2 h2).bind fun z8 => if z8.1 = 0 then (rc z8.2 x0 11).bind fun _ => (F_X12_blanksOf x0 x1 x2 z8.2).bind fun z21 => F_X12_attempt_b35 FU x0 z21.1 ((-1)) ((-1)) 0 z21.2 else some (z8.1, z8.2)
theorem R_X12_attempt {Γ : xG} {l : Launch} {d : Nat} {r : Int32} {h' : xH} (x0 : Nat) (x1 : Int32) (x2 : Int32) (h : xH) (hdp : 5 ≤ d) (hF : F_X12_attempt x0 x1 x2 h = some (r, h')) : Gm Γ l d 0 0 m_X12_attempt [.ref x0, .int x1, .int x2] h (fun a u => a = some (.int r) ∧ u = h') := by
  refine Gm.of pn_X12 (Nat.le_of_ble_eq_true rfl) ?_
  show Gd Γ l d m_X12_attempt 0 [.ref x0, .int x1, .int x2, xhole, xhole, xhole, xhole, xhole, xhole, xhole, xhole] [] h 0 0 _
  generalize hQ : (fun (a : Option Value) (u : xH) => a = some (.int r) ∧ u = h') = Q
  have hq : Q (some (.int r)) h' := by rw [← hQ]; exact ⟨rfl, rfl⟩
  clear hQ
  unfold F_X12_attempt at hF
  refine g_aloadn d_X12_attempt_0 rfl ?_
  refine g_ic (0) d_X12_attempt_1 ic_0 ?_
  obtain ⟨h2, e2, hF⟩ := Option.bind_eq_some_iff.mp hF
  refine q_wI d_X12_attempt_2 (w_X12_1 _) e2 ?_
  refine g_aloadn d_X12_attempt_5 rfl ?_
  refine g_iloadn d_X12_attempt_6 rfl ?_
  refine g_iloadn d_X12_attempt_7 rfl ?_
  obtain ⟨_, g8, hF⟩ := Option.bind_eq_some_iff.mp hF
  obtain ⟨⟨r8, h8⟩, e8, hF⟩ := Option.bind_eq_some_iff.mp hF
  try dsimp only at hF
  refine q_callV [.int x1, .int x2] [] rfl d_X12_attempt_8 v_X12_348 (by omega) rfl (Nat.le_of_ble_eq_true rfl) (rc_rc g8 (by decide) rfl) (R_X12_noAnswers _ _ _ _ (by omega) e8) ?_
  refine q_istoren [.ref x0, .int x1, .int x2, .int (r8), xhole, xhole, xhole, xhole, xhole, xhole, xhole] d_X12_attempt_11 (by decide) rfl ?_
  refine g_iloadn d_X12_attempt_12 rfl ?_
  refine g_if_eq 18 d_X12_attempt_13 rfl (fun c13 => ?_) (fun c13 => ?_)
  · have hF := x_t hF c13
    refine g_aloadn d_X12_attempt_18 rfl ?_
    refine g_iloadn d_X12_attempt_19 rfl ?_
    refine g_iloadn d_X12_attempt_20 rfl ?_
    obtain ⟨_, g21, hF⟩ := Option.bind_eq_some_iff.mp hF
    obtain ⟨⟨r21, h21⟩, e21, hF⟩ := Option.bind_eq_some_iff.mp hF
    try dsimp only at hF
    refine q_callV [.int x1, .int x2] [] rfl d_X12_attempt_21 v_X12_351 (by omega) rfl (Nat.le_of_ble_eq_true rfl) (rc_rc g21 (by decide) rfl) (R_X12_blanksOf _ _ _ _ (by omega) e21) ?_
    refine q_istore [.ref x0, .int x1, .int x2, .int (r8), .int (r21), xhole, xhole, xhole, xhole, xhole, xhole] d_X12_attempt_24 (by decide) rfl ?_
    refine g_ic (-1) d_X12_attempt_26 ic_m1 ?_
    refine q_istore [.ref x0, .int x1, .int x2, .int (r8), .int (r21), .int ((-1)), xhole, xhole, xhole, xhole, xhole] d_X12_attempt_27 (by decide) rfl ?_
    refine g_ic (-1) d_X12_attempt_29 ic_m1 ?_
    refine q_istore [.ref x0, .int x1, .int x2, .int (r8), .int (r21), .int ((-1)), .int ((-1)), xhole, xhole, xhole, xhole] d_X12_attempt_30 (by decide) rfl ?_
    refine g_ic (0) d_X12_attempt_32 ic_0 ?_
    refine q_istore [.ref x0, .int x1, .int x2, .int (r8), .int (r21), .int ((-1)), .int ((-1)), .int 0, xhole, xhole, xhole] d_X12_attempt_33 (by decide) rfl ?_
    exact q_to (xs_r (xs_h (xs_h (xs_h (xs_r (xs_r (xs_r (xs_r (xs_h (xs_h (xs_h xs_n))))))))))) (R_X12_attempt_b35 hdp hq FU _ _ _ _ _ _ hF)
  · have hF := x_f hF c13
    refine g_iloadn d_X12_attempt_16 rfl ?_
    obtain ⟨rfl, rfl⟩ := x_inj hF
    exact g_iret d_X12_attempt_17 rfl hq
theorem d_X12_worstBy_0 : decode cX12_worstBy 0 = .ok (.iload_n 1, 1) := by decide +kernel
theorem d_X12_worstBy_1 : decode cX12_worstBy 1 = .ok (.aload_n 0, 1) := by decide +kernel
theorem d_X12_worstBy_2 : decode cX12_worstBy 2 = .ok (.getfield 39, 3) := by decide +kernel
theorem d_X12_worstBy_5 : decode cX12_worstBy 5 = .ok (.iload_n 2, 1) := by decide +kernel
theorem d_X12_worstBy_6 : decode cX12_worstBy 6 = .ok (.iaload, 1) := by decide +kernel
theorem d_X12_worstBy_7 : decode cX12_worstBy 7 = .ok (.iand, 1) := by decide +kernel
theorem d_X12_worstBy_8 : decode cX12_worstBy 8 = .ok (.istore_n 3, 1) := by decide +kernel
theorem d_X12_worstBy_9 : decode cX12_worstBy 9 = .ok (.iload_n 1, 1) := by decide +kernel
theorem d_X12_worstBy_10 : decode cX12_worstBy 10 = .ok (.aload_n 0, 1) := by decide +kernel
theorem d_X12_worstBy_11 : decode cX12_worstBy 11 = .ok (.getfield 39, 3) := by decide +kernel
theorem d_X12_worstBy_14 : decode cX12_worstBy 14 = .ok (.iload_n 2, 1) := by decide +kernel
theorem d_X12_worstBy_15 : decode cX12_worstBy 15 = .ok (.iaload, 1) := by decide +kernel
theorem d_X12_worstBy_16 : decode cX12_worstBy 16 = .ok (.iconst (-1), 1) := by decide +kernel
theorem d_X12_worstBy_17 : decode cX12_worstBy 17 = .ok (.ixor, 1) := by decide +kernel
theorem d_X12_worstBy_18 : decode cX12_worstBy 18 = .ok (.iand, 1) := by decide +kernel
theorem d_X12_worstBy_19 : decode cX12_worstBy 19 = .ok (.istore 4, 2) := by decide +kernel
theorem d_X12_worstBy_21 : decode cX12_worstBy 21 = .ok (.iload_n 3, 1) := by decide +kernel
theorem d_X12_worstBy_22 : decode cX12_worstBy 22 = .ok (.ifCond .eq 8, 3) := by decide +kernel
theorem d_X12_worstBy_25 : decode cX12_worstBy 25 = .ok (.iload 4, 2) := by decide +kernel
theorem d_X12_worstBy_27 : decode cX12_worstBy 27 = .ok (.ifCond .ne 7, 3) := by decide +kernel
theorem d_X12_worstBy_30 : decode cX12_worstBy 30 = .ok (.ldc_w 357, 3) := by decide +kernel
theorem d_X12_worstBy_33 : decode cX12_worstBy 33 = .ok (.ireturn, 1) := by decide +kernel
theorem d_X12_worstBy_34 : decode cX12_worstBy 34 = .ok (.iconst 1, 1) := by decide +kernel
theorem d_X12_worstBy_35 : decode cX12_worstBy 35 = .ok (.aload_n 0, 1) := by decide +kernel
theorem d_X12_worstBy_36 : decode cX12_worstBy 36 = .ok (.getfield 42, 3) := by decide +kernel
theorem d_X12_worstBy_39 : decode cX12_worstBy 39 = .ok (.iload_n 3, 1) := by decide +kernel
theorem d_X12_worstBy_40 : decode cX12_worstBy 40 = .ok (.iaload, 1) := by decide +kernel
theorem d_X12_worstBy_41 : decode cX12_worstBy 41 = .ok (.aload_n 0, 1) := by decide +kernel
theorem d_X12_worstBy_42 : decode cX12_worstBy 42 = .ok (.getfield 42, 3) := by decide +kernel
theorem d_X12_worstBy_45 : decode cX12_worstBy 45 = .ok (.iload 4, 2) := by decide +kernel
theorem d_X12_worstBy_47 : decode cX12_worstBy 47 = .ok (.iaload, 1) := by decide +kernel
theorem d_X12_worstBy_48 : decode cX12_worstBy 48 = .ok (.if_icmp .le 12, 3) := by decide +kernel
theorem d_X12_worstBy_51 : decode cX12_worstBy 51 = .ok (.aload_n 0, 1) := by decide +kernel
theorem d_X12_worstBy_52 : decode cX12_worstBy 52 = .ok (.getfield 42, 3) := by decide +kernel
theorem d_X12_worstBy_55 : decode cX12_worstBy 55 = .ok (.iload_n 3, 1) := by decide +kernel
theorem d_X12_worstBy_56 : decode cX12_worstBy 56 = .ok (.iaload, 1) := by decide +kernel
theorem d_X12_worstBy_57 : decode cX12_worstBy 57 = .ok (.goto 10, 3) := by decide +kernel
theorem d_X12_worstBy_60 : decode cX12_worstBy 60 = .ok (.aload_n 0, 1) := by decide +kernel
theorem d_X12_worstBy_61 : decode cX12_worstBy 61 = .ok (.getfield 42, 3) := by decide +kernel
theorem d_X12_worstBy_64 : decode cX12_worstBy 64 = .ok (.iload 4, 2) := by decide +kernel
theorem d_X12_worstBy_66 : decode cX12_worstBy 66 = .ok (.iaload, 1) := by decide +kernel
theorem d_X12_worstBy_67 : decode cX12_worstBy 67 = .ok (.iadd, 1) := by decide +kernel
theorem d_X12_worstBy_68 : decode cX12_worstBy 68 = .ok (.ireturn, 1) := by decide +kernel
def F_X12_worstBy (x0 : Nat) (x1 : Int32) (x2 : Int32) (h : xH) : Option (Int32 × xH) := (fR h x0 11 21).bind fun v2 => (aI h v2 x2).bind fun v6 => (fR h x0 11 21).bind fun v11 => (aI h v11 x2).bind fun v15 => if (x1 &&& v6) = 0 then some (268435456, h) else if ¬ (x1 &&& (v15 ^^^ ((-1)))) = 0 then (fR h x0 11 22).bind fun v36 => (aI h v36 (x1 &&& v6)).bind fun v40 => (fR h x0 11 22).bind fun v42 => (aI h v42 (x1 &&& (v15 ^^^ ((-1))))).bind fun v47 => if v40 ≤ v47 then (fR h x0 11 22).bind fun v61 => (aI h v61 (x1 &&& (v15 ^^^ ((-1))))).bind fun v66 => some (((1 : Int32)) + v66, h) else (fR h x0 11 22).bind fun v52 => (aI h v52 (x1 &&& v6)).bind fun v56 => some (((1 : Int32)) + v56, h) else some (268435456, h)
theorem R_X12_worstBy {Γ : xG} {l : Launch} {d : Nat} {r : Int32} {h' : xH} (x0 : Nat) (x1 : Int32) (x2 : Int32) (h : xH) (hdp : 0 ≤ d) (hF : F_X12_worstBy x0 x1 x2 h = some (r, h')) : Gm Γ l d 0 0 m_X12_worstBy [.ref x0, .int x1, .int x2] h (fun a u => a = some (.int r) ∧ u = h') := by
  refine Gm.of pn_X12 (Nat.le_of_ble_eq_true rfl) ?_
  show Gd Γ l d m_X12_worstBy 0 [.ref x0, .int x1, .int x2, xhole, xhole] [] h 0 0 _
  generalize hQ : (fun (a : Option Value) (u : xH) => a = some (.int r) ∧ u = h') = Q
  have hq : Q (some (.int r)) h' := by rw [← hQ]; exact ⟨rfl, rfl⟩
  clear hQ
  unfold F_X12_worstBy at hF
  refine g_iloadn d_X12_worstBy_0 rfl ?_
  refine g_aloadn d_X12_worstBy_1 rfl ?_
  obtain ⟨v2, e2, hF⟩ := Option.bind_eq_some_iff.mp hF
  refine q_fR d_X12_worstBy_2 f_X12_39 e2 ?_
  refine g_iloadn d_X12_worstBy_5 rfl ?_
  obtain ⟨v6, e6, hF⟩ := Option.bind_eq_some_iff.mp hF
  refine q_aI d_X12_worstBy_6 e6 ?_
  refine g_iand d_X12_worstBy_7 ?_
  refine q_istoren [.ref x0, .int x1, .int x2, .int (x1 &&& v6), xhole] d_X12_worstBy_8 (by decide) rfl ?_
  refine g_iloadn d_X12_worstBy_9 rfl ?_
  refine g_aloadn d_X12_worstBy_10 rfl ?_
  obtain ⟨v11, e11, hF⟩ := Option.bind_eq_some_iff.mp hF
  refine q_fR d_X12_worstBy_11 f_X12_39 e11 ?_
  refine g_iloadn d_X12_worstBy_14 rfl ?_
  obtain ⟨v15, e15, hF⟩ := Option.bind_eq_some_iff.mp hF
  refine q_aI d_X12_worstBy_15 e15 ?_
  refine g_ic (-1) d_X12_worstBy_16 ic_m1 ?_
  refine g_ixor d_X12_worstBy_17 ?_
  refine g_iand d_X12_worstBy_18 ?_
  refine q_istore [.ref x0, .int x1, .int x2, .int (x1 &&& v6), .int (x1 &&& (v15 ^^^ ((-1))))] d_X12_worstBy_19 (by decide) rfl ?_
  refine g_iloadn d_X12_worstBy_21 rfl ?_
  refine g_if_eq 30 d_X12_worstBy_22 rfl (fun c22 => ?_) (fun c22 => ?_)
  · have hF := x_t hF c22
    refine g_ldcw d_X12_worstBy_30 k_X12_357 ?_
    obtain ⟨rfl, rfl⟩ := x_inj hF
    exact g_iret d_X12_worstBy_33 rfl hq
  · have hF := x_f hF c22
    refine g_iload d_X12_worstBy_25 rfl ?_
    refine g_if_ne 34 d_X12_worstBy_27 rfl (fun c27 => ?_) (fun c27 => ?_)
    · have hF := x_t hF c27
      refine g_ic (1) d_X12_worstBy_34 ic_1 ?_
      refine g_aloadn d_X12_worstBy_35 rfl ?_
      obtain ⟨v36, e36, hF⟩ := Option.bind_eq_some_iff.mp hF
      refine q_fR d_X12_worstBy_36 f_X12_42 e36 ?_
      refine g_iloadn d_X12_worstBy_39 rfl ?_
      obtain ⟨v40, e40, hF⟩ := Option.bind_eq_some_iff.mp hF
      refine q_aI d_X12_worstBy_40 e40 ?_
      refine g_aloadn d_X12_worstBy_41 rfl ?_
      obtain ⟨v42, e42, hF⟩ := Option.bind_eq_some_iff.mp hF
      refine q_fR d_X12_worstBy_42 f_X12_42 e42 ?_
      refine g_iload d_X12_worstBy_45 rfl ?_
      obtain ⟨v47, e47, hF⟩ := Option.bind_eq_some_iff.mp hF
      refine q_aI d_X12_worstBy_47 e47 ?_
      refine g_icmp_le 60 d_X12_worstBy_48 rfl (fun c48 => ?_) (fun c48 => ?_)
      · have hF := x_t hF c48
        refine g_aloadn d_X12_worstBy_60 rfl ?_
        obtain ⟨v61, e61, hF⟩ := Option.bind_eq_some_iff.mp hF
        refine q_fR d_X12_worstBy_61 f_X12_42 e61 ?_
        refine g_iload d_X12_worstBy_64 rfl ?_
        obtain ⟨v66, e66, hF⟩ := Option.bind_eq_some_iff.mp hF
        refine q_aI d_X12_worstBy_66 e66 ?_
        refine g_iadd d_X12_worstBy_67 ?_
        obtain ⟨rfl, rfl⟩ := x_inj hF
        exact g_iret d_X12_worstBy_68 rfl hq
      · have hF := x_f hF c48
        refine g_aloadn d_X12_worstBy_51 rfl ?_
        obtain ⟨v52, e52, hF⟩ := Option.bind_eq_some_iff.mp hF
        refine q_fR d_X12_worstBy_52 f_X12_42 e52 ?_
        refine g_iloadn d_X12_worstBy_55 rfl ?_
        obtain ⟨v56, e56, hF⟩ := Option.bind_eq_some_iff.mp hF
        refine q_aI d_X12_worstBy_56 e56 ?_
        refine g_goto 67 d_X12_worstBy_57 rfl ?_
        refine g_iadd d_X12_worstBy_67 ?_
        obtain ⟨rfl, rfl⟩ := x_inj hF
        exact g_iret d_X12_worstBy_68 rfl hq
    · have hF := x_f hF (not_not_intro c27)
      refine g_ldcw d_X12_worstBy_30 k_X12_357 ?_
      obtain ⟨rfl, rfl⟩ := x_inj hF
      exact g_iret d_X12_worstBy_33 rfl hq
theorem d_X12_laysWorst_0 : decode cX12_laysWorst 0 = .ok (.aload_n 0, 1) := by decide +kernel
theorem d_X12_laysWorst_1 : decode cX12_laysWorst 1 = .ok (.iload_n 1, 1) := by decide +kernel
theorem d_X12_laysWorst_2 : decode cX12_laysWorst 2 = .ok (.invokevirtual 342, 3) := by decide +kernel
theorem d_X12_laysWorst_5 : decode cX12_laysWorst 5 = .ok (.iconst 0, 1) := by decide +kernel
theorem d_X12_laysWorst_6 : decode cX12_laysWorst 6 = .ok (.istore_n 2, 1) := by decide +kernel
theorem d_X12_laysWorst_7 : decode cX12_laysWorst 7 = .ok (.iload_n 2, 1) := by decide +kernel
theorem d_X12_laysWorst_8 : decode cX12_laysWorst 8 = .ok (.aload_n 0, 1) := by decide +kernel
theorem d_X12_laysWorst_9 : decode cX12_laysWorst 9 = .ok (.invokevirtual 345, 3) := by decide +kernel
theorem d_X12_laysWorst_12 : decode cX12_laysWorst 12 = .ok (.if_icmp .gt 74, 3) := by decide +kernel
theorem d_X12_laysWorst_15 : decode cX12_laysWorst 15 = .ok (.ldc_w 357, 3) := by decide +kernel
theorem d_X12_laysWorst_18 : decode cX12_laysWorst 18 = .ok (.istore_n 3, 1) := by decide +kernel
theorem d_X12_laysWorst_19 : decode cX12_laysWorst 19 = .ok (.iconst 0, 1) := by decide +kernel
theorem d_X12_laysWorst_20 : decode cX12_laysWorst 20 = .ok (.istore 4, 2) := by decide +kernel
theorem d_X12_laysWorst_22 : decode cX12_laysWorst 22 = .ok (.iload 4, 2) := by decide +kernel
theorem d_X12_laysWorst_24 : decode cX12_laysWorst 24 = .ok (.aload_n 0, 1) := by decide +kernel
theorem d_X12_laysWorst_25 : decode cX12_laysWorst 25 = .ok (.getfield 13, 3) := by decide +kernel
theorem d_X12_laysWorst_28 : decode cX12_laysWorst 28 = .ok (.iconst 1, 1) := by decide +kernel
theorem d_X12_laysWorst_29 : decode cX12_laysWorst 29 = .ok (.iaload, 1) := by decide +kernel
theorem d_X12_laysWorst_30 : decode cX12_laysWorst 30 = .ok (.if_icmp .ge 32, 3) := by decide +kernel
theorem d_X12_laysWorst_33 : decode cX12_laysWorst 33 = .ok (.aload_n 0, 1) := by decide +kernel
theorem d_X12_laysWorst_34 : decode cX12_laysWorst 34 = .ok (.iload_n 2, 1) := by decide +kernel
theorem d_X12_laysWorst_35 : decode cX12_laysWorst 35 = .ok (.iload 4, 2) := by decide +kernel
theorem d_X12_laysWorst_37 : decode cX12_laysWorst 37 = .ok (.invokevirtual 358, 3) := by decide +kernel
theorem d_X12_laysWorst_40 : decode cX12_laysWorst 40 = .ok (.iload_n 3, 1) := by decide +kernel
theorem d_X12_laysWorst_41 : decode cX12_laysWorst 41 = .ok (.if_icmp .ge 13, 3) := by decide +kernel
theorem d_X12_laysWorst_44 : decode cX12_laysWorst 44 = .ok (.aload_n 0, 1) := by decide +kernel
theorem d_X12_laysWorst_45 : decode cX12_laysWorst 45 = .ok (.iload_n 2, 1) := by decide +kernel
theorem d_X12_laysWorst_46 : decode cX12_laysWorst 46 = .ok (.iload 4, 2) := by decide +kernel
theorem d_X12_laysWorst_48 : decode cX12_laysWorst 48 = .ok (.invokevirtual 358, 3) := by decide +kernel
theorem d_X12_laysWorst_51 : decode cX12_laysWorst 51 = .ok (.goto 4, 3) := by decide +kernel
theorem d_X12_laysWorst_54 : decode cX12_laysWorst 54 = .ok (.iload_n 3, 1) := by decide +kernel
theorem d_X12_laysWorst_55 : decode cX12_laysWorst 55 = .ok (.istore_n 3, 1) := by decide +kernel
theorem d_X12_laysWorst_56 : decode cX12_laysWorst 56 = .ok (.iinc 4 1, 3) := by decide +kernel
theorem d_X12_laysWorst_59 : decode cX12_laysWorst 59 = .ok (.goto (-37), 3) := by decide +kernel
theorem d_X12_laysWorst_62 : decode cX12_laysWorst 62 = .ok (.aload_n 0, 1) := by decide +kernel
theorem d_X12_laysWorst_63 : decode cX12_laysWorst 63 = .ok (.getfield 42, 3) := by decide +kernel
theorem d_X12_laysWorst_66 : decode cX12_laysWorst 66 = .ok (.iload_n 2, 1) := by decide +kernel
theorem d_X12_laysWorst_67 : decode cX12_laysWorst 67 = .ok (.iload_n 3, 1) := by decide +kernel
theorem d_X12_laysWorst_68 : decode cX12_laysWorst 68 = .ok (.ldc_w 357, 3) := by decide +kernel
theorem d_X12_laysWorst_71 : decode cX12_laysWorst 71 = .ok (.if_icmp .ne 7, 3) := by decide +kernel
theorem d_X12_laysWorst_74 : decode cX12_laysWorst 74 = .ok (.iconst 0, 1) := by decide +kernel
theorem d_X12_laysWorst_75 : decode cX12_laysWorst 75 = .ok (.goto 4, 3) := by decide +kernel
theorem d_X12_laysWorst_78 : decode cX12_laysWorst 78 = .ok (.iload_n 3, 1) := by decide +kernel
theorem d_X12_laysWorst_79 : decode cX12_laysWorst 79 = .ok (.iastore, 1) := by decide +kernel
theorem d_X12_laysWorst_80 : decode cX12_laysWorst 80 = .ok (.iinc 2 1, 3) := by decide +kernel
theorem d_X12_laysWorst_83 : decode cX12_laysWorst 83 = .ok (.goto (-76), 3) := by decide +kernel
theorem d_X12_laysWorst_86 : decode cX12_laysWorst 86 = .ok (.aload_n 0, 1) := by decide +kernel
theorem d_X12_laysWorst_87 : decode cX12_laysWorst 87 = .ok (.getfield 42, 3) := by decide +kernel
theorem d_X12_laysWorst_90 : decode cX12_laysWorst 90 = .ok (.aload_n 0, 1) := by decide +kernel
theorem d_X12_laysWorst_91 : decode cX12_laysWorst 91 = .ok (.invokevirtual 345, 3) := by decide +kernel
theorem d_X12_laysWorst_94 : decode cX12_laysWorst 94 = .ok (.iaload, 1) := by decide +kernel
theorem d_X12_laysWorst_95 : decode cX12_laysWorst 95 = .ok (.ireturn, 1) := by decide +kernel
def F_X12_laysWorst_b22 (k7 : Nat → Int32 → xH → Option (Int32 × xH)) : Nat → Nat → Int32 → Int32 → Int32 → xH → Option (Int32 × xH)
  | 0, _, _, _, _, _ => none
  | n + 1, x0, x2, x3, x4, h => (fR h x0 11 1).bind fun v25 => (aI h v25 1).bind fun v29 => if v29 ≤ x4 then (fR h x0 11 22).bind fun v63 => if ¬ x3 = ((268435456 : Int32)) then (sI h v63 x2 x3).bind fun h79 => k7 x0 (x2 + 1) h79 else (sI h v63 x2 0).bind fun h79 => k7 x0 (x2 + 1) h79 else (rc h x0 11).bind fun _ => (F_X12_worstBy x0 x2 x4 h).bind fun z37 => if x3 ≤ z37.1 then F_X12_laysWorst_b22 k7 n x0 x2 x3 (x4 + 1) z37.2 else (rc z37.2 x0 11).bind fun _ => (F_X12_worstBy x0 x2 x4 z37.2).bind fun z48 => F_X12_laysWorst_b22 k7 n x0 x2 z48.1 (x4 + 1) z48.2
theorem R_X12_laysWorst_b22 {Γ : xG} {l : Launch} {d : Nat} {Q : Option Value → xH → Prop} {r : Int32} {h' : xH} {k7 : Nat → Int32 → xH → Option (Int32 × xH)} (K7 : ∀ (x0 : Nat) (x2 : Int32)  (h : xH), k7 x0 x2 h = some (r, h') → Gd Γ l d m_X12_laysWorst 7 [.ref x0, xhole, .int x2, xhole, xhole] [] h 0 0 Q) (hdp : 4 ≤ d) (hq : Q (some (.int r)) h') : ∀ (n : Nat) (x0 : Nat) (x2 : Int32) (x3 : Int32) (x4 : Int32) (h : xH), F_X12_laysWorst_b22 k7 n x0 x2 x3 x4 h = some (r, h') → Gd Γ l d m_X12_laysWorst 22 [.ref x0, xhole, .int x2, .int x3, .int x4] [] h 0 0 Q := by
  intro n
  induction n with
  | zero => intro x0 x2 x3 x4 h hF; cases hF
  | succ n ih =>
  intro x0 x2 x3 x4 h hF
  rw [F_X12_laysWorst_b22] at hF
  refine g_iload d_X12_laysWorst_22 rfl ?_
  refine g_aloadn d_X12_laysWorst_24 rfl ?_
  obtain ⟨v25, e25, hF⟩ := Option.bind_eq_some_iff.mp hF
  refine q_fR d_X12_laysWorst_25 f_X12_13 e25 ?_
  refine g_ic (1) d_X12_laysWorst_28 ic_1 ?_
  obtain ⟨v29, e29, hF⟩ := Option.bind_eq_some_iff.mp hF
  refine q_aI d_X12_laysWorst_29 e29 ?_
  refine g_icmp_ge 62 d_X12_laysWorst_30 rfl (fun c30 => ?_) (fun c30 => ?_)
  · have hF := x_t hF c30
    refine g_aloadn d_X12_laysWorst_62 rfl ?_
    obtain ⟨v63, e63, hF⟩ := Option.bind_eq_some_iff.mp hF
    refine q_fR d_X12_laysWorst_63 f_X12_42 e63 ?_
    refine g_iloadn d_X12_laysWorst_66 rfl ?_
    refine g_iloadn d_X12_laysWorst_67 rfl ?_
    refine g_ldcw d_X12_laysWorst_68 k_X12_357 ?_
    refine g_icmp_ne 78 d_X12_laysWorst_71 rfl (fun c71 => ?_) (fun c71 => ?_)
    · have hF := x_t hF c71
      refine g_iloadn d_X12_laysWorst_78 rfl ?_
      obtain ⟨h79, e79, hF⟩ := Option.bind_eq_some_iff.mp hF
      refine q_sI d_X12_laysWorst_79 e79 ?_
      refine q_iinc (1) [.ref x0, xhole, .int (x2 + 1), .int x3, .int x4] d_X12_laysWorst_80 ic_1 rfl (by decide) rfl ?_
      refine g_goto 7 d_X12_laysWorst_83 rfl ?_
      exact q_to (xs_r (xs_h (xs_r (xs_h (xs_h xs_n))))) (K7 _ _ _ hF)
    · have hF := x_f hF (not_not_intro c71)
      refine g_ic (0) d_X12_laysWorst_74 ic_0 ?_
      refine g_goto 79 d_X12_laysWorst_75 rfl ?_
      obtain ⟨h79, e79, hF⟩ := Option.bind_eq_some_iff.mp hF
      refine q_sI d_X12_laysWorst_79 e79 ?_
      refine q_iinc (1) [.ref x0, xhole, .int (x2 + 1), .int x3, .int x4] d_X12_laysWorst_80 ic_1 rfl (by decide) rfl ?_
      refine g_goto 7 d_X12_laysWorst_83 rfl ?_
      exact q_to (xs_r (xs_h (xs_r (xs_h (xs_h xs_n))))) (K7 _ _ _ hF)
  · have hF := x_f hF c30
    refine g_aloadn d_X12_laysWorst_33 rfl ?_
    refine g_iloadn d_X12_laysWorst_34 rfl ?_
    refine g_iload d_X12_laysWorst_35 rfl ?_
    obtain ⟨_, g37, hF⟩ := Option.bind_eq_some_iff.mp hF
    obtain ⟨⟨r37, h37⟩, e37, hF⟩ := Option.bind_eq_some_iff.mp hF
    try dsimp only at hF
    refine q_callV [.int x2, .int x4] [] rfl d_X12_laysWorst_37 v_X12_358 (by omega) rfl (Nat.le_of_ble_eq_true rfl) (rc_rc g37 (by decide) rfl) (R_X12_worstBy _ _ _ _ (by omega) e37) ?_
    refine g_iloadn d_X12_laysWorst_40 rfl ?_
    refine g_icmp_ge 54 d_X12_laysWorst_41 rfl (fun c41 => ?_) (fun c41 => ?_)
    · have hF := x_t hF c41
      refine g_iloadn d_X12_laysWorst_54 rfl ?_
      refine q_istoren [.ref x0, xhole, .int x2, .int x3, .int x4] d_X12_laysWorst_55 (by decide) rfl ?_
      refine q_iinc (1) [.ref x0, xhole, .int x2, .int x3, .int (x4 + 1)] d_X12_laysWorst_56 ic_1 rfl (by decide) rfl ?_
      refine g_goto 22 d_X12_laysWorst_59 rfl ?_
      exact q_to (xs_r (xs_h (xs_r (xs_r (xs_r xs_n))))) (ih _ _ _ _ _ hF)
    · have hF := x_f hF c41
      refine g_aloadn d_X12_laysWorst_44 rfl ?_
      refine g_iloadn d_X12_laysWorst_45 rfl ?_
      refine g_iload d_X12_laysWorst_46 rfl ?_
      obtain ⟨_, g48, hF⟩ := Option.bind_eq_some_iff.mp hF
      obtain ⟨⟨r48, h48⟩, e48, hF⟩ := Option.bind_eq_some_iff.mp hF
      try dsimp only at hF
      refine q_callV [.int x2, .int x4] [] rfl d_X12_laysWorst_48 v_X12_358 (by omega) rfl (Nat.le_of_ble_eq_true rfl) (rc_rc g48 (by decide) rfl) (R_X12_worstBy _ _ _ _ (by omega) e48) ?_
      refine g_goto 55 d_X12_laysWorst_51 rfl ?_
      refine q_istoren [.ref x0, xhole, .int x2, .int (r48), .int x4] d_X12_laysWorst_55 (by decide) rfl ?_
      refine q_iinc (1) [.ref x0, xhole, .int x2, .int (r48), .int (x4 + 1)] d_X12_laysWorst_56 ic_1 rfl (by decide) rfl ?_
      refine g_goto 22 d_X12_laysWorst_59 rfl ?_
      exact q_to (xs_r (xs_h (xs_r (xs_r (xs_r xs_n))))) (ih _ _ _ _ _ hF)
def F_X12_laysWorst_b7 : Nat → Nat → Int32 → xH → Option (Int32 × xH)
  | 0, _, _, _ => none
  | n + 1, x0, x2, h => (rc h x0 11).bind fun _ => (F_X12_everyBlank x0 h).bind fun z9 => if z9.1 < x2 then (fR z9.2 x0 11 22).bind fun v87 => (rc z9.2 x0 11).bind fun _ => (F_X12_everyBlank x0 z9.2).bind fun z91 => (aI z91.2 v87 z91.1).bind fun v94 => some (v94, z91.2) else F_X12_laysWorst_b22 (F_X12_laysWorst_b7 n) FU x0 x2 268435456 0 z9.2
theorem R_X12_laysWorst_b7 {Γ : xG} {l : Launch} {d : Nat} {Q : Option Value → xH → Prop} {r : Int32} {h' : xH} (hdp : 4 ≤ d) (hq : Q (some (.int r)) h') : ∀ (n : Nat) (x0 : Nat) (x2 : Int32) (h : xH), F_X12_laysWorst_b7 n x0 x2 h = some (r, h') → Gd Γ l d m_X12_laysWorst 7 [.ref x0, xhole, .int x2, xhole, xhole] [] h 0 0 Q := by
  intro n
  induction n with
  | zero => intro x0 x2 h hF; cases hF
  | succ n ih =>
  intro x0 x2 h hF
  rw [F_X12_laysWorst_b7] at hF
  refine g_iloadn d_X12_laysWorst_7 rfl ?_
  refine g_aloadn d_X12_laysWorst_8 rfl ?_
  obtain ⟨_, g9, hF⟩ := Option.bind_eq_some_iff.mp hF
  obtain ⟨⟨r9, h9⟩, e9, hF⟩ := Option.bind_eq_some_iff.mp hF
  try dsimp only at hF
  refine q_callV [] [.int x2] rfl d_X12_laysWorst_9 v_X12_345 (by omega) rfl (Nat.le_of_ble_eq_true rfl) (rc_rc g9 (by decide) rfl) (R_X12_everyBlank _ _ (by omega) e9) ?_
  refine g_icmp_gt 86 d_X12_laysWorst_12 rfl (fun c12 => ?_) (fun c12 => ?_)
  · have hF := x_t hF c12
    refine g_aloadn d_X12_laysWorst_86 rfl ?_
    obtain ⟨v87, e87, hF⟩ := Option.bind_eq_some_iff.mp hF
    refine q_fR d_X12_laysWorst_87 f_X12_42 e87 ?_
    refine g_aloadn d_X12_laysWorst_90 rfl ?_
    obtain ⟨_, g91, hF⟩ := Option.bind_eq_some_iff.mp hF
    obtain ⟨⟨r91, h91⟩, e91, hF⟩ := Option.bind_eq_some_iff.mp hF
    try dsimp only at hF
    refine q_callV [] [.ref v87] rfl d_X12_laysWorst_91 v_X12_345 (by omega) rfl (Nat.le_of_ble_eq_true rfl) (rc_rc g91 (by decide) rfl) (R_X12_everyBlank _ _ (by omega) e91) ?_
    obtain ⟨v94, e94, hF⟩ := Option.bind_eq_some_iff.mp hF
    refine q_aI d_X12_laysWorst_94 e94 ?_
    obtain ⟨rfl, rfl⟩ := x_inj hF
    exact g_iret d_X12_laysWorst_95 rfl hq
  · have hF := x_f hF c12
    refine g_ldcw d_X12_laysWorst_15 k_X12_357 ?_
    refine q_istoren [.ref x0, xhole, .int x2, .int 268435456, xhole] d_X12_laysWorst_18 (by decide) rfl ?_
    refine g_ic (0) d_X12_laysWorst_19 ic_0 ?_
    refine q_istore [.ref x0, xhole, .int x2, .int 268435456, .int 0] d_X12_laysWorst_20 (by decide) rfl ?_
    exact q_to (xs_r (xs_h (xs_r (xs_r (xs_r xs_n))))) (R_X12_laysWorst_b22 ih hdp hq FU _ _ _ _ _ hF)
def F_X12_laysWorst (x0 : Nat) (x1 : Int32) (h : xH) : Option (Int32 × xH) := (rc h x0 11).bind fun _ => (F_X12_laysHeard x0 x1 h).bind fun z2 => F_X12_laysWorst_b7 FU x0 0 z2.2
theorem R_X12_laysWorst {Γ : xG} {l : Launch} {d : Nat} {r : Int32} {h' : xH} (x0 : Nat) (x1 : Int32) (h : xH) (hdp : 4 ≤ d) (hF : F_X12_laysWorst x0 x1 h = some (r, h')) : Gm Γ l d 0 0 m_X12_laysWorst [.ref x0, .int x1] h (fun a u => a = some (.int r) ∧ u = h') := by
  refine Gm.of pn_X12 (Nat.le_of_ble_eq_true rfl) ?_
  show Gd Γ l d m_X12_laysWorst 0 [.ref x0, .int x1, xhole, xhole, xhole] [] h 0 0 _
  generalize hQ : (fun (a : Option Value) (u : xH) => a = some (.int r) ∧ u = h') = Q
  have hq : Q (some (.int r)) h' := by rw [← hQ]; exact ⟨rfl, rfl⟩
  clear hQ
  unfold F_X12_laysWorst at hF
  refine g_aloadn d_X12_laysWorst_0 rfl ?_
  refine g_iloadn d_X12_laysWorst_1 rfl ?_
  obtain ⟨_, g2, hF⟩ := Option.bind_eq_some_iff.mp hF
  obtain ⟨⟨r2, h2⟩, e2, hF⟩ := Option.bind_eq_some_iff.mp hF
  try dsimp only at hF
  refine q_callV [.int x1] [] rfl d_X12_laysWorst_2 v_X12_342 (by omega) rfl (Nat.le_of_ble_eq_true rfl) (rc_rc g2 (by decide) rfl) (R_X12_laysHeard _ _ _ (by omega) e2) ?_
  refine g_ic (0) d_X12_laysWorst_5 ic_0 ?_
  refine q_istoren [.ref x0, .int x1, .int 0, xhole, xhole] d_X12_laysWorst_6 (by decide) rfl ?_
  exact q_to (xs_r (xs_h (xs_r (xs_h (xs_h xs_n))))) (R_X12_laysWorst_b7 hdp hq FU _ _ _ hF)
theorem d_X12_knowing_0 : decode cX12_knowing 0 = .ok (.aload_n 0, 1) := by decide +kernel
theorem d_X12_knowing_1 : decode cX12_knowing 1 = .ok (.iconst 0, 1) := by decide +kernel
theorem d_X12_knowing_2 : decode cX12_knowing 2 = .ok (.putfield 1, 3) := by decide +kernel
theorem d_X12_knowing_5 : decode cX12_knowing 5 = .ok (.aload_n 0, 1) := by decide +kernel
theorem d_X12_knowing_6 : decode cX12_knowing 6 = .ok (.iload_n 1, 1) := by decide +kernel
theorem d_X12_knowing_7 : decode cX12_knowing 7 = .ok (.i2l, 1) := by decide +kernel
theorem d_X12_knowing_8 : decode cX12_knowing 8 = .ok (.invokevirtual 246, 3) := by decide +kernel
theorem d_X12_knowing_11 : decode cX12_knowing 11 = .ok (.ifCond .eq 11, 3) := by decide +kernel
theorem d_X12_knowing_14 : decode cX12_knowing 14 = .ok (.aload_n 0, 1) := by decide +kernel
theorem d_X12_knowing_15 : decode cX12_knowing 15 = .ok (.iload_n 1, 1) := by decide +kernel
theorem d_X12_knowing_16 : decode cX12_knowing 16 = .ok (.invokevirtual 361, 3) := by decide +kernel
theorem d_X12_knowing_19 : decode cX12_knowing 19 = .ok (.goto 5, 3) := by decide +kernel
theorem d_X12_knowing_22 : decode cX12_knowing 22 = .ok (.bipush (-2), 2) := by decide +kernel
theorem d_X12_knowing_24 : decode cX12_knowing 24 = .ok (.ireturn, 1) := by decide +kernel
def F_X12_knowing (x0 : Nat) (x1 : Int32) (h : xH) : Option (Int32 × xH) := (wI h x0 11 0 0).bind fun h2 => (rc h2 x0 11).bind fun _ => (F_X12_isPerson x0 x1.toInt64 h2).bind fun z8 => if z8.1 = 0 then some ((-2), z8.2) else (rc z8.2 x0 11).bind fun _ => (F_X12_laysWorst x0 x1 z8.2).bind fun z16 => some (z16.1, z16.2)
theorem R_X12_knowing {Γ : xG} {l : Launch} {d : Nat} {r : Int32} {h' : xH} (x0 : Nat) (x1 : Int32) (h : xH) (hdp : 5 ≤ d) (hF : F_X12_knowing x0 x1 h = some (r, h')) : Gm Γ l d 0 0 m_X12_knowing [.ref x0, .int x1] h (fun a u => a = some (.int r) ∧ u = h') := by
  refine Gm.of pn_X12 (Nat.le_of_ble_eq_true rfl) ?_
  show Gd Γ l d m_X12_knowing 0 [.ref x0, .int x1] [] h 0 0 _
  generalize hQ : (fun (a : Option Value) (u : xH) => a = some (.int r) ∧ u = h') = Q
  have hq : Q (some (.int r)) h' := by rw [← hQ]; exact ⟨rfl, rfl⟩
  clear hQ
  unfold F_X12_knowing at hF
  refine g_aloadn d_X12_knowing_0 rfl ?_
  refine g_ic (0) d_X12_knowing_1 ic_0 ?_
  obtain ⟨h2, e2, hF⟩ := Option.bind_eq_some_iff.mp hF
  refine q_wI d_X12_knowing_2 (w_X12_1 _) e2 ?_
  refine g_aloadn d_X12_knowing_5 rfl ?_
  refine g_iloadn d_X12_knowing_6 rfl ?_
  refine g_i2l d_X12_knowing_7 ?_
  obtain ⟨_, g8, hF⟩ := Option.bind_eq_some_iff.mp hF
  obtain ⟨⟨r8, h8⟩, e8, hF⟩ := Option.bind_eq_some_iff.mp hF
  try dsimp only at hF
  refine q_callV [.long (x1.toInt64)] [] rfl d_X12_knowing_8 v_X12_246 (by omega) rfl (Nat.le_of_ble_eq_true rfl) (rc_rc g8 (by decide) rfl) (R_X12_isPerson _ _ _ (by omega) e8) ?_
  refine g_if_eq 22 d_X12_knowing_11 rfl (fun c11 => ?_) (fun c11 => ?_)
  · have hF := x_t hF c11
    refine g_bi (-2) d_X12_knowing_22 bi_m2 ?_
    obtain ⟨rfl, rfl⟩ := x_inj hF
    exact g_iret d_X12_knowing_24 rfl hq
  · have hF := x_f hF c11
    refine g_aloadn d_X12_knowing_14 rfl ?_
    refine g_iloadn d_X12_knowing_15 rfl ?_
    obtain ⟨_, g16, hF⟩ := Option.bind_eq_some_iff.mp hF
    obtain ⟨⟨r16, h16⟩, e16, hF⟩ := Option.bind_eq_some_iff.mp hF
    try dsimp only at hF
    refine q_callV [.int x1] [] rfl d_X12_knowing_16 v_X12_361 (by omega) rfl (Nat.le_of_ble_eq_true rfl) (rc_rc g16 (by decide) rfl) (R_X12_laysWorst _ _ _ (by omega) e16) ?_
    refine g_goto 24 d_X12_knowing_19 rfl ?_
    obtain ⟨rfl, rfl⟩ := x_inj hF
    exact g_iret d_X12_knowing_24 rfl hq
theorem d_X12_begins_0 : decode cX12_begins 0 = .ok (.aload_n 0, 1) := by decide +kernel
theorem d_X12_begins_1 : decode cX12_begins 1 = .ok (.iconst 0, 1) := by decide +kernel
theorem d_X12_begins_2 : decode cX12_begins 2 = .ok (.putfield 1, 3) := by decide +kernel
theorem d_X12_begins_5 : decode cX12_begins 5 = .ok (.aload_n 0, 1) := by decide +kernel
theorem d_X12_begins_6 : decode cX12_begins 6 = .ok (.iload_n 1, 1) := by decide +kernel
theorem d_X12_begins_7 : decode cX12_begins 7 = .ok (.i2l, 1) := by decide +kernel
theorem d_X12_begins_8 : decode cX12_begins 8 = .ok (.invokevirtual 246, 3) := by decide +kernel
theorem d_X12_begins_11 : decode cX12_begins 11 = .ok (.ifCond .ne 6, 3) := by decide +kernel
theorem d_X12_begins_14 : decode cX12_begins 14 = .ok (.bipush (-2), 2) := by decide +kernel
theorem d_X12_begins_16 : decode cX12_begins 16 = .ok (.ireturn, 1) := by decide +kernel
theorem d_X12_begins_17 : decode cX12_begins 17 = .ok (.aload_n 0, 1) := by decide +kernel
theorem d_X12_begins_18 : decode cX12_begins 18 = .ok (.iload_n 1, 1) := by decide +kernel
theorem d_X12_begins_19 : decode cX12_begins 19 = .ok (.invokevirtual 361, 3) := by decide +kernel
theorem d_X12_begins_22 : decode cX12_begins 22 = .ok (.istore_n 2, 1) := by decide +kernel
theorem d_X12_begins_23 : decode cX12_begins 23 = .ok (.iconst 0, 1) := by decide +kernel
theorem d_X12_begins_24 : decode cX12_begins 24 = .ok (.istore_n 3, 1) := by decide +kernel
theorem d_X12_begins_25 : decode cX12_begins 25 = .ok (.iload_n 3, 1) := by decide +kernel
theorem d_X12_begins_26 : decode cX12_begins 26 = .ok (.aload_n 0, 1) := by decide +kernel
theorem d_X12_begins_27 : decode cX12_begins 27 = .ok (.getfield 13, 3) := by decide +kernel
theorem d_X12_begins_30 : decode cX12_begins 30 = .ok (.iconst 1, 1) := by decide +kernel
theorem d_X12_begins_31 : decode cX12_begins 31 = .ok (.iaload, 1) := by decide +kernel
theorem d_X12_begins_32 : decode cX12_begins 32 = .ok (.if_icmp .ge 28, 3) := by decide +kernel
theorem d_X12_begins_35 : decode cX12_begins 35 = .ok (.iload_n 2, 1) := by decide +kernel
theorem d_X12_begins_36 : decode cX12_begins 36 = .ok (.ifCond .le 24, 3) := by decide +kernel
theorem d_X12_begins_39 : decode cX12_begins 39 = .ok (.aload_n 0, 1) := by decide +kernel
theorem d_X12_begins_40 : decode cX12_begins 40 = .ok (.aload_n 0, 1) := by decide +kernel
theorem d_X12_begins_41 : decode cX12_begins 41 = .ok (.invokevirtual 345, 3) := by decide +kernel
theorem d_X12_begins_44 : decode cX12_begins 44 = .ok (.iload_n 3, 1) := by decide +kernel
theorem d_X12_begins_45 : decode cX12_begins 45 = .ok (.invokevirtual 358, 3) := by decide +kernel
theorem d_X12_begins_48 : decode cX12_begins 48 = .ok (.iload_n 2, 1) := by decide +kernel
theorem d_X12_begins_49 : decode cX12_begins 49 = .ok (.if_icmp .ne 5, 3) := by decide +kernel
theorem d_X12_begins_52 : decode cX12_begins 52 = .ok (.iload_n 3, 1) := by decide +kernel
theorem d_X12_begins_53 : decode cX12_begins 53 = .ok (.ireturn, 1) := by decide +kernel
theorem d_X12_begins_54 : decode cX12_begins 54 = .ok (.iinc 3 1, 3) := by decide +kernel
theorem d_X12_begins_57 : decode cX12_begins 57 = .ok (.goto (-32), 3) := by decide +kernel
theorem d_X12_begins_60 : decode cX12_begins 60 = .ok (.iconst (-1), 1) := by decide +kernel
theorem d_X12_begins_61 : decode cX12_begins 61 = .ok (.ireturn, 1) := by decide +kernel
def F_X12_begins_b25 : Nat → Nat → Int32 → Int32 → xH → Option (Int32 × xH)
  | 0, _, _, _, _ => none
  | n + 1, x0, x2, x3, h => (fR h x0 11 1).bind fun v27 => (aI h v27 1).bind fun v31 => if v31 ≤ x3 then some ((-1), h) else if x2 ≤ 0 then some ((-1), h) else (rc h x0 11).bind fun _ => (F_X12_everyBlank x0 h).bind fun z41 => (rc z41.2 x0 11).bind fun _ => (F_X12_worstBy x0 z41.1 x3 z41.2).bind fun z45 => if ¬ z45.1 = x2 then F_X12_begins_b25 n x0 x2 (x3 + 1) z45.2 else some (x3, z45.2)
theorem R_X12_begins_b25 {Γ : xG} {l : Launch} {d : Nat} {Q : Option Value → xH → Prop} {r : Int32} {h' : xH} (hdp : 5 ≤ d) (hq : Q (some (.int r)) h') : ∀ (n : Nat) (x0 : Nat) (x2 : Int32) (x3 : Int32) (h : xH), F_X12_begins_b25 n x0 x2 x3 h = some (r, h') → Gd Γ l d m_X12_begins 25 [.ref x0, xhole, .int x2, .int x3] [] h 0 0 Q := by
  intro n
  induction n with
  | zero => intro x0 x2 x3 h hF; cases hF
  | succ n ih =>
  intro x0 x2 x3 h hF
  rw [F_X12_begins_b25] at hF
  refine g_iloadn d_X12_begins_25 rfl ?_
  refine g_aloadn d_X12_begins_26 rfl ?_
  obtain ⟨v27, e27, hF⟩ := Option.bind_eq_some_iff.mp hF
  refine q_fR d_X12_begins_27 f_X12_13 e27 ?_
  refine g_ic (1) d_X12_begins_30 ic_1 ?_
  obtain ⟨v31, e31, hF⟩ := Option.bind_eq_some_iff.mp hF
  refine q_aI d_X12_begins_31 e31 ?_
  refine g_icmp_ge 60 d_X12_begins_32 rfl (fun c32 => ?_) (fun c32 => ?_)
  · have hF := x_t hF c32
    refine g_ic (-1) d_X12_begins_60 ic_m1 ?_
    obtain ⟨rfl, rfl⟩ := x_inj hF
    exact g_iret d_X12_begins_61 rfl hq
  · have hF := x_f hF c32
    refine g_iloadn d_X12_begins_35 rfl ?_
    refine g_if_le 60 d_X12_begins_36 rfl (fun c36 => ?_) (fun c36 => ?_)
    · have hF := x_t hF c36
      refine g_ic (-1) d_X12_begins_60 ic_m1 ?_
      obtain ⟨rfl, rfl⟩ := x_inj hF
      exact g_iret d_X12_begins_61 rfl hq
    · have hF := x_f hF c36
      refine g_aloadn d_X12_begins_39 rfl ?_
      refine g_aloadn d_X12_begins_40 rfl ?_
      obtain ⟨_, g41, hF⟩ := Option.bind_eq_some_iff.mp hF
      obtain ⟨⟨r41, h41⟩, e41, hF⟩ := Option.bind_eq_some_iff.mp hF
      try dsimp only at hF
      refine q_callV [] [.ref x0] rfl d_X12_begins_41 v_X12_345 (by omega) rfl (Nat.le_of_ble_eq_true rfl) (rc_rc g41 (by decide) rfl) (R_X12_everyBlank _ _ (by omega) e41) ?_
      refine g_iloadn d_X12_begins_44 rfl ?_
      obtain ⟨_, g45, hF⟩ := Option.bind_eq_some_iff.mp hF
      obtain ⟨⟨r45, h45⟩, e45, hF⟩ := Option.bind_eq_some_iff.mp hF
      try dsimp only at hF
      refine q_callV [.int (r41), .int x3] [] rfl d_X12_begins_45 v_X12_358 (by omega) rfl (Nat.le_of_ble_eq_true rfl) (rc_rc g45 (by decide) rfl) (R_X12_worstBy _ _ _ _ (by omega) e45) ?_
      refine g_iloadn d_X12_begins_48 rfl ?_
      refine g_icmp_ne 54 d_X12_begins_49 rfl (fun c49 => ?_) (fun c49 => ?_)
      · have hF := x_t hF c49
        refine q_iinc (1) [.ref x0, xhole, .int x2, .int (x3 + 1)] d_X12_begins_54 ic_1 rfl (by decide) rfl ?_
        refine g_goto 25 d_X12_begins_57 rfl ?_
        exact q_to (xs_r (xs_h (xs_r (xs_r xs_n)))) (ih _ _ _ _ hF)
      · have hF := x_f hF (not_not_intro c49)
        refine g_iloadn d_X12_begins_52 rfl ?_
        obtain ⟨rfl, rfl⟩ := x_inj hF
        exact g_iret d_X12_begins_53 rfl hq
def F_X12_begins (x0 : Nat) (x1 : Int32) (h : xH) : Option (Int32 × xH) := (wI h x0 11 0 0).bind fun h2 => (rc h2 x0 11).bind fun _ => (F_X12_isPerson x0 x1.toInt64 h2).bind fun z8 => if ¬ z8.1 = 0 then (rc z8.2 x0 11).bind fun _ => (F_X12_laysWorst x0 x1 z8.2).bind fun z19 => F_X12_begins_b25 FU x0 z19.1 0 z19.2 else some ((-2), z8.2)
theorem R_X12_begins {Γ : xG} {l : Launch} {d : Nat} {r : Int32} {h' : xH} (x0 : Nat) (x1 : Int32) (h : xH) (hdp : 5 ≤ d) (hF : F_X12_begins x0 x1 h = some (r, h')) : Gm Γ l d 0 0 m_X12_begins [.ref x0, .int x1] h (fun a u => a = some (.int r) ∧ u = h') := by
  refine Gm.of pn_X12 (Nat.le_of_ble_eq_true rfl) ?_
  show Gd Γ l d m_X12_begins 0 [.ref x0, .int x1, xhole, xhole] [] h 0 0 _
  generalize hQ : (fun (a : Option Value) (u : xH) => a = some (.int r) ∧ u = h') = Q
  have hq : Q (some (.int r)) h' := by rw [← hQ]; exact ⟨rfl, rfl⟩
  clear hQ
  unfold F_X12_begins at hF
  refine g_aloadn d_X12_begins_0 rfl ?_
  refine g_ic (0) d_X12_begins_1 ic_0 ?_
  obtain ⟨h2, e2, hF⟩ := Option.bind_eq_some_iff.mp hF
  refine q_wI d_X12_begins_2 (w_X12_1 _) e2 ?_
  refine g_aloadn d_X12_begins_5 rfl ?_
  refine g_iloadn d_X12_begins_6 rfl ?_
  refine g_i2l d_X12_begins_7 ?_
  obtain ⟨_, g8, hF⟩ := Option.bind_eq_some_iff.mp hF
  obtain ⟨⟨r8, h8⟩, e8, hF⟩ := Option.bind_eq_some_iff.mp hF
  try dsimp only at hF
  refine q_callV [.long (x1.toInt64)] [] rfl d_X12_begins_8 v_X12_246 (by omega) rfl (Nat.le_of_ble_eq_true rfl) (rc_rc g8 (by decide) rfl) (R_X12_isPerson _ _ _ (by omega) e8) ?_
  refine g_if_ne 17 d_X12_begins_11 rfl (fun c11 => ?_) (fun c11 => ?_)
  · have hF := x_t hF c11
    refine g_aloadn d_X12_begins_17 rfl ?_
    refine g_iloadn d_X12_begins_18 rfl ?_
    obtain ⟨_, g19, hF⟩ := Option.bind_eq_some_iff.mp hF
    obtain ⟨⟨r19, h19⟩, e19, hF⟩ := Option.bind_eq_some_iff.mp hF
    try dsimp only at hF
    refine q_callV [.int x1] [] rfl d_X12_begins_19 v_X12_361 (by omega) rfl (Nat.le_of_ble_eq_true rfl) (rc_rc g19 (by decide) rfl) (R_X12_laysWorst _ _ _ (by omega) e19) ?_
    refine q_istoren [.ref x0, .int x1, .int (r19), xhole] d_X12_begins_22 (by decide) rfl ?_
    refine g_ic (0) d_X12_begins_23 ic_0 ?_
    refine q_istoren [.ref x0, .int x1, .int (r19), .int 0] d_X12_begins_24 (by decide) rfl ?_
    exact q_to (xs_r (xs_h (xs_r (xs_r xs_n)))) (R_X12_begins_b25 hdp hq FU _ _ _ _ hF)
  · have hF := x_f hF (not_not_intro c11)
    refine g_bi (-2) d_X12_begins_14 bi_m2 ?_
    obtain ⟨rfl, rfl⟩ := x_inj hF
    exact g_iret d_X12_begins_16 rfl hq
theorem d_X12_tellsApart_0 : decode cX12_tellsApart 0 = .ok (.iconst 0, 1) := by decide +kernel
theorem d_X12_tellsApart_1 : decode cX12_tellsApart 1 = .ok (.istore 4, 2) := by decide +kernel
theorem d_X12_tellsApart_3 : decode cX12_tellsApart 3 = .ok (.iload 4, 2) := by decide +kernel
theorem d_X12_tellsApart_5 : decode cX12_tellsApart 5 = .ok (.aload_n 0, 1) := by decide +kernel
theorem d_X12_tellsApart_6 : decode cX12_tellsApart 6 = .ok (.getfield 13, 3) := by decide +kernel
theorem d_X12_tellsApart_9 : decode cX12_tellsApart 9 = .ok (.iconst 1, 1) := by decide +kernel
theorem d_X12_tellsApart_10 : decode cX12_tellsApart 10 = .ok (.iaload, 1) := by decide +kernel
theorem d_X12_tellsApart_11 : decode cX12_tellsApart 11 = .ok (.if_icmp .ge 48, 3) := by decide +kernel
theorem d_X12_tellsApart_14 : decode cX12_tellsApart 14 = .ok (.iload_n 1, 1) := by decide +kernel
theorem d_X12_tellsApart_15 : decode cX12_tellsApart 15 = .ok (.i2l, 1) := by decide +kernel
theorem d_X12_tellsApart_16 : decode cX12_tellsApart 16 = .ok (.iload 4, 2) := by decide +kernel
theorem d_X12_tellsApart_18 : decode cX12_tellsApart 18 = .ok (.invokestatic 228, 3) := by decide +kernel
theorem d_X12_tellsApart_21 : decode cX12_tellsApart 21 = .ok (.ifCond .eq 32, 3) := by decide +kernel
theorem d_X12_tellsApart_24 : decode cX12_tellsApart 24 = .ok (.aload_n 0, 1) := by decide +kernel
theorem d_X12_tellsApart_25 : decode cX12_tellsApart 25 = .ok (.getfield 39, 3) := by decide +kernel
theorem d_X12_tellsApart_28 : decode cX12_tellsApart 28 = .ok (.iload 4, 2) := by decide +kernel
theorem d_X12_tellsApart_30 : decode cX12_tellsApart 30 = .ok (.iaload, 1) := by decide +kernel
theorem d_X12_tellsApart_31 : decode cX12_tellsApart 31 = .ok (.i2l, 1) := by decide +kernel
theorem d_X12_tellsApart_32 : decode cX12_tellsApart 32 = .ok (.iload_n 2, 1) := by decide +kernel
theorem d_X12_tellsApart_33 : decode cX12_tellsApart 33 = .ok (.invokestatic 228, 3) := by decide +kernel
theorem d_X12_tellsApart_36 : decode cX12_tellsApart 36 = .ok (.aload_n 0, 1) := by decide +kernel
theorem d_X12_tellsApart_37 : decode cX12_tellsApart 37 = .ok (.getfield 39, 3) := by decide +kernel
theorem d_X12_tellsApart_40 : decode cX12_tellsApart 40 = .ok (.iload 4, 2) := by decide +kernel
theorem d_X12_tellsApart_42 : decode cX12_tellsApart 42 = .ok (.iaload, 1) := by decide +kernel
theorem d_X12_tellsApart_43 : decode cX12_tellsApart 43 = .ok (.i2l, 1) := by decide +kernel
theorem d_X12_tellsApart_44 : decode cX12_tellsApart 44 = .ok (.iload_n 3, 1) := by decide +kernel
theorem d_X12_tellsApart_45 : decode cX12_tellsApart 45 = .ok (.invokestatic 228, 3) := by decide +kernel
theorem d_X12_tellsApart_48 : decode cX12_tellsApart 48 = .ok (.if_icmp .eq 5, 3) := by decide +kernel
theorem d_X12_tellsApart_51 : decode cX12_tellsApart 51 = .ok (.iconst 1, 1) := by decide +kernel
theorem d_X12_tellsApart_52 : decode cX12_tellsApart 52 = .ok (.ireturn, 1) := by decide +kernel
theorem d_X12_tellsApart_53 : decode cX12_tellsApart 53 = .ok (.iinc 4 1, 3) := by decide +kernel
theorem d_X12_tellsApart_56 : decode cX12_tellsApart 56 = .ok (.goto (-53), 3) := by decide +kernel
theorem d_X12_tellsApart_59 : decode cX12_tellsApart 59 = .ok (.iconst 0, 1) := by decide +kernel
theorem d_X12_tellsApart_60 : decode cX12_tellsApart 60 = .ok (.ireturn, 1) := by decide +kernel
def F_X12_tellsApart_b3 : Nat → Nat → Int32 → Int32 → Int32 → Int32 → xH → Option (Int32 × xH)
  | 0, _, _, _, _, _, _ => none
  | n + 1, x0, x1, x2, x3, x4, h => (fR h x0 11 1).bind fun v6 => (aI h v6 1).bind fun v10 => if v10 ≤ x4 then some (0, h) else (F_X12_isIn x1.toInt64 x4 h).bind fun z18 => if z18.1 = 0 then F_X12_tellsApart_b3 n x0 x1 x2 x3 (x4 + 1) z18.2 else (fR z18.2 x0 11 21).bind fun v25 => (aI z18.2 v25 x4).bind fun v30 => (F_X12_isIn v30.toInt64 x2 z18.2).bind fun z33 => (fR z33.2 x0 11 21).bind fun v37 => (aI z33.2 v37 x4).bind fun v42 => (F_X12_isIn v42.toInt64 x3 z33.2).bind fun z45 => if z33.1 = z45.1 then F_X12_tellsApart_b3 n x0 x1 x2 x3 (x4 + 1) z45.2 else some (1, z45.2)
theorem R_X12_tellsApart_b3 {Γ : xG} {l : Launch} {d : Nat} {Q : Option Value → xH → Prop} {r : Int32} {h' : xH} (hdp : 1 ≤ d) (hq : Q (some (.int r)) h') : ∀ (n : Nat) (x0 : Nat) (x1 : Int32) (x2 : Int32) (x3 : Int32) (x4 : Int32) (h : xH), F_X12_tellsApart_b3 n x0 x1 x2 x3 x4 h = some (r, h') → Gd Γ l d m_X12_tellsApart 3 [.ref x0, .int x1, .int x2, .int x3, .int x4] [] h 0 0 Q := by
  intro n
  induction n with
  | zero => intro x0 x1 x2 x3 x4 h hF; cases hF
  | succ n ih =>
  intro x0 x1 x2 x3 x4 h hF
  rw [F_X12_tellsApart_b3] at hF
  refine g_iload d_X12_tellsApart_3 rfl ?_
  refine g_aloadn d_X12_tellsApart_5 rfl ?_
  obtain ⟨v6, e6, hF⟩ := Option.bind_eq_some_iff.mp hF
  refine q_fR d_X12_tellsApart_6 f_X12_13 e6 ?_
  refine g_ic (1) d_X12_tellsApart_9 ic_1 ?_
  obtain ⟨v10, e10, hF⟩ := Option.bind_eq_some_iff.mp hF
  refine q_aI d_X12_tellsApart_10 e10 ?_
  refine g_icmp_ge 59 d_X12_tellsApart_11 rfl (fun c11 => ?_) (fun c11 => ?_)
  · have hF := x_t hF c11
    refine g_ic (0) d_X12_tellsApart_59 ic_0 ?_
    obtain ⟨rfl, rfl⟩ := x_inj hF
    exact g_zret d_X12_tellsApart_60 rfl rfl hq
  · have hF := x_f hF c11
    refine g_iloadn d_X12_tellsApart_14 rfl ?_
    refine g_i2l d_X12_tellsApart_15 ?_
    refine g_iload d_X12_tellsApart_16 rfl ?_
    obtain ⟨⟨r18, h18⟩, e18, hF⟩ := Option.bind_eq_some_iff.mp hF
    try dsimp only at hF
    refine q_callS [.long (x1.toInt64), .int x4] [] rfl d_X12_tellsApart_18 s_X12_228 (by omega) rfl (Nat.le_of_ble_eq_true rfl) (R_X12_isIn _ _ _ (by omega) e18) ?_
    refine g_if_eq 53 d_X12_tellsApart_21 rfl (fun c21 => ?_) (fun c21 => ?_)
    · have hF := x_t hF c21
      refine q_iinc (1) [.ref x0, .int x1, .int x2, .int x3, .int (x4 + 1)] d_X12_tellsApart_53 ic_1 rfl (by decide) rfl ?_
      refine g_goto 3 d_X12_tellsApart_56 rfl ?_
      exact q_to (xs_r (xs_r (xs_r (xs_r (xs_r xs_n))))) (ih _ _ _ _ _ _ hF)
    · have hF := x_f hF c21
      refine g_aloadn d_X12_tellsApart_24 rfl ?_
      obtain ⟨v25, e25, hF⟩ := Option.bind_eq_some_iff.mp hF
      refine q_fR d_X12_tellsApart_25 f_X12_39 e25 ?_
      refine g_iload d_X12_tellsApart_28 rfl ?_
      obtain ⟨v30, e30, hF⟩ := Option.bind_eq_some_iff.mp hF
      refine q_aI d_X12_tellsApart_30 e30 ?_
      refine g_i2l d_X12_tellsApart_31 ?_
      refine g_iloadn d_X12_tellsApart_32 rfl ?_
      obtain ⟨⟨r33, h33⟩, e33, hF⟩ := Option.bind_eq_some_iff.mp hF
      try dsimp only at hF
      refine q_callS [.long (v30.toInt64), .int x2] [] rfl d_X12_tellsApart_33 s_X12_228 (by omega) rfl (Nat.le_of_ble_eq_true rfl) (R_X12_isIn _ _ _ (by omega) e33) ?_
      refine g_aloadn d_X12_tellsApart_36 rfl ?_
      obtain ⟨v37, e37, hF⟩ := Option.bind_eq_some_iff.mp hF
      refine q_fR d_X12_tellsApart_37 f_X12_39 e37 ?_
      refine g_iload d_X12_tellsApart_40 rfl ?_
      obtain ⟨v42, e42, hF⟩ := Option.bind_eq_some_iff.mp hF
      refine q_aI d_X12_tellsApart_42 e42 ?_
      refine g_i2l d_X12_tellsApart_43 ?_
      refine g_iloadn d_X12_tellsApart_44 rfl ?_
      obtain ⟨⟨r45, h45⟩, e45, hF⟩ := Option.bind_eq_some_iff.mp hF
      try dsimp only at hF
      refine q_callS [.long (v42.toInt64), .int x3] [.int (r33)] rfl d_X12_tellsApart_45 s_X12_228 (by omega) rfl (Nat.le_of_ble_eq_true rfl) (R_X12_isIn _ _ _ (by omega) e45) ?_
      refine g_icmp_eq 53 d_X12_tellsApart_48 rfl (fun c48 => ?_) (fun c48 => ?_)
      · have hF := x_t hF c48
        refine q_iinc (1) [.ref x0, .int x1, .int x2, .int x3, .int (x4 + 1)] d_X12_tellsApart_53 ic_1 rfl (by decide) rfl ?_
        refine g_goto 3 d_X12_tellsApart_56 rfl ?_
        exact q_to (xs_r (xs_r (xs_r (xs_r (xs_r xs_n))))) (ih _ _ _ _ _ _ hF)
      · have hF := x_f hF c48
        refine g_ic (1) d_X12_tellsApart_51 ic_1 ?_
        obtain ⟨rfl, rfl⟩ := x_inj hF
        exact g_zret d_X12_tellsApart_52 rfl rfl hq
def F_X12_tellsApart (x0 : Nat) (x1 : Int32) (x2 : Int32) (x3 : Int32) (h : xH) : Option (Int32 × xH) := F_X12_tellsApart_b3 FU x0 x1 x2 x3 0 h
theorem R_X12_tellsApart {Γ : xG} {l : Launch} {d : Nat} {r : Int32} {h' : xH} (x0 : Nat) (x1 : Int32) (x2 : Int32) (x3 : Int32) (h : xH) (hdp : 1 ≤ d) (hF : F_X12_tellsApart x0 x1 x2 x3 h = some (r, h')) : Gm Γ l d 0 0 m_X12_tellsApart [.ref x0, .int x1, .int x2, .int x3] h (fun a u => a = some (.int r) ∧ u = h') := by
  refine Gm.of pn_X12 (Nat.le_of_ble_eq_true rfl) ?_
  show Gd Γ l d m_X12_tellsApart 0 [.ref x0, .int x1, .int x2, .int x3, xhole] [] h 0 0 _
  generalize hQ : (fun (a : Option Value) (u : xH) => a = some (.int r) ∧ u = h') = Q
  have hq : Q (some (.int r)) h' := by rw [← hQ]; exact ⟨rfl, rfl⟩
  clear hQ
  unfold F_X12_tellsApart at hF
  refine g_ic (0) d_X12_tellsApart_0 ic_0 ?_
  refine q_istore [.ref x0, .int x1, .int x2, .int x3, .int 0] d_X12_tellsApart_1 (by decide) rfl ?_
  exact q_to (xs_r (xs_r (xs_r (xs_r (xs_r xs_n))))) (R_X12_tellsApart_b3 hdp hq FU _ _ _ _ _ _ hF)
theorem d_X12_tellsAll_0 : decode cX12_tellsAll 0 = .ok (.iconst 0, 1) := by decide +kernel
theorem d_X12_tellsAll_1 : decode cX12_tellsAll 1 = .ok (.istore_n 2, 1) := by decide +kernel
theorem d_X12_tellsAll_2 : decode cX12_tellsAll 2 = .ok (.iload_n 2, 1) := by decide +kernel
theorem d_X12_tellsAll_3 : decode cX12_tellsAll 3 = .ok (.aload_n 0, 1) := by decide +kernel
theorem d_X12_tellsAll_4 : decode cX12_tellsAll 4 = .ok (.getfield 13, 3) := by decide +kernel
theorem d_X12_tellsAll_7 : decode cX12_tellsAll 7 = .ok (.iconst 1, 1) := by decide +kernel
theorem d_X12_tellsAll_8 : decode cX12_tellsAll 8 = .ok (.iaload, 1) := by decide +kernel
theorem d_X12_tellsAll_9 : decode cX12_tellsAll 9 = .ok (.if_icmp .gt 53, 3) := by decide +kernel
theorem d_X12_tellsAll_12 : decode cX12_tellsAll 12 = .ok (.iconst 0, 1) := by decide +kernel
theorem d_X12_tellsAll_13 : decode cX12_tellsAll 13 = .ok (.istore_n 3, 1) := by decide +kernel
theorem d_X12_tellsAll_14 : decode cX12_tellsAll 14 = .ok (.iload_n 3, 1) := by decide +kernel
theorem d_X12_tellsAll_15 : decode cX12_tellsAll 15 = .ok (.iload_n 2, 1) := by decide +kernel
theorem d_X12_tellsAll_16 : decode cX12_tellsAll 16 = .ok (.if_icmp .ge 40, 3) := by decide +kernel
theorem d_X12_tellsAll_19 : decode cX12_tellsAll 19 = .ok (.aload_n 0, 1) := by decide +kernel
theorem d_X12_tellsAll_20 : decode cX12_tellsAll 20 = .ok (.iconst 1, 1) := by decide +kernel
theorem d_X12_tellsAll_21 : decode cX12_tellsAll 21 = .ok (.aload_n 0, 1) := by decide +kernel
theorem d_X12_tellsAll_22 : decode cX12_tellsAll 22 = .ok (.getfield 13, 3) := by decide +kernel
theorem d_X12_tellsAll_25 : decode cX12_tellsAll 25 = .ok (.iconst 1, 1) := by decide +kernel
theorem d_X12_tellsAll_26 : decode cX12_tellsAll 26 = .ok (.iaload, 1) := by decide +kernel
theorem d_X12_tellsAll_27 : decode cX12_tellsAll 27 = .ok (.ishl, 1) := by decide +kernel
theorem d_X12_tellsAll_28 : decode cX12_tellsAll 28 = .ok (.iconst 1, 1) := by decide +kernel
theorem d_X12_tellsAll_29 : decode cX12_tellsAll 29 = .ok (.isub, 1) := by decide +kernel
theorem d_X12_tellsAll_30 : decode cX12_tellsAll 30 = .ok (.iload_n 2, 1) := by decide +kernel
theorem d_X12_tellsAll_31 : decode cX12_tellsAll 31 = .ok (.iload_n 3, 1) := by decide +kernel
theorem d_X12_tellsAll_32 : decode cX12_tellsAll 32 = .ok (.invokevirtual 364, 3) := by decide +kernel
theorem d_X12_tellsAll_35 : decode cX12_tellsAll 35 = .ok (.ifCond .eq 15, 3) := by decide +kernel
theorem d_X12_tellsAll_38 : decode cX12_tellsAll 38 = .ok (.aload_n 0, 1) := by decide +kernel
theorem d_X12_tellsAll_39 : decode cX12_tellsAll 39 = .ok (.iload_n 1, 1) := by decide +kernel
theorem d_X12_tellsAll_40 : decode cX12_tellsAll 40 = .ok (.iload_n 2, 1) := by decide +kernel
theorem d_X12_tellsAll_41 : decode cX12_tellsAll 41 = .ok (.iload_n 3, 1) := by decide +kernel
theorem d_X12_tellsAll_42 : decode cX12_tellsAll 42 = .ok (.invokevirtual 364, 3) := by decide +kernel
theorem d_X12_tellsAll_45 : decode cX12_tellsAll 45 = .ok (.ifCond .ne 5, 3) := by decide +kernel
theorem d_X12_tellsAll_48 : decode cX12_tellsAll 48 = .ok (.iconst 0, 1) := by decide +kernel
theorem d_X12_tellsAll_49 : decode cX12_tellsAll 49 = .ok (.ireturn, 1) := by decide +kernel
theorem d_X12_tellsAll_50 : decode cX12_tellsAll 50 = .ok (.iinc 3 1, 3) := by decide +kernel
theorem d_X12_tellsAll_53 : decode cX12_tellsAll 53 = .ok (.goto (-39), 3) := by decide +kernel
theorem d_X12_tellsAll_56 : decode cX12_tellsAll 56 = .ok (.iinc 2 1, 3) := by decide +kernel
theorem d_X12_tellsAll_59 : decode cX12_tellsAll 59 = .ok (.goto (-57), 3) := by decide +kernel
theorem d_X12_tellsAll_62 : decode cX12_tellsAll 62 = .ok (.iconst 1, 1) := by decide +kernel
theorem d_X12_tellsAll_63 : decode cX12_tellsAll 63 = .ok (.ireturn, 1) := by decide +kernel
def F_X12_tellsAll_b14 (k2 : Nat → Int32 → Int32 → xH → Option (Int32 × xH)) : Nat → Nat → Int32 → Int32 → Int32 → xH → Option (Int32 × xH)
  | 0, _, _, _, _, _ => none
  | n + 1, x0, x1, x2, x3, h => if x2 ≤ x3 then k2 x0 x1 (x2 + 1) h else (fR h x0 11 1).bind fun v22 => (aI h v22 1).bind fun v26 => (rc h x0 11).bind fun _ => (F_X12_tellsApart x0 ((((1 : Int32)) <<< (v26 &&& 31)) - 1) x2 x3 h).bind fun z32 => if z32.1 = 0 then F_X12_tellsAll_b14 k2 n x0 x1 x2 (x3 + 1) z32.2 else (rc z32.2 x0 11).bind fun _ => (F_X12_tellsApart x0 x1 x2 x3 z32.2).bind fun z42 => if ¬ z42.1 = 0 then F_X12_tellsAll_b14 k2 n x0 x1 x2 (x3 + 1) z42.2 else some (0, z42.2)
theorem R_X12_tellsAll_b14 {Γ : xG} {l : Launch} {d : Nat} {Q : Option Value → xH → Prop} {r : Int32} {h' : xH} {k2 : Nat → Int32 → Int32 → xH → Option (Int32 × xH)} (K2 : ∀ (x0 : Nat) (x1 : Int32) (x2 : Int32)  (h : xH), k2 x0 x1 x2 h = some (r, h') → Gd Γ l d m_X12_tellsAll 2 [.ref x0, .int x1, .int x2, xhole] [] h 0 0 Q) (hdp : 2 ≤ d) (hq : Q (some (.int r)) h') : ∀ (n : Nat) (x0 : Nat) (x1 : Int32) (x2 : Int32) (x3 : Int32) (h : xH), F_X12_tellsAll_b14 k2 n x0 x1 x2 x3 h = some (r, h') → Gd Γ l d m_X12_tellsAll 14 [.ref x0, .int x1, .int x2, .int x3] [] h 0 0 Q := by
  intro n
  induction n with
  | zero => intro x0 x1 x2 x3 h hF; cases hF
  | succ n ih =>
  intro x0 x1 x2 x3 h hF
  rw [F_X12_tellsAll_b14] at hF
  refine g_iloadn d_X12_tellsAll_14 rfl ?_
  refine g_iloadn d_X12_tellsAll_15 rfl ?_
  refine g_icmp_ge 56 d_X12_tellsAll_16 rfl (fun c16 => ?_) (fun c16 => ?_)
  · have hF := x_t hF c16
    refine q_iinc (1) [.ref x0, .int x1, .int (x2 + 1), .int x3] d_X12_tellsAll_56 ic_1 rfl (by decide) rfl ?_
    refine g_goto 2 d_X12_tellsAll_59 rfl ?_
    exact q_to (xs_r (xs_r (xs_r (xs_h xs_n)))) (K2 _ _ _ _ hF)
  · have hF := x_f hF c16
    refine g_aloadn d_X12_tellsAll_19 rfl ?_
    refine g_ic (1) d_X12_tellsAll_20 ic_1 ?_
    refine g_aloadn d_X12_tellsAll_21 rfl ?_
    obtain ⟨v22, e22, hF⟩ := Option.bind_eq_some_iff.mp hF
    refine q_fR d_X12_tellsAll_22 f_X12_13 e22 ?_
    refine g_ic (1) d_X12_tellsAll_25 ic_1 ?_
    obtain ⟨v26, e26, hF⟩ := Option.bind_eq_some_iff.mp hF
    refine q_aI d_X12_tellsAll_26 e26 ?_
    refine g_ishl d_X12_tellsAll_27 ?_
    refine g_ic (1) d_X12_tellsAll_28 ic_1 ?_
    refine g_isub d_X12_tellsAll_29 ?_
    refine g_iloadn d_X12_tellsAll_30 rfl ?_
    refine g_iloadn d_X12_tellsAll_31 rfl ?_
    obtain ⟨_, g32, hF⟩ := Option.bind_eq_some_iff.mp hF
    obtain ⟨⟨r32, h32⟩, e32, hF⟩ := Option.bind_eq_some_iff.mp hF
    try dsimp only at hF
    refine q_callV [.int ((((1 : Int32)) <<< (v26 &&& 31)) - 1), .int x2, .int x3] [] rfl d_X12_tellsAll_32 v_X12_364 (by omega) rfl (Nat.le_of_ble_eq_true rfl) (rc_rc g32 (by decide) rfl) (R_X12_tellsApart _ _ _ _ _ (by omega) e32) ?_
    refine g_if_eq 50 d_X12_tellsAll_35 rfl (fun c35 => ?_) (fun c35 => ?_)
    · have hF := x_t hF c35
      refine q_iinc (1) [.ref x0, .int x1, .int x2, .int (x3 + 1)] d_X12_tellsAll_50 ic_1 rfl (by decide) rfl ?_
      refine g_goto 14 d_X12_tellsAll_53 rfl ?_
      exact q_to (xs_r (xs_r (xs_r (xs_r xs_n)))) (ih _ _ _ _ _ hF)
    · have hF := x_f hF c35
      refine g_aloadn d_X12_tellsAll_38 rfl ?_
      refine g_iloadn d_X12_tellsAll_39 rfl ?_
      refine g_iloadn d_X12_tellsAll_40 rfl ?_
      refine g_iloadn d_X12_tellsAll_41 rfl ?_
      obtain ⟨_, g42, hF⟩ := Option.bind_eq_some_iff.mp hF
      obtain ⟨⟨r42, h42⟩, e42, hF⟩ := Option.bind_eq_some_iff.mp hF
      try dsimp only at hF
      refine q_callV [.int x1, .int x2, .int x3] [] rfl d_X12_tellsAll_42 v_X12_364 (by omega) rfl (Nat.le_of_ble_eq_true rfl) (rc_rc g42 (by decide) rfl) (R_X12_tellsApart _ _ _ _ _ (by omega) e42) ?_
      refine g_if_ne 50 d_X12_tellsAll_45 rfl (fun c45 => ?_) (fun c45 => ?_)
      · have hF := x_t hF c45
        refine q_iinc (1) [.ref x0, .int x1, .int x2, .int (x3 + 1)] d_X12_tellsAll_50 ic_1 rfl (by decide) rfl ?_
        refine g_goto 14 d_X12_tellsAll_53 rfl ?_
        exact q_to (xs_r (xs_r (xs_r (xs_r xs_n)))) (ih _ _ _ _ _ hF)
      · have hF := x_f hF (not_not_intro c45)
        refine g_ic (0) d_X12_tellsAll_48 ic_0 ?_
        obtain ⟨rfl, rfl⟩ := x_inj hF
        exact g_zret d_X12_tellsAll_49 rfl rfl hq
def F_X12_tellsAll_b2 : Nat → Nat → Int32 → Int32 → xH → Option (Int32 × xH)
  | 0, _, _, _, _ => none
  | n + 1, x0, x1, x2, h => (fR h x0 11 1).bind fun v4 => (aI h v4 1).bind fun v8 => if v8 < x2 then some (1, h) else F_X12_tellsAll_b14 (F_X12_tellsAll_b2 n) FU x0 x1 x2 0 h
theorem R_X12_tellsAll_b2 {Γ : xG} {l : Launch} {d : Nat} {Q : Option Value → xH → Prop} {r : Int32} {h' : xH} (hdp : 2 ≤ d) (hq : Q (some (.int r)) h') : ∀ (n : Nat) (x0 : Nat) (x1 : Int32) (x2 : Int32) (h : xH), F_X12_tellsAll_b2 n x0 x1 x2 h = some (r, h') → Gd Γ l d m_X12_tellsAll 2 [.ref x0, .int x1, .int x2, xhole] [] h 0 0 Q := by
  intro n
  induction n with
  | zero => intro x0 x1 x2 h hF; cases hF
  | succ n ih =>
  intro x0 x1 x2 h hF
  rw [F_X12_tellsAll_b2] at hF
  refine g_iloadn d_X12_tellsAll_2 rfl ?_
  refine g_aloadn d_X12_tellsAll_3 rfl ?_
  obtain ⟨v4, e4, hF⟩ := Option.bind_eq_some_iff.mp hF
  refine q_fR d_X12_tellsAll_4 f_X12_13 e4 ?_
  refine g_ic (1) d_X12_tellsAll_7 ic_1 ?_
  obtain ⟨v8, e8, hF⟩ := Option.bind_eq_some_iff.mp hF
  refine q_aI d_X12_tellsAll_8 e8 ?_
  refine g_icmp_gt 62 d_X12_tellsAll_9 rfl (fun c9 => ?_) (fun c9 => ?_)
  · have hF := x_t hF c9
    refine g_ic (1) d_X12_tellsAll_62 ic_1 ?_
    obtain ⟨rfl, rfl⟩ := x_inj hF
    exact g_zret d_X12_tellsAll_63 rfl rfl hq
  · have hF := x_f hF c9
    refine g_ic (0) d_X12_tellsAll_12 ic_0 ?_
    refine q_istoren [.ref x0, .int x1, .int x2, .int 0] d_X12_tellsAll_13 (by decide) rfl ?_
    exact q_to (xs_r (xs_r (xs_r (xs_r xs_n)))) (R_X12_tellsAll_b14 ih hdp hq FU _ _ _ _ _ hF)
def F_X12_tellsAll (x0 : Nat) (x1 : Int32) (h : xH) : Option (Int32 × xH) := F_X12_tellsAll_b2 FU x0 x1 0 h
theorem R_X12_tellsAll {Γ : xG} {l : Launch} {d : Nat} {r : Int32} {h' : xH} (x0 : Nat) (x1 : Int32) (h : xH) (hdp : 2 ≤ d) (hF : F_X12_tellsAll x0 x1 h = some (r, h')) : Gm Γ l d 0 0 m_X12_tellsAll [.ref x0, .int x1] h (fun a u => a = some (.int r) ∧ u = h') := by
  refine Gm.of pn_X12 (Nat.le_of_ble_eq_true rfl) ?_
  show Gd Γ l d m_X12_tellsAll 0 [.ref x0, .int x1, xhole, xhole] [] h 0 0 _
  generalize hQ : (fun (a : Option Value) (u : xH) => a = some (.int r) ∧ u = h') = Q
  have hq : Q (some (.int r)) h' := by rw [← hQ]; exact ⟨rfl, rfl⟩
  clear hQ
  unfold F_X12_tellsAll at hF
  refine g_ic (0) d_X12_tellsAll_0 ic_0 ?_
  refine q_istoren [.ref x0, .int x1, .int 0, xhole] d_X12_tellsAll_1 (by decide) rfl ?_
  exact q_to (xs_r (xs_r (xs_r (xs_h xs_n)))) (R_X12_tellsAll_b2 hdp hq FU _ _ _ _ hF)
theorem d_X12_atOnce_0 : decode cX12_atOnce 0 = .ok (.aload_n 0, 1) := by decide +kernel
theorem d_X12_atOnce_1 : decode cX12_atOnce 1 = .ok (.iconst 0, 1) := by decide +kernel
theorem d_X12_atOnce_2 : decode cX12_atOnce 2 = .ok (.putfield 1, 3) := by decide +kernel
theorem d_X12_atOnce_5 : decode cX12_atOnce 5 = .ok (.aload_n 0, 1) := by decide +kernel
theorem d_X12_atOnce_6 : decode cX12_atOnce 6 = .ok (.iload_n 1, 1) := by decide +kernel
theorem d_X12_atOnce_7 : decode cX12_atOnce 7 = .ok (.i2l, 1) := by decide +kernel
theorem d_X12_atOnce_8 : decode cX12_atOnce 8 = .ok (.invokevirtual 246, 3) := by decide +kernel
theorem d_X12_atOnce_11 : decode cX12_atOnce 11 = .ok (.ifCond .ne 6, 3) := by decide +kernel
theorem d_X12_atOnce_14 : decode cX12_atOnce 14 = .ok (.bipush (-2), 2) := by decide +kernel
theorem d_X12_atOnce_16 : decode cX12_atOnce 16 = .ok (.ireturn, 1) := by decide +kernel
theorem d_X12_atOnce_17 : decode cX12_atOnce 17 = .ok (.aload_n 0, 1) := by decide +kernel
theorem d_X12_atOnce_18 : decode cX12_atOnce 18 = .ok (.iload_n 1, 1) := by decide +kernel
theorem d_X12_atOnce_19 : decode cX12_atOnce 19 = .ok (.invokevirtual 342, 3) := by decide +kernel
theorem d_X12_atOnce_22 : decode cX12_atOnce 22 = .ok (.iconst (-1), 1) := by decide +kernel
theorem d_X12_atOnce_23 : decode cX12_atOnce 23 = .ok (.istore_n 2, 1) := by decide +kernel
theorem d_X12_atOnce_24 : decode cX12_atOnce 24 = .ok (.iconst 0, 1) := by decide +kernel
theorem d_X12_atOnce_25 : decode cX12_atOnce 25 = .ok (.istore_n 3, 1) := by decide +kernel
theorem d_X12_atOnce_26 : decode cX12_atOnce 26 = .ok (.iload_n 3, 1) := by decide +kernel
theorem d_X12_atOnce_27 : decode cX12_atOnce 27 = .ok (.iconst 1, 1) := by decide +kernel
theorem d_X12_atOnce_28 : decode cX12_atOnce 28 = .ok (.aload_n 0, 1) := by decide +kernel
theorem d_X12_atOnce_29 : decode cX12_atOnce 29 = .ok (.getfield 13, 3) := by decide +kernel
theorem d_X12_atOnce_32 : decode cX12_atOnce 32 = .ok (.iconst 1, 1) := by decide +kernel
theorem d_X12_atOnce_33 : decode cX12_atOnce 33 = .ok (.iaload, 1) := by decide +kernel
theorem d_X12_atOnce_34 : decode cX12_atOnce 34 = .ok (.ishl, 1) := by decide +kernel
theorem d_X12_atOnce_35 : decode cX12_atOnce 35 = .ok (.if_icmp .ge 35, 3) := by decide +kernel
theorem d_X12_atOnce_38 : decode cX12_atOnce 38 = .ok (.iload_n 2, 1) := by decide +kernel
theorem d_X12_atOnce_39 : decode cX12_atOnce 39 = .ok (.iconst (-1), 1) := by decide +kernel
theorem d_X12_atOnce_40 : decode cX12_atOnce 40 = .ok (.if_icmp .eq 14, 3) := by decide +kernel
theorem d_X12_atOnce_43 : decode cX12_atOnce 43 = .ok (.iload_n 3, 1) := by decide +kernel
theorem d_X12_atOnce_44 : decode cX12_atOnce 44 = .ok (.invokestatic 354, 3) := by decide +kernel
theorem d_X12_atOnce_47 : decode cX12_atOnce 47 = .ok (.iload_n 2, 1) := by decide +kernel
theorem d_X12_atOnce_48 : decode cX12_atOnce 48 = .ok (.invokestatic 354, 3) := by decide +kernel
theorem d_X12_atOnce_51 : decode cX12_atOnce 51 = .ok (.if_icmp .ge 13, 3) := by decide +kernel
theorem d_X12_atOnce_54 : decode cX12_atOnce 54 = .ok (.aload_n 0, 1) := by decide +kernel
theorem d_X12_atOnce_55 : decode cX12_atOnce 55 = .ok (.iload_n 3, 1) := by decide +kernel
theorem d_X12_atOnce_56 : decode cX12_atOnce 56 = .ok (.invokevirtual 367, 3) := by decide +kernel
theorem d_X12_atOnce_59 : decode cX12_atOnce 59 = .ok (.ifCond .eq 5, 3) := by decide +kernel
theorem d_X12_atOnce_62 : decode cX12_atOnce 62 = .ok (.iload_n 3, 1) := by decide +kernel
theorem d_X12_atOnce_63 : decode cX12_atOnce 63 = .ok (.istore_n 2, 1) := by decide +kernel
theorem d_X12_atOnce_64 : decode cX12_atOnce 64 = .ok (.iinc 3 1, 3) := by decide +kernel
theorem d_X12_atOnce_67 : decode cX12_atOnce 67 = .ok (.goto (-41), 3) := by decide +kernel
theorem d_X12_atOnce_70 : decode cX12_atOnce 70 = .ok (.iload_n 2, 1) := by decide +kernel
theorem d_X12_atOnce_71 : decode cX12_atOnce 71 = .ok (.ireturn, 1) := by decide +kernel
def F_X12_atOnce_b54 (k26 : Nat → Int32 → Int32 → xH → Option (Int32 × xH)) (x0 : Nat) (x2 : Int32) (x3 : Int32) (h : xH) : Option (Int32 × xH) := (rc h x0 11).bind fun _ => (F_X12_tellsAll x0 x3 h).bind fun z56 => if z56.1 = 0 then k26 x0 x2 (x3 + 1) z56.2 else k26 x0 x3 (x3 + 1) z56.2
theorem R_X12_atOnce_b54 {Γ : xG} {l : Launch} {d : Nat} {Q : Option Value → xH → Prop} {r : Int32} {h' : xH} {k26 : Nat → Int32 → Int32 → xH → Option (Int32 × xH)} (K26 : ∀ (x0 : Nat) (x2 : Int32) (x3 : Int32)  (h : xH), k26 x0 x2 x3 h = some (r, h') → Gd Γ l d m_X12_atOnce 26 [.ref x0, xhole, .int x2, .int x3] [] h 0 0 Q) (hdp : 4 ≤ d) (hq : Q (some (.int r)) h') : ∀ (x0 : Nat) (x2 : Int32) (x3 : Int32) (h : xH), F_X12_atOnce_b54 k26 x0 x2 x3 h = some (r, h') → Gd Γ l d m_X12_atOnce 54 [.ref x0, xhole, .int x2, .int x3] [] h 0 0 Q := by
  intro x0 x2 x3 h hF
  unfold F_X12_atOnce_b54 at hF
  refine g_aloadn d_X12_atOnce_54 rfl ?_
  refine g_iloadn d_X12_atOnce_55 rfl ?_
  obtain ⟨_, g56, hF⟩ := Option.bind_eq_some_iff.mp hF
  obtain ⟨⟨r56, h56⟩, e56, hF⟩ := Option.bind_eq_some_iff.mp hF
  try dsimp only at hF
  refine q_callV [.int x3] [] rfl d_X12_atOnce_56 v_X12_367 (by omega) rfl (Nat.le_of_ble_eq_true rfl) (rc_rc g56 (by decide) rfl) (R_X12_tellsAll _ _ _ (by omega) e56) ?_
  refine g_if_eq 64 d_X12_atOnce_59 rfl (fun c59 => ?_) (fun c59 => ?_)
  · have hF := x_t hF c59
    refine q_iinc (1) [.ref x0, xhole, .int x2, .int (x3 + 1)] d_X12_atOnce_64 ic_1 rfl (by decide) rfl ?_
    refine g_goto 26 d_X12_atOnce_67 rfl ?_
    exact q_to (xs_r (xs_h (xs_r (xs_r xs_n)))) (K26 _ _ _ _ hF)
  · have hF := x_f hF c59
    refine g_iloadn d_X12_atOnce_62 rfl ?_
    refine q_istoren [.ref x0, xhole, .int x3, .int x3] d_X12_atOnce_63 (by decide) rfl ?_
    refine q_iinc (1) [.ref x0, xhole, .int x3, .int (x3 + 1)] d_X12_atOnce_64 ic_1 rfl (by decide) rfl ?_
    refine g_goto 26 d_X12_atOnce_67 rfl ?_
    exact q_to (xs_r (xs_h (xs_r (xs_r xs_n)))) (K26 _ _ _ _ hF)
def F_X12_atOnce_b26 : Nat → Nat → Int32 → Int32 → xH → Option (Int32 × xH)
  | 0, _, _, _, _ => none
  | n + 1, x0, x2, x3, h => (fR h x0 11 1).bind fun v29 => (aI h v29 1).bind fun v33 => if (((1 : Int32)) <<< (v33 &&& 31)) ≤ x3 then some (x2, h) else if x2 = (((-1) : Int32)) then F_X12_atOnce_b54 (F_X12_atOnce_b26 n) x0 x2 x3 h else (F_X12_bitsOf x3 h).bind fun z44 => (F_X12_bitsOf x2 z44.2).bind fun z48 => if z48.1 ≤ z44.1 then F_X12_atOnce_b26 n x0 x2 (x3 + 1) z48.2 else F_X12_atOnce_b54 (F_X12_atOnce_b26 n) x0 x2 x3 z48.2
theorem R_X12_atOnce_b26 {Γ : xG} {l : Launch} {d : Nat} {Q : Option Value → xH → Prop} {r : Int32} {h' : xH} (hdp : 4 ≤ d) (hq : Q (some (.int r)) h') : ∀ (n : Nat) (x0 : Nat) (x2 : Int32) (x3 : Int32) (h : xH), F_X12_atOnce_b26 n x0 x2 x3 h = some (r, h') → Gd Γ l d m_X12_atOnce 26 [.ref x0, xhole, .int x2, .int x3] [] h 0 0 Q := by
  intro n
  induction n with
  | zero => intro x0 x2 x3 h hF; cases hF
  | succ n ih =>
  intro x0 x2 x3 h hF
  rw [F_X12_atOnce_b26] at hF
  refine g_iloadn d_X12_atOnce_26 rfl ?_
  refine g_ic (1) d_X12_atOnce_27 ic_1 ?_
  refine g_aloadn d_X12_atOnce_28 rfl ?_
  obtain ⟨v29, e29, hF⟩ := Option.bind_eq_some_iff.mp hF
  refine q_fR d_X12_atOnce_29 f_X12_13 e29 ?_
  refine g_ic (1) d_X12_atOnce_32 ic_1 ?_
  obtain ⟨v33, e33, hF⟩ := Option.bind_eq_some_iff.mp hF
  refine q_aI d_X12_atOnce_33 e33 ?_
  refine g_ishl d_X12_atOnce_34 ?_
  refine g_icmp_ge 70 d_X12_atOnce_35 rfl (fun c35 => ?_) (fun c35 => ?_)
  · have hF := x_t hF c35
    refine g_iloadn d_X12_atOnce_70 rfl ?_
    obtain ⟨rfl, rfl⟩ := x_inj hF
    exact g_iret d_X12_atOnce_71 rfl hq
  · have hF := x_f hF c35
    refine g_iloadn d_X12_atOnce_38 rfl ?_
    refine g_ic (-1) d_X12_atOnce_39 ic_m1 ?_
    refine g_icmp_eq 54 d_X12_atOnce_40 rfl (fun c40 => ?_) (fun c40 => ?_)
    · have hF := x_t hF c40
      exact q_to (xs_r (xs_h (xs_r (xs_r xs_n)))) (R_X12_atOnce_b54 ih hdp hq _ _ _ _ hF)
    · have hF := x_f hF c40
      refine g_iloadn d_X12_atOnce_43 rfl ?_
      obtain ⟨⟨r44, h44⟩, e44, hF⟩ := Option.bind_eq_some_iff.mp hF
      try dsimp only at hF
      refine q_callS [.int x3] [] rfl d_X12_atOnce_44 s_X12_354 (by omega) rfl (Nat.le_of_ble_eq_true rfl) (R_X12_bitsOf _ _ (by omega) e44) ?_
      refine g_iloadn d_X12_atOnce_47 rfl ?_
      obtain ⟨⟨r48, h48⟩, e48, hF⟩ := Option.bind_eq_some_iff.mp hF
      try dsimp only at hF
      refine q_callS [.int x2] [.int (r44)] rfl d_X12_atOnce_48 s_X12_354 (by omega) rfl (Nat.le_of_ble_eq_true rfl) (R_X12_bitsOf _ _ (by omega) e48) ?_
      refine g_icmp_ge 64 d_X12_atOnce_51 rfl (fun c51 => ?_) (fun c51 => ?_)
      · have hF := x_t hF c51
        refine q_iinc (1) [.ref x0, xhole, .int x2, .int (x3 + 1)] d_X12_atOnce_64 ic_1 rfl (by decide) rfl ?_
        refine g_goto 26 d_X12_atOnce_67 rfl ?_
        exact q_to (xs_r (xs_h (xs_r (xs_r xs_n)))) (ih _ _ _ _ hF)
      · have hF := x_f hF c51
        exact q_to (xs_r (xs_h (xs_r (xs_r xs_n)))) (R_X12_atOnce_b54 ih hdp hq _ _ _ _ hF)
def F_X12_atOnce (x0 : Nat) (x1 : Int32) (h : xH) : Option (Int32 × xH) := (wI h x0 11 0 0).bind fun h2 => (rc h2 x0 11).bind fun _ => (F_X12_isPerson x0 x1.toInt64 h2).bind fun z8 => if ¬ z8.1 = 0 then (rc z8.2 x0 11).bind fun _ => (F_X12_laysHeard x0 x1 z8.2).bind fun z19 => F_X12_atOnce_b26 FU x0 ((-1)) 0 z19.2 else some ((-2), z8.2)
theorem R_X12_atOnce {Γ : xG} {l : Launch} {d : Nat} {r : Int32} {h' : xH} (x0 : Nat) (x1 : Int32) (h : xH) (hdp : 4 ≤ d) (hF : F_X12_atOnce x0 x1 h = some (r, h')) : Gm Γ l d 0 0 m_X12_atOnce [.ref x0, .int x1] h (fun a u => a = some (.int r) ∧ u = h') := by
  refine Gm.of pn_X12 (Nat.le_of_ble_eq_true rfl) ?_
  show Gd Γ l d m_X12_atOnce 0 [.ref x0, .int x1, xhole, xhole] [] h 0 0 _
  generalize hQ : (fun (a : Option Value) (u : xH) => a = some (.int r) ∧ u = h') = Q
  have hq : Q (some (.int r)) h' := by rw [← hQ]; exact ⟨rfl, rfl⟩
  clear hQ
  unfold F_X12_atOnce at hF
  refine g_aloadn d_X12_atOnce_0 rfl ?_
  refine g_ic (0) d_X12_atOnce_1 ic_0 ?_
  obtain ⟨h2, e2, hF⟩ := Option.bind_eq_some_iff.mp hF
  refine q_wI d_X12_atOnce_2 (w_X12_1 _) e2 ?_
  refine g_aloadn d_X12_atOnce_5 rfl ?_
  refine g_iloadn d_X12_atOnce_6 rfl ?_
  refine g_i2l d_X12_atOnce_7 ?_
  obtain ⟨_, g8, hF⟩ := Option.bind_eq_some_iff.mp hF
  obtain ⟨⟨r8, h8⟩, e8, hF⟩ := Option.bind_eq_some_iff.mp hF
  try dsimp only at hF
  refine q_callV [.long (x1.toInt64)] [] rfl d_X12_atOnce_8 v_X12_246 (by omega) rfl (Nat.le_of_ble_eq_true rfl) (rc_rc g8 (by decide) rfl) (R_X12_isPerson _ _ _ (by omega) e8) ?_
  refine g_if_ne 17 d_X12_atOnce_11 rfl (fun c11 => ?_) (fun c11 => ?_)
  · have hF := x_t hF c11
    refine g_aloadn d_X12_atOnce_17 rfl ?_
    refine g_iloadn d_X12_atOnce_18 rfl ?_
    obtain ⟨_, g19, hF⟩ := Option.bind_eq_some_iff.mp hF
    obtain ⟨⟨r19, h19⟩, e19, hF⟩ := Option.bind_eq_some_iff.mp hF
    try dsimp only at hF
    refine q_callV [.int x1] [] rfl d_X12_atOnce_19 v_X12_342 (by omega) rfl (Nat.le_of_ble_eq_true rfl) (rc_rc g19 (by decide) rfl) (R_X12_laysHeard _ _ _ (by omega) e19) ?_
    refine g_ic (-1) d_X12_atOnce_22 ic_m1 ?_
    refine q_istoren [.ref x0, .int x1, .int ((-1)), xhole] d_X12_atOnce_23 (by decide) rfl ?_
    refine g_ic (0) d_X12_atOnce_24 ic_0 ?_
    refine q_istoren [.ref x0, .int x1, .int ((-1)), .int 0] d_X12_atOnce_25 (by decide) rfl ?_
    exact q_to (xs_r (xs_h (xs_r (xs_r xs_n)))) (R_X12_atOnce_b26 hdp hq FU _ _ _ _ hF)
  · have hF := x_f hF (not_not_intro c11)
    refine g_bi (-2) d_X12_atOnce_14 bi_m2 ?_
    obtain ⟨rfl, rfl⟩ := x_inj hF
    exact g_iret d_X12_atOnce_16 rfl hq
theorem d_X12_isNotes_0 : decode cX12_isNotes 0 = .ok (.iload_n 1, 1) := by decide +kernel
theorem d_X12_isNotes_1 : decode cX12_isNotes 1 = .ok (.ifCond .lt 19, 3) := by decide +kernel
theorem d_X12_isNotes_4 : decode cX12_isNotes 4 = .ok (.iload_n 1, 1) := by decide +kernel
theorem d_X12_isNotes_5 : decode cX12_isNotes 5 = .ok (.iconst 1, 1) := by decide +kernel
theorem d_X12_isNotes_6 : decode cX12_isNotes 6 = .ok (.aload_n 0, 1) := by decide +kernel
theorem d_X12_isNotes_7 : decode cX12_isNotes 7 = .ok (.getfield 13, 3) := by decide +kernel
theorem d_X12_isNotes_10 : decode cX12_isNotes 10 = .ok (.iconst 1, 1) := by decide +kernel
theorem d_X12_isNotes_11 : decode cX12_isNotes 11 = .ok (.iaload, 1) := by decide +kernel
theorem d_X12_isNotes_12 : decode cX12_isNotes 12 = .ok (.ishl, 1) := by decide +kernel
theorem d_X12_isNotes_13 : decode cX12_isNotes 13 = .ok (.if_icmp .ge 7, 3) := by decide +kernel
theorem d_X12_isNotes_16 : decode cX12_isNotes 16 = .ok (.iconst 1, 1) := by decide +kernel
theorem d_X12_isNotes_17 : decode cX12_isNotes 17 = .ok (.goto 4, 3) := by decide +kernel
theorem d_X12_isNotes_20 : decode cX12_isNotes 20 = .ok (.iconst 0, 1) := by decide +kernel
theorem d_X12_isNotes_21 : decode cX12_isNotes 21 = .ok (.ireturn, 1) := by decide +kernel
def F_X12_isNotes (x0 : Nat) (x1 : Int32) (h : xH) : Option (Int32 × xH) := if x1 < 0 then some (0, h) else (fR h x0 11 1).bind fun v7 => (aI h v7 1).bind fun v11 => if (((1 : Int32)) <<< (v11 &&& 31)) ≤ x1 then some (0, h) else some (1, h)
theorem R_X12_isNotes {Γ : xG} {l : Launch} {d : Nat} {r : Int32} {h' : xH} (x0 : Nat) (x1 : Int32) (h : xH) (hdp : 0 ≤ d) (hF : F_X12_isNotes x0 x1 h = some (r, h')) : Gm Γ l d 0 0 m_X12_isNotes [.ref x0, .int x1] h (fun a u => a = some (.int r) ∧ u = h') := by
  refine Gm.of pn_X12 (Nat.le_of_ble_eq_true rfl) ?_
  show Gd Γ l d m_X12_isNotes 0 [.ref x0, .int x1] [] h 0 0 _
  generalize hQ : (fun (a : Option Value) (u : xH) => a = some (.int r) ∧ u = h') = Q
  have hq : Q (some (.int r)) h' := by rw [← hQ]; exact ⟨rfl, rfl⟩
  clear hQ
  unfold F_X12_isNotes at hF
  refine g_iloadn d_X12_isNotes_0 rfl ?_
  refine g_if_lt 20 d_X12_isNotes_1 rfl (fun c1 => ?_) (fun c1 => ?_)
  · have hF := x_t hF c1
    refine g_ic (0) d_X12_isNotes_20 ic_0 ?_
    obtain ⟨rfl, rfl⟩ := x_inj hF
    exact g_zret d_X12_isNotes_21 rfl rfl hq
  · have hF := x_f hF c1
    refine g_iloadn d_X12_isNotes_4 rfl ?_
    refine g_ic (1) d_X12_isNotes_5 ic_1 ?_
    refine g_aloadn d_X12_isNotes_6 rfl ?_
    obtain ⟨v7, e7, hF⟩ := Option.bind_eq_some_iff.mp hF
    refine q_fR d_X12_isNotes_7 f_X12_13 e7 ?_
    refine g_ic (1) d_X12_isNotes_10 ic_1 ?_
    obtain ⟨v11, e11, hF⟩ := Option.bind_eq_some_iff.mp hF
    refine q_aI d_X12_isNotes_11 e11 ?_
    refine g_ishl d_X12_isNotes_12 ?_
    refine g_icmp_ge 20 d_X12_isNotes_13 rfl (fun c13 => ?_) (fun c13 => ?_)
    · have hF := x_t hF c13
      refine g_ic (0) d_X12_isNotes_20 ic_0 ?_
      obtain ⟨rfl, rfl⟩ := x_inj hF
      exact g_zret d_X12_isNotes_21 rfl rfl hq
    · have hF := x_f hF c13
      refine g_ic (1) d_X12_isNotes_16 ic_1 ?_
      refine g_goto 21 d_X12_isNotes_17 rfl ?_
      obtain ⟨rfl, rfl⟩ := x_inj hF
      exact g_zret d_X12_isNotes_21 rfl rfl hq
theorem d_X12_laysHears_0 : decode cX12_laysHears 0 = .ok (.iconst 0, 1) := by decide +kernel
theorem d_X12_laysHears_1 : decode cX12_laysHears 1 = .ok (.istore_n 1, 1) := by decide +kernel
theorem d_X12_laysHears_2 : decode cX12_laysHears 2 = .ok (.iload_n 1, 1) := by decide +kernel
theorem d_X12_laysHears_3 : decode cX12_laysHears 3 = .ok (.aload_n 0, 1) := by decide +kernel
theorem d_X12_laysHears_4 : decode cX12_laysHears 4 = .ok (.getfield 13, 3) := by decide +kernel
theorem d_X12_laysHears_7 : decode cX12_laysHears 7 = .ok (.iconst 4, 1) := by decide +kernel
theorem d_X12_laysHears_8 : decode cX12_laysHears 8 = .ok (.iaload, 1) := by decide +kernel
theorem d_X12_laysHears_9 : decode cX12_laysHears 9 = .ok (.if_icmp .ge 20, 3) := by decide +kernel
theorem d_X12_laysHears_12 : decode cX12_laysHears 12 = .ok (.aload_n 0, 1) := by decide +kernel
theorem d_X12_laysHears_13 : decode cX12_laysHears 13 = .ok (.getfield 45, 3) := by decide +kernel
theorem d_X12_laysHears_16 : decode cX12_laysHears 16 = .ok (.iload_n 1, 1) := by decide +kernel
theorem d_X12_laysHears_17 : decode cX12_laysHears 17 = .ok (.aload_n 0, 1) := by decide +kernel
theorem d_X12_laysHears_18 : decode cX12_laysHears 18 = .ok (.iload_n 1, 1) := by decide +kernel
theorem d_X12_laysHears_19 : decode cX12_laysHears 19 = .ok (.invokevirtual 250, 3) := by decide +kernel
theorem d_X12_laysHears_22 : decode cX12_laysHears 22 = .ok (.iastore, 1) := by decide +kernel
theorem d_X12_laysHears_23 : decode cX12_laysHears 23 = .ok (.iinc 1 1, 3) := by decide +kernel
theorem d_X12_laysHears_26 : decode cX12_laysHears 26 = .ok (.goto (-24), 3) := by decide +kernel
theorem d_X12_laysHears_29 : decode cX12_laysHears 29 = .ok (.return_, 1) := by decide +kernel
def F_X12_laysHears_b2 : Nat → Nat → Int32 → xH → Option (Unit × xH)
  | 0, _, _, _ => none
  | n + 1, x0, x1, h => (fR h x0 11 1).bind fun v4 => (aI h v4 4).bind fun v8 => if v8 ≤ x1 then some ((), h) else (fR h x0 11 23).bind fun v13 => (rc h x0 11).bind fun _ => (F_X12_heardBy x0 x1 h).bind fun z19 => (sI z19.2 v13 x1 z19.1).bind fun h22 => F_X12_laysHears_b2 n x0 (x1 + 1) h22
theorem R_X12_laysHears_b2 {Γ : xG} {l : Launch} {d : Nat} {Q : Option Value → xH → Prop} {r : Unit} {h' : xH} (hdp : 5 ≤ d) (hq : Q (none) h') : ∀ (n : Nat) (x0 : Nat) (x1 : Int32) (h : xH), F_X12_laysHears_b2 n x0 x1 h = some (r, h') → Gd Γ l d m_X12_laysHears 2 [.ref x0, .int x1] [] h 0 0 Q := by
  intro n
  induction n with
  | zero => intro x0 x1 h hF; cases hF
  | succ n ih =>
  intro x0 x1 h hF
  rw [F_X12_laysHears_b2] at hF
  refine g_iloadn d_X12_laysHears_2 rfl ?_
  refine g_aloadn d_X12_laysHears_3 rfl ?_
  obtain ⟨v4, e4, hF⟩ := Option.bind_eq_some_iff.mp hF
  refine q_fR d_X12_laysHears_4 f_X12_13 e4 ?_
  refine g_ic (4) d_X12_laysHears_7 ic_4 ?_
  obtain ⟨v8, e8, hF⟩ := Option.bind_eq_some_iff.mp hF
  refine q_aI d_X12_laysHears_8 e8 ?_
  refine g_icmp_ge 29 d_X12_laysHears_9 rfl (fun c9 => ?_) (fun c9 => ?_)
  · have hF := x_t hF c9
    obtain ⟨rfl, rfl⟩ := x_inj hF
    exact g_vret d_X12_laysHears_29 rfl hq
  · have hF := x_f hF c9
    refine g_aloadn d_X12_laysHears_12 rfl ?_
    obtain ⟨v13, e13, hF⟩ := Option.bind_eq_some_iff.mp hF
    refine q_fR d_X12_laysHears_13 f_X12_45 e13 ?_
    refine g_iloadn d_X12_laysHears_16 rfl ?_
    refine g_aloadn d_X12_laysHears_17 rfl ?_
    refine g_iloadn d_X12_laysHears_18 rfl ?_
    obtain ⟨_, g19, hF⟩ := Option.bind_eq_some_iff.mp hF
    obtain ⟨⟨r19, h19⟩, e19, hF⟩ := Option.bind_eq_some_iff.mp hF
    try dsimp only at hF
    refine q_callV [.int x1] [.int x1, .ref v13] rfl d_X12_laysHears_19 v_X12_250 (by omega) rfl (Nat.le_of_ble_eq_true rfl) (rc_rc g19 (by decide) rfl) (R_X12_heardBy _ _ _ (by omega) e19) ?_
    obtain ⟨h22, e22, hF⟩ := Option.bind_eq_some_iff.mp hF
    refine q_sI d_X12_laysHears_22 e22 ?_
    refine q_iinc (1) [.ref x0, .int (x1 + 1)] d_X12_laysHears_23 ic_1 rfl (by decide) rfl ?_
    refine g_goto 2 d_X12_laysHears_26 rfl ?_
    exact q_to (xs_r (xs_r xs_n)) (ih _ _ _ hF)
def F_X12_laysHears (x0 : Nat) (h : xH) : Option (Unit × xH) := F_X12_laysHears_b2 FU x0 0 h
theorem R_X12_laysHears {Γ : xG} {l : Launch} {d : Nat} {r : Unit} {h' : xH} (x0 : Nat) (h : xH) (hdp : 5 ≤ d) (hF : F_X12_laysHears x0 h = some (r, h')) : Gm Γ l d 0 0 m_X12_laysHears [.ref x0] h (fun a u => a = none ∧ u = h') := by
  refine Gm.of pn_X12 (Nat.le_of_ble_eq_true rfl) ?_
  show Gd Γ l d m_X12_laysHears 0 [.ref x0, xhole] [] h 0 0 _
  generalize hQ : (fun (a : Option Value) (u : xH) => a = none ∧ u = h') = Q
  have hq : Q (none) h' := by rw [← hQ]; exact ⟨rfl, rfl⟩
  clear hQ
  unfold F_X12_laysHears at hF
  refine g_ic (0) d_X12_laysHears_0 ic_0 ?_
  refine q_istoren [.ref x0, .int 0] d_X12_laysHears_1 (by decide) rfl ?_
  exact q_to (xs_r (xs_r xs_n)) (R_X12_laysHears_b2 hdp hq FU _ _ _ hF)
theorem d_X12_isChoir_0 : decode cX12_isChoir 0 = .ok (.iconst 0, 1) := by decide +kernel
theorem d_X12_isChoir_1 : decode cX12_isChoir 1 = .ok (.istore 4, 2) := by decide +kernel
theorem d_X12_isChoir_3 : decode cX12_isChoir 3 = .ok (.iload 4, 2) := by decide +kernel
theorem d_X12_isChoir_5 : decode cX12_isChoir 5 = .ok (.aload_n 0, 1) := by decide +kernel
theorem d_X12_isChoir_6 : decode cX12_isChoir 6 = .ok (.getfield 13, 3) := by decide +kernel
theorem d_X12_isChoir_9 : decode cX12_isChoir 9 = .ok (.iconst 1, 1) := by decide +kernel
theorem d_X12_isChoir_10 : decode cX12_isChoir 10 = .ok (.iaload, 1) := by decide +kernel
theorem d_X12_isChoir_11 : decode cX12_isChoir 11 = .ok (.if_icmp .ge 89, 3) := by decide +kernel
theorem d_X12_isChoir_14 : decode cX12_isChoir 14 = .ok (.iload_n 2, 1) := by decide +kernel
theorem d_X12_isChoir_15 : decode cX12_isChoir 15 = .ok (.i2l, 1) := by decide +kernel
theorem d_X12_isChoir_16 : decode cX12_isChoir 16 = .ok (.iload 4, 2) := by decide +kernel
theorem d_X12_isChoir_18 : decode cX12_isChoir 18 = .ok (.invokestatic 228, 3) := by decide +kernel
theorem d_X12_isChoir_21 : decode cX12_isChoir 21 = .ok (.ifCond .ne 6, 3) := by decide +kernel
theorem d_X12_isChoir_24 : decode cX12_isChoir 24 = .ok (.goto 70, 3) := by decide +kernel
theorem d_X12_isChoir_27 : decode cX12_isChoir 27 = .ok (.iconst 0, 1) := by decide +kernel
theorem d_X12_isChoir_28 : decode cX12_isChoir 28 = .ok (.istore 5, 2) := by decide +kernel
theorem d_X12_isChoir_30 : decode cX12_isChoir 30 = .ok (.iconst 0, 1) := by decide +kernel
theorem d_X12_isChoir_31 : decode cX12_isChoir 31 = .ok (.istore 6, 2) := by decide +kernel
theorem d_X12_isChoir_33 : decode cX12_isChoir 33 = .ok (.iload 6, 2) := by decide +kernel
theorem d_X12_isChoir_35 : decode cX12_isChoir 35 = .ok (.aload_n 0, 1) := by decide +kernel
theorem d_X12_isChoir_36 : decode cX12_isChoir 36 = .ok (.getfield 13, 3) := by decide +kernel
theorem d_X12_isChoir_39 : decode cX12_isChoir 39 = .ok (.iconst 4, 1) := by decide +kernel
theorem d_X12_isChoir_40 : decode cX12_isChoir 40 = .ok (.iaload, 1) := by decide +kernel
theorem d_X12_isChoir_41 : decode cX12_isChoir 41 = .ok (.if_icmp .ge 45, 3) := by decide +kernel
theorem d_X12_isChoir_44 : decode cX12_isChoir 44 = .ok (.iload 5, 2) := by decide +kernel
theorem d_X12_isChoir_46 : decode cX12_isChoir 46 = .ok (.iload_n 1, 1) := by decide +kernel
theorem d_X12_isChoir_47 : decode cX12_isChoir 47 = .ok (.i2l, 1) := by decide +kernel
theorem d_X12_isChoir_48 : decode cX12_isChoir 48 = .ok (.iload 6, 2) := by decide +kernel
theorem d_X12_isChoir_50 : decode cX12_isChoir 50 = .ok (.invokestatic 228, 3) := by decide +kernel
theorem d_X12_isChoir_53 : decode cX12_isChoir 53 = .ok (.ifCond .eq 23, 3) := by decide +kernel
theorem d_X12_isChoir_56 : decode cX12_isChoir 56 = .ok (.aload_n 0, 1) := by decide +kernel
theorem d_X12_isChoir_57 : decode cX12_isChoir 57 = .ok (.getfield 45, 3) := by decide +kernel
theorem d_X12_isChoir_60 : decode cX12_isChoir 60 = .ok (.iload 6, 2) := by decide +kernel
theorem d_X12_isChoir_62 : decode cX12_isChoir 62 = .ok (.iaload, 1) := by decide +kernel
theorem d_X12_isChoir_63 : decode cX12_isChoir 63 = .ok (.i2l, 1) := by decide +kernel
theorem d_X12_isChoir_64 : decode cX12_isChoir 64 = .ok (.iload 4, 2) := by decide +kernel
theorem d_X12_isChoir_66 : decode cX12_isChoir 66 = .ok (.invokestatic 228, 3) := by decide +kernel
theorem d_X12_isChoir_69 : decode cX12_isChoir 69 = .ok (.ifCond .eq 7, 3) := by decide +kernel
theorem d_X12_isChoir_72 : decode cX12_isChoir 72 = .ok (.iconst 1, 1) := by decide +kernel
theorem d_X12_isChoir_73 : decode cX12_isChoir 73 = .ok (.goto 4, 3) := by decide +kernel
theorem d_X12_isChoir_76 : decode cX12_isChoir 76 = .ok (.iconst 0, 1) := by decide +kernel
theorem d_X12_isChoir_77 : decode cX12_isChoir 77 = .ok (.iadd, 1) := by decide +kernel
theorem d_X12_isChoir_78 : decode cX12_isChoir 78 = .ok (.istore 5, 2) := by decide +kernel
theorem d_X12_isChoir_80 : decode cX12_isChoir 80 = .ok (.iinc 6 1, 3) := by decide +kernel
theorem d_X12_isChoir_83 : decode cX12_isChoir 83 = .ok (.goto (-50), 3) := by decide +kernel
theorem d_X12_isChoir_86 : decode cX12_isChoir 86 = .ok (.iload 5, 2) := by decide +kernel
theorem d_X12_isChoir_88 : decode cX12_isChoir 88 = .ok (.iload_n 3, 1) := by decide +kernel
theorem d_X12_isChoir_89 : decode cX12_isChoir 89 = .ok (.if_icmp .ge 5, 3) := by decide +kernel
theorem d_X12_isChoir_92 : decode cX12_isChoir 92 = .ok (.iconst 0, 1) := by decide +kernel
theorem d_X12_isChoir_93 : decode cX12_isChoir 93 = .ok (.ireturn, 1) := by decide +kernel
theorem d_X12_isChoir_94 : decode cX12_isChoir 94 = .ok (.iinc 4 1, 3) := by decide +kernel
theorem d_X12_isChoir_97 : decode cX12_isChoir 97 = .ok (.goto (-94), 3) := by decide +kernel
theorem d_X12_isChoir_100 : decode cX12_isChoir 100 = .ok (.iconst 1, 1) := by decide +kernel
theorem d_X12_isChoir_101 : decode cX12_isChoir 101 = .ok (.ireturn, 1) := by decide +kernel
def F_X12_isChoir_b77 (k3 : Nat → Int32 → Int32 → Int32 → Int32 → xH → Option (Int32 × xH)) (k33 : Nat → Int32 → Int32 → Int32 → Int32 → Int32 → Int32 → xH → Option (Int32 × xH)) (x0 : Nat) (x1 : Int32) (x2 : Int32) (x3 : Int32) (x4 : Int32) (x6 : Int32) (s0 : Int32) (s1 : Int32) (h : xH) : Option (Int32 × xH) := k33 x0 x1 x2 x3 x4 (s0 + s1) (x6 + 1) h
theorem R_X12_isChoir_b77 {Γ : xG} {l : Launch} {d : Nat} {Q : Option Value → xH → Prop} {r : Int32} {h' : xH} {k3 : Nat → Int32 → Int32 → Int32 → Int32 → xH → Option (Int32 × xH)} {k33 : Nat → Int32 → Int32 → Int32 → Int32 → Int32 → Int32 → xH → Option (Int32 × xH)} (K3 : ∀ (x0 : Nat) (x1 : Int32) (x2 : Int32) (x3 : Int32) (x4 : Int32)  (h : xH), k3 x0 x1 x2 x3 x4 h = some (r, h') → Gd Γ l d m_X12_isChoir 3 [.ref x0, .int x1, .int x2, .int x3, .int x4, xhole, xhole] [] h 0 0 Q) (K33 : ∀ (x0 : Nat) (x1 : Int32) (x2 : Int32) (x3 : Int32) (x4 : Int32) (x5 : Int32) (x6 : Int32)  (h : xH), k33 x0 x1 x2 x3 x4 x5 x6 h = some (r, h') → Gd Γ l d m_X12_isChoir 33 [.ref x0, .int x1, .int x2, .int x3, .int x4, .int x5, .int x6] [] h 0 0 Q) (hdp : 1 ≤ d) (hq : Q (some (.int r)) h') : ∀ (x0 : Nat) (x1 : Int32) (x2 : Int32) (x3 : Int32) (x4 : Int32) (x6 : Int32) (s0 : Int32) (s1 : Int32) (h : xH), F_X12_isChoir_b77 k3 k33 x0 x1 x2 x3 x4 x6 s0 s1 h = some (r, h') → Gd Γ l d m_X12_isChoir 77 [.ref x0, .int x1, .int x2, .int x3, .int x4, xhole, .int x6] [.int s1, .int s0] h 0 0 Q := by
  intro x0 x1 x2 x3 x4 x6 s0 s1 h hF
  unfold F_X12_isChoir_b77 at hF
  refine g_iadd d_X12_isChoir_77 ?_
  refine q_istore [.ref x0, .int x1, .int x2, .int x3, .int x4, .int (s0 + s1), .int x6] d_X12_isChoir_78 (by decide) rfl ?_
  refine q_iinc (1) [.ref x0, .int x1, .int x2, .int x3, .int x4, .int (s0 + s1), .int (x6 + 1)] d_X12_isChoir_80 ic_1 rfl (by decide) rfl ?_
  refine g_goto 33 d_X12_isChoir_83 rfl ?_
  exact q_to (xs_r (xs_r (xs_r (xs_r (xs_r (xs_r (xs_r xs_n))))))) (K33 _ _ _ _ _ _ _ _ hF)
def F_X12_isChoir_b76 (k3 : Nat → Int32 → Int32 → Int32 → Int32 → xH → Option (Int32 × xH)) (k33 : Nat → Int32 → Int32 → Int32 → Int32 → Int32 → Int32 → xH → Option (Int32 × xH)) (x0 : Nat) (x1 : Int32) (x2 : Int32) (x3 : Int32) (x4 : Int32) (x6 : Int32) (s0 : Int32) (h : xH) : Option (Int32 × xH) := F_X12_isChoir_b77 k3 k33 x0 x1 x2 x3 x4 x6 s0 0 h
theorem R_X12_isChoir_b76 {Γ : xG} {l : Launch} {d : Nat} {Q : Option Value → xH → Prop} {r : Int32} {h' : xH} {k3 : Nat → Int32 → Int32 → Int32 → Int32 → xH → Option (Int32 × xH)} {k33 : Nat → Int32 → Int32 → Int32 → Int32 → Int32 → Int32 → xH → Option (Int32 × xH)} (K3 : ∀ (x0 : Nat) (x1 : Int32) (x2 : Int32) (x3 : Int32) (x4 : Int32)  (h : xH), k3 x0 x1 x2 x3 x4 h = some (r, h') → Gd Γ l d m_X12_isChoir 3 [.ref x0, .int x1, .int x2, .int x3, .int x4, xhole, xhole] [] h 0 0 Q) (K33 : ∀ (x0 : Nat) (x1 : Int32) (x2 : Int32) (x3 : Int32) (x4 : Int32) (x5 : Int32) (x6 : Int32)  (h : xH), k33 x0 x1 x2 x3 x4 x5 x6 h = some (r, h') → Gd Γ l d m_X12_isChoir 33 [.ref x0, .int x1, .int x2, .int x3, .int x4, .int x5, .int x6] [] h 0 0 Q) (hdp : 1 ≤ d) (hq : Q (some (.int r)) h') : ∀ (x0 : Nat) (x1 : Int32) (x2 : Int32) (x3 : Int32) (x4 : Int32) (x6 : Int32) (s0 : Int32) (h : xH), F_X12_isChoir_b76 k3 k33 x0 x1 x2 x3 x4 x6 s0 h = some (r, h') → Gd Γ l d m_X12_isChoir 76 [.ref x0, .int x1, .int x2, .int x3, .int x4, xhole, .int x6] [.int s0] h 0 0 Q := by
  intro x0 x1 x2 x3 x4 x6 s0 h hF
  unfold F_X12_isChoir_b76 at hF
  refine g_ic (0) d_X12_isChoir_76 ic_0 ?_
  exact q_to (xs_r (xs_r (xs_r (xs_r (xs_r (xs_h (xs_r xs_n))))))) (R_X12_isChoir_b77 K3 K33 hdp hq _ _ _ _ _ _ _ _ _ hF)
def F_X12_isChoir_b33 (k3 : Nat → Int32 → Int32 → Int32 → Int32 → xH → Option (Int32 × xH)) : Nat → Nat → Int32 → Int32 → Int32 → Int32 → Int32 → Int32 → xH → Option (Int32 × xH)
  | 0, _, _, _, _, _, _, _, _ => none
  | n + 1, x0, x1, x2, x3, x4, x5, x6, h => (fR h x0 11 1).bind fun v36 => (aI h v36 4).bind fun v40 => if v40 ≤ x6 then if x3 ≤ x5 then k3 x0 x1 x2 x3 (x4 + 1) h else some (0, h) else (F_X12_isIn x1.toInt64 x6 h).bind fun z50 => if z50.1 = 0 then F_X12_isChoir_b76 k3 (F_X12_isChoir_b33 k3 n) x0 x1 x2 x3 x4 x6 x5 z50.2 else (fR z50.2 x0 11 23).bind fun v57 => (aI z50.2 v57 x6).bind fun v62 => (F_X12_isIn v62.toInt64 x4 z50.2).bind fun z66 => if z66.1 = 0 then F_X12_isChoir_b76 k3 (F_X12_isChoir_b33 k3 n) x0 x1 x2 x3 x4 x6 x5 z66.2 else F_X12_isChoir_b77 k3 (F_X12_isChoir_b33 k3 n) x0 x1 x2 x3 x4 x6 x5 1 z66.2
theorem R_X12_isChoir_b33 {Γ : xG} {l : Launch} {d : Nat} {Q : Option Value → xH → Prop} {r : Int32} {h' : xH} {k3 : Nat → Int32 → Int32 → Int32 → Int32 → xH → Option (Int32 × xH)} (K3 : ∀ (x0 : Nat) (x1 : Int32) (x2 : Int32) (x3 : Int32) (x4 : Int32)  (h : xH), k3 x0 x1 x2 x3 x4 h = some (r, h') → Gd Γ l d m_X12_isChoir 3 [.ref x0, .int x1, .int x2, .int x3, .int x4, xhole, xhole] [] h 0 0 Q) (hdp : 1 ≤ d) (hq : Q (some (.int r)) h') : ∀ (n : Nat) (x0 : Nat) (x1 : Int32) (x2 : Int32) (x3 : Int32) (x4 : Int32) (x5 : Int32) (x6 : Int32) (h : xH), F_X12_isChoir_b33 k3 n x0 x1 x2 x3 x4 x5 x6 h = some (r, h') → Gd Γ l d m_X12_isChoir 33 [.ref x0, .int x1, .int x2, .int x3, .int x4, .int x5, .int x6] [] h 0 0 Q := by
  intro n
  induction n with
  | zero => intro x0 x1 x2 x3 x4 x5 x6 h hF; cases hF
  | succ n ih =>
  intro x0 x1 x2 x3 x4 x5 x6 h hF
  rw [F_X12_isChoir_b33] at hF
  refine g_iload d_X12_isChoir_33 rfl ?_
  refine g_aloadn d_X12_isChoir_35 rfl ?_
  obtain ⟨v36, e36, hF⟩ := Option.bind_eq_some_iff.mp hF
  refine q_fR d_X12_isChoir_36 f_X12_13 e36 ?_
  refine g_ic (4) d_X12_isChoir_39 ic_4 ?_
  obtain ⟨v40, e40, hF⟩ := Option.bind_eq_some_iff.mp hF
  refine q_aI d_X12_isChoir_40 e40 ?_
  refine g_icmp_ge 86 d_X12_isChoir_41 rfl (fun c41 => ?_) (fun c41 => ?_)
  · have hF := x_t hF c41
    refine g_iload d_X12_isChoir_86 rfl ?_
    refine g_iloadn d_X12_isChoir_88 rfl ?_
    refine g_icmp_ge 94 d_X12_isChoir_89 rfl (fun c89 => ?_) (fun c89 => ?_)
    · have hF := x_t hF c89
      refine q_iinc (1) [.ref x0, .int x1, .int x2, .int x3, .int (x4 + 1), .int x5, .int x6] d_X12_isChoir_94 ic_1 rfl (by decide) rfl ?_
      refine g_goto 3 d_X12_isChoir_97 rfl ?_
      exact q_to (xs_r (xs_r (xs_r (xs_r (xs_r (xs_h (xs_h xs_n))))))) (K3 _ _ _ _ _ _ hF)
    · have hF := x_f hF c89
      refine g_ic (0) d_X12_isChoir_92 ic_0 ?_
      obtain ⟨rfl, rfl⟩ := x_inj hF
      exact g_zret d_X12_isChoir_93 rfl rfl hq
  · have hF := x_f hF c41
    refine g_iload d_X12_isChoir_44 rfl ?_
    refine g_iloadn d_X12_isChoir_46 rfl ?_
    refine g_i2l d_X12_isChoir_47 ?_
    refine g_iload d_X12_isChoir_48 rfl ?_
    obtain ⟨⟨r50, h50⟩, e50, hF⟩ := Option.bind_eq_some_iff.mp hF
    try dsimp only at hF
    refine q_callS [.long (x1.toInt64), .int x6] [.int x5] rfl d_X12_isChoir_50 s_X12_228 (by omega) rfl (Nat.le_of_ble_eq_true rfl) (R_X12_isIn _ _ _ (by omega) e50) ?_
    refine g_if_eq 76 d_X12_isChoir_53 rfl (fun c53 => ?_) (fun c53 => ?_)
    · have hF := x_t hF c53
      exact q_to (xs_r (xs_r (xs_r (xs_r (xs_r (xs_h (xs_r xs_n))))))) (R_X12_isChoir_b76 K3 ih hdp hq _ _ _ _ _ _ _ _ hF)
    · have hF := x_f hF c53
      refine g_aloadn d_X12_isChoir_56 rfl ?_
      obtain ⟨v57, e57, hF⟩ := Option.bind_eq_some_iff.mp hF
      refine q_fR d_X12_isChoir_57 f_X12_45 e57 ?_
      refine g_iload d_X12_isChoir_60 rfl ?_
      obtain ⟨v62, e62, hF⟩ := Option.bind_eq_some_iff.mp hF
      refine q_aI d_X12_isChoir_62 e62 ?_
      refine g_i2l d_X12_isChoir_63 ?_
      refine g_iload d_X12_isChoir_64 rfl ?_
      obtain ⟨⟨r66, h66⟩, e66, hF⟩ := Option.bind_eq_some_iff.mp hF
      try dsimp only at hF
      refine q_callS [.long (v62.toInt64), .int x4] [.int x5] rfl d_X12_isChoir_66 s_X12_228 (by omega) rfl (Nat.le_of_ble_eq_true rfl) (R_X12_isIn _ _ _ (by omega) e66) ?_
      refine g_if_eq 76 d_X12_isChoir_69 rfl (fun c69 => ?_) (fun c69 => ?_)
      · have hF := x_t hF c69
        exact q_to (xs_r (xs_r (xs_r (xs_r (xs_r (xs_h (xs_r xs_n))))))) (R_X12_isChoir_b76 K3 ih hdp hq _ _ _ _ _ _ _ _ hF)
      · have hF := x_f hF c69
        refine g_ic (1) d_X12_isChoir_72 ic_1 ?_
        refine g_goto 77 d_X12_isChoir_73 rfl ?_
        exact q_to (xs_r (xs_r (xs_r (xs_r (xs_r (xs_h (xs_r xs_n))))))) (R_X12_isChoir_b77 K3 ih hdp hq _ _ _ _ _ _ _ _ _ hF)
def F_X12_isChoir_b3 : Nat → Nat → Int32 → Int32 → Int32 → Int32 → xH → Option (Int32 × xH)
  | 0, _, _, _, _, _, _ => none
  | n + 1, x0, x1, x2, x3, x4, h => (fR h x0 11 1).bind fun v6 => (aI h v6 1).bind fun v10 => if v10 ≤ x4 then some (1, h) else (F_X12_isIn x2.toInt64 x4 h).bind fun z18 => if ¬ z18.1 = 0 then F_X12_isChoir_b33 (F_X12_isChoir_b3 n) FU x0 x1 x2 x3 x4 0 0 z18.2 else F_X12_isChoir_b3 n x0 x1 x2 x3 (x4 + 1) z18.2
theorem R_X12_isChoir_b3 {Γ : xG} {l : Launch} {d : Nat} {Q : Option Value → xH → Prop} {r : Int32} {h' : xH} (hdp : 1 ≤ d) (hq : Q (some (.int r)) h') : ∀ (n : Nat) (x0 : Nat) (x1 : Int32) (x2 : Int32) (x3 : Int32) (x4 : Int32) (h : xH), F_X12_isChoir_b3 n x0 x1 x2 x3 x4 h = some (r, h') → Gd Γ l d m_X12_isChoir 3 [.ref x0, .int x1, .int x2, .int x3, .int x4, xhole, xhole] [] h 0 0 Q := by
  intro n
  induction n with
  | zero => intro x0 x1 x2 x3 x4 h hF; cases hF
  | succ n ih =>
  intro x0 x1 x2 x3 x4 h hF
  rw [F_X12_isChoir_b3] at hF
  refine g_iload d_X12_isChoir_3 rfl ?_
  refine g_aloadn d_X12_isChoir_5 rfl ?_
  obtain ⟨v6, e6, hF⟩ := Option.bind_eq_some_iff.mp hF
  refine q_fR d_X12_isChoir_6 f_X12_13 e6 ?_
  refine g_ic (1) d_X12_isChoir_9 ic_1 ?_
  obtain ⟨v10, e10, hF⟩ := Option.bind_eq_some_iff.mp hF
  refine q_aI d_X12_isChoir_10 e10 ?_
  refine g_icmp_ge 100 d_X12_isChoir_11 rfl (fun c11 => ?_) (fun c11 => ?_)
  · have hF := x_t hF c11
    refine g_ic (1) d_X12_isChoir_100 ic_1 ?_
    obtain ⟨rfl, rfl⟩ := x_inj hF
    exact g_zret d_X12_isChoir_101 rfl rfl hq
  · have hF := x_f hF c11
    refine g_iloadn d_X12_isChoir_14 rfl ?_
    refine g_i2l d_X12_isChoir_15 ?_
    refine g_iload d_X12_isChoir_16 rfl ?_
    obtain ⟨⟨r18, h18⟩, e18, hF⟩ := Option.bind_eq_some_iff.mp hF
    try dsimp only at hF
    refine q_callS [.long (x2.toInt64), .int x4] [] rfl d_X12_isChoir_18 s_X12_228 (by omega) rfl (Nat.le_of_ble_eq_true rfl) (R_X12_isIn _ _ _ (by omega) e18) ?_
    refine g_if_ne 27 d_X12_isChoir_21 rfl (fun c21 => ?_) (fun c21 => ?_)
    · have hF := x_t hF c21
      refine g_ic (0) d_X12_isChoir_27 ic_0 ?_
      refine q_istore [.ref x0, .int x1, .int x2, .int x3, .int x4, .int 0, xhole] d_X12_isChoir_28 (by decide) rfl ?_
      refine g_ic (0) d_X12_isChoir_30 ic_0 ?_
      refine q_istore [.ref x0, .int x1, .int x2, .int x3, .int x4, .int 0, .int 0] d_X12_isChoir_31 (by decide) rfl ?_
      exact q_to (xs_r (xs_r (xs_r (xs_r (xs_r (xs_r (xs_r xs_n))))))) (R_X12_isChoir_b33 ih hdp hq FU _ _ _ _ _ _ _ _ hF)
    · have hF := x_f hF (not_not_intro c21)
      refine g_goto 94 d_X12_isChoir_24 rfl ?_
      refine q_iinc (1) [.ref x0, .int x1, .int x2, .int x3, .int (x4 + 1), xhole, xhole] d_X12_isChoir_94 ic_1 rfl (by decide) rfl ?_
      refine g_goto 3 d_X12_isChoir_97 rfl ?_
      exact q_to (xs_r (xs_r (xs_r (xs_r (xs_r (xs_h (xs_h xs_n))))))) (ih _ _ _ _ _ _ hF)
def F_X12_isChoir (x0 : Nat) (x1 : Int32) (x2 : Int32) (x3 : Int32) (h : xH) : Option (Int32 × xH) := F_X12_isChoir_b3 FU x0 x1 x2 x3 0 h
theorem R_X12_isChoir {Γ : xG} {l : Launch} {d : Nat} {r : Int32} {h' : xH} (x0 : Nat) (x1 : Int32) (x2 : Int32) (x3 : Int32) (h : xH) (hdp : 1 ≤ d) (hF : F_X12_isChoir x0 x1 x2 x3 h = some (r, h')) : Gm Γ l d 0 0 m_X12_isChoir [.ref x0, .int x1, .int x2, .int x3] h (fun a u => a = some (.int r) ∧ u = h') := by
  refine Gm.of pn_X12 (Nat.le_of_ble_eq_true rfl) ?_
  show Gd Γ l d m_X12_isChoir 0 [.ref x0, .int x1, .int x2, .int x3, xhole, xhole, xhole] [] h 0 0 _
  generalize hQ : (fun (a : Option Value) (u : xH) => a = some (.int r) ∧ u = h') = Q
  have hq : Q (some (.int r)) h' := by rw [← hQ]; exact ⟨rfl, rfl⟩
  clear hQ
  unfold F_X12_isChoir at hF
  refine g_ic (0) d_X12_isChoir_0 ic_0 ?_
  refine q_istore [.ref x0, .int x1, .int x2, .int x3, .int 0, xhole, xhole] d_X12_isChoir_1 (by decide) rfl ?_
  exact q_to (xs_r (xs_r (xs_r (xs_r (xs_r (xs_h (xs_h xs_n))))))) (R_X12_isChoir_b3 hdp hq FU _ _ _ _ _ _ hF)
theorem d_X12_choir_0 : decode cX12_choir 0 = .ok (.aload_n 0, 1) := by decide +kernel
theorem d_X12_choir_1 : decode cX12_choir 1 = .ok (.iconst 0, 1) := by decide +kernel
theorem d_X12_choir_2 : decode cX12_choir 2 = .ok (.putfield 1, 3) := by decide +kernel
theorem d_X12_choir_5 : decode cX12_choir 5 = .ok (.iload_n 3, 1) := by decide +kernel
theorem d_X12_choir_6 : decode cX12_choir 6 = .ok (.i2l, 1) := by decide +kernel
theorem d_X12_choir_7 : decode cX12_choir 7 = .ok (.lconst 0, 1) := by decide +kernel
theorem d_X12_choir_8 : decode cX12_choir 8 = .ok (.lconst 1, 1) := by decide +kernel
theorem d_X12_choir_9 : decode cX12_choir 9 = .ok (.invokestatic 148, 3) := by decide +kernel
theorem d_X12_choir_12 : decode cX12_choir 12 = .ok (.ifCond .ne 6, 3) := by decide +kernel
theorem d_X12_choir_15 : decode cX12_choir 15 = .ok (.bipush (-2), 2) := by decide +kernel
theorem d_X12_choir_17 : decode cX12_choir 17 = .ok (.ireturn, 1) := by decide +kernel
theorem d_X12_choir_18 : decode cX12_choir 18 = .ok (.aload_n 0, 1) := by decide +kernel
theorem d_X12_choir_19 : decode cX12_choir 19 = .ok (.iload_n 1, 1) := by decide +kernel
theorem d_X12_choir_20 : decode cX12_choir 20 = .ok (.invokevirtual 370, 3) := by decide +kernel
theorem d_X12_choir_23 : decode cX12_choir 23 = .ok (.ifCond .eq 15, 3) := by decide +kernel
theorem d_X12_choir_26 : decode cX12_choir 26 = .ok (.iload_n 2, 1) := by decide +kernel
theorem d_X12_choir_27 : decode cX12_choir 27 = .ok (.i2l, 1) := by decide +kernel
theorem d_X12_choir_28 : decode cX12_choir 28 = .ok (.lconst 1, 1) := by decide +kernel
theorem d_X12_choir_29 : decode cX12_choir 29 = .ok (.ldc2_w 373, 3) := by decide +kernel
theorem d_X12_choir_32 : decode cX12_choir 32 = .ok (.invokestatic 148, 3) := by decide +kernel
theorem d_X12_choir_35 : decode cX12_choir 35 = .ok (.ifCond .ne 6, 3) := by decide +kernel
theorem d_X12_choir_38 : decode cX12_choir 38 = .ok (.bipush (-3), 2) := by decide +kernel
theorem d_X12_choir_40 : decode cX12_choir 40 = .ok (.ireturn, 1) := by decide +kernel
theorem d_X12_choir_41 : decode cX12_choir 41 = .ok (.aload_n 0, 1) := by decide +kernel
theorem d_X12_choir_42 : decode cX12_choir 42 = .ok (.invokevirtual 375, 3) := by decide +kernel
theorem d_X12_choir_45 : decode cX12_choir 45 = .ok (.iconst (-1), 1) := by decide +kernel
theorem d_X12_choir_46 : decode cX12_choir 46 = .ok (.istore 4, 2) := by decide +kernel
theorem d_X12_choir_48 : decode cX12_choir 48 = .ok (.iconst 0, 1) := by decide +kernel
theorem d_X12_choir_49 : decode cX12_choir 49 = .ok (.istore 5, 2) := by decide +kernel
theorem d_X12_choir_51 : decode cX12_choir 51 = .ok (.iload 5, 2) := by decide +kernel
theorem d_X12_choir_53 : decode cX12_choir 53 = .ok (.iconst 1, 1) := by decide +kernel
theorem d_X12_choir_54 : decode cX12_choir 54 = .ok (.aload_n 0, 1) := by decide +kernel
theorem d_X12_choir_55 : decode cX12_choir 55 = .ok (.getfield 13, 3) := by decide +kernel
theorem d_X12_choir_58 : decode cX12_choir 58 = .ok (.iconst 4, 1) := by decide +kernel
theorem d_X12_choir_59 : decode cX12_choir 59 = .ok (.iaload, 1) := by decide +kernel
theorem d_X12_choir_60 : decode cX12_choir 60 = .ok (.ishl, 1) := by decide +kernel
theorem d_X12_choir_61 : decode cX12_choir 61 = .ok (.if_icmp .ge 43, 3) := by decide +kernel
theorem d_X12_choir_64 : decode cX12_choir 64 = .ok (.iload 4, 2) := by decide +kernel
theorem d_X12_choir_66 : decode cX12_choir 66 = .ok (.iconst (-1), 1) := by decide +kernel
theorem d_X12_choir_67 : decode cX12_choir 67 = .ok (.if_icmp .eq 16, 3) := by decide +kernel
theorem d_X12_choir_70 : decode cX12_choir 70 = .ok (.iload 5, 2) := by decide +kernel
theorem d_X12_choir_72 : decode cX12_choir 72 = .ok (.invokestatic 354, 3) := by decide +kernel
theorem d_X12_choir_75 : decode cX12_choir 75 = .ok (.iload 4, 2) := by decide +kernel
theorem d_X12_choir_77 : decode cX12_choir 77 = .ok (.invokestatic 354, 3) := by decide +kernel
theorem d_X12_choir_80 : decode cX12_choir 80 = .ok (.if_icmp .ge 18, 3) := by decide +kernel
theorem d_X12_choir_83 : decode cX12_choir 83 = .ok (.aload_n 0, 1) := by decide +kernel
theorem d_X12_choir_84 : decode cX12_choir 84 = .ok (.iload 5, 2) := by decide +kernel
theorem d_X12_choir_86 : decode cX12_choir 86 = .ok (.iload_n 1, 1) := by decide +kernel
theorem d_X12_choir_87 : decode cX12_choir 87 = .ok (.iload_n 2, 1) := by decide +kernel
theorem d_X12_choir_88 : decode cX12_choir 88 = .ok (.invokevirtual 378, 3) := by decide +kernel
theorem d_X12_choir_91 : decode cX12_choir 91 = .ok (.ifCond .eq 7, 3) := by decide +kernel
theorem d_X12_choir_94 : decode cX12_choir 94 = .ok (.iload 5, 2) := by decide +kernel
theorem d_X12_choir_96 : decode cX12_choir 96 = .ok (.istore 4, 2) := by decide +kernel
theorem d_X12_choir_98 : decode cX12_choir 98 = .ok (.iinc 5 1, 3) := by decide +kernel
theorem d_X12_choir_101 : decode cX12_choir 101 = .ok (.goto (-50), 3) := by decide +kernel
theorem d_X12_choir_104 : decode cX12_choir 104 = .ok (.iload 4, 2) := by decide +kernel
theorem d_X12_choir_106 : decode cX12_choir 106 = .ok (.iconst (-1), 1) := by decide +kernel
theorem d_X12_choir_107 : decode cX12_choir 107 = .ok (.if_icmp .eq 8, 3) := by decide +kernel
theorem d_X12_choir_110 : decode cX12_choir 110 = .ok (.iload_n 3, 1) := by decide +kernel
theorem d_X12_choir_111 : decode cX12_choir 111 = .ok (.iconst 1, 1) := by decide +kernel
theorem d_X12_choir_112 : decode cX12_choir 112 = .ok (.if_icmp .ne 8, 3) := by decide +kernel
theorem d_X12_choir_115 : decode cX12_choir 115 = .ok (.iload 4, 2) := by decide +kernel
theorem d_X12_choir_117 : decode cX12_choir 117 = .ok (.goto 8, 3) := by decide +kernel
theorem d_X12_choir_120 : decode cX12_choir 120 = .ok (.iload 4, 2) := by decide +kernel
theorem d_X12_choir_122 : decode cX12_choir 122 = .ok (.invokestatic 354, 3) := by decide +kernel
theorem d_X12_choir_125 : decode cX12_choir 125 = .ok (.ireturn, 1) := by decide +kernel
def F_X12_choir_b83 (k51 : Nat → Int32 → Int32 → Int32 → Int32 → Int32 → xH → Option (Int32 × xH)) (x0 : Nat) (x1 : Int32) (x2 : Int32) (x3 : Int32) (x4 : Int32) (x5 : Int32) (h : xH) : Option (Int32 × xH) := (rc h x0 11).bind fun _ => (F_X12_isChoir x0 x5 x1 x2 h).bind fun z88 => if z88.1 = 0 then k51 x0 x1 x2 x3 x4 (x5 + 1) z88.2 else k51 x0 x1 x2 x3 x5 (x5 + 1) z88.2
theorem R_X12_choir_b83 {Γ : xG} {l : Launch} {d : Nat} {Q : Option Value → xH → Prop} {r : Int32} {h' : xH} {k51 : Nat → Int32 → Int32 → Int32 → Int32 → Int32 → xH → Option (Int32 × xH)} (K51 : ∀ (x0 : Nat) (x1 : Int32) (x2 : Int32) (x3 : Int32) (x4 : Int32) (x5 : Int32)  (h : xH), k51 x0 x1 x2 x3 x4 x5 h = some (r, h') → Gd Γ l d m_X12_choir 51 [.ref x0, .int x1, .int x2, .int x3, .int x4, .int x5] [] h 0 0 Q) (hdp : 6 ≤ d) (hq : Q (some (.int r)) h') : ∀ (x0 : Nat) (x1 : Int32) (x2 : Int32) (x3 : Int32) (x4 : Int32) (x5 : Int32) (h : xH), F_X12_choir_b83 k51 x0 x1 x2 x3 x4 x5 h = some (r, h') → Gd Γ l d m_X12_choir 83 [.ref x0, .int x1, .int x2, .int x3, .int x4, .int x5] [] h 0 0 Q := by
  intro x0 x1 x2 x3 x4 x5 h hF
  unfold F_X12_choir_b83 at hF
  refine g_aloadn d_X12_choir_83 rfl ?_
  refine g_iload d_X12_choir_84 rfl ?_
  refine g_iloadn d_X12_choir_86 rfl ?_
  refine g_iloadn d_X12_choir_87 rfl ?_
  obtain ⟨_, g88, hF⟩ := Option.bind_eq_some_iff.mp hF
  obtain ⟨⟨r88, h88⟩, e88, hF⟩ := Option.bind_eq_some_iff.mp hF
  try dsimp only at hF
  refine q_callV [.int x5, .int x1, .int x2] [] rfl d_X12_choir_88 v_X12_378 (by omega) rfl (Nat.le_of_ble_eq_true rfl) (rc_rc g88 (by decide) rfl) (R_X12_isChoir _ _ _ _ _ (by omega) e88) ?_
  refine g_if_eq 98 d_X12_choir_91 rfl (fun c91 => ?_) (fun c91 => ?_)
  · have hF := x_t hF c91
    refine q_iinc (1) [.ref x0, .int x1, .int x2, .int x3, .int x4, .int (x5 + 1)] d_X12_choir_98 ic_1 rfl (by decide) rfl ?_
    refine g_goto 51 d_X12_choir_101 rfl ?_
    exact q_to (xs_r (xs_r (xs_r (xs_r (xs_r (xs_r xs_n)))))) (K51 _ _ _ _ _ _ _ hF)
  · have hF := x_f hF c91
    refine g_iload d_X12_choir_94 rfl ?_
    refine q_istore [.ref x0, .int x1, .int x2, .int x3, .int x5, .int x5] d_X12_choir_96 (by decide) rfl ?_
    refine q_iinc (1) [.ref x0, .int x1, .int x2, .int x3, .int x5, .int (x5 + 1)] d_X12_choir_98 ic_1 rfl (by decide) rfl ?_
    refine g_goto 51 d_X12_choir_101 rfl ?_
    exact q_to (xs_r (xs_r (xs_r (xs_r (xs_r (xs_r xs_n)))))) (K51 _ _ _ _ _ _ _ hF)
def F_X12_choir_b51 : Nat → Nat → Int32 → Int32 → Int32 → Int32 → Int32 → xH → Option (Int32 × xH)
  | 0, _, _, _, _, _, _, _ => none
  | n + 1, x0, x1, x2, x3, x4, x5, h => (fR h x0 11 1).bind fun v55 => (aI h v55 4).bind fun v59 => if (((1 : Int32)) <<< (v59 &&& 31)) ≤ x5 then if x4 = (((-1) : Int32)) then some (x4, h) else if ¬ x3 = ((1 : Int32)) then (F_X12_bitsOf x4 h).bind fun z122 => some (z122.1, z122.2) else some (x4, h) else if x4 = (((-1) : Int32)) then F_X12_choir_b83 (F_X12_choir_b51 n) x0 x1 x2 x3 x4 x5 h else (F_X12_bitsOf x5 h).bind fun z72 => (F_X12_bitsOf x4 z72.2).bind fun z77 => if z77.1 ≤ z72.1 then F_X12_choir_b51 n x0 x1 x2 x3 x4 (x5 + 1) z77.2 else F_X12_choir_b83 (F_X12_choir_b51 n) x0 x1 x2 x3 x4 x5 z77.2
theorem R_X12_choir_b51 {Γ : xG} {l : Launch} {d : Nat} {Q : Option Value → xH → Prop} {r : Int32} {h' : xH} (hdp : 6 ≤ d) (hq : Q (some (.int r)) h') : ∀ (n : Nat) (x0 : Nat) (x1 : Int32) (x2 : Int32) (x3 : Int32) (x4 : Int32) (x5 : Int32) (h : xH), F_X12_choir_b51 n x0 x1 x2 x3 x4 x5 h = some (r, h') → Gd Γ l d m_X12_choir 51 [.ref x0, .int x1, .int x2, .int x3, .int x4, .int x5] [] h 0 0 Q := by
  intro n
  induction n with
  | zero => intro x0 x1 x2 x3 x4 x5 h hF; cases hF
  | succ n ih =>
  intro x0 x1 x2 x3 x4 x5 h hF
  rw [F_X12_choir_b51] at hF
  refine g_iload d_X12_choir_51 rfl ?_
  refine g_ic (1) d_X12_choir_53 ic_1 ?_
  refine g_aloadn d_X12_choir_54 rfl ?_
  obtain ⟨v55, e55, hF⟩ := Option.bind_eq_some_iff.mp hF
  refine q_fR d_X12_choir_55 f_X12_13 e55 ?_
  refine g_ic (4) d_X12_choir_58 ic_4 ?_
  obtain ⟨v59, e59, hF⟩ := Option.bind_eq_some_iff.mp hF
  refine q_aI d_X12_choir_59 e59 ?_
  refine g_ishl d_X12_choir_60 ?_
  refine g_icmp_ge 104 d_X12_choir_61 rfl (fun c61 => ?_) (fun c61 => ?_)
  · have hF := x_t hF c61
    refine g_iload d_X12_choir_104 rfl ?_
    refine g_ic (-1) d_X12_choir_106 ic_m1 ?_
    refine g_icmp_eq 115 d_X12_choir_107 rfl (fun c107 => ?_) (fun c107 => ?_)
    · have hF := x_t hF c107
      refine g_iload d_X12_choir_115 rfl ?_
      refine g_goto 125 d_X12_choir_117 rfl ?_
      obtain ⟨rfl, rfl⟩ := x_inj hF
      exact g_iret d_X12_choir_125 rfl hq
    · have hF := x_f hF c107
      refine g_iloadn d_X12_choir_110 rfl ?_
      refine g_ic (1) d_X12_choir_111 ic_1 ?_
      refine g_icmp_ne 120 d_X12_choir_112 rfl (fun c112 => ?_) (fun c112 => ?_)
      · have hF := x_t hF c112
        refine g_iload d_X12_choir_120 rfl ?_
        obtain ⟨⟨r122, h122⟩, e122, hF⟩ := Option.bind_eq_some_iff.mp hF
        try dsimp only at hF
        refine q_callS [.int x4] [] rfl d_X12_choir_122 s_X12_354 (by omega) rfl (Nat.le_of_ble_eq_true rfl) (R_X12_bitsOf _ _ (by omega) e122) ?_
        obtain ⟨rfl, rfl⟩ := x_inj hF
        exact g_iret d_X12_choir_125 rfl hq
      · have hF := x_f hF (not_not_intro c112)
        refine g_iload d_X12_choir_115 rfl ?_
        refine g_goto 125 d_X12_choir_117 rfl ?_
        obtain ⟨rfl, rfl⟩ := x_inj hF
        exact g_iret d_X12_choir_125 rfl hq
  · have hF := x_f hF c61
    refine g_iload d_X12_choir_64 rfl ?_
    refine g_ic (-1) d_X12_choir_66 ic_m1 ?_
    refine g_icmp_eq 83 d_X12_choir_67 rfl (fun c67 => ?_) (fun c67 => ?_)
    · have hF := x_t hF c67
      exact q_to (xs_r (xs_r (xs_r (xs_r (xs_r (xs_r xs_n)))))) (R_X12_choir_b83 ih hdp hq _ _ _ _ _ _ _ hF)
    · have hF := x_f hF c67
      refine g_iload d_X12_choir_70 rfl ?_
      obtain ⟨⟨r72, h72⟩, e72, hF⟩ := Option.bind_eq_some_iff.mp hF
      try dsimp only at hF
      refine q_callS [.int x5] [] rfl d_X12_choir_72 s_X12_354 (by omega) rfl (Nat.le_of_ble_eq_true rfl) (R_X12_bitsOf _ _ (by omega) e72) ?_
      refine g_iload d_X12_choir_75 rfl ?_
      obtain ⟨⟨r77, h77⟩, e77, hF⟩ := Option.bind_eq_some_iff.mp hF
      try dsimp only at hF
      refine q_callS [.int x4] [.int (r72)] rfl d_X12_choir_77 s_X12_354 (by omega) rfl (Nat.le_of_ble_eq_true rfl) (R_X12_bitsOf _ _ (by omega) e77) ?_
      refine g_icmp_ge 98 d_X12_choir_80 rfl (fun c80 => ?_) (fun c80 => ?_)
      · have hF := x_t hF c80
        refine q_iinc (1) [.ref x0, .int x1, .int x2, .int x3, .int x4, .int (x5 + 1)] d_X12_choir_98 ic_1 rfl (by decide) rfl ?_
        refine g_goto 51 d_X12_choir_101 rfl ?_
        exact q_to (xs_r (xs_r (xs_r (xs_r (xs_r (xs_r xs_n)))))) (ih _ _ _ _ _ _ _ hF)
      · have hF := x_f hF c80
        exact q_to (xs_r (xs_r (xs_r (xs_r (xs_r (xs_r xs_n)))))) (R_X12_choir_b83 ih hdp hq _ _ _ _ _ _ _ hF)
def F_X12_choir (x0 : Nat) (x1 : Int32) (x2 : Int32) (x3 : Int32) (h : xH) : Option (Int32 × xH) := (wI h x0 11 0 0).bind fun h2 => (F_X12_within x3.toInt64 0 1 h2).bind fun z9 => if ¬ z9.1 = 0 then (rc z9.2 x0 11).bind fun _ => (F_X12_isNotes x0 x1 z9.2).bind fun z20 => if z20.1 = 0 then some ((-3), z20.2) else (F_X12_within x2.toInt64 1 6 z20.2).bind fun z32 => if ¬ z32.1 = 0 then (rc z32.2 x0 11).bind fun _ => (F_X12_laysHears x0 z32.2).bind fun z42 => F_X12_choir_b51 FU x0 x1 x2 x3 ((-1)) 0 z42.2 else some ((-3), z32.2) else some ((-2), z9.2)
theorem R_X12_choir {Γ : xG} {l : Launch} {d : Nat} {r : Int32} {h' : xH} (x0 : Nat) (x1 : Int32) (x2 : Int32) (x3 : Int32) (h : xH) (hdp : 6 ≤ d) (hF : F_X12_choir x0 x1 x2 x3 h = some (r, h')) : Gm Γ l d 0 0 m_X12_choir [.ref x0, .int x1, .int x2, .int x3] h (fun a u => a = some (.int r) ∧ u = h') := by
  refine Gm.of pn_X12 (Nat.le_of_ble_eq_true rfl) ?_
  show Gd Γ l d m_X12_choir 0 [.ref x0, .int x1, .int x2, .int x3, xhole, xhole] [] h 0 0 _
  generalize hQ : (fun (a : Option Value) (u : xH) => a = some (.int r) ∧ u = h') = Q
  have hq : Q (some (.int r)) h' := by rw [← hQ]; exact ⟨rfl, rfl⟩
  clear hQ
  unfold F_X12_choir at hF
  refine g_aloadn d_X12_choir_0 rfl ?_
  refine g_ic (0) d_X12_choir_1 ic_0 ?_
  obtain ⟨h2, e2, hF⟩ := Option.bind_eq_some_iff.mp hF
  refine q_wI d_X12_choir_2 (w_X12_1 _) e2 ?_
  refine g_iloadn d_X12_choir_5 rfl ?_
  refine g_i2l d_X12_choir_6 ?_
  refine g_lc 0 d_X12_choir_7 rfl ?_
  refine g_lc 1 d_X12_choir_8 rfl ?_
  obtain ⟨⟨r9, h9⟩, e9, hF⟩ := Option.bind_eq_some_iff.mp hF
  try dsimp only at hF
  refine q_callS [.long (x3.toInt64), .long 0, .long 1] [] rfl d_X12_choir_9 s_X12_148 (by omega) rfl (Nat.le_of_ble_eq_true rfl) (R_X12_within _ _ _ _ (by omega) e9) ?_
  refine g_if_ne 18 d_X12_choir_12 rfl (fun c12 => ?_) (fun c12 => ?_)
  · have hF := x_t hF c12
    refine g_aloadn d_X12_choir_18 rfl ?_
    refine g_iloadn d_X12_choir_19 rfl ?_
    obtain ⟨_, g20, hF⟩ := Option.bind_eq_some_iff.mp hF
    obtain ⟨⟨r20, h20⟩, e20, hF⟩ := Option.bind_eq_some_iff.mp hF
    try dsimp only at hF
    refine q_callV [.int x1] [] rfl d_X12_choir_20 v_X12_370 (by omega) rfl (Nat.le_of_ble_eq_true rfl) (rc_rc g20 (by decide) rfl) (R_X12_isNotes _ _ _ (by omega) e20) ?_
    refine g_if_eq 38 d_X12_choir_23 rfl (fun c23 => ?_) (fun c23 => ?_)
    · have hF := x_t hF c23
      refine g_bi (-3) d_X12_choir_38 bi_m3 ?_
      obtain ⟨rfl, rfl⟩ := x_inj hF
      exact g_iret d_X12_choir_40 rfl hq
    · have hF := x_f hF c23
      refine g_iloadn d_X12_choir_26 rfl ?_
      refine g_i2l d_X12_choir_27 ?_
      refine g_lc 1 d_X12_choir_28 rfl ?_
      refine g_ldc2 d_X12_choir_29 k_X12_373 ?_
      obtain ⟨⟨r32, h32⟩, e32, hF⟩ := Option.bind_eq_some_iff.mp hF
      try dsimp only at hF
      refine q_callS [.long (x2.toInt64), .long 1, .long 6] [] rfl d_X12_choir_32 s_X12_148 (by omega) rfl (Nat.le_of_ble_eq_true rfl) (R_X12_within _ _ _ _ (by omega) e32) ?_
      refine g_if_ne 41 d_X12_choir_35 rfl (fun c35 => ?_) (fun c35 => ?_)
      · have hF := x_t hF c35
        refine g_aloadn d_X12_choir_41 rfl ?_
        obtain ⟨_, g42, hF⟩ := Option.bind_eq_some_iff.mp hF
        obtain ⟨⟨r42, h42⟩, e42, hF⟩ := Option.bind_eq_some_iff.mp hF
        try dsimp only at hF
        refine q_callV [] [] rfl d_X12_choir_42 v_X12_375 (by omega) rfl (Nat.le_of_ble_eq_true rfl) (rc_rc g42 (by decide) rfl) (R_X12_laysHears _ _ (by omega) e42) ?_
        refine g_ic (-1) d_X12_choir_45 ic_m1 ?_
        refine q_istore [.ref x0, .int x1, .int x2, .int x3, .int ((-1)), xhole] d_X12_choir_46 (by decide) rfl ?_
        refine g_ic (0) d_X12_choir_48 ic_0 ?_
        refine q_istore [.ref x0, .int x1, .int x2, .int x3, .int ((-1)), .int 0] d_X12_choir_49 (by decide) rfl ?_
        exact q_to (xs_r (xs_r (xs_r (xs_r (xs_r (xs_r xs_n)))))) (R_X12_choir_b51 hdp hq FU _ _ _ _ _ _ _ hF)
      · have hF := x_f hF (not_not_intro c35)
        refine g_bi (-3) d_X12_choir_38 bi_m3 ?_
        obtain ⟨rfl, rfl⟩ := x_inj hF
        exact g_iret d_X12_choir_40 rfl hq
  · have hF := x_f hF (not_not_intro c12)
    refine g_bi (-2) d_X12_choir_15 bi_m2 ?_
    obtain ⟨rfl, rfl⟩ := x_inj hF
    exact g_iret d_X12_choir_17 rfl hq
theorem d_X12_areTwo_0 : decode cX12_areTwo 0 = .ok (.iload_n 3, 1) := by decide +kernel
theorem d_X12_areTwo_1 : decode cX12_areTwo 1 = .ok (.aload_n 0, 1) := by decide +kernel
theorem d_X12_areTwo_2 : decode cX12_areTwo 2 = .ok (.getfield 45, 3) := by decide +kernel
theorem d_X12_areTwo_5 : decode cX12_areTwo 5 = .ok (.iload_n 1, 1) := by decide +kernel
theorem d_X12_areTwo_6 : decode cX12_areTwo 6 = .ok (.iaload, 1) := by decide +kernel
theorem d_X12_areTwo_7 : decode cX12_areTwo 7 = .ok (.aload_n 0, 1) := by decide +kernel
theorem d_X12_areTwo_8 : decode cX12_areTwo 8 = .ok (.getfield 45, 3) := by decide +kernel
theorem d_X12_areTwo_11 : decode cX12_areTwo 11 = .ok (.iload_n 2, 1) := by decide +kernel
theorem d_X12_areTwo_12 : decode cX12_areTwo 12 = .ok (.iaload, 1) := by decide +kernel
theorem d_X12_areTwo_13 : decode cX12_areTwo 13 = .ok (.ior, 1) := by decide +kernel
theorem d_X12_areTwo_14 : decode cX12_areTwo 14 = .ok (.iconst (-1), 1) := by decide +kernel
theorem d_X12_areTwo_15 : decode cX12_areTwo 15 = .ok (.ixor, 1) := by decide +kernel
theorem d_X12_areTwo_16 : decode cX12_areTwo 16 = .ok (.iand, 1) := by decide +kernel
theorem d_X12_areTwo_17 : decode cX12_areTwo 17 = .ok (.ifCond .ne 7, 3) := by decide +kernel
theorem d_X12_areTwo_20 : decode cX12_areTwo 20 = .ok (.iconst 1, 1) := by decide +kernel
theorem d_X12_areTwo_21 : decode cX12_areTwo 21 = .ok (.goto 4, 3) := by decide +kernel
theorem d_X12_areTwo_24 : decode cX12_areTwo 24 = .ok (.iconst 0, 1) := by decide +kernel
theorem d_X12_areTwo_25 : decode cX12_areTwo 25 = .ok (.ireturn, 1) := by decide +kernel
def F_X12_areTwo (x0 : Nat) (x1 : Int32) (x2 : Int32) (x3 : Int32) (h : xH) : Option (Int32 × xH) := (fR h x0 11 23).bind fun v2 => (aI h v2 x1).bind fun v6 => (fR h x0 11 23).bind fun v8 => (aI h v8 x2).bind fun v12 => if ¬ (x3 &&& ((v6 ||| v12) ^^^ ((-1)))) = 0 then some (0, h) else some (1, h)
theorem R_X12_areTwo {Γ : xG} {l : Launch} {d : Nat} {r : Int32} {h' : xH} (x0 : Nat) (x1 : Int32) (x2 : Int32) (x3 : Int32) (h : xH) (hdp : 0 ≤ d) (hF : F_X12_areTwo x0 x1 x2 x3 h = some (r, h')) : Gm Γ l d 0 0 m_X12_areTwo [.ref x0, .int x1, .int x2, .int x3] h (fun a u => a = some (.int r) ∧ u = h') := by
  refine Gm.of pn_X12 (Nat.le_of_ble_eq_true rfl) ?_
  show Gd Γ l d m_X12_areTwo 0 [.ref x0, .int x1, .int x2, .int x3] [] h 0 0 _
  generalize hQ : (fun (a : Option Value) (u : xH) => a = some (.int r) ∧ u = h') = Q
  have hq : Q (some (.int r)) h' := by rw [← hQ]; exact ⟨rfl, rfl⟩
  clear hQ
  unfold F_X12_areTwo at hF
  refine g_iloadn d_X12_areTwo_0 rfl ?_
  refine g_aloadn d_X12_areTwo_1 rfl ?_
  obtain ⟨v2, e2, hF⟩ := Option.bind_eq_some_iff.mp hF
  refine q_fR d_X12_areTwo_2 f_X12_45 e2 ?_
  refine g_iloadn d_X12_areTwo_5 rfl ?_
  obtain ⟨v6, e6, hF⟩ := Option.bind_eq_some_iff.mp hF
  refine q_aI d_X12_areTwo_6 e6 ?_
  refine g_aloadn d_X12_areTwo_7 rfl ?_
  obtain ⟨v8, e8, hF⟩ := Option.bind_eq_some_iff.mp hF
  refine q_fR d_X12_areTwo_8 f_X12_45 e8 ?_
  refine g_iloadn d_X12_areTwo_11 rfl ?_
  obtain ⟨v12, e12, hF⟩ := Option.bind_eq_some_iff.mp hF
  refine q_aI d_X12_areTwo_12 e12 ?_
  refine g_ior d_X12_areTwo_13 ?_
  refine g_ic (-1) d_X12_areTwo_14 ic_m1 ?_
  refine g_ixor d_X12_areTwo_15 ?_
  refine g_iand d_X12_areTwo_16 ?_
  refine g_if_ne 24 d_X12_areTwo_17 rfl (fun c17 => ?_) (fun c17 => ?_)
  · have hF := x_t hF c17
    refine g_ic (0) d_X12_areTwo_24 ic_0 ?_
    obtain ⟨rfl, rfl⟩ := x_inj hF
    exact g_zret d_X12_areTwo_25 rfl rfl hq
  · have hF := x_f hF (not_not_intro c17)
    refine g_ic (1) d_X12_areTwo_20 ic_1 ?_
    refine g_goto 25 d_X12_areTwo_21 rfl ?_
    obtain ⟨rfl, rfl⟩ := x_inj hF
    exact g_zret d_X12_areTwo_25 rfl rfl hq
theorem d_X12_goesRow_0 : decode cX12_goesRow 0 = .ok (.iload_n 1, 1) := by decide +kernel
theorem d_X12_goesRow_1 : decode cX12_goesRow 1 = .ok (.aload_n 0, 1) := by decide +kernel
theorem d_X12_goesRow_2 : decode cX12_goesRow 2 = .ok (.getfield 13, 3) := by decide +kernel
theorem d_X12_goesRow_5 : decode cX12_goesRow 5 = .ok (.iconst 4, 1) := by decide +kernel
theorem d_X12_goesRow_6 : decode cX12_goesRow 6 = .ok (.iaload, 1) := by decide +kernel
theorem d_X12_goesRow_7 : decode cX12_goesRow 7 = .ok (.if_icmp .ne 51, 3) := by decide +kernel
theorem d_X12_goesRow_10 : decode cX12_goesRow 10 = .ok (.aload_n 0, 1) := by decide +kernel
theorem d_X12_goesRow_11 : decode cX12_goesRow 11 = .ok (.getfield 381, 3) := by decide +kernel
theorem d_X12_goesRow_14 : decode cX12_goesRow 14 = .ok (.ifCond .ne 33, 3) := by decide +kernel
theorem d_X12_goesRow_17 : decode cX12_goesRow 17 = .ok (.iconst 0, 1) := by decide +kernel
theorem d_X12_goesRow_18 : decode cX12_goesRow 18 = .ok (.istore 4, 2) := by decide +kernel
theorem d_X12_goesRow_20 : decode cX12_goesRow 20 = .ok (.iload 4, 2) := by decide +kernel
theorem d_X12_goesRow_22 : decode cX12_goesRow 22 = .ok (.bipush 6, 2) := by decide +kernel
theorem d_X12_goesRow_24 : decode cX12_goesRow 24 = .ok (.if_icmp .ge 23, 3) := by decide +kernel
theorem d_X12_goesRow_27 : decode cX12_goesRow 27 = .ok (.aload_n 0, 1) := by decide +kernel
theorem d_X12_goesRow_28 : decode cX12_goesRow 28 = .ok (.getfield 51, 3) := by decide +kernel
theorem d_X12_goesRow_31 : decode cX12_goesRow 31 = .ok (.iload 4, 2) := by decide +kernel
theorem d_X12_goesRow_33 : decode cX12_goesRow 33 = .ok (.aload_n 0, 1) := by decide +kernel
theorem d_X12_goesRow_34 : decode cX12_goesRow 34 = .ok (.getfield 48, 3) := by decide +kernel
theorem d_X12_goesRow_37 : decode cX12_goesRow 37 = .ok (.iload 4, 2) := by decide +kernel
theorem d_X12_goesRow_39 : decode cX12_goesRow 39 = .ok (.iaload, 1) := by decide +kernel
theorem d_X12_goesRow_40 : decode cX12_goesRow 40 = .ok (.iastore, 1) := by decide +kernel
theorem d_X12_goesRow_41 : decode cX12_goesRow 41 = .ok (.iinc 4 1, 3) := by decide +kernel
theorem d_X12_goesRow_44 : decode cX12_goesRow 44 = .ok (.goto (-24), 3) := by decide +kernel
theorem d_X12_goesRow_47 : decode cX12_goesRow 47 = .ok (.aload_n 0, 1) := by decide +kernel
theorem d_X12_goesRow_48 : decode cX12_goesRow 48 = .ok (.dup, 1) := by decide +kernel
theorem d_X12_goesRow_49 : decode cX12_goesRow 49 = .ok (.getfield 381, 3) := by decide +kernel
theorem d_X12_goesRow_52 : decode cX12_goesRow 52 = .ok (.iconst 1, 1) := by decide +kernel
theorem d_X12_goesRow_53 : decode cX12_goesRow 53 = .ok (.iadd, 1) := by decide +kernel
theorem d_X12_goesRow_54 : decode cX12_goesRow 54 = .ok (.putfield 381, 3) := by decide +kernel
theorem d_X12_goesRow_57 : decode cX12_goesRow 57 = .ok (.return_, 1) := by decide +kernel
theorem d_X12_goesRow_58 : decode cX12_goesRow 58 = .ok (.iconst 0, 1) := by decide +kernel
theorem d_X12_goesRow_59 : decode cX12_goesRow 59 = .ok (.istore 4, 2) := by decide +kernel
theorem d_X12_goesRow_61 : decode cX12_goesRow 61 = .ok (.iload 4, 2) := by decide +kernel
theorem d_X12_goesRow_63 : decode cX12_goesRow 63 = .ok (.aload_n 0, 1) := by decide +kernel
theorem d_X12_goesRow_64 : decode cX12_goesRow 64 = .ok (.getfield 13, 3) := by decide +kernel
theorem d_X12_goesRow_67 : decode cX12_goesRow 67 = .ok (.iconst 4, 1) := by decide +kernel
theorem d_X12_goesRow_68 : decode cX12_goesRow 68 = .ok (.iaload, 1) := by decide +kernel
theorem d_X12_goesRow_69 : decode cX12_goesRow 69 = .ok (.if_icmp .ge 66, 3) := by decide +kernel
theorem d_X12_goesRow_72 : decode cX12_goesRow 72 = .ok (.iload_n 2, 1) := by decide +kernel
theorem d_X12_goesRow_73 : decode cX12_goesRow 73 = .ok (.i2l, 1) := by decide +kernel
theorem d_X12_goesRow_74 : decode cX12_goesRow 74 = .ok (.iload 4, 2) := by decide +kernel
theorem d_X12_goesRow_76 : decode cX12_goesRow 76 = .ok (.invokestatic 228, 3) := by decide +kernel
theorem d_X12_goesRow_79 : decode cX12_goesRow 79 = .ok (.ifCond .ne 50, 3) := by decide +kernel
theorem d_X12_goesRow_82 : decode cX12_goesRow 82 = .ok (.iload_n 1, 1) := by decide +kernel
theorem d_X12_goesRow_83 : decode cX12_goesRow 83 = .ok (.ifCond .le 24, 3) := by decide +kernel
theorem d_X12_goesRow_86 : decode cX12_goesRow 86 = .ok (.aload_n 0, 1) := by decide +kernel
theorem d_X12_goesRow_87 : decode cX12_goesRow 87 = .ok (.aload_n 0, 1) := by decide +kernel
theorem d_X12_goesRow_88 : decode cX12_goesRow 88 = .ok (.getfield 48, 3) := by decide +kernel
theorem d_X12_goesRow_91 : decode cX12_goesRow 91 = .ok (.iload_n 1, 1) := by decide +kernel
theorem d_X12_goesRow_92 : decode cX12_goesRow 92 = .ok (.iconst 1, 1) := by decide +kernel
theorem d_X12_goesRow_93 : decode cX12_goesRow 93 = .ok (.isub, 1) := by decide +kernel
theorem d_X12_goesRow_94 : decode cX12_goesRow 94 = .ok (.iaload, 1) := by decide +kernel
theorem d_X12_goesRow_95 : decode cX12_goesRow 95 = .ok (.iload 4, 2) := by decide +kernel
theorem d_X12_goesRow_97 : decode cX12_goesRow 97 = .ok (.iload_n 3, 1) := by decide +kernel
theorem d_X12_goesRow_98 : decode cX12_goesRow 98 = .ok (.invokevirtual 384, 3) := by decide +kernel
theorem d_X12_goesRow_101 : decode cX12_goesRow 101 = .ok (.ifCond .ne 6, 3) := by decide +kernel
theorem d_X12_goesRow_104 : decode cX12_goesRow 104 = .ok (.goto 25, 3) := by decide +kernel
theorem d_X12_goesRow_107 : decode cX12_goesRow 107 = .ok (.aload_n 0, 1) := by decide +kernel
theorem d_X12_goesRow_108 : decode cX12_goesRow 108 = .ok (.getfield 48, 3) := by decide +kernel
theorem d_X12_goesRow_111 : decode cX12_goesRow 111 = .ok (.iload_n 1, 1) := by decide +kernel
theorem d_X12_goesRow_112 : decode cX12_goesRow 112 = .ok (.iload 4, 2) := by decide +kernel
theorem d_X12_goesRow_114 : decode cX12_goesRow 114 = .ok (.iastore, 1) := by decide +kernel
theorem d_X12_goesRow_115 : decode cX12_goesRow 115 = .ok (.aload_n 0, 1) := by decide +kernel
theorem d_X12_goesRow_116 : decode cX12_goesRow 116 = .ok (.iload_n 1, 1) := by decide +kernel
theorem d_X12_goesRow_117 : decode cX12_goesRow 117 = .ok (.iconst 1, 1) := by decide +kernel
theorem d_X12_goesRow_118 : decode cX12_goesRow 118 = .ok (.iadd, 1) := by decide +kernel
theorem d_X12_goesRow_119 : decode cX12_goesRow 119 = .ok (.iload_n 2, 1) := by decide +kernel
theorem d_X12_goesRow_120 : decode cX12_goesRow 120 = .ok (.iconst 1, 1) := by decide +kernel
theorem d_X12_goesRow_121 : decode cX12_goesRow 121 = .ok (.iload 4, 2) := by decide +kernel
theorem d_X12_goesRow_123 : decode cX12_goesRow 123 = .ok (.ishl, 1) := by decide +kernel
theorem d_X12_goesRow_124 : decode cX12_goesRow 124 = .ok (.ior, 1) := by decide +kernel
theorem d_X12_goesRow_125 : decode cX12_goesRow 125 = .ok (.iload_n 3, 1) := by decide +kernel
theorem d_X12_goesRow_126 : decode cX12_goesRow 126 = .ok (.invokevirtual 387, 3) := by decide +kernel
theorem d_X12_goesRow_129 : decode cX12_goesRow 129 = .ok (.iinc 4 1, 3) := by decide +kernel
theorem d_X12_goesRow_132 : decode cX12_goesRow 132 = .ok (.goto (-71), 3) := by decide +kernel
theorem d_X12_goesRow_135 : decode cX12_goesRow 135 = .ok (.return_, 1) := by decide +kernel
def F_X12_goesRow_b47 (f_X12_goesRow : Nat → Int32 → Int32 → Int32 → xH → Option (Unit × xH)) (x0 : Nat) (h : xH) : Option (Unit × xH) := (fI h x0 11 26).bind fun v49 => (wI h x0 11 26 (v49 + 1)).bind fun h54 => some ((), h54)
theorem R_X12_goesRow_b47 {Γ : xG} {l : Launch} {d : Nat} {Q : Option Value → xH → Prop} {r : Unit} {h' : xH} {f_X12_goesRow : Nat → Int32 → Int32 → Int32 → xH → Option (Unit × xH)} (K_X12_goesRow : ∀ (y0 : Nat) (y1 : Int32) (y2 : Int32) (y3 : Int32) (u : xH) (q : Unit) (u' : xH), f_X12_goesRow y0 y1 y2 y3 u = some (q, u') → Gm Γ l (d - 1) 0 0 m_X12_goesRow [.ref y0, .int y1, .int y2, .int y3] u (fun a w => a = none ∧ w = u')) (hdp : 1 ≤ d) (hq : Q (none) h') : ∀ (x0 : Nat) (h : xH), F_X12_goesRow_b47 f_X12_goesRow x0 h = some (r, h') → Gd Γ l d m_X12_goesRow 47 [.ref x0, xhole, xhole, xhole, xhole] [] h 0 0 Q := by
  intro x0 h hF
  unfold F_X12_goesRow_b47 at hF
  refine g_aloadn d_X12_goesRow_47 rfl ?_
  refine g_dup d_X12_goesRow_48 rfl ?_
  obtain ⟨v49, e49, hF⟩ := Option.bind_eq_some_iff.mp hF
  refine q_fI d_X12_goesRow_49 f_X12_381 e49 ?_
  refine g_ic (1) d_X12_goesRow_52 ic_1 ?_
  refine g_iadd d_X12_goesRow_53 ?_
  obtain ⟨h54, e54, hF⟩ := Option.bind_eq_some_iff.mp hF
  refine q_wI d_X12_goesRow_54 (w_X12_381 _) e54 ?_
  obtain ⟨rfl, rfl⟩ := x_inj hF
  exact g_vret d_X12_goesRow_57 rfl hq
def F_X12_goesRow_b20 (f_X12_goesRow : Nat → Int32 → Int32 → Int32 → xH → Option (Unit × xH)) : Nat → Nat → Int32 → xH → Option (Unit × xH)
  | 0, _, _, _ => none
  | n + 1, x0, x4, h => if ((6 : Int32)) ≤ x4 then F_X12_goesRow_b47 f_X12_goesRow x0 h else (fR h x0 11 25).bind fun v28 => (fR h x0 11 24).bind fun v34 => (aI h v34 x4).bind fun v39 => (sI h v28 x4 v39).bind fun h40 => F_X12_goesRow_b20 f_X12_goesRow n x0 (x4 + 1) h40
theorem R_X12_goesRow_b20 {Γ : xG} {l : Launch} {d : Nat} {Q : Option Value → xH → Prop} {r : Unit} {h' : xH} {f_X12_goesRow : Nat → Int32 → Int32 → Int32 → xH → Option (Unit × xH)} (K_X12_goesRow : ∀ (y0 : Nat) (y1 : Int32) (y2 : Int32) (y3 : Int32) (u : xH) (q : Unit) (u' : xH), f_X12_goesRow y0 y1 y2 y3 u = some (q, u') → Gm Γ l (d - 1) 0 0 m_X12_goesRow [.ref y0, .int y1, .int y2, .int y3] u (fun a w => a = none ∧ w = u')) (hdp : 1 ≤ d) (hq : Q (none) h') : ∀ (n : Nat) (x0 : Nat) (x4 : Int32) (h : xH), F_X12_goesRow_b20 f_X12_goesRow n x0 x4 h = some (r, h') → Gd Γ l d m_X12_goesRow 20 [.ref x0, xhole, xhole, xhole, .int x4] [] h 0 0 Q := by
  intro n
  induction n with
  | zero => intro x0 x4 h hF; cases hF
  | succ n ih =>
  intro x0 x4 h hF
  rw [F_X12_goesRow_b20] at hF
  refine g_iload d_X12_goesRow_20 rfl ?_
  refine g_bi (6) d_X12_goesRow_22 bi_6 ?_
  refine g_icmp_ge 47 d_X12_goesRow_24 rfl (fun c24 => ?_) (fun c24 => ?_)
  · have hF := x_t hF c24
    exact q_to (xs_r (xs_h (xs_h (xs_h (xs_h xs_n))))) (R_X12_goesRow_b47 K_X12_goesRow hdp hq _ _ hF)
  · have hF := x_f hF c24
    refine g_aloadn d_X12_goesRow_27 rfl ?_
    obtain ⟨v28, e28, hF⟩ := Option.bind_eq_some_iff.mp hF
    refine q_fR d_X12_goesRow_28 f_X12_51 e28 ?_
    refine g_iload d_X12_goesRow_31 rfl ?_
    refine g_aloadn d_X12_goesRow_33 rfl ?_
    obtain ⟨v34, e34, hF⟩ := Option.bind_eq_some_iff.mp hF
    refine q_fR d_X12_goesRow_34 f_X12_48 e34 ?_
    refine g_iload d_X12_goesRow_37 rfl ?_
    obtain ⟨v39, e39, hF⟩ := Option.bind_eq_some_iff.mp hF
    refine q_aI d_X12_goesRow_39 e39 ?_
    obtain ⟨h40, e40, hF⟩ := Option.bind_eq_some_iff.mp hF
    refine q_sI d_X12_goesRow_40 e40 ?_
    refine q_iinc (1) [.ref x0, xhole, xhole, xhole, .int (x4 + 1)] d_X12_goesRow_41 ic_1 rfl (by decide) rfl ?_
    refine g_goto 20 d_X12_goesRow_44 rfl ?_
    exact q_to (xs_r (xs_h (xs_h (xs_h (xs_r xs_n))))) (ih _ _ _ hF)
def F_X12_goesRow_b107 (f_X12_goesRow : Nat → Int32 → Int32 → Int32 → xH → Option (Unit × xH)) (k61 : Nat → Int32 → Int32 → Int32 → Int32 → xH → Option (Unit × xH)) (x0 : Nat) (x1 : Int32) (x2 : Int32) (x3 : Int32) (x4 : Int32) (h : xH) : Option (Unit × xH) := (fR h x0 11 24).bind fun v108 => (sI h v108 x1 x4).bind fun h114 => (rc h114 x0 11).bind fun _ => (f_X12_goesRow x0 (x1 + 1) (x2 ||| (((1 : Int32)) <<< (x4 &&& 31))) x3 h114).bind fun z126 => k61 x0 x1 x2 x3 (x4 + 1) z126.2
theorem R_X12_goesRow_b107 {Γ : xG} {l : Launch} {d : Nat} {Q : Option Value → xH → Prop} {r : Unit} {h' : xH} {f_X12_goesRow : Nat → Int32 → Int32 → Int32 → xH → Option (Unit × xH)} {k61 : Nat → Int32 → Int32 → Int32 → Int32 → xH → Option (Unit × xH)} (K_X12_goesRow : ∀ (y0 : Nat) (y1 : Int32) (y2 : Int32) (y3 : Int32) (u : xH) (q : Unit) (u' : xH), f_X12_goesRow y0 y1 y2 y3 u = some (q, u') → Gm Γ l (d - 1) 0 0 m_X12_goesRow [.ref y0, .int y1, .int y2, .int y3] u (fun a w => a = none ∧ w = u')) (K61 : ∀ (x0 : Nat) (x1 : Int32) (x2 : Int32) (x3 : Int32) (x4 : Int32)  (h : xH), k61 x0 x1 x2 x3 x4 h = some (r, h') → Gd Γ l d m_X12_goesRow 61 [.ref x0, .int x1, .int x2, .int x3, .int x4] [] h 0 0 Q) (hdp : 1 ≤ d) (hq : Q (none) h') : ∀ (x0 : Nat) (x1 : Int32) (x2 : Int32) (x3 : Int32) (x4 : Int32) (h : xH), F_X12_goesRow_b107 f_X12_goesRow k61 x0 x1 x2 x3 x4 h = some (r, h') → Gd Γ l d m_X12_goesRow 107 [.ref x0, .int x1, .int x2, .int x3, .int x4] [] h 0 0 Q := by
  intro x0 x1 x2 x3 x4 h hF
  unfold F_X12_goesRow_b107 at hF
  refine g_aloadn d_X12_goesRow_107 rfl ?_
  obtain ⟨v108, e108, hF⟩ := Option.bind_eq_some_iff.mp hF
  refine q_fR d_X12_goesRow_108 f_X12_48 e108 ?_
  refine g_iloadn d_X12_goesRow_111 rfl ?_
  refine g_iload d_X12_goesRow_112 rfl ?_
  obtain ⟨h114, e114, hF⟩ := Option.bind_eq_some_iff.mp hF
  refine q_sI d_X12_goesRow_114 e114 ?_
  refine g_aloadn d_X12_goesRow_115 rfl ?_
  refine g_iloadn d_X12_goesRow_116 rfl ?_
  refine g_ic (1) d_X12_goesRow_117 ic_1 ?_
  refine g_iadd d_X12_goesRow_118 ?_
  refine g_iloadn d_X12_goesRow_119 rfl ?_
  refine g_ic (1) d_X12_goesRow_120 ic_1 ?_
  refine g_iload d_X12_goesRow_121 rfl ?_
  refine g_ishl d_X12_goesRow_123 ?_
  refine g_ior d_X12_goesRow_124 ?_
  refine g_iloadn d_X12_goesRow_125 rfl ?_
  obtain ⟨_, g126, hF⟩ := Option.bind_eq_some_iff.mp hF
  obtain ⟨⟨r126, h126⟩, e126, hF⟩ := Option.bind_eq_some_iff.mp hF
  try dsimp only at hF
  refine q_callV [.int (x1 + 1), .int (x2 ||| (((1 : Int32)) <<< (x4 &&& 31))), .int x3] [] rfl d_X12_goesRow_126 v_X12_387 (by omega) rfl (Nat.le_of_ble_eq_true rfl) (rc_rc g126 (by decide) rfl) (K_X12_goesRow _ _ _ _ _ _ _ e126) ?_
  refine q_iinc (1) [.ref x0, .int x1, .int x2, .int x3, .int (x4 + 1)] d_X12_goesRow_129 ic_1 rfl (by decide) rfl ?_
  refine g_goto 61 d_X12_goesRow_132 rfl ?_
  exact q_to (xs_r (xs_r (xs_r (xs_r (xs_r xs_n))))) (K61 _ _ _ _ _ _ hF)
def F_X12_goesRow_b61 (f_X12_goesRow : Nat → Int32 → Int32 → Int32 → xH → Option (Unit × xH)) : Nat → Nat → Int32 → Int32 → Int32 → Int32 → xH → Option (Unit × xH)
  | 0, _, _, _, _, _, _ => none
  | n + 1, x0, x1, x2, x3, x4, h => (fR h x0 11 1).bind fun v64 => (aI h v64 4).bind fun v68 => if v68 ≤ x4 then some ((), h) else (F_X12_isIn x2.toInt64 x4 h).bind fun z76 => if ¬ z76.1 = 0 then F_X12_goesRow_b61 f_X12_goesRow n x0 x1 x2 x3 (x4 + 1) z76.2 else if x1 ≤ 0 then F_X12_goesRow_b107 f_X12_goesRow (F_X12_goesRow_b61 f_X12_goesRow n) x0 x1 x2 x3 x4 z76.2 else (fR z76.2 x0 11 24).bind fun v88 => (aI z76.2 v88 (x1 - 1)).bind fun v94 => (rc z76.2 x0 11).bind fun _ => (F_X12_areTwo x0 v94 x4 x3 z76.2).bind fun z98 => if ¬ z98.1 = 0 then F_X12_goesRow_b107 f_X12_goesRow (F_X12_goesRow_b61 f_X12_goesRow n) x0 x1 x2 x3 x4 z98.2 else F_X12_goesRow_b61 f_X12_goesRow n x0 x1 x2 x3 (x4 + 1) z98.2
theorem R_X12_goesRow_b61 {Γ : xG} {l : Launch} {d : Nat} {Q : Option Value → xH → Prop} {r : Unit} {h' : xH} {f_X12_goesRow : Nat → Int32 → Int32 → Int32 → xH → Option (Unit × xH)} (K_X12_goesRow : ∀ (y0 : Nat) (y1 : Int32) (y2 : Int32) (y3 : Int32) (u : xH) (q : Unit) (u' : xH), f_X12_goesRow y0 y1 y2 y3 u = some (q, u') → Gm Γ l (d - 1) 0 0 m_X12_goesRow [.ref y0, .int y1, .int y2, .int y3] u (fun a w => a = none ∧ w = u')) (hdp : 1 ≤ d) (hq : Q (none) h') : ∀ (n : Nat) (x0 : Nat) (x1 : Int32) (x2 : Int32) (x3 : Int32) (x4 : Int32) (h : xH), F_X12_goesRow_b61 f_X12_goesRow n x0 x1 x2 x3 x4 h = some (r, h') → Gd Γ l d m_X12_goesRow 61 [.ref x0, .int x1, .int x2, .int x3, .int x4] [] h 0 0 Q := by
  intro n
  induction n with
  | zero => intro x0 x1 x2 x3 x4 h hF; cases hF
  | succ n ih =>
  intro x0 x1 x2 x3 x4 h hF
  rw [F_X12_goesRow_b61] at hF
  refine g_iload d_X12_goesRow_61 rfl ?_
  refine g_aloadn d_X12_goesRow_63 rfl ?_
  obtain ⟨v64, e64, hF⟩ := Option.bind_eq_some_iff.mp hF
  refine q_fR d_X12_goesRow_64 f_X12_13 e64 ?_
  refine g_ic (4) d_X12_goesRow_67 ic_4 ?_
  obtain ⟨v68, e68, hF⟩ := Option.bind_eq_some_iff.mp hF
  refine q_aI d_X12_goesRow_68 e68 ?_
  refine g_icmp_ge 135 d_X12_goesRow_69 rfl (fun c69 => ?_) (fun c69 => ?_)
  · have hF := x_t hF c69
    obtain ⟨rfl, rfl⟩ := x_inj hF
    exact g_vret d_X12_goesRow_135 rfl hq
  · have hF := x_f hF c69
    refine g_iloadn d_X12_goesRow_72 rfl ?_
    refine g_i2l d_X12_goesRow_73 ?_
    refine g_iload d_X12_goesRow_74 rfl ?_
    obtain ⟨⟨r76, h76⟩, e76, hF⟩ := Option.bind_eq_some_iff.mp hF
    try dsimp only at hF
    refine q_callS [.long (x2.toInt64), .int x4] [] rfl d_X12_goesRow_76 s_X12_228 (by omega) rfl (Nat.le_of_ble_eq_true rfl) (R_X12_isIn _ _ _ (by omega) e76) ?_
    refine g_if_ne 129 d_X12_goesRow_79 rfl (fun c79 => ?_) (fun c79 => ?_)
    · have hF := x_t hF c79
      refine q_iinc (1) [.ref x0, .int x1, .int x2, .int x3, .int (x4 + 1)] d_X12_goesRow_129 ic_1 rfl (by decide) rfl ?_
      refine g_goto 61 d_X12_goesRow_132 rfl ?_
      exact q_to (xs_r (xs_r (xs_r (xs_r (xs_r xs_n))))) (ih _ _ _ _ _ _ hF)
    · have hF := x_f hF (not_not_intro c79)
      refine g_iloadn d_X12_goesRow_82 rfl ?_
      refine g_if_le 107 d_X12_goesRow_83 rfl (fun c83 => ?_) (fun c83 => ?_)
      · have hF := x_t hF c83
        exact q_to (xs_r (xs_r (xs_r (xs_r (xs_r xs_n))))) (R_X12_goesRow_b107 K_X12_goesRow ih hdp hq _ _ _ _ _ _ hF)
      · have hF := x_f hF c83
        refine g_aloadn d_X12_goesRow_86 rfl ?_
        refine g_aloadn d_X12_goesRow_87 rfl ?_
        obtain ⟨v88, e88, hF⟩ := Option.bind_eq_some_iff.mp hF
        refine q_fR d_X12_goesRow_88 f_X12_48 e88 ?_
        refine g_iloadn d_X12_goesRow_91 rfl ?_
        refine g_ic (1) d_X12_goesRow_92 ic_1 ?_
        refine g_isub d_X12_goesRow_93 ?_
        obtain ⟨v94, e94, hF⟩ := Option.bind_eq_some_iff.mp hF
        refine q_aI d_X12_goesRow_94 e94 ?_
        refine g_iload d_X12_goesRow_95 rfl ?_
        refine g_iloadn d_X12_goesRow_97 rfl ?_
        obtain ⟨_, g98, hF⟩ := Option.bind_eq_some_iff.mp hF
        obtain ⟨⟨r98, h98⟩, e98, hF⟩ := Option.bind_eq_some_iff.mp hF
        try dsimp only at hF
        refine q_callV [.int v94, .int x4, .int x3] [] rfl d_X12_goesRow_98 v_X12_384 (by omega) rfl (Nat.le_of_ble_eq_true rfl) (rc_rc g98 (by decide) rfl) (R_X12_areTwo _ _ _ _ _ (by omega) e98) ?_
        refine g_if_ne 107 d_X12_goesRow_101 rfl (fun c101 => ?_) (fun c101 => ?_)
        · have hF := x_t hF c101
          exact q_to (xs_r (xs_r (xs_r (xs_r (xs_r xs_n))))) (R_X12_goesRow_b107 K_X12_goesRow ih hdp hq _ _ _ _ _ _ hF)
        · have hF := x_f hF (not_not_intro c101)
          refine g_goto 129 d_X12_goesRow_104 rfl ?_
          refine q_iinc (1) [.ref x0, .int x1, .int x2, .int x3, .int (x4 + 1)] d_X12_goesRow_129 ic_1 rfl (by decide) rfl ?_
          refine g_goto 61 d_X12_goesRow_132 rfl ?_
          exact q_to (xs_r (xs_r (xs_r (xs_r (xs_r xs_n))))) (ih _ _ _ _ _ _ hF)
def F_X12_goesRow (f_X12_goesRow : Nat → Int32 → Int32 → Int32 → xH → Option (Unit × xH)) (x0 : Nat) (x1 : Int32) (x2 : Int32) (x3 : Int32) (h : xH) : Option (Unit × xH) := (fR h x0 11 1).bind fun v2 => (aI h v2 4).bind fun v6 => if ¬ x1 = v6 then F_X12_goesRow_b61 f_X12_goesRow FU x0 x1 x2 x3 0 h else (fI h x0 11 26).bind fun v11 => if ¬ v11 = 0 then F_X12_goesRow_b47 f_X12_goesRow x0 h else F_X12_goesRow_b20 f_X12_goesRow FU x0 0 h
theorem R_X12_goesRow {Γ : xG} {l : Launch} {d : Nat} {r : Unit} {h' : xH} {f_X12_goesRow : Nat → Int32 → Int32 → Int32 → xH → Option (Unit × xH)} (K_X12_goesRow : ∀ (y0 : Nat) (y1 : Int32) (y2 : Int32) (y3 : Int32) (u : xH) (q : Unit) (u' : xH), f_X12_goesRow y0 y1 y2 y3 u = some (q, u') → Gm Γ l (d - 1) 0 0 m_X12_goesRow [.ref y0, .int y1, .int y2, .int y3] u (fun a w => a = none ∧ w = u')) (x0 : Nat) (x1 : Int32) (x2 : Int32) (x3 : Int32) (h : xH) (hdp : 1 ≤ d) (hF : F_X12_goesRow f_X12_goesRow x0 x1 x2 x3 h = some (r, h')) : Gm Γ l d 0 0 m_X12_goesRow [.ref x0, .int x1, .int x2, .int x3] h (fun a u => a = none ∧ u = h') := by
  refine Gm.of pn_X12 (Nat.le_of_ble_eq_true rfl) ?_
  show Gd Γ l d m_X12_goesRow 0 [.ref x0, .int x1, .int x2, .int x3, xhole] [] h 0 0 _
  generalize hQ : (fun (a : Option Value) (u : xH) => a = none ∧ u = h') = Q
  have hq : Q (none) h' := by rw [← hQ]; exact ⟨rfl, rfl⟩
  clear hQ
  unfold F_X12_goesRow at hF
  refine g_iloadn d_X12_goesRow_0 rfl ?_
  refine g_aloadn d_X12_goesRow_1 rfl ?_
  obtain ⟨v2, e2, hF⟩ := Option.bind_eq_some_iff.mp hF
  refine q_fR d_X12_goesRow_2 f_X12_13 e2 ?_
  refine g_ic (4) d_X12_goesRow_5 ic_4 ?_
  obtain ⟨v6, e6, hF⟩ := Option.bind_eq_some_iff.mp hF
  refine q_aI d_X12_goesRow_6 e6 ?_
  refine g_icmp_ne 58 d_X12_goesRow_7 rfl (fun c7 => ?_) (fun c7 => ?_)
  · have hF := x_t hF c7
    refine g_ic (0) d_X12_goesRow_58 ic_0 ?_
    refine q_istore [.ref x0, .int x1, .int x2, .int x3, .int 0] d_X12_goesRow_59 (by decide) rfl ?_
    exact q_to (xs_r (xs_r (xs_r (xs_r (xs_r xs_n))))) (R_X12_goesRow_b61 K_X12_goesRow hdp hq FU _ _ _ _ _ _ hF)
  · have hF := x_f hF (not_not_intro c7)
    refine g_aloadn d_X12_goesRow_10 rfl ?_
    obtain ⟨v11, e11, hF⟩ := Option.bind_eq_some_iff.mp hF
    refine q_fI d_X12_goesRow_11 f_X12_381 e11 ?_
    refine g_if_ne 47 d_X12_goesRow_14 rfl (fun c14 => ?_) (fun c14 => ?_)
    · have hF := x_t hF c14
      exact q_to (xs_r (xs_h (xs_h (xs_h (xs_h xs_n))))) (R_X12_goesRow_b47 K_X12_goesRow hdp hq _ _ hF)
    · have hF := x_f hF (not_not_intro c14)
      refine g_ic (0) d_X12_goesRow_17 ic_0 ?_
      refine q_istore [.ref x0, .int x1, .int x2, .int x3, .int 0] d_X12_goesRow_18 (by decide) rfl ?_
      exact q_to (xs_r (xs_h (xs_h (xs_h (xs_r xs_n))))) (R_X12_goesRow_b20 K_X12_goesRow hdp hq FU _ _ _ hF)
def G_X12_goesRow : Nat → (Nat → Int32 → Int32 → Int32 → xH → Option (Unit × xH))
  | 0 => (fun _ _ _ _ _ => none)
  | n + 1 => (F_X12_goesRow (G_X12_goesRow n))
def C_X12_goesRow (n : Nat) : Nat → Int32 → Int32 → Int32 → xH → Option (Unit × xH) := (G_X12_goesRow n)
theorem RG_X12_goesRow {Γ : xG} {l : Launch} : ∀ (n d : Nat), 1 + n ≤ d → (∀ (y0 : Nat) (y1 : Int32) (y2 : Int32) (y3 : Int32) (u : xH) (q : Unit) (u' : xH), (G_X12_goesRow n) y0 y1 y2 y3 u = some (q, u') → Gm Γ l d 0 0 m_X12_goesRow [.ref y0, .int y1, .int y2, .int y3] u (fun a w => a = none ∧ w = u')) := by
  intro n
  induction n with
  | zero => intro d hd; exact (fun _ _ _ _ _ _ _ hF => by cases (show (none : Option (Unit × xH)) = some _ from hF))
  | succ n ih =>
  intro d hd
  have H := ih (d - 1) (by omega)
  exact (fun y0 y1 y2 y3 u q u' hF => R_X12_goesRow (H) y0 y1 y2 y3 u (by omega) hF)
theorem RC_X12_goesRow {Γ : xG} {l : Launch} {d : Nat} {q : Unit} {u' : xH} (n : Nat) (y0 : Nat) (y1 : Int32) (y2 : Int32) (y3 : Int32) (u : xH) (hd : 1 + n ≤ d) (hF : C_X12_goesRow n y0 y1 y2 y3 u = some (q, u')) : Gm Γ l d 0 0 m_X12_goesRow [.ref y0, .int y1, .int y2, .int y3] u (fun a w => a = none ∧ w = u') := (RG_X12_goesRow n d hd) y0 y1 y2 y3 u q u' hF
theorem d_X12_laysRows_0 : decode cX12_laysRows 0 = .ok (.aload_n 0, 1) := by decide +kernel
theorem d_X12_laysRows_1 : decode cX12_laysRows 1 = .ok (.invokevirtual 375, 3) := by decide +kernel
theorem d_X12_laysRows_4 : decode cX12_laysRows 4 = .ok (.aload_n 0, 1) := by decide +kernel
theorem d_X12_laysRows_5 : decode cX12_laysRows 5 = .ok (.iconst 0, 1) := by decide +kernel
theorem d_X12_laysRows_6 : decode cX12_laysRows 6 = .ok (.putfield 381, 3) := by decide +kernel
theorem d_X12_laysRows_9 : decode cX12_laysRows 9 = .ok (.aload_n 0, 1) := by decide +kernel
theorem d_X12_laysRows_10 : decode cX12_laysRows 10 = .ok (.iconst 0, 1) := by decide +kernel
theorem d_X12_laysRows_11 : decode cX12_laysRows 11 = .ok (.iconst 0, 1) := by decide +kernel
theorem d_X12_laysRows_12 : decode cX12_laysRows 12 = .ok (.iload_n 1, 1) := by decide +kernel
theorem d_X12_laysRows_13 : decode cX12_laysRows 13 = .ok (.invokevirtual 387, 3) := by decide +kernel
theorem d_X12_laysRows_16 : decode cX12_laysRows 16 = .ok (.aload_n 0, 1) := by decide +kernel
theorem d_X12_laysRows_17 : decode cX12_laysRows 17 = .ok (.getfield 381, 3) := by decide +kernel
theorem d_X12_laysRows_20 : decode cX12_laysRows 20 = .ok (.ireturn, 1) := by decide +kernel
def F_X12_laysRows (x0 : Nat) (x1 : Int32) (h : xH) : Option (Int32 × xH) := (rc h x0 11).bind fun _ => (F_X12_laysHears x0 h).bind fun z1 => (wI z1.2 x0 11 26 0).bind fun h6 => (rc h6 x0 11).bind fun _ => (C_X12_goesRow 100 x0 0 0 x1 h6).bind fun z13 => (fI z13.2 x0 11 26).bind fun v17 => some (v17, z13.2)
theorem R_X12_laysRows {Γ : xG} {l : Launch} {d : Nat} {r : Int32} {h' : xH} (x0 : Nat) (x1 : Int32) (h : xH) (hdp : 102 ≤ d) (hF : F_X12_laysRows x0 x1 h = some (r, h')) : Gm Γ l d 0 0 m_X12_laysRows [.ref x0, .int x1] h (fun a u => a = some (.int r) ∧ u = h') := by
  refine Gm.of pn_X12 (Nat.le_of_ble_eq_true rfl) ?_
  show Gd Γ l d m_X12_laysRows 0 [.ref x0, .int x1] [] h 0 0 _
  generalize hQ : (fun (a : Option Value) (u : xH) => a = some (.int r) ∧ u = h') = Q
  have hq : Q (some (.int r)) h' := by rw [← hQ]; exact ⟨rfl, rfl⟩
  clear hQ
  unfold F_X12_laysRows at hF
  refine g_aloadn d_X12_laysRows_0 rfl ?_
  obtain ⟨_, g1, hF⟩ := Option.bind_eq_some_iff.mp hF
  obtain ⟨⟨r1, h1⟩, e1, hF⟩ := Option.bind_eq_some_iff.mp hF
  try dsimp only at hF
  refine q_callV [] [] rfl d_X12_laysRows_1 v_X12_375 (by omega) rfl (Nat.le_of_ble_eq_true rfl) (rc_rc g1 (by decide) rfl) (R_X12_laysHears _ _ (by omega) e1) ?_
  refine g_aloadn d_X12_laysRows_4 rfl ?_
  refine g_ic (0) d_X12_laysRows_5 ic_0 ?_
  obtain ⟨h6, e6, hF⟩ := Option.bind_eq_some_iff.mp hF
  refine q_wI d_X12_laysRows_6 (w_X12_381 _) e6 ?_
  refine g_aloadn d_X12_laysRows_9 rfl ?_
  refine g_ic (0) d_X12_laysRows_10 ic_0 ?_
  refine g_ic (0) d_X12_laysRows_11 ic_0 ?_
  refine g_iloadn d_X12_laysRows_12 rfl ?_
  obtain ⟨_, g13, hF⟩ := Option.bind_eq_some_iff.mp hF
  obtain ⟨⟨r13, h13⟩, e13, hF⟩ := Option.bind_eq_some_iff.mp hF
  try dsimp only at hF
  refine q_callV [.int 0, .int 0, .int x1] [] rfl d_X12_laysRows_13 v_X12_387 (by omega) rfl (Nat.le_of_ble_eq_true rfl) (rc_rc g13 (by decide) rfl) (RC_X12_goesRow 100 _ _ _ _ _ (by omega) e13) ?_
  refine g_aloadn d_X12_laysRows_16 rfl ?_
  obtain ⟨v17, e17, hF⟩ := Option.bind_eq_some_iff.mp hF
  refine q_fI d_X12_laysRows_17 f_X12_381 e17 ?_
  obtain ⟨rfl, rfl⟩ := x_inj hF
  exact g_iret d_X12_laysRows_20 rfl hq
theorem d_X12_row_0 : decode cX12_row 0 = .ok (.aload_n 0, 1) := by decide +kernel
theorem d_X12_row_1 : decode cX12_row 1 = .ok (.iconst 0, 1) := by decide +kernel
theorem d_X12_row_2 : decode cX12_row 2 = .ok (.putfield 1, 3) := by decide +kernel
theorem d_X12_row_5 : decode cX12_row 5 = .ok (.aload_n 0, 1) := by decide +kernel
theorem d_X12_row_6 : decode cX12_row 6 = .ok (.iload_n 1, 1) := by decide +kernel
theorem d_X12_row_7 : decode cX12_row 7 = .ok (.invokevirtual 370, 3) := by decide +kernel
theorem d_X12_row_10 : decode cX12_row 10 = .ok (.ifCond .eq 7, 3) := by decide +kernel
theorem d_X12_row_13 : decode cX12_row 13 = .ok (.iload_n 2, 1) := by decide +kernel
theorem d_X12_row_14 : decode cX12_row 14 = .ok (.ifCond .ge 6, 3) := by decide +kernel
theorem d_X12_row_17 : decode cX12_row 17 = .ok (.bipush (-3), 2) := by decide +kernel
theorem d_X12_row_19 : decode cX12_row 19 = .ok (.ireturn, 1) := by decide +kernel
theorem d_X12_row_20 : decode cX12_row 20 = .ok (.aload_n 0, 1) := by decide +kernel
theorem d_X12_row_21 : decode cX12_row 21 = .ok (.iload_n 1, 1) := by decide +kernel
theorem d_X12_row_22 : decode cX12_row 22 = .ok (.invokevirtual 391, 3) := by decide +kernel
theorem d_X12_row_25 : decode cX12_row 25 = .ok (.ifCond .le 22, 3) := by decide +kernel
theorem d_X12_row_28 : decode cX12_row 28 = .ok (.iload_n 2, 1) := by decide +kernel
theorem d_X12_row_29 : decode cX12_row 29 = .ok (.aload_n 0, 1) := by decide +kernel
theorem d_X12_row_30 : decode cX12_row 30 = .ok (.getfield 13, 3) := by decide +kernel
theorem d_X12_row_33 : decode cX12_row 33 = .ok (.iconst 4, 1) := by decide +kernel
theorem d_X12_row_34 : decode cX12_row 34 = .ok (.iaload, 1) := by decide +kernel
theorem d_X12_row_35 : decode cX12_row 35 = .ok (.if_icmp .ge 12, 3) := by decide +kernel
theorem d_X12_row_38 : decode cX12_row 38 = .ok (.aload_n 0, 1) := by decide +kernel
theorem d_X12_row_39 : decode cX12_row 39 = .ok (.getfield 51, 3) := by decide +kernel
theorem d_X12_row_42 : decode cX12_row 42 = .ok (.iload_n 2, 1) := by decide +kernel
theorem d_X12_row_43 : decode cX12_row 43 = .ok (.iaload, 1) := by decide +kernel
theorem d_X12_row_44 : decode cX12_row 44 = .ok (.goto 4, 3) := by decide +kernel
theorem d_X12_row_47 : decode cX12_row 47 = .ok (.iconst (-1), 1) := by decide +kernel
theorem d_X12_row_48 : decode cX12_row 48 = .ok (.ireturn, 1) := by decide +kernel
def F_X12_row (x0 : Nat) (x1 : Int32) (x2 : Int32) (h : xH) : Option (Int32 × xH) := (wI h x0 11 0 0).bind fun h2 => (rc h2 x0 11).bind fun _ => (F_X12_isNotes x0 x1 h2).bind fun z7 => if z7.1 = 0 then some ((-3), z7.2) else if 0 ≤ x2 then (rc z7.2 x0 11).bind fun _ => (F_X12_laysRows x0 x1 z7.2).bind fun z22 => if z22.1 ≤ 0 then some ((-1), z22.2) else (fR z22.2 x0 11 1).bind fun v30 => (aI z22.2 v30 4).bind fun v34 => if v34 ≤ x2 then some ((-1), z22.2) else (fR z22.2 x0 11 25).bind fun v39 => (aI z22.2 v39 x2).bind fun v43 => some (v43, z22.2) else some ((-3), z7.2)
theorem R_X12_row {Γ : xG} {l : Launch} {d : Nat} {r : Int32} {h' : xH} (x0 : Nat) (x1 : Int32) (x2 : Int32) (h : xH) (hdp : 103 ≤ d) (hF : F_X12_row x0 x1 x2 h = some (r, h')) : Gm Γ l d 0 0 m_X12_row [.ref x0, .int x1, .int x2] h (fun a u => a = some (.int r) ∧ u = h') := by
  refine Gm.of pn_X12 (Nat.le_of_ble_eq_true rfl) ?_
  show Gd Γ l d m_X12_row 0 [.ref x0, .int x1, .int x2] [] h 0 0 _
  generalize hQ : (fun (a : Option Value) (u : xH) => a = some (.int r) ∧ u = h') = Q
  have hq : Q (some (.int r)) h' := by rw [← hQ]; exact ⟨rfl, rfl⟩
  clear hQ
  unfold F_X12_row at hF
  refine g_aloadn d_X12_row_0 rfl ?_
  refine g_ic (0) d_X12_row_1 ic_0 ?_
  obtain ⟨h2, e2, hF⟩ := Option.bind_eq_some_iff.mp hF
  refine q_wI d_X12_row_2 (w_X12_1 _) e2 ?_
  refine g_aloadn d_X12_row_5 rfl ?_
  refine g_iloadn d_X12_row_6 rfl ?_
  obtain ⟨_, g7, hF⟩ := Option.bind_eq_some_iff.mp hF
  obtain ⟨⟨r7, h7⟩, e7, hF⟩ := Option.bind_eq_some_iff.mp hF
  try dsimp only at hF
  refine q_callV [.int x1] [] rfl d_X12_row_7 v_X12_370 (by omega) rfl (Nat.le_of_ble_eq_true rfl) (rc_rc g7 (by decide) rfl) (R_X12_isNotes _ _ _ (by omega) e7) ?_
  refine g_if_eq 17 d_X12_row_10 rfl (fun c10 => ?_) (fun c10 => ?_)
  · have hF := x_t hF c10
    refine g_bi (-3) d_X12_row_17 bi_m3 ?_
    obtain ⟨rfl, rfl⟩ := x_inj hF
    exact g_iret d_X12_row_19 rfl hq
  · have hF := x_f hF c10
    refine g_iloadn d_X12_row_13 rfl ?_
    refine g_if_ge 20 d_X12_row_14 rfl (fun c14 => ?_) (fun c14 => ?_)
    · have hF := x_t hF c14
      refine g_aloadn d_X12_row_20 rfl ?_
      refine g_iloadn d_X12_row_21 rfl ?_
      obtain ⟨_, g22, hF⟩ := Option.bind_eq_some_iff.mp hF
      obtain ⟨⟨r22, h22⟩, e22, hF⟩ := Option.bind_eq_some_iff.mp hF
      try dsimp only at hF
      refine q_callV [.int x1] [] rfl d_X12_row_22 v_X12_391 (by omega) rfl (Nat.le_of_ble_eq_true rfl) (rc_rc g22 (by decide) rfl) (R_X12_laysRows _ _ _ (by omega) e22) ?_
      refine g_if_le 47 d_X12_row_25 rfl (fun c25 => ?_) (fun c25 => ?_)
      · have hF := x_t hF c25
        refine g_ic (-1) d_X12_row_47 ic_m1 ?_
        obtain ⟨rfl, rfl⟩ := x_inj hF
        exact g_iret d_X12_row_48 rfl hq
      · have hF := x_f hF c25
        refine g_iloadn d_X12_row_28 rfl ?_
        refine g_aloadn d_X12_row_29 rfl ?_
        obtain ⟨v30, e30, hF⟩ := Option.bind_eq_some_iff.mp hF
        refine q_fR d_X12_row_30 f_X12_13 e30 ?_
        refine g_ic (4) d_X12_row_33 ic_4 ?_
        obtain ⟨v34, e34, hF⟩ := Option.bind_eq_some_iff.mp hF
        refine q_aI d_X12_row_34 e34 ?_
        refine g_icmp_ge 47 d_X12_row_35 rfl (fun c35 => ?_) (fun c35 => ?_)
        · have hF := x_t hF c35
          refine g_ic (-1) d_X12_row_47 ic_m1 ?_
          obtain ⟨rfl, rfl⟩ := x_inj hF
          exact g_iret d_X12_row_48 rfl hq
        · have hF := x_f hF c35
          refine g_aloadn d_X12_row_38 rfl ?_
          obtain ⟨v39, e39, hF⟩ := Option.bind_eq_some_iff.mp hF
          refine q_fR d_X12_row_39 f_X12_51 e39 ?_
          refine g_iloadn d_X12_row_42 rfl ?_
          obtain ⟨v43, e43, hF⟩ := Option.bind_eq_some_iff.mp hF
          refine q_aI d_X12_row_43 e43 ?_
          refine g_goto 48 d_X12_row_44 rfl ?_
          obtain ⟨rfl, rfl⟩ := x_inj hF
          exact g_iret d_X12_row_48 rfl hq
    · have hF := x_f hF c14
      refine g_bi (-3) d_X12_row_17 bi_m3 ?_
      obtain ⟨rfl, rfl⟩ := x_inj hF
      exact g_iret d_X12_row_19 rfl hq
