/-! ===== methods as functions, 6: written by a program out of the listings ===== -/
theorem d_X11_write_0 : decode cX11_write 0 = .ok (.aload_n 0, 1) := by decide +kernel
theorem d_X11_write_1 : decode cX11_write 1 = .ok (.iload_n 1, 1) := by decide +kernel
theorem d_X11_write_2 : decode cX11_write 2 = .ok (.invokevirtual 210, 3) := by decide +kernel
theorem d_X11_write_5 : decode cX11_write 5 = .ok (.astore 5, 2) := by decide +kernel
theorem d_X11_write_7 : decode cX11_write 7 = .ok (.aload 5, 2) := by decide +kernel
theorem d_X11_write_9 : decode cX11_write 9 = .ok (.ifnonnull 7, 3) := by decide +kernel
theorem d_X11_write_12 : decode cX11_write 12 = .ok (.ldc2_w 317, 3) := by decide +kernel
theorem d_X11_write_15 : decode cX11_write 15 = .ok (.lreturn, 1) := by decide +kernel
theorem d_X11_write_16 : decode cX11_write 16 = .ok (.aload 5, 2) := by decide +kernel
theorem d_X11_write_18 : decode cX11_write 18 = .ok (.getfield 214, 3) := by decide +kernel
theorem d_X11_write_21 : decode cX11_write 21 = .ok (.ifCond .ge 7, 3) := by decide +kernel
theorem d_X11_write_24 : decode cX11_write 24 = .ok (.ldc2_w 340, 3) := by decide +kernel
theorem d_X11_write_27 : decode cX11_write 27 = .ok (.lreturn, 1) := by decide +kernel
theorem d_X11_write_28 : decode cX11_write 28 = .ok (.iload_n 2, 1) := by decide +kernel
theorem d_X11_write_29 : decode cX11_write 29 = .ok (.ifCond .lt 12, 3) := by decide +kernel
theorem d_X11_write_32 : decode cX11_write 32 = .ok (.iload_n 2, 1) := by decide +kernel
theorem d_X11_write_33 : decode cX11_write 33 = .ok (.aload 5, 2) := by decide +kernel
theorem d_X11_write_35 : decode cX11_write 35 = .ok (.getfield 214, 3) := by decide +kernel
theorem d_X11_write_38 : decode cX11_write 38 = .ok (.if_icmp .lt 9, 3) := by decide +kernel
theorem d_X11_write_41 : decode cX11_write 41 = .ok (.ldc2_w 342, 3) := by decide +kernel
theorem d_X11_write_44 : decode cX11_write 44 = .ok (.goto 10, 3) := by decide +kernel
theorem d_X11_write_47 : decode cX11_write 47 = .ok (.aload 5, 2) := by decide +kernel
theorem d_X11_write_49 : decode cX11_write 49 = .ok (.iload_n 2, 1) := by decide +kernel
theorem d_X11_write_50 : decode cX11_write 50 = .ok (.lload_n 3, 1) := by decide +kernel
theorem d_X11_write_51 : decode cX11_write 51 = .ok (.invokevirtual 344, 3) := by decide +kernel
theorem d_X11_write_54 : decode cX11_write 54 = .ok (.lreturn, 1) := by decide +kernel
def F_X11_write (x0 : Nat) (x1 : Int32) (x2 : Int32) (x3 : Int64) (h : xH) : Option (Int64 × xH) := (rc h x0 10).bind fun _ => (F_X11_trayAt x0 x1 h).bind fun z2 => (match z2.1 with | none => some ((-2), z2.2) | some q9 => (fI z2.2 q9 7 1).bind fun v18 => if 0 ≤ v18 then if x2 < 0 then some ((-7), z2.2) else (fI z2.2 q9 7 1).bind fun v35 => if x2 < v35 then (rc z2.2 q9 7).bind fun _ => (F_X8_put q9 x2 x3 z2.2).bind fun z51 => some (z51.1, z51.2) else some ((-7), z2.2) else some ((-6), z2.2))
theorem R_X11_write {Γ : xG} {l : Launch} {d : Nat} {r : Int64} {h' : xH} (x0 : Nat) (x1 : Int32) (x2 : Int32) (x3 : Int64) (h : xH) (hdp : 2 ≤ d) (hF : F_X11_write x0 x1 x2 x3 h = some (r, h')) : Gm Γ l d 0 0 m_X11_write [.ref x0, .int x1, .int x2, .long x3] h (fun a u => a = some (.long r) ∧ u = h') := by
  refine Gm.of pn_X11 (Nat.le_of_ble_eq_true rfl) ?_
  show Gd Γ l d m_X11_write 0 [.ref x0, .int x1, .int x2, .long x3, xhole, xhole] [] h 0 0 _
  generalize hQ : (fun (a : Option Value) (u : xH) => a = some (.long r) ∧ u = h') = Q
  have hq : Q (some (.long r)) h' := by rw [← hQ]; exact ⟨rfl, rfl⟩
  clear hQ
  unfold F_X11_write at hF
  refine g_aloadn d_X11_write_0 rfl ?_
  refine g_iloadn d_X11_write_1 rfl ?_
  obtain ⟨_, g2, hF⟩ := Option.bind_eq_some_iff.mp hF
  obtain ⟨⟨r2, h2⟩, e2, hF⟩ := Option.bind_eq_some_iff.mp hF
  try dsimp only at hF
  refine q_callV [.int x1] [] rfl d_X11_write_2 v_X11_210 (by omega) rfl (Nat.le_of_ble_eq_true rfl) (rc_rc g2 (by decide) rfl) (R_X11_trayAt _ _ _ (by omega) e2) ?_
  refine q_astoreQ [.ref x0, .int x1, .int x2, .long x3, xhole, va_rf (r2)] d_X11_write_5 (by decide) rfl ?_
  refine q_aloadQ d_X11_write_7 rfl ?_
  cases r2 with
  | none =>
    try dsimp only at hF
    refine g_ifnonnullN d_X11_write_9 ?_
    refine g_ldc2 d_X11_write_12 k_X11_317 ?_
    obtain ⟨rfl, rfl⟩ := x_inj hF
    exact g_lret d_X11_write_15 rfl hq
  | some q9 =>
    try dsimp only at hF
    refine g_ifnonnull 16 d_X11_write_9 rfl ?_
    refine g_aload d_X11_write_16 rfl ?_
    obtain ⟨v18, e18, hF⟩ := Option.bind_eq_some_iff.mp hF
    refine q_fI d_X11_write_18 f_X11_214 e18 ?_
    refine g_if_ge 28 d_X11_write_21 rfl (fun c21 => ?_) (fun c21 => ?_)
    · have hF := x_t hF c21
      refine g_iloadn d_X11_write_28 rfl ?_
      refine g_if_lt 41 d_X11_write_29 rfl (fun c29 => ?_) (fun c29 => ?_)
      · have hF := x_t hF c29
        refine g_ldc2 d_X11_write_41 k_X11_342 ?_
        refine g_goto 54 d_X11_write_44 rfl ?_
        obtain ⟨rfl, rfl⟩ := x_inj hF
        exact g_lret d_X11_write_54 rfl hq
      · have hF := x_f hF c29
        refine g_iloadn d_X11_write_32 rfl ?_
        refine g_aload d_X11_write_33 rfl ?_
        obtain ⟨v35, e35, hF⟩ := Option.bind_eq_some_iff.mp hF
        refine q_fI d_X11_write_35 f_X11_214 e35 ?_
        refine g_icmp_lt 47 d_X11_write_38 rfl (fun c38 => ?_) (fun c38 => ?_)
        · have hF := x_t hF c38
          refine g_aload d_X11_write_47 rfl ?_
          refine g_iloadn d_X11_write_49 rfl ?_
          refine g_lloadn d_X11_write_50 rfl ?_
          obtain ⟨_, g51, hF⟩ := Option.bind_eq_some_iff.mp hF
          obtain ⟨⟨r51, h51⟩, e51, hF⟩ := Option.bind_eq_some_iff.mp hF
          try dsimp only at hF
          refine q_callV [.int x2, .long x3] [] rfl d_X11_write_51 v_X11_344 (by omega) rfl (Nat.le_of_ble_eq_true rfl) (rc_rc g51 (by decide) rfl) (R_X8_put _ _ _ _ (by omega) e51) ?_
          obtain ⟨rfl, rfl⟩ := x_inj hF
          exact g_lret d_X11_write_54 rfl hq
        · have hF := x_f hF c38
          refine g_ldc2 d_X11_write_41 k_X11_342 ?_
          refine g_goto 54 d_X11_write_44 rfl ?_
          obtain ⟨rfl, rfl⟩ := x_inj hF
          exact g_lret d_X11_write_54 rfl hq
    · have hF := x_f hF c21
      refine g_ldc2 d_X11_write_24 k_X11_340 ?_
      obtain ⟨rfl, rfl⟩ := x_inj hF
      exact g_lret d_X11_write_27 rfl hq
theorem d_X11_lists_0 : decode cX11_lists 0 = .ok (.aload_n 0, 1) := by decide +kernel
theorem d_X11_lists_1 : decode cX11_lists 1 = .ok (.iload_n 1, 1) := by decide +kernel
theorem d_X11_lists_2 : decode cX11_lists 2 = .ok (.invokevirtual 210, 3) := by decide +kernel
theorem d_X11_lists_5 : decode cX11_lists 5 = .ok (.astore_n 3, 1) := by decide +kernel
theorem d_X11_lists_6 : decode cX11_lists 6 = .ok (.aload_n 3, 1) := by decide +kernel
theorem d_X11_lists_7 : decode cX11_lists 7 = .ok (.ifnonnull 6, 3) := by decide +kernel
theorem d_X11_lists_10 : decode cX11_lists 10 = .ok (.bipush (-2), 2) := by decide +kernel
theorem d_X11_lists_12 : decode cX11_lists 12 = .ok (.ireturn, 1) := by decide +kernel
theorem d_X11_lists_13 : decode cX11_lists 13 = .ok (.aload_n 3, 1) := by decide +kernel
theorem d_X11_lists_14 : decode cX11_lists 14 = .ok (.getfield 214, 3) := by decide +kernel
theorem d_X11_lists_17 : decode cX11_lists 17 = .ok (.ifCond .ge 6, 3) := by decide +kernel
theorem d_X11_lists_20 : decode cX11_lists 20 = .ok (.bipush (-6), 2) := by decide +kernel
theorem d_X11_lists_22 : decode cX11_lists 22 = .ok (.ireturn, 1) := by decide +kernel
theorem d_X11_lists_23 : decode cX11_lists 23 = .ok (.aload_n 0, 1) := by decide +kernel
theorem d_X11_lists_24 : decode cX11_lists 24 = .ok (.getfield 19, 3) := by decide +kernel
theorem d_X11_lists_27 : decode cX11_lists 27 = .ok (.iload_n 2, 1) := by decide +kernel
theorem d_X11_lists_28 : decode cX11_lists 28 = .ok (.invokevirtual 169, 3) := by decide +kernel
theorem d_X11_lists_31 : decode cX11_lists 31 = .ok (.ifCond .ne 6, 3) := by decide +kernel
theorem d_X11_lists_34 : decode cX11_lists 34 = .ok (.bipush (-3), 2) := by decide +kernel
theorem d_X11_lists_36 : decode cX11_lists 36 = .ok (.ireturn, 1) := by decide +kernel
theorem d_X11_lists_37 : decode cX11_lists 37 = .ok (.aload_n 0, 1) := by decide +kernel
theorem d_X11_lists_38 : decode cX11_lists 38 = .ok (.getfield 71, 3) := by decide +kernel
theorem d_X11_lists_41 : decode cX11_lists 41 = .ok (.aload_n 0, 1) := by decide +kernel
theorem d_X11_lists_42 : decode cX11_lists 42 = .ok (.getfield 19, 3) := by decide +kernel
theorem d_X11_lists_45 : decode cX11_lists 45 = .ok (.aload_n 0, 1) := by decide +kernel
theorem d_X11_lists_46 : decode cX11_lists 46 = .ok (.getfield 19, 3) := by decide +kernel
theorem d_X11_lists_49 : decode cX11_lists 49 = .ok (.aload_n 0, 1) := by decide +kernel
theorem d_X11_lists_50 : decode cX11_lists 50 = .ok (.getfield 26, 3) := by decide +kernel
theorem d_X11_lists_53 : decode cX11_lists 53 = .ok (.iload_n 2, 1) := by decide +kernel
theorem d_X11_lists_54 : decode cX11_lists 54 = .ok (.invokevirtual 172, 3) := by decide +kernel
theorem d_X11_lists_57 : decode cX11_lists 57 = .ok (.invokevirtual 282, 3) := by decide +kernel
theorem d_X11_lists_60 : decode cX11_lists 60 = .ok (.aload_n 0, 1) := by decide +kernel
theorem d_X11_lists_61 : decode cX11_lists 61 = .ok (.getfield 71, 3) := by decide +kernel
theorem d_X11_lists_64 : decode cX11_lists 64 = .ok (.getfield 286, 3) := by decide +kernel
theorem d_X11_lists_67 : decode cX11_lists 67 = .ok (.aload_n 3, 1) := by decide +kernel
theorem d_X11_lists_68 : decode cX11_lists 68 = .ok (.getfield 214, 3) := by decide +kernel
theorem d_X11_lists_71 : decode cX11_lists 71 = .ok (.invokestatic 348, 3) := by decide +kernel
theorem d_X11_lists_74 : decode cX11_lists 74 = .ok (.istore 4, 2) := by decide +kernel
theorem d_X11_lists_76 : decode cX11_lists 76 = .ok (.iconst 0, 1) := by decide +kernel
theorem d_X11_lists_77 : decode cX11_lists 77 = .ok (.istore 5, 2) := by decide +kernel
theorem d_X11_lists_79 : decode cX11_lists 79 = .ok (.iload 5, 2) := by decide +kernel
theorem d_X11_lists_81 : decode cX11_lists 81 = .ok (.iload 4, 2) := by decide +kernel
theorem d_X11_lists_83 : decode cX11_lists 83 = .ok (.if_icmp .ge 26, 3) := by decide +kernel
theorem d_X11_lists_86 : decode cX11_lists 86 = .ok (.aload_n 3, 1) := by decide +kernel
theorem d_X11_lists_87 : decode cX11_lists 87 = .ok (.iload 5, 2) := by decide +kernel
theorem d_X11_lists_89 : decode cX11_lists 89 = .ok (.aload_n 0, 1) := by decide +kernel
theorem d_X11_lists_90 : decode cX11_lists 90 = .ok (.getfield 71, 3) := by decide +kernel
theorem d_X11_lists_93 : decode cX11_lists 93 = .ok (.iload 5, 2) := by decide +kernel
theorem d_X11_lists_95 : decode cX11_lists 95 = .ok (.invokevirtual 289, 3) := by decide +kernel
theorem d_X11_lists_98 : decode cX11_lists 98 = .ok (.i2l, 1) := by decide +kernel
theorem d_X11_lists_99 : decode cX11_lists 99 = .ok (.invokevirtual 344, 3) := by decide +kernel
theorem d_X11_lists_102 : decode cX11_lists 102 = .ok (.pop2, 1) := by decide +kernel
theorem d_X11_lists_103 : decode cX11_lists 103 = .ok (.iinc 5 1, 3) := by decide +kernel
theorem d_X11_lists_106 : decode cX11_lists 106 = .ok (.goto (-27), 3) := by decide +kernel
theorem d_X11_lists_109 : decode cX11_lists 109 = .ok (.iload 4, 2) := by decide +kernel
theorem d_X11_lists_111 : decode cX11_lists 111 = .ok (.ireturn, 1) := by decide +kernel
def F_X11_lists_b79 : Nat → Nat → Nat → Int32 → Int32 → xH → Option (Int32 × xH)
  | 0, _, _, _, _, _ => none
  | n + 1, x0, x3, x4, x5, h => if x4 ≤ x5 then some (x4, h) else (fR h x0 10 10).bind fun v90 => (rc h v90 4).bind fun _ => (F_X5_noteAt v90 x5 h).bind fun z95 => (rc z95.2 x3 7).bind fun _ => (F_X8_put x3 x5 z95.1.toInt64 z95.2).bind fun z99 => F_X11_lists_b79 n x0 x3 x4 (x5 + 1) z99.2
theorem R_X11_lists_b79 {Γ : xG} {l : Launch} {d : Nat} {Q : Option Value → xH → Prop} {r : Int32} {h' : xH} (hdp : 7 ≤ d) (hq : Q (some (.int r)) h') : ∀ (n : Nat) (x0 : Nat) (x3 : Nat) (x4 : Int32) (x5 : Int32) (h : xH), F_X11_lists_b79 n x0 x3 x4 x5 h = some (r, h') → Gd Γ l d m_X11_lists 79 [.ref x0, xhole, xhole, .ref x3, .int x4, .int x5] [] h 0 0 Q := by
  intro n
  induction n with
  | zero => intro x0 x3 x4 x5 h hF; cases hF
  | succ n ih =>
  intro x0 x3 x4 x5 h hF
  rw [F_X11_lists_b79] at hF
  refine g_iload d_X11_lists_79 rfl ?_
  refine g_iload d_X11_lists_81 rfl ?_
  refine g_icmp_ge 109 d_X11_lists_83 rfl (fun c83 => ?_) (fun c83 => ?_)
  · have hF := x_t hF c83
    refine g_iload d_X11_lists_109 rfl ?_
    obtain ⟨rfl, rfl⟩ := x_inj hF
    exact g_iret d_X11_lists_111 rfl hq
  · have hF := x_f hF c83
    refine g_aloadn d_X11_lists_86 rfl ?_
    refine g_iload d_X11_lists_87 rfl ?_
    refine g_aloadn d_X11_lists_89 rfl ?_
    obtain ⟨v90, e90, hF⟩ := Option.bind_eq_some_iff.mp hF
    refine q_fR d_X11_lists_90 f_X11_71 e90 ?_
    refine g_iload d_X11_lists_93 rfl ?_
    obtain ⟨_, g95, hF⟩ := Option.bind_eq_some_iff.mp hF
    obtain ⟨⟨r95, h95⟩, e95, hF⟩ := Option.bind_eq_some_iff.mp hF
    try dsimp only at hF
    refine q_callV [.int x5] [.int x5, .ref x3] rfl d_X11_lists_95 v_X11_289 (by omega) rfl (Nat.le_of_ble_eq_true rfl) (rc_rc g95 (by decide) rfl) (R_X5_noteAt _ _ _ (by omega) e95) ?_
    refine g_i2l d_X11_lists_98 ?_
    obtain ⟨_, g99, hF⟩ := Option.bind_eq_some_iff.mp hF
    obtain ⟨⟨r99, h99⟩, e99, hF⟩ := Option.bind_eq_some_iff.mp hF
    try dsimp only at hF
    refine q_callV [.int x5, .long (r95.toInt64)] [] rfl d_X11_lists_99 v_X11_344 (by omega) rfl (Nat.le_of_ble_eq_true rfl) (rc_rc g99 (by decide) rfl) (R_X8_put _ _ _ _ (by omega) e99) ?_
    refine g_pop2l d_X11_lists_102 rfl ?_
    refine q_iinc (1) [.ref x0, xhole, xhole, .ref x3, .int x4, .int (x5 + 1)] d_X11_lists_103 ic_1 rfl (by decide) rfl ?_
    refine g_goto 79 d_X11_lists_106 rfl ?_
    exact q_to (xs_r (xs_h (xs_h (xs_r (xs_r (xs_r xs_n)))))) (ih _ _ _ _ _ hF)
def F_X11_lists (x0 : Nat) (x1 : Int32) (x2 : Int32) (h : xH) : Option (Int32 × xH) := (rc h x0 10).bind fun _ => (F_X11_trayAt x0 x1 h).bind fun z2 => (match z2.1 with | none => some ((-2), z2.2) | some q7 => (fI z2.2 q7 7 1).bind fun v14 => if 0 ≤ v14 then (fR z2.2 x0 10 1).bind fun v24 => (rc z2.2 v24 9).bind fun _ => (F_X10_isPeople v24 x2 z2.2).bind fun z28 => if ¬ z28.1 = 0 then (fR z28.2 x0 10 10).bind fun v38 => (fR z28.2 x0 10 1).bind fun v42 => (fR z28.2 x0 10 1).bind fun v46 => (fR z28.2 x0 10 2).bind fun v50 => (rc z28.2 v46 9).bind fun _ => (F_X10_heardByAll v46 v50 x2 z28.2).bind fun z54 => (rc z54.2 v38 4).bind fun _ => (F_X5_findLongest v38 v42 z54.1 z54.2).bind fun z57 => (fR z57.2 x0 10 10).bind fun v61 => (fI z57.2 v61 4 1).bind fun v64 => (fI z57.2 q7 7 1).bind fun v68 => (F_J9_min_7cf53 v64 v68 z57.2).bind fun z71 => F_X11_lists_b79 FU x0 q7 z71.1 0 z71.2 else some ((-3), z28.2) else some ((-6), z2.2))
theorem R_X11_lists {Γ : xG} {l : Launch} {d : Nat} {r : Int32} {h' : xH} (x0 : Nat) (x1 : Int32) (x2 : Int32) (h : xH) (hdp : 7 ≤ d) (hF : F_X11_lists x0 x1 x2 h = some (r, h')) : Gm Γ l d 0 0 m_X11_lists [.ref x0, .int x1, .int x2] h (fun a u => a = some (.int r) ∧ u = h') := by
  refine Gm.of pn_X11 (Nat.le_of_ble_eq_true rfl) ?_
  show Gd Γ l d m_X11_lists 0 [.ref x0, .int x1, .int x2, xhole, xhole, xhole] [] h 0 0 _
  generalize hQ : (fun (a : Option Value) (u : xH) => a = some (.int r) ∧ u = h') = Q
  have hq : Q (some (.int r)) h' := by rw [← hQ]; exact ⟨rfl, rfl⟩
  clear hQ
  unfold F_X11_lists at hF
  refine g_aloadn d_X11_lists_0 rfl ?_
  refine g_iloadn d_X11_lists_1 rfl ?_
  obtain ⟨_, g2, hF⟩ := Option.bind_eq_some_iff.mp hF
  obtain ⟨⟨r2, h2⟩, e2, hF⟩ := Option.bind_eq_some_iff.mp hF
  try dsimp only at hF
  refine q_callV [.int x1] [] rfl d_X11_lists_2 v_X11_210 (by omega) rfl (Nat.le_of_ble_eq_true rfl) (rc_rc g2 (by decide) rfl) (R_X11_trayAt _ _ _ (by omega) e2) ?_
  refine q_astorenQ [.ref x0, .int x1, .int x2, va_rf (r2), xhole, xhole] d_X11_lists_5 (by decide) rfl ?_
  refine q_aloadnQ d_X11_lists_6 rfl ?_
  cases r2 with
  | none =>
    try dsimp only at hF
    refine g_ifnonnullN d_X11_lists_7 ?_
    refine g_bi (-2) d_X11_lists_10 bi_m2 ?_
    obtain ⟨rfl, rfl⟩ := x_inj hF
    exact g_iret d_X11_lists_12 rfl hq
  | some q7 =>
    try dsimp only at hF
    refine g_ifnonnull 13 d_X11_lists_7 rfl ?_
    refine g_aloadn d_X11_lists_13 rfl ?_
    obtain ⟨v14, e14, hF⟩ := Option.bind_eq_some_iff.mp hF
    refine q_fI d_X11_lists_14 f_X11_214 e14 ?_
    refine g_if_ge 23 d_X11_lists_17 rfl (fun c17 => ?_) (fun c17 => ?_)
    · have hF := x_t hF c17
      refine g_aloadn d_X11_lists_23 rfl ?_
      obtain ⟨v24, e24, hF⟩ := Option.bind_eq_some_iff.mp hF
      refine q_fR d_X11_lists_24 f_X11_19 e24 ?_
      refine g_iloadn d_X11_lists_27 rfl ?_
      obtain ⟨_, g28, hF⟩ := Option.bind_eq_some_iff.mp hF
      obtain ⟨⟨r28, h28⟩, e28, hF⟩ := Option.bind_eq_some_iff.mp hF
      try dsimp only at hF
      refine q_callV [.int x2] [] rfl d_X11_lists_28 v_X11_169 (by omega) rfl (Nat.le_of_ble_eq_true rfl) (rc_rc g28 (by decide) rfl) (R_X10_isPeople _ _ _ (by omega) e28) ?_
      refine g_if_ne 37 d_X11_lists_31 rfl (fun c31 => ?_) (fun c31 => ?_)
      · have hF := x_t hF c31
        refine g_aloadn d_X11_lists_37 rfl ?_
        obtain ⟨v38, e38, hF⟩ := Option.bind_eq_some_iff.mp hF
        refine q_fR d_X11_lists_38 f_X11_71 e38 ?_
        refine g_aloadn d_X11_lists_41 rfl ?_
        obtain ⟨v42, e42, hF⟩ := Option.bind_eq_some_iff.mp hF
        refine q_fR d_X11_lists_42 f_X11_19 e42 ?_
        refine g_aloadn d_X11_lists_45 rfl ?_
        obtain ⟨v46, e46, hF⟩ := Option.bind_eq_some_iff.mp hF
        refine q_fR d_X11_lists_46 f_X11_19 e46 ?_
        refine g_aloadn d_X11_lists_49 rfl ?_
        obtain ⟨v50, e50, hF⟩ := Option.bind_eq_some_iff.mp hF
        refine q_fR d_X11_lists_50 f_X11_26 e50 ?_
        refine g_iloadn d_X11_lists_53 rfl ?_
        obtain ⟨_, g54, hF⟩ := Option.bind_eq_some_iff.mp hF
        obtain ⟨⟨r54, h54⟩, e54, hF⟩ := Option.bind_eq_some_iff.mp hF
        try dsimp only at hF
        refine q_callV [.ref v50, .int x2] [.ref v42, .ref v38] rfl d_X11_lists_54 v_X11_172 (by omega) rfl (Nat.le_of_ble_eq_true rfl) (rc_rc g54 (by decide) rfl) (R_X10_heardByAll _ _ _ _ (by omega) e54) ?_
        obtain ⟨_, g57, hF⟩ := Option.bind_eq_some_iff.mp hF
        obtain ⟨⟨r57, h57⟩, e57, hF⟩ := Option.bind_eq_some_iff.mp hF
        try dsimp only at hF
        refine q_callV [.ref v42, .int (r54)] [] rfl d_X11_lists_57 v_X11_282 (by omega) rfl (Nat.le_of_ble_eq_true rfl) (rc_rc g57 (by decide) rfl) (R_X5_findLongest _ _ _ _ (by omega) e57) ?_
        refine g_aloadn d_X11_lists_60 rfl ?_
        obtain ⟨v61, e61, hF⟩ := Option.bind_eq_some_iff.mp hF
        refine q_fR d_X11_lists_61 f_X11_71 e61 ?_
        obtain ⟨v64, e64, hF⟩ := Option.bind_eq_some_iff.mp hF
        refine q_fI d_X11_lists_64 f_X11_286 e64 ?_
        refine g_aloadn d_X11_lists_67 rfl ?_
        obtain ⟨v68, e68, hF⟩ := Option.bind_eq_some_iff.mp hF
        refine q_fI d_X11_lists_68 f_X11_214 e68 ?_
        obtain ⟨⟨r71, h71⟩, e71, hF⟩ := Option.bind_eq_some_iff.mp hF
        try dsimp only at hF
        refine q_callS [.int v64, .int v68] [] rfl d_X11_lists_71 s_X11_348 (by omega) rfl (Nat.le_of_ble_eq_true rfl) (R_J9_min_7cf53 _ _ _ (by omega) e71) ?_
        refine q_istore [.ref x0, .int x1, .int x2, .ref q7, .int (r71), xhole] d_X11_lists_74 (by decide) rfl ?_
        refine g_ic (0) d_X11_lists_76 ic_0 ?_
        refine q_istore [.ref x0, .int x1, .int x2, .ref q7, .int (r71), .int 0] d_X11_lists_77 (by decide) rfl ?_
        exact q_to (xs_r (xs_h (xs_h (xs_r (xs_r (xs_r xs_n)))))) (R_X11_lists_b79 hdp hq FU _ _ _ _ _ hF)
      · have hF := x_f hF (not_not_intro c31)
        refine g_bi (-3) d_X11_lists_34 bi_m3 ?_
        obtain ⟨rfl, rfl⟩ := x_inj hF
        exact g_iret d_X11_lists_36 rfl hq
    · have hF := x_f hF c17
      refine g_bi (-6) d_X11_lists_20 bi_m6 ?_
      obtain ⟨rfl, rfl⟩ := x_inj hF
      exact g_iret d_X11_lists_22 rfl hq
theorem d_X11_image_0 : decode cX11_image 0 = .ok (.iload_n 1, 1) := by decide +kernel
theorem d_X11_image_1 : decode cX11_image 1 = .ok (.ifCond .lt 8, 3) := by decide +kernel
theorem d_X11_image_4 : decode cX11_image 4 = .ok (.iload_n 1, 1) := by decide +kernel
theorem d_X11_image_5 : decode cX11_image 5 = .ok (.iconst 2, 1) := by decide +kernel
theorem d_X11_image_6 : decode cX11_image 6 = .ok (.if_icmp .lt 6, 3) := by decide +kernel
theorem d_X11_image_9 : decode cX11_image 9 = .ok (.bipush (-2), 2) := by decide +kernel
theorem d_X11_image_11 : decode cX11_image 11 = .ok (.ireturn, 1) := by decide +kernel
theorem d_X11_image_12 : decode cX11_image 12 = .ok (.aload_n 0, 1) := by decide +kernel
theorem d_X11_image_13 : decode cX11_image 13 = .ok (.getfield 46, 3) := by decide +kernel
theorem d_X11_image_16 : decode cX11_image 16 = .ok (.iload_n 1, 1) := by decide +kernel
theorem d_X11_image_17 : decode cX11_image 17 = .ok (.aload_n 0, 1) := by decide +kernel
theorem d_X11_image_18 : decode cX11_image 18 = .ok (.getfield 19, 3) := by decide +kernel
theorem d_X11_image_21 : decode cX11_image 21 = .ok (.aastore, 1) := by decide +kernel
theorem d_X11_image_22 : decode cX11_image 22 = .ok (.aload_n 0, 1) := by decide +kernel
theorem d_X11_image_23 : decode cX11_image 23 = .ok (.getfield 50, 3) := by decide +kernel
theorem d_X11_image_26 : decode cX11_image 26 = .ok (.iload_n 1, 1) := by decide +kernel
theorem d_X11_image_27 : decode cX11_image 27 = .ok (.aaload, 1) := by decide +kernel
theorem d_X11_image_28 : decode cX11_image 28 = .ok (.aload_n 0, 1) := by decide +kernel
theorem d_X11_image_29 : decode cX11_image 29 = .ok (.getfield 26, 3) := by decide +kernel
theorem d_X11_image_32 : decode cX11_image 32 = .ok (.invokevirtual 104, 3) := by decide +kernel
theorem d_X11_image_35 : decode cX11_image 35 = .ok (.iconst 0, 1) := by decide +kernel
theorem d_X11_image_36 : decode cX11_image 36 = .ok (.ireturn, 1) := by decide +kernel
def F_X11_image (x0 : Nat) (x1 : Int32) (h : xH) : Option (Int32 × xH) := if x1 < 0 then some ((-2), h) else if x1 < ((2 : Int32)) then (fR h x0 10 6).bind fun v13 => (fR h x0 10 1).bind fun v18 => (sR h v13 x1 v18).bind fun h21 => (fR h21 x0 10 7).bind fun v23 => (aR h21 v23 x1).bind fun v27 => (fR h21 x0 10 2).bind fun v29 => (rc h21 v27 5).bind fun _ => (F_X6_copyFrom v27 v29 h21).bind fun z32 => some (0, z32.2) else some ((-2), h)
theorem R_X11_image {Γ : xG} {l : Launch} {d : Nat} {r : Int32} {h' : xH} (x0 : Nat) (x1 : Int32) (h : xH) (hdp : 2 ≤ d) (hF : F_X11_image x0 x1 h = some (r, h')) : Gm Γ l d 0 0 m_X11_image [.ref x0, .int x1] h (fun a u => a = some (.int r) ∧ u = h') := by
  refine Gm.of pn_X11 (Nat.le_of_ble_eq_true rfl) ?_
  show Gd Γ l d m_X11_image 0 [.ref x0, .int x1] [] h 0 0 _
  generalize hQ : (fun (a : Option Value) (u : xH) => a = some (.int r) ∧ u = h') = Q
  have hq : Q (some (.int r)) h' := by rw [← hQ]; exact ⟨rfl, rfl⟩
  clear hQ
  unfold F_X11_image at hF
  refine g_iloadn d_X11_image_0 rfl ?_
  refine g_if_lt 9 d_X11_image_1 rfl (fun c1 => ?_) (fun c1 => ?_)
  · have hF := x_t hF c1
    refine g_bi (-2) d_X11_image_9 bi_m2 ?_
    obtain ⟨rfl, rfl⟩ := x_inj hF
    exact g_iret d_X11_image_11 rfl hq
  · have hF := x_f hF c1
    refine g_iloadn d_X11_image_4 rfl ?_
    refine g_ic (2) d_X11_image_5 ic_2 ?_
    refine g_icmp_lt 12 d_X11_image_6 rfl (fun c6 => ?_) (fun c6 => ?_)
    · have hF := x_t hF c6
      refine g_aloadn d_X11_image_12 rfl ?_
      obtain ⟨v13, e13, hF⟩ := Option.bind_eq_some_iff.mp hF
      refine q_fR d_X11_image_13 f_X11_46 e13 ?_
      refine g_iloadn d_X11_image_16 rfl ?_
      refine g_aloadn d_X11_image_17 rfl ?_
      obtain ⟨v18, e18, hF⟩ := Option.bind_eq_some_iff.mp hF
      refine q_fR d_X11_image_18 f_X11_19 e18 ?_
      obtain ⟨h21, e21, hF⟩ := Option.bind_eq_some_iff.mp hF
      refine q_sR d_X11_image_21 e21 ?_
      refine g_aloadn d_X11_image_22 rfl ?_
      obtain ⟨v23, e23, hF⟩ := Option.bind_eq_some_iff.mp hF
      refine q_fR d_X11_image_23 f_X11_50 e23 ?_
      refine g_iloadn d_X11_image_26 rfl ?_
      obtain ⟨v27, e27, hF⟩ := Option.bind_eq_some_iff.mp hF
      refine q_aR d_X11_image_27 e27 ?_
      refine g_aloadn d_X11_image_28 rfl ?_
      obtain ⟨v29, e29, hF⟩ := Option.bind_eq_some_iff.mp hF
      refine q_fR d_X11_image_29 f_X11_26 e29 ?_
      obtain ⟨_, g32, hF⟩ := Option.bind_eq_some_iff.mp hF
      obtain ⟨⟨r32, h32⟩, e32, hF⟩ := Option.bind_eq_some_iff.mp hF
      try dsimp only at hF
      refine q_callV [.ref v29] [] rfl d_X11_image_32 v_X11_104 (by omega) rfl (Nat.le_of_ble_eq_true rfl) (rc_rc g32 (by decide) rfl) (R_X6_copyFrom _ _ _ (by omega) e32) ?_
      refine g_ic (0) d_X11_image_35 ic_0 ?_
      obtain ⟨rfl, rfl⟩ := x_inj hF
      exact g_iret d_X11_image_36 rfl hq
    · have hF := x_f hF c6
      refine g_bi (-2) d_X11_image_9 bi_m2 ?_
      obtain ⟨rfl, rfl⟩ := x_inj hF
      exact g_iret d_X11_image_11 rfl hq
theorem d_X11_restore_0 : decode cX11_restore 0 = .ok (.iload_n 1, 1) := by decide +kernel
theorem d_X11_restore_1 : decode cX11_restore 1 = .ok (.ifCond .lt 8, 3) := by decide +kernel
theorem d_X11_restore_4 : decode cX11_restore 4 = .ok (.iload_n 1, 1) := by decide +kernel
theorem d_X11_restore_5 : decode cX11_restore 5 = .ok (.iconst 2, 1) := by decide +kernel
theorem d_X11_restore_6 : decode cX11_restore 6 = .ok (.if_icmp .lt 6, 3) := by decide +kernel
theorem d_X11_restore_9 : decode cX11_restore 9 = .ok (.bipush (-2), 2) := by decide +kernel
theorem d_X11_restore_11 : decode cX11_restore 11 = .ok (.ireturn, 1) := by decide +kernel
theorem d_X11_restore_12 : decode cX11_restore 12 = .ok (.aload_n 0, 1) := by decide +kernel
theorem d_X11_restore_13 : decode cX11_restore 13 = .ok (.getfield 46, 3) := by decide +kernel
theorem d_X11_restore_16 : decode cX11_restore 16 = .ok (.iload_n 1, 1) := by decide +kernel
theorem d_X11_restore_17 : decode cX11_restore 17 = .ok (.aaload, 1) := by decide +kernel
theorem d_X11_restore_18 : decode cX11_restore 18 = .ok (.astore_n 2, 1) := by decide +kernel
theorem d_X11_restore_19 : decode cX11_restore 19 = .ok (.aload_n 2, 1) := by decide +kernel
theorem d_X11_restore_20 : decode cX11_restore 20 = .ok (.ifnonnull 6, 3) := by decide +kernel
theorem d_X11_restore_23 : decode cX11_restore 23 = .ok (.bipush (-5), 2) := by decide +kernel
theorem d_X11_restore_25 : decode cX11_restore 25 = .ok (.ireturn, 1) := by decide +kernel
theorem d_X11_restore_26 : decode cX11_restore 26 = .ok (.aload_n 0, 1) := by decide +kernel
theorem d_X11_restore_27 : decode cX11_restore 27 = .ok (.aload_n 2, 1) := by decide +kernel
theorem d_X11_restore_28 : decode cX11_restore 28 = .ok (.putfield 19, 3) := by decide +kernel
theorem d_X11_restore_31 : decode cX11_restore 31 = .ok (.aload_n 0, 1) := by decide +kernel
theorem d_X11_restore_32 : decode cX11_restore 32 = .ok (.getfield 26, 3) := by decide +kernel
theorem d_X11_restore_35 : decode cX11_restore 35 = .ok (.aload_n 0, 1) := by decide +kernel
theorem d_X11_restore_36 : decode cX11_restore 36 = .ok (.getfield 50, 3) := by decide +kernel
theorem d_X11_restore_39 : decode cX11_restore 39 = .ok (.iload_n 1, 1) := by decide +kernel
theorem d_X11_restore_40 : decode cX11_restore 40 = .ok (.aaload, 1) := by decide +kernel
theorem d_X11_restore_41 : decode cX11_restore 41 = .ok (.invokevirtual 104, 3) := by decide +kernel
theorem d_X11_restore_44 : decode cX11_restore 44 = .ok (.aload_n 0, 1) := by decide +kernel
theorem d_X11_restore_45 : decode cX11_restore 45 = .ok (.getfield 36, 3) := by decide +kernel
theorem d_X11_restore_48 : decode cX11_restore 48 = .ok (.invokevirtual 108, 3) := by decide +kernel
theorem d_X11_restore_51 : decode cX11_restore 51 = .ok (.iconst 0, 1) := by decide +kernel
theorem d_X11_restore_52 : decode cX11_restore 52 = .ok (.ireturn, 1) := by decide +kernel
def F_X11_restore (x0 : Nat) (x1 : Int32) (h : xH) : Option (Int32 × xH) := if x1 < 0 then some ((-2), h) else if x1 < ((2 : Int32)) then (fR h x0 10 6).bind fun v13 => (aQ h v13 x1).bind fun v17 => (match v17 with | none => some ((-5), h) | some q20 => (wQ h x0 10 1 ((some q20))).bind fun h28 => (fR h28 x0 10 2).bind fun v32 => (fR h28 x0 10 7).bind fun v36 => (aR h28 v36 x1).bind fun v40 => (rc h28 v32 5).bind fun _ => (F_X6_copyFrom v32 v40 h28).bind fun z41 => (fR z41.2 x0 10 4).bind fun v45 => (rc z41.2 v45 1).bind fun _ => (F_X2_forget v45 z41.2).bind fun z48 => some (0, z48.2)) else some ((-2), h)
theorem R_X11_restore {Γ : xG} {l : Launch} {d : Nat} {r : Int32} {h' : xH} (x0 : Nat) (x1 : Int32) (h : xH) (hdp : 2 ≤ d) (hF : F_X11_restore x0 x1 h = some (r, h')) : Gm Γ l d 0 0 m_X11_restore [.ref x0, .int x1] h (fun a u => a = some (.int r) ∧ u = h') := by
  refine Gm.of pn_X11 (Nat.le_of_ble_eq_true rfl) ?_
  show Gd Γ l d m_X11_restore 0 [.ref x0, .int x1, xhole] [] h 0 0 _
  generalize hQ : (fun (a : Option Value) (u : xH) => a = some (.int r) ∧ u = h') = Q
  have hq : Q (some (.int r)) h' := by rw [← hQ]; exact ⟨rfl, rfl⟩
  clear hQ
  unfold F_X11_restore at hF
  refine g_iloadn d_X11_restore_0 rfl ?_
  refine g_if_lt 9 d_X11_restore_1 rfl (fun c1 => ?_) (fun c1 => ?_)
  · have hF := x_t hF c1
    refine g_bi (-2) d_X11_restore_9 bi_m2 ?_
    obtain ⟨rfl, rfl⟩ := x_inj hF
    exact g_iret d_X11_restore_11 rfl hq
  · have hF := x_f hF c1
    refine g_iloadn d_X11_restore_4 rfl ?_
    refine g_ic (2) d_X11_restore_5 ic_2 ?_
    refine g_icmp_lt 12 d_X11_restore_6 rfl (fun c6 => ?_) (fun c6 => ?_)
    · have hF := x_t hF c6
      refine g_aloadn d_X11_restore_12 rfl ?_
      obtain ⟨v13, e13, hF⟩ := Option.bind_eq_some_iff.mp hF
      refine q_fR d_X11_restore_13 f_X11_46 e13 ?_
      refine g_iloadn d_X11_restore_16 rfl ?_
      obtain ⟨v17, e17, hF⟩ := Option.bind_eq_some_iff.mp hF
      refine q_aQ d_X11_restore_17 e17 ?_
      refine q_astorenQ [.ref x0, .int x1, va_rf (v17)] d_X11_restore_18 (by decide) rfl ?_
      refine q_aloadnQ d_X11_restore_19 rfl ?_
      cases v17 with
      | none =>
        try dsimp only at hF
        refine g_ifnonnullN d_X11_restore_20 ?_
        refine g_bi (-5) d_X11_restore_23 bi_m5 ?_
        obtain ⟨rfl, rfl⟩ := x_inj hF
        exact g_iret d_X11_restore_25 rfl hq
      | some q20 =>
        try dsimp only at hF
        refine g_ifnonnull 26 d_X11_restore_20 rfl ?_
        refine g_aloadn d_X11_restore_26 rfl ?_
        refine g_aloadn d_X11_restore_27 rfl ?_
        obtain ⟨h28, e28, hF⟩ := Option.bind_eq_some_iff.mp hF
        refine q_wR d_X11_restore_28 (w_X11_19 _) (Or.inl ⟨_, rfl⟩) e28 ?_
        refine g_aloadn d_X11_restore_31 rfl ?_
        obtain ⟨v32, e32, hF⟩ := Option.bind_eq_some_iff.mp hF
        refine q_fR d_X11_restore_32 f_X11_26 e32 ?_
        refine g_aloadn d_X11_restore_35 rfl ?_
        obtain ⟨v36, e36, hF⟩ := Option.bind_eq_some_iff.mp hF
        refine q_fR d_X11_restore_36 f_X11_50 e36 ?_
        refine g_iloadn d_X11_restore_39 rfl ?_
        obtain ⟨v40, e40, hF⟩ := Option.bind_eq_some_iff.mp hF
        refine q_aR d_X11_restore_40 e40 ?_
        obtain ⟨_, g41, hF⟩ := Option.bind_eq_some_iff.mp hF
        obtain ⟨⟨r41, h41⟩, e41, hF⟩ := Option.bind_eq_some_iff.mp hF
        try dsimp only at hF
        refine q_callV [.ref v40] [] rfl d_X11_restore_41 v_X11_104 (by omega) rfl (Nat.le_of_ble_eq_true rfl) (rc_rc g41 (by decide) rfl) (R_X6_copyFrom _ _ _ (by omega) e41) ?_
        refine g_aloadn d_X11_restore_44 rfl ?_
        obtain ⟨v45, e45, hF⟩ := Option.bind_eq_some_iff.mp hF
        refine q_fR d_X11_restore_45 f_X11_36 e45 ?_
        obtain ⟨_, g48, hF⟩ := Option.bind_eq_some_iff.mp hF
        obtain ⟨⟨r48, h48⟩, e48, hF⟩ := Option.bind_eq_some_iff.mp hF
        try dsimp only at hF
        refine q_callV [] [] rfl d_X11_restore_48 v_X11_108 (by omega) rfl (Nat.le_of_ble_eq_true rfl) (rc_rc g48 (by decide) rfl) (R_X2_forget _ _ (by omega) e48) ?_
        refine g_ic (0) d_X11_restore_51 ic_0 ?_
        obtain ⟨rfl, rfl⟩ := x_inj hF
        exact g_iret d_X11_restore_52 rfl hq
    · have hF := x_f hF c6
      refine g_bi (-2) d_X11_restore_9 bi_m2 ?_
      obtain ⟨rfl, rfl⟩ := x_inj hF
      exact g_iret d_X11_restore_11 rfl hq
theorem d_X11_count_0 : decode cX11_count 0 = .ok (.iload_n 1, 1) := by decide +kernel
theorem d_X11_count_1 : decode cX11_count 1 = .ok (.tableswitch 135 0 9 #[55, 63, 71, 79, 87, 95, 103, 111, 119, 127], 55) := by decide +kernel
theorem d_X11_count_56 : decode cX11_count 56 = .ok (.aload_n 0, 1) := by decide +kernel
theorem d_X11_count_57 : decode cX11_count 57 = .ok (.getfield 19, 3) := by decide +kernel
theorem d_X11_count_60 : decode cX11_count 60 = .ok (.getfield 351, 3) := by decide +kernel
theorem d_X11_count_63 : decode cX11_count 63 = .ok (.ireturn, 1) := by decide +kernel
theorem d_X11_count_64 : decode cX11_count 64 = .ok (.aload_n 0, 1) := by decide +kernel
theorem d_X11_count_65 : decode cX11_count 65 = .ok (.getfield 19, 3) := by decide +kernel
theorem d_X11_count_68 : decode cX11_count 68 = .ok (.getfield 175, 3) := by decide +kernel
theorem d_X11_count_71 : decode cX11_count 71 = .ok (.ireturn, 1) := by decide +kernel
theorem d_X11_count_72 : decode cX11_count 72 = .ok (.aload_n 0, 1) := by decide +kernel
theorem d_X11_count_73 : decode cX11_count 73 = .ok (.getfield 19, 3) := by decide +kernel
theorem d_X11_count_76 : decode cX11_count 76 = .ok (.getfield 354, 3) := by decide +kernel
theorem d_X11_count_79 : decode cX11_count 79 = .ok (.ireturn, 1) := by decide +kernel
theorem d_X11_count_80 : decode cX11_count 80 = .ok (.aload_n 0, 1) := by decide +kernel
theorem d_X11_count_81 : decode cX11_count 81 = .ok (.getfield 19, 3) := by decide +kernel
theorem d_X11_count_84 : decode cX11_count 84 = .ok (.getfield 148, 3) := by decide +kernel
theorem d_X11_count_87 : decode cX11_count 87 = .ok (.ireturn, 1) := by decide +kernel
theorem d_X11_count_88 : decode cX11_count 88 = .ok (.aload_n 0, 1) := by decide +kernel
theorem d_X11_count_89 : decode cX11_count 89 = .ok (.getfield 26, 3) := by decide +kernel
theorem d_X11_count_92 : decode cX11_count 92 = .ok (.getfield 131, 3) := by decide +kernel
theorem d_X11_count_95 : decode cX11_count 95 = .ok (.ireturn, 1) := by decide +kernel
theorem d_X11_count_96 : decode cX11_count 96 = .ok (.aload_n 0, 1) := by decide +kernel
theorem d_X11_count_97 : decode cX11_count 97 = .ok (.getfield 26, 3) := by decide +kernel
theorem d_X11_count_100 : decode cX11_count 100 = .ok (.getfield 190, 3) := by decide +kernel
theorem d_X11_count_103 : decode cX11_count 103 = .ok (.ireturn, 1) := by decide +kernel
theorem d_X11_count_104 : decode cX11_count 104 = .ok (.aload_n 0, 1) := by decide +kernel
theorem d_X11_count_105 : decode cX11_count 105 = .ok (.getfield 19, 3) := by decide +kernel
theorem d_X11_count_108 : decode cX11_count 108 = .ok (.invokevirtual 357, 3) := by decide +kernel
theorem d_X11_count_111 : decode cX11_count 111 = .ok (.ireturn, 1) := by decide +kernel
theorem d_X11_count_112 : decode cX11_count 112 = .ok (.aload_n 0, 1) := by decide +kernel
theorem d_X11_count_113 : decode cX11_count 113 = .ok (.getfield 36, 3) := by decide +kernel
theorem d_X11_count_116 : decode cX11_count 116 = .ok (.getfield 203, 3) := by decide +kernel
theorem d_X11_count_119 : decode cX11_count 119 = .ok (.ireturn, 1) := by decide +kernel
theorem d_X11_count_120 : decode cX11_count 120 = .ok (.aload_n 0, 1) := by decide +kernel
theorem d_X11_count_121 : decode cX11_count 121 = .ok (.getfield 10, 3) := by decide +kernel
theorem d_X11_count_124 : decode cX11_count 124 = .ok (.getfield 86, 3) := by decide +kernel
theorem d_X11_count_127 : decode cX11_count 127 = .ok (.ireturn, 1) := by decide +kernel
theorem d_X11_count_128 : decode cX11_count 128 = .ok (.aload_n 0, 1) := by decide +kernel
theorem d_X11_count_129 : decode cX11_count 129 = .ok (.getfield 19, 3) := by decide +kernel
theorem d_X11_count_132 : decode cX11_count 132 = .ok (.getfield 111, 3) := by decide +kernel
theorem d_X11_count_135 : decode cX11_count 135 = .ok (.ireturn, 1) := by decide +kernel
theorem d_X11_count_136 : decode cX11_count 136 = .ok (.iconst (-1), 1) := by decide +kernel
theorem d_X11_count_137 : decode cX11_count 137 = .ok (.ireturn, 1) := by decide +kernel
def F_X11_count (x0 : Nat) (x1 : Int32) (h : xH) : Option (Int32 × xH) := if x1 = 0 then (fR h x0 10 1).bind fun v57 => (fI h v57 9 0).bind fun v60 => some (v60, h) else if x1 = 1 then (fR h x0 10 1).bind fun v65 => (fI h v65 9 2).bind fun v68 => some (v68, h) else if x1 = 2 then (fR h x0 10 1).bind fun v73 => (fI h v73 9 3).bind fun v76 => some (v76, h) else if x1 = 3 then (fR h x0 10 1).bind fun v81 => (fI h v81 9 4).bind fun v84 => some (v84, h) else if x1 = 4 then (fR h x0 10 2).bind fun v89 => (fI h v89 5 3).bind fun v92 => some (v92, h) else if x1 = 5 then (fR h x0 10 2).bind fun v97 => (fI h v97 5 4).bind fun v100 => some (v100, h) else if x1 = 6 then (fR h x0 10 1).bind fun v105 => (rc h v105 9).bind fun _ => (F_X10_countWays v105 h).bind fun z108 => some (z108.1, z108.2) else if x1 = 7 then (fR h x0 10 4).bind fun v113 => (fI h v113 1 2).bind fun v116 => some (v116, h) else if x1 = 8 then (fR h x0 10 0).bind fun v121 => (fI h v121 3 1).bind fun v124 => some (v124, h) else if x1 = 9 then (fR h x0 10 1).bind fun v129 => (fI h v129 9 1).bind fun v132 => some (v132, h) else some ((-1), h)
theorem R_X11_count {Γ : xG} {l : Launch} {d : Nat} {r : Int32} {h' : xH} (x0 : Nat) (x1 : Int32) (h : xH) (hdp : 2 ≤ d) (hF : F_X11_count x0 x1 h = some (r, h')) : Gm Γ l d 0 0 m_X11_count [.ref x0, .int x1] h (fun a u => a = some (.int r) ∧ u = h') := by
  refine Gm.of pn_X11 (Nat.le_of_ble_eq_true rfl) ?_
  show Gd Γ l d m_X11_count 0 [.ref x0, .int x1] [] h 0 0 _
  generalize hQ : (fun (a : Option Value) (u : xH) => a = some (.int r) ∧ u = h') = Q
  have hq : Q (some (.int r)) h' := by rw [← hQ]; exact ⟨rfl, rfl⟩
  clear hQ
  unfold F_X11_count at hF
  refine g_iloadn d_X11_count_0 rfl ?_
  rcases Classical.em (x1 = 0) with c1_0 | c1_0
  · have hF := x_t hF c1_0
    refine q_tabIn 56 d_X11_count_1 c1_0 (by decide) (by decide) rfl rfl ?_
    refine g_aloadn d_X11_count_56 rfl ?_
    obtain ⟨v57, e57, hF⟩ := Option.bind_eq_some_iff.mp hF
    refine q_fR d_X11_count_57 f_X11_19 e57 ?_
    obtain ⟨v60, e60, hF⟩ := Option.bind_eq_some_iff.mp hF
    refine q_fI d_X11_count_60 f_X11_351 e60 ?_
    obtain ⟨rfl, rfl⟩ := x_inj hF
    exact g_iret d_X11_count_63 rfl hq
  have hF := x_f hF c1_0
  rcases Classical.em (x1 = 1) with c1_1 | c1_1
  · have hF := x_t hF c1_1
    refine q_tabIn 64 d_X11_count_1 c1_1 (by decide) (by decide) rfl rfl ?_
    refine g_aloadn d_X11_count_64 rfl ?_
    obtain ⟨v65, e65, hF⟩ := Option.bind_eq_some_iff.mp hF
    refine q_fR d_X11_count_65 f_X11_19 e65 ?_
    obtain ⟨v68, e68, hF⟩ := Option.bind_eq_some_iff.mp hF
    refine q_fI d_X11_count_68 f_X11_175 e68 ?_
    obtain ⟨rfl, rfl⟩ := x_inj hF
    exact g_iret d_X11_count_71 rfl hq
  have hF := x_f hF c1_1
  rcases Classical.em (x1 = 2) with c1_2 | c1_2
  · have hF := x_t hF c1_2
    refine q_tabIn 72 d_X11_count_1 c1_2 (by decide) (by decide) rfl rfl ?_
    refine g_aloadn d_X11_count_72 rfl ?_
    obtain ⟨v73, e73, hF⟩ := Option.bind_eq_some_iff.mp hF
    refine q_fR d_X11_count_73 f_X11_19 e73 ?_
    obtain ⟨v76, e76, hF⟩ := Option.bind_eq_some_iff.mp hF
    refine q_fI d_X11_count_76 f_X11_354 e76 ?_
    obtain ⟨rfl, rfl⟩ := x_inj hF
    exact g_iret d_X11_count_79 rfl hq
  have hF := x_f hF c1_2
  rcases Classical.em (x1 = 3) with c1_3 | c1_3
  · have hF := x_t hF c1_3
    refine q_tabIn 80 d_X11_count_1 c1_3 (by decide) (by decide) rfl rfl ?_
    refine g_aloadn d_X11_count_80 rfl ?_
    obtain ⟨v81, e81, hF⟩ := Option.bind_eq_some_iff.mp hF
    refine q_fR d_X11_count_81 f_X11_19 e81 ?_
    obtain ⟨v84, e84, hF⟩ := Option.bind_eq_some_iff.mp hF
    refine q_fI d_X11_count_84 f_X11_148 e84 ?_
    obtain ⟨rfl, rfl⟩ := x_inj hF
    exact g_iret d_X11_count_87 rfl hq
  have hF := x_f hF c1_3
  rcases Classical.em (x1 = 4) with c1_4 | c1_4
  · have hF := x_t hF c1_4
    refine q_tabIn 88 d_X11_count_1 c1_4 (by decide) (by decide) rfl rfl ?_
    refine g_aloadn d_X11_count_88 rfl ?_
    obtain ⟨v89, e89, hF⟩ := Option.bind_eq_some_iff.mp hF
    refine q_fR d_X11_count_89 f_X11_26 e89 ?_
    obtain ⟨v92, e92, hF⟩ := Option.bind_eq_some_iff.mp hF
    refine q_fI d_X11_count_92 f_X11_131 e92 ?_
    obtain ⟨rfl, rfl⟩ := x_inj hF
    exact g_iret d_X11_count_95 rfl hq
  have hF := x_f hF c1_4
  rcases Classical.em (x1 = 5) with c1_5 | c1_5
  · have hF := x_t hF c1_5
    refine q_tabIn 96 d_X11_count_1 c1_5 (by decide) (by decide) rfl rfl ?_
    refine g_aloadn d_X11_count_96 rfl ?_
    obtain ⟨v97, e97, hF⟩ := Option.bind_eq_some_iff.mp hF
    refine q_fR d_X11_count_97 f_X11_26 e97 ?_
    obtain ⟨v100, e100, hF⟩ := Option.bind_eq_some_iff.mp hF
    refine q_fI d_X11_count_100 f_X11_190 e100 ?_
    obtain ⟨rfl, rfl⟩ := x_inj hF
    exact g_iret d_X11_count_103 rfl hq
  have hF := x_f hF c1_5
  rcases Classical.em (x1 = 6) with c1_6 | c1_6
  · have hF := x_t hF c1_6
    refine q_tabIn 104 d_X11_count_1 c1_6 (by decide) (by decide) rfl rfl ?_
    refine g_aloadn d_X11_count_104 rfl ?_
    obtain ⟨v105, e105, hF⟩ := Option.bind_eq_some_iff.mp hF
    refine q_fR d_X11_count_105 f_X11_19 e105 ?_
    obtain ⟨_, g108, hF⟩ := Option.bind_eq_some_iff.mp hF
    obtain ⟨⟨r108, h108⟩, e108, hF⟩ := Option.bind_eq_some_iff.mp hF
    try dsimp only at hF
    refine q_callV [] [] rfl d_X11_count_108 v_X11_357 (by omega) rfl (Nat.le_of_ble_eq_true rfl) (rc_rc g108 (by decide) rfl) (R_X10_countWays _ _ (by omega) e108) ?_
    obtain ⟨rfl, rfl⟩ := x_inj hF
    exact g_iret d_X11_count_111 rfl hq
  have hF := x_f hF c1_6
  rcases Classical.em (x1 = 7) with c1_7 | c1_7
  · have hF := x_t hF c1_7
    refine q_tabIn 112 d_X11_count_1 c1_7 (by decide) (by decide) rfl rfl ?_
    refine g_aloadn d_X11_count_112 rfl ?_
    obtain ⟨v113, e113, hF⟩ := Option.bind_eq_some_iff.mp hF
    refine q_fR d_X11_count_113 f_X11_36 e113 ?_
    obtain ⟨v116, e116, hF⟩ := Option.bind_eq_some_iff.mp hF
    refine q_fI d_X11_count_116 f_X11_203 e116 ?_
    obtain ⟨rfl, rfl⟩ := x_inj hF
    exact g_iret d_X11_count_119 rfl hq
  have hF := x_f hF c1_7
  rcases Classical.em (x1 = 8) with c1_8 | c1_8
  · have hF := x_t hF c1_8
    refine q_tabIn 120 d_X11_count_1 c1_8 (by decide) (by decide) rfl rfl ?_
    refine g_aloadn d_X11_count_120 rfl ?_
    obtain ⟨v121, e121, hF⟩ := Option.bind_eq_some_iff.mp hF
    refine q_fR d_X11_count_121 f_X11_10 e121 ?_
    obtain ⟨v124, e124, hF⟩ := Option.bind_eq_some_iff.mp hF
    refine q_fI d_X11_count_124 f_X11_86 e124 ?_
    obtain ⟨rfl, rfl⟩ := x_inj hF
    exact g_iret d_X11_count_127 rfl hq
  have hF := x_f hF c1_8
  rcases Classical.em (x1 = 9) with c1_9 | c1_9
  · have hF := x_t hF c1_9
    refine q_tabIn 128 d_X11_count_1 c1_9 (by decide) (by decide) rfl rfl ?_
    refine g_aloadn d_X11_count_128 rfl ?_
    obtain ⟨v129, e129, hF⟩ := Option.bind_eq_some_iff.mp hF
    refine q_fR d_X11_count_129 f_X11_19 e129 ?_
    obtain ⟨v132, e132, hF⟩ := Option.bind_eq_some_iff.mp hF
    refine q_fI d_X11_count_132 f_X11_111 e132 ?_
    obtain ⟨rfl, rfl⟩ := x_inj hF
    exact g_iret d_X11_count_135 rfl hq
  have hF := x_f hF c1_9
  refine g_tabOut 136 d_X11_count_1 (by have a0 := sw_ne c1_0 (k := 0) (by decide); have a1 := sw_ne c1_1 (k := 1) (by decide); have a2 := sw_ne c1_2 (k := 2) (by decide); have a3 := sw_ne c1_3 (k := 3) (by decide); have a4 := sw_ne c1_4 (k := 4) (by decide); have a5 := sw_ne c1_5 (k := 5) (by decide); have a6 := sw_ne c1_6 (k := 6) (by decide); have a7 := sw_ne c1_7 (k := 7) (by decide); have a8 := sw_ne c1_8 (k := 8) (by decide); have a9 := sw_ne c1_9 (k := 9) (by decide); omega) rfl ?_
  refine g_ic (-1) d_X11_count_136 ic_m1 ?_
  obtain ⟨rfl, rfl⟩ := x_inj hF
  exact g_iret d_X11_count_137 rfl hq
theorem d_X12_within_0 : decode cX12_within 0 = .ok (.lload_n 0, 1) := by decide +kernel
theorem d_X12_within_1 : decode cX12_within 1 = .ok (.lload_n 2, 1) := by decide +kernel
theorem d_X12_within_2 : decode cX12_within 2 = .ok (.lcmp, 1) := by decide +kernel
theorem d_X12_within_3 : decode cX12_within 3 = .ok (.ifCond .lt 14, 3) := by decide +kernel
theorem d_X12_within_6 : decode cX12_within 6 = .ok (.lload_n 0, 1) := by decide +kernel
theorem d_X12_within_7 : decode cX12_within 7 = .ok (.lload 4, 2) := by decide +kernel
theorem d_X12_within_9 : decode cX12_within 9 = .ok (.lcmp, 1) := by decide +kernel
theorem d_X12_within_10 : decode cX12_within 10 = .ok (.ifCond .gt 7, 3) := by decide +kernel
theorem d_X12_within_13 : decode cX12_within 13 = .ok (.iconst 1, 1) := by decide +kernel
theorem d_X12_within_14 : decode cX12_within 14 = .ok (.goto 4, 3) := by decide +kernel
theorem d_X12_within_17 : decode cX12_within 17 = .ok (.iconst 0, 1) := by decide +kernel
theorem d_X12_within_18 : decode cX12_within 18 = .ok (.ireturn, 1) := by decide +kernel
def F_X12_within (x0 : Int64) (x2 : Int64) (x4 : Int64) (h : xH) : Option (Int32 × xH) := if (lg_cmp x0 x2) < 0 then some (0, h) else if 0 < (lg_cmp x0 x4) then some (0, h) else some (1, h)
theorem R_X12_within {Γ : xG} {l : Launch} {d : Nat} {r : Int32} {h' : xH} (x0 : Int64) (x2 : Int64) (x4 : Int64) (h : xH) (hdp : 0 ≤ d) (hF : F_X12_within x0 x2 x4 h = some (r, h')) : Gm Γ l d 0 0 m_X12_within [.long x0, .long x2, .long x4] h (fun a u => a = some (.int r) ∧ u = h') := by
  refine Gm.of pn_X12 (Nat.le_of_ble_eq_true rfl) ?_
  show Gd Γ l d m_X12_within 0 [.long x0, xhole, .long x2, xhole, .long x4, xhole] [] h 0 0 _
  generalize hQ : (fun (a : Option Value) (u : xH) => a = some (.int r) ∧ u = h') = Q
  have hq : Q (some (.int r)) h' := by rw [← hQ]; exact ⟨rfl, rfl⟩
  clear hQ
  unfold F_X12_within at hF
  refine g_lloadn d_X12_within_0 rfl ?_
  refine g_lloadn d_X12_within_1 rfl ?_
  refine g_lcmp d_X12_within_2 ?_
  refine g_if_lt 17 d_X12_within_3 rfl (fun c3 => ?_) (fun c3 => ?_)
  · have hF := x_t hF c3
    refine g_ic (0) d_X12_within_17 ic_0 ?_
    obtain ⟨rfl, rfl⟩ := x_inj hF
    exact g_zret d_X12_within_18 rfl rfl hq
  · have hF := x_f hF c3
    refine g_lloadn d_X12_within_6 rfl ?_
    refine g_lload d_X12_within_7 rfl ?_
    refine g_lcmp d_X12_within_9 ?_
    refine g_if_gt 17 d_X12_within_10 rfl (fun c10 => ?_) (fun c10 => ?_)
    · have hF := x_t hF c10
      refine g_ic (0) d_X12_within_17 ic_0 ?_
      obtain ⟨rfl, rfl⟩ := x_inj hF
      exact g_zret d_X12_within_18 rfl rfl hq
    · have hF := x_f hF c10
      refine g_ic (1) d_X12_within_13 ic_1 ?_
      refine g_goto 18 d_X12_within_14 rfl ?_
      obtain ⟨rfl, rfl⟩ := x_inj hF
      exact g_zret d_X12_within_18 rfl rfl hq
theorem d_X12_plain_0 : decode cX12_plain 0 = .ok (.iconst 0, 1) := by decide +kernel
theorem d_X12_plain_1 : decode cX12_plain 1 = .ok (.istore_n 1, 1) := by decide +kernel
theorem d_X12_plain_2 : decode cX12_plain 2 = .ok (.iload_n 1, 1) := by decide +kernel
theorem d_X12_plain_3 : decode cX12_plain 3 = .ok (.sipush 1229, 3) := by decide +kernel
theorem d_X12_plain_6 : decode cX12_plain 6 = .ok (.if_icmp .ge 13, 3) := by decide +kernel
theorem d_X12_plain_9 : decode cX12_plain 9 = .ok (.aload_n 0, 1) := by decide +kernel
theorem d_X12_plain_10 : decode cX12_plain 10 = .ok (.iload_n 1, 1) := by decide +kernel
theorem d_X12_plain_11 : decode cX12_plain 11 = .ok (.iconst 0, 1) := by decide +kernel
theorem d_X12_plain_12 : decode cX12_plain 12 = .ok (.iastore, 1) := by decide +kernel
theorem d_X12_plain_13 : decode cX12_plain 13 = .ok (.iinc 1 1, 3) := by decide +kernel
theorem d_X12_plain_16 : decode cX12_plain 16 = .ok (.goto (-14), 3) := by decide +kernel
theorem d_X12_plain_19 : decode cX12_plain 19 = .ok (.aload_n 0, 1) := by decide +kernel
theorem d_X12_plain_20 : decode cX12_plain 20 = .ok (.iconst 1, 1) := by decide +kernel
theorem d_X12_plain_21 : decode cX12_plain 21 = .ok (.iconst 2, 1) := by decide +kernel
theorem d_X12_plain_22 : decode cX12_plain 22 = .ok (.iastore, 1) := by decide +kernel
theorem d_X12_plain_23 : decode cX12_plain 23 = .ok (.iconst 0, 1) := by decide +kernel
theorem d_X12_plain_24 : decode cX12_plain 24 = .ok (.istore_n 1, 1) := by decide +kernel
theorem d_X12_plain_25 : decode cX12_plain 25 = .ok (.iload_n 1, 1) := by decide +kernel
theorem d_X12_plain_26 : decode cX12_plain 26 = .ok (.bipush 6, 2) := by decide +kernel
theorem d_X12_plain_28 : decode cX12_plain 28 = .ok (.if_icmp .ge 16, 3) := by decide +kernel
theorem d_X12_plain_31 : decode cX12_plain 31 = .ok (.aload_n 0, 1) := by decide +kernel
theorem d_X12_plain_32 : decode cX12_plain 32 = .ok (.bipush 121, 2) := by decide +kernel
theorem d_X12_plain_34 : decode cX12_plain 34 = .ok (.iload_n 1, 1) := by decide +kernel
theorem d_X12_plain_35 : decode cX12_plain 35 = .ok (.iadd, 1) := by decide +kernel
theorem d_X12_plain_36 : decode cX12_plain 36 = .ok (.iconst (-1), 1) := by decide +kernel
theorem d_X12_plain_37 : decode cX12_plain 37 = .ok (.iastore, 1) := by decide +kernel
theorem d_X12_plain_38 : decode cX12_plain 38 = .ok (.iinc 1 1, 3) := by decide +kernel
theorem d_X12_plain_41 : decode cX12_plain 41 = .ok (.goto (-16), 3) := by decide +kernel
theorem d_X12_plain_44 : decode cX12_plain 44 = .ok (.return_, 1) := by decide +kernel
def F_X12_plain_b25 : Nat → Nat → Int32 → xH → Option (Unit × xH)
  | 0, _, _, _ => none
  | n + 1, x0, x1, h => if ((6 : Int32)) ≤ x1 then some ((), h) else (sI h x0 (((121 : Int32)) + x1) ((-1))).bind fun h37 => F_X12_plain_b25 n x0 (x1 + 1) h37
theorem R_X12_plain_b25 {Γ : xG} {l : Launch} {d : Nat} {Q : Option Value → xH → Prop} {r : Unit} {h' : xH} (hdp : 0 ≤ d) (hq : Q (none) h') : ∀ (n : Nat) (x0 : Nat) (x1 : Int32) (h : xH), F_X12_plain_b25 n x0 x1 h = some (r, h') → Gd Γ l d m_X12_plain 25 [.ref x0, .int x1] [] h 0 0 Q := by
  intro n
  induction n with
  | zero => intro x0 x1 h hF; cases hF
  | succ n ih =>
  intro x0 x1 h hF
  rw [F_X12_plain_b25] at hF
  refine g_iloadn d_X12_plain_25 rfl ?_
  refine g_bi (6) d_X12_plain_26 bi_6 ?_
  refine g_icmp_ge 44 d_X12_plain_28 rfl (fun c28 => ?_) (fun c28 => ?_)
  · have hF := x_t hF c28
    obtain ⟨rfl, rfl⟩ := x_inj hF
    exact g_vret d_X12_plain_44 rfl hq
  · have hF := x_f hF c28
    refine g_aloadn d_X12_plain_31 rfl ?_
    refine g_bi (121) d_X12_plain_32 bi_121 ?_
    refine g_iloadn d_X12_plain_34 rfl ?_
    refine g_iadd d_X12_plain_35 ?_
    refine g_ic (-1) d_X12_plain_36 ic_m1 ?_
    obtain ⟨h37, e37, hF⟩ := Option.bind_eq_some_iff.mp hF
    refine q_sI d_X12_plain_37 e37 ?_
    refine q_iinc (1) [.ref x0, .int (x1 + 1)] d_X12_plain_38 ic_1 rfl (by decide) rfl ?_
    refine g_goto 25 d_X12_plain_41 rfl ?_
    exact q_to (xs_r (xs_r xs_n)) (ih _ _ _ hF)
def F_X12_plain_b2 : Nat → Nat → Int32 → xH → Option (Unit × xH)
  | 0, _, _, _ => none
  | n + 1, x0, x1, h => if ((1229 : Int32)) ≤ x1 then (sI h x0 1 2).bind fun h22 => F_X12_plain_b25 FU x0 0 h22 else (sI h x0 x1 0).bind fun h12 => F_X12_plain_b2 n x0 (x1 + 1) h12
theorem R_X12_plain_b2 {Γ : xG} {l : Launch} {d : Nat} {Q : Option Value → xH → Prop} {r : Unit} {h' : xH} (hdp : 0 ≤ d) (hq : Q (none) h') : ∀ (n : Nat) (x0 : Nat) (x1 : Int32) (h : xH), F_X12_plain_b2 n x0 x1 h = some (r, h') → Gd Γ l d m_X12_plain 2 [.ref x0, .int x1] [] h 0 0 Q := by
  intro n
  induction n with
  | zero => intro x0 x1 h hF; cases hF
  | succ n ih =>
  intro x0 x1 h hF
  rw [F_X12_plain_b2] at hF
  refine g_iloadn d_X12_plain_2 rfl ?_
  refine g_si (1229) d_X12_plain_3 si_1229 ?_
  refine g_icmp_ge 19 d_X12_plain_6 rfl (fun c6 => ?_) (fun c6 => ?_)
  · have hF := x_t hF c6
    refine g_aloadn d_X12_plain_19 rfl ?_
    refine g_ic (1) d_X12_plain_20 ic_1 ?_
    refine g_ic (2) d_X12_plain_21 ic_2 ?_
    obtain ⟨h22, e22, hF⟩ := Option.bind_eq_some_iff.mp hF
    refine q_sI d_X12_plain_22 e22 ?_
    refine g_ic (0) d_X12_plain_23 ic_0 ?_
    refine q_istoren [.ref x0, .int 0] d_X12_plain_24 (by decide) rfl ?_
    exact q_to (xs_r (xs_r xs_n)) (R_X12_plain_b25 hdp hq FU _ _ _ hF)
  · have hF := x_f hF c6
    refine g_aloadn d_X12_plain_9 rfl ?_
    refine g_iloadn d_X12_plain_10 rfl ?_
    refine g_ic (0) d_X12_plain_11 ic_0 ?_
    obtain ⟨h12, e12, hF⟩ := Option.bind_eq_some_iff.mp hF
    refine q_sI d_X12_plain_12 e12 ?_
    refine q_iinc (1) [.ref x0, .int (x1 + 1)] d_X12_plain_13 ic_1 rfl (by decide) rfl ?_
    refine g_goto 2 d_X12_plain_16 rfl ?_
    exact q_to (xs_r (xs_r xs_n)) (ih _ _ _ hF)
def F_X12_plain (x0 : Nat) (h : xH) : Option (Unit × xH) := F_X12_plain_b2 FU x0 0 h
theorem R_X12_plain {Γ : xG} {l : Launch} {d : Nat} {r : Unit} {h' : xH} (x0 : Nat) (h : xH) (hdp : 0 ≤ d) (hF : F_X12_plain x0 h = some (r, h')) : Gm Γ l d 0 0 m_X12_plain [.ref x0] h (fun a u => a = none ∧ u = h') := by
  refine Gm.of pn_X12 (Nat.le_of_ble_eq_true rfl) ?_
  show Gd Γ l d m_X12_plain 0 [.ref x0, xhole] [] h 0 0 _
  generalize hQ : (fun (a : Option Value) (u : xH) => a = none ∧ u = h') = Q
  have hq : Q (none) h' := by rw [← hQ]; exact ⟨rfl, rfl⟩
  clear hQ
  unfold F_X12_plain at hF
  refine g_ic (0) d_X12_plain_0 ic_0 ?_
  refine q_istoren [.ref x0, .int 0] d_X12_plain_1 (by decide) rfl ?_
  exact q_to (xs_r (xs_r xs_n)) (R_X12_plain_b2 hdp hq FU _ _ _ hF)
theorem d_X12_feed_0 : decode cX12_feed 0 = .ok (.aload_n 0, 1) := by decide +kernel
theorem d_X12_feed_1 : decode cX12_feed 1 = .ok (.iconst 0, 1) := by decide +kernel
theorem d_X12_feed_2 : decode cX12_feed 2 = .ok (.putfield 1, 3) := by decide +kernel
theorem d_X12_feed_5 : decode cX12_feed 5 = .ok (.aload_n 0, 1) := by decide +kernel
theorem d_X12_feed_6 : decode cX12_feed 6 = .ok (.getfield 86, 3) := by decide +kernel
theorem d_X12_feed_9 : decode cX12_feed 9 = .ok (.bipush 20, 2) := by decide +kernel
theorem d_X12_feed_11 : decode cX12_feed 11 = .ok (.iadd, 1) := by decide +kernel
theorem d_X12_feed_12 : decode cX12_feed 12 = .ok (.sipush 900, 3) := by decide +kernel
theorem d_X12_feed_15 : decode cX12_feed 15 = .ok (.if_icmp .le 6, 3) := by decide +kernel
theorem d_X12_feed_18 : decode cX12_feed 18 = .ok (.bipush (-5), 2) := by decide +kernel
theorem d_X12_feed_20 : decode cX12_feed 20 = .ok (.ireturn, 1) := by decide +kernel
theorem d_X12_feed_21 : decode cX12_feed 21 = .ok (.iconst 0, 1) := by decide +kernel
theorem d_X12_feed_22 : decode cX12_feed 22 = .ok (.istore 6, 2) := by decide +kernel
theorem d_X12_feed_24 : decode cX12_feed 24 = .ok (.iload 6, 2) := by decide +kernel
theorem d_X12_feed_26 : decode cX12_feed 26 = .ok (.bipush 20, 2) := by decide +kernel
theorem d_X12_feed_28 : decode cX12_feed 28 = .ok (.if_icmp .ge 93, 3) := by decide +kernel
theorem d_X12_feed_31 : decode cX12_feed 31 = .ok (.iload 6, 2) := by decide +kernel
theorem d_X12_feed_33 : decode cX12_feed 33 = .ok (.iconst 4, 1) := by decide +kernel
theorem d_X12_feed_34 : decode cX12_feed 34 = .ok (.if_icmp .ge 7, 3) := by decide +kernel
theorem d_X12_feed_37 : decode cX12_feed 37 = .ok (.iload_n 1, 1) := by decide +kernel
theorem d_X12_feed_38 : decode cX12_feed 38 = .ok (.goto 39, 3) := by decide +kernel
theorem d_X12_feed_41 : decode cX12_feed 41 = .ok (.iload 6, 2) := by decide +kernel
theorem d_X12_feed_43 : decode cX12_feed 43 = .ok (.bipush 8, 2) := by decide +kernel
theorem d_X12_feed_45 : decode cX12_feed 45 = .ok (.if_icmp .ge 7, 3) := by decide +kernel
theorem d_X12_feed_48 : decode cX12_feed 48 = .ok (.iload_n 2, 1) := by decide +kernel
theorem d_X12_feed_49 : decode cX12_feed 49 = .ok (.goto 28, 3) := by decide +kernel
theorem d_X12_feed_52 : decode cX12_feed 52 = .ok (.iload 6, 2) := by decide +kernel
theorem d_X12_feed_54 : decode cX12_feed 54 = .ok (.bipush 12, 2) := by decide +kernel
theorem d_X12_feed_56 : decode cX12_feed 56 = .ok (.if_icmp .ge 7, 3) := by decide +kernel
theorem d_X12_feed_59 : decode cX12_feed 59 = .ok (.iload_n 3, 1) := by decide +kernel
theorem d_X12_feed_60 : decode cX12_feed 60 = .ok (.goto 17, 3) := by decide +kernel
theorem d_X12_feed_63 : decode cX12_feed 63 = .ok (.iload 6, 2) := by decide +kernel
theorem d_X12_feed_65 : decode cX12_feed 65 = .ok (.bipush 16, 2) := by decide +kernel
theorem d_X12_feed_67 : decode cX12_feed 67 = .ok (.if_icmp .ge 8, 3) := by decide +kernel
theorem d_X12_feed_70 : decode cX12_feed 70 = .ok (.iload 4, 2) := by decide +kernel
theorem d_X12_feed_72 : decode cX12_feed 72 = .ok (.goto 5, 3) := by decide +kernel
theorem d_X12_feed_75 : decode cX12_feed 75 = .ok (.iload 5, 2) := by decide +kernel
theorem d_X12_feed_77 : decode cX12_feed 77 = .ok (.istore 7, 2) := by decide +kernel
theorem d_X12_feed_79 : decode cX12_feed 79 = .ok (.aload_n 0, 1) := by decide +kernel
theorem d_X12_feed_80 : decode cX12_feed 80 = .ok (.getfield 21, 3) := by decide +kernel
theorem d_X12_feed_83 : decode cX12_feed 83 = .ok (.aload_n 0, 1) := by decide +kernel
theorem d_X12_feed_84 : decode cX12_feed 84 = .ok (.getfield 86, 3) := by decide +kernel
theorem d_X12_feed_87 : decode cX12_feed 87 = .ok (.iload 7, 2) := by decide +kernel
theorem d_X12_feed_89 : decode cX12_feed 89 = .ok (.bipush 24, 2) := by decide +kernel
theorem d_X12_feed_91 : decode cX12_feed 91 = .ok (.bipush 8, 2) := by decide +kernel
theorem d_X12_feed_93 : decode cX12_feed 93 = .ok (.iload 6, 2) := by decide +kernel
theorem d_X12_feed_95 : decode cX12_feed 95 = .ok (.iconst 4, 1) := by decide +kernel
theorem d_X12_feed_96 : decode cX12_feed 96 = .ok (.irem, 1) := by decide +kernel
theorem d_X12_feed_97 : decode cX12_feed 97 = .ok (.imul, 1) := by decide +kernel
theorem d_X12_feed_98 : decode cX12_feed 98 = .ok (.isub, 1) := by decide +kernel
theorem d_X12_feed_99 : decode cX12_feed 99 = .ok (.ishr, 1) := by decide +kernel
theorem d_X12_feed_100 : decode cX12_feed 100 = .ok (.sipush 255, 3) := by decide +kernel
theorem d_X12_feed_103 : decode cX12_feed 103 = .ok (.iand, 1) := by decide +kernel
theorem d_X12_feed_104 : decode cX12_feed 104 = .ok (.iastore, 1) := by decide +kernel
theorem d_X12_feed_105 : decode cX12_feed 105 = .ok (.aload_n 0, 1) := by decide +kernel
theorem d_X12_feed_106 : decode cX12_feed 106 = .ok (.dup, 1) := by decide +kernel
theorem d_X12_feed_107 : decode cX12_feed 107 = .ok (.getfield 86, 3) := by decide +kernel
theorem d_X12_feed_110 : decode cX12_feed 110 = .ok (.iconst 1, 1) := by decide +kernel
theorem d_X12_feed_111 : decode cX12_feed 111 = .ok (.iadd, 1) := by decide +kernel
theorem d_X12_feed_112 : decode cX12_feed 112 = .ok (.putfield 86, 3) := by decide +kernel
theorem d_X12_feed_115 : decode cX12_feed 115 = .ok (.iinc 6 1, 3) := by decide +kernel
theorem d_X12_feed_118 : decode cX12_feed 118 = .ok (.goto (-94), 3) := by decide +kernel
theorem d_X12_feed_121 : decode cX12_feed 121 = .ok (.aload_n 0, 1) := by decide +kernel
theorem d_X12_feed_122 : decode cX12_feed 122 = .ok (.getfield 86, 3) := by decide +kernel
theorem d_X12_feed_125 : decode cX12_feed 125 = .ok (.ireturn, 1) := by decide +kernel
def F_X12_feed_b77 (k24 : Nat → Int32 → Int32 → Int32 → Int32 → Int32 → Int32 → xH → Option (Int32 × xH)) (x0 : Nat) (x1 : Int32) (x2 : Int32) (x3 : Int32) (x4 : Int32) (x5 : Int32) (x6 : Int32) (s0 : Int32) (h : xH) : Option (Int32 × xH) := (fR h x0 11 3).bind fun v80 => (fI h x0 11 5).bind fun v84 => (sI h v80 v84 ((s0 >>> ((((24 : Int32)) - (((8 : Int32)) * (irm x6 4))) &&& 31)) &&& 255)).bind fun h104 => (fI h104 x0 11 5).bind fun v107 => (wI h104 x0 11 5 (v107 + 1)).bind fun h112 => k24 x0 x1 x2 x3 x4 x5 (x6 + 1) h112
theorem R_X12_feed_b77 {Γ : xG} {l : Launch} {d : Nat} {Q : Option Value → xH → Prop} {r : Int32} {h' : xH} {k24 : Nat → Int32 → Int32 → Int32 → Int32 → Int32 → Int32 → xH → Option (Int32 × xH)} (K24 : ∀ (x0 : Nat) (x1 : Int32) (x2 : Int32) (x3 : Int32) (x4 : Int32) (x5 : Int32) (x6 : Int32)  (h : xH), k24 x0 x1 x2 x3 x4 x5 x6 h = some (r, h') → Gd Γ l d m_X12_feed 24 [.ref x0, .int x1, .int x2, .int x3, .int x4, .int x5, .int x6, xhole] [] h 0 0 Q) (hdp : 0 ≤ d) (hq : Q (some (.int r)) h') : ∀ (x0 : Nat) (x1 : Int32) (x2 : Int32) (x3 : Int32) (x4 : Int32) (x5 : Int32) (x6 : Int32) (s0 : Int32) (h : xH), F_X12_feed_b77 k24 x0 x1 x2 x3 x4 x5 x6 s0 h = some (r, h') → Gd Γ l d m_X12_feed 77 [.ref x0, .int x1, .int x2, .int x3, .int x4, .int x5, .int x6, xhole] [.int s0] h 0 0 Q := by
  intro x0 x1 x2 x3 x4 x5 x6 s0 h hF
  unfold F_X12_feed_b77 at hF
  refine q_istore [.ref x0, .int x1, .int x2, .int x3, .int x4, .int x5, .int x6, .int s0] d_X12_feed_77 (by decide) rfl ?_
  refine g_aloadn d_X12_feed_79 rfl ?_
  obtain ⟨v80, e80, hF⟩ := Option.bind_eq_some_iff.mp hF
  refine q_fR d_X12_feed_80 f_X12_21 e80 ?_
  refine g_aloadn d_X12_feed_83 rfl ?_
  obtain ⟨v84, e84, hF⟩ := Option.bind_eq_some_iff.mp hF
  refine q_fI d_X12_feed_84 f_X12_86 e84 ?_
  refine g_iload d_X12_feed_87 rfl ?_
  refine g_bi (24) d_X12_feed_89 bi_24 ?_
  refine g_bi (8) d_X12_feed_91 bi_8 ?_
  refine g_iload d_X12_feed_93 rfl ?_
  refine g_ic (4) d_X12_feed_95 ic_4 ?_
  refine q_irem d_X12_feed_96 (by decide) ?_
  refine g_imul d_X12_feed_97 ?_
  refine g_isub d_X12_feed_98 ?_
  refine g_ishr d_X12_feed_99 ?_
  refine g_si (255) d_X12_feed_100 si_255 ?_
  refine g_iand d_X12_feed_103 ?_
  obtain ⟨h104, e104, hF⟩ := Option.bind_eq_some_iff.mp hF
  refine q_sI d_X12_feed_104 e104 ?_
  refine g_aloadn d_X12_feed_105 rfl ?_
  refine g_dup d_X12_feed_106 rfl ?_
  obtain ⟨v107, e107, hF⟩ := Option.bind_eq_some_iff.mp hF
  refine q_fI d_X12_feed_107 f_X12_86 e107 ?_
  refine g_ic (1) d_X12_feed_110 ic_1 ?_
  refine g_iadd d_X12_feed_111 ?_
  obtain ⟨h112, e112, hF⟩ := Option.bind_eq_some_iff.mp hF
  refine q_wI d_X12_feed_112 (w_X12_86 _) e112 ?_
  refine q_iinc (1) [.ref x0, .int x1, .int x2, .int x3, .int x4, .int x5, .int (x6 + 1), .int s0] d_X12_feed_115 ic_1 rfl (by decide) rfl ?_
  refine g_goto 24 d_X12_feed_118 rfl ?_
  exact q_to (xs_r (xs_r (xs_r (xs_r (xs_r (xs_r (xs_r (xs_h xs_n)))))))) (K24 _ _ _ _ _ _ _ _ hF)
def F_X12_feed_b24 : Nat → Nat → Int32 → Int32 → Int32 → Int32 → Int32 → Int32 → xH → Option (Int32 × xH)
  | 0, _, _, _, _, _, _, _, _ => none
  | n + 1, x0, x1, x2, x3, x4, x5, x6, h => if ((20 : Int32)) ≤ x6 then (fI h x0 11 5).bind fun v122 => some (v122, h) else if ((4 : Int32)) ≤ x6 then if ((8 : Int32)) ≤ x6 then if ((12 : Int32)) ≤ x6 then if ((16 : Int32)) ≤ x6 then F_X12_feed_b77 (F_X12_feed_b24 n) x0 x1 x2 x3 x4 x5 x6 x5 h else F_X12_feed_b77 (F_X12_feed_b24 n) x0 x1 x2 x3 x4 x5 x6 x4 h else F_X12_feed_b77 (F_X12_feed_b24 n) x0 x1 x2 x3 x4 x5 x6 x3 h else F_X12_feed_b77 (F_X12_feed_b24 n) x0 x1 x2 x3 x4 x5 x6 x2 h else F_X12_feed_b77 (F_X12_feed_b24 n) x0 x1 x2 x3 x4 x5 x6 x1 h
theorem R_X12_feed_b24 {Γ : xG} {l : Launch} {d : Nat} {Q : Option Value → xH → Prop} {r : Int32} {h' : xH} (hdp : 0 ≤ d) (hq : Q (some (.int r)) h') : ∀ (n : Nat) (x0 : Nat) (x1 : Int32) (x2 : Int32) (x3 : Int32) (x4 : Int32) (x5 : Int32) (x6 : Int32) (h : xH), F_X12_feed_b24 n x0 x1 x2 x3 x4 x5 x6 h = some (r, h') → Gd Γ l d m_X12_feed 24 [.ref x0, .int x1, .int x2, .int x3, .int x4, .int x5, .int x6, xhole] [] h 0 0 Q := by
  intro n
  induction n with
  | zero => intro x0 x1 x2 x3 x4 x5 x6 h hF; cases hF
  | succ n ih =>
  intro x0 x1 x2 x3 x4 x5 x6 h hF
  rw [F_X12_feed_b24] at hF
  refine g_iload d_X12_feed_24 rfl ?_
  refine g_bi (20) d_X12_feed_26 bi_20 ?_
  refine g_icmp_ge 121 d_X12_feed_28 rfl (fun c28 => ?_) (fun c28 => ?_)
  · have hF := x_t hF c28
    refine g_aloadn d_X12_feed_121 rfl ?_
    obtain ⟨v122, e122, hF⟩ := Option.bind_eq_some_iff.mp hF
    refine q_fI d_X12_feed_122 f_X12_86 e122 ?_
    obtain ⟨rfl, rfl⟩ := x_inj hF
    exact g_iret d_X12_feed_125 rfl hq
  · have hF := x_f hF c28
    refine g_iload d_X12_feed_31 rfl ?_
    refine g_ic (4) d_X12_feed_33 ic_4 ?_
    refine g_icmp_ge 41 d_X12_feed_34 rfl (fun c34 => ?_) (fun c34 => ?_)
    · have hF := x_t hF c34
      refine g_iload d_X12_feed_41 rfl ?_
      refine g_bi (8) d_X12_feed_43 bi_8 ?_
      refine g_icmp_ge 52 d_X12_feed_45 rfl (fun c45 => ?_) (fun c45 => ?_)
      · have hF := x_t hF c45
        refine g_iload d_X12_feed_52 rfl ?_
        refine g_bi (12) d_X12_feed_54 bi_12 ?_
        refine g_icmp_ge 63 d_X12_feed_56 rfl (fun c56 => ?_) (fun c56 => ?_)
        · have hF := x_t hF c56
          refine g_iload d_X12_feed_63 rfl ?_
          refine g_bi (16) d_X12_feed_65 bi_16 ?_
          refine g_icmp_ge 75 d_X12_feed_67 rfl (fun c67 => ?_) (fun c67 => ?_)
          · have hF := x_t hF c67
            refine g_iload d_X12_feed_75 rfl ?_
            exact q_to (xs_r (xs_r (xs_r (xs_r (xs_r (xs_r (xs_r (xs_h xs_n)))))))) (R_X12_feed_b77 ih hdp hq _ _ _ _ _ _ _ _ _ hF)
          · have hF := x_f hF c67
            refine g_iload d_X12_feed_70 rfl ?_
            refine g_goto 77 d_X12_feed_72 rfl ?_
            exact q_to (xs_r (xs_r (xs_r (xs_r (xs_r (xs_r (xs_r (xs_h xs_n)))))))) (R_X12_feed_b77 ih hdp hq _ _ _ _ _ _ _ _ _ hF)
        · have hF := x_f hF c56
          refine g_iloadn d_X12_feed_59 rfl ?_
          refine g_goto 77 d_X12_feed_60 rfl ?_
          exact q_to (xs_r (xs_r (xs_r (xs_r (xs_r (xs_r (xs_r (xs_h xs_n)))))))) (R_X12_feed_b77 ih hdp hq _ _ _ _ _ _ _ _ _ hF)
      · have hF := x_f hF c45
        refine g_iloadn d_X12_feed_48 rfl ?_
        refine g_goto 77 d_X12_feed_49 rfl ?_
        exact q_to (xs_r (xs_r (xs_r (xs_r (xs_r (xs_r (xs_r (xs_h xs_n)))))))) (R_X12_feed_b77 ih hdp hq _ _ _ _ _ _ _ _ _ hF)
    · have hF := x_f hF c34
      refine g_iloadn d_X12_feed_37 rfl ?_
      refine g_goto 77 d_X12_feed_38 rfl ?_
      exact q_to (xs_r (xs_r (xs_r (xs_r (xs_r (xs_r (xs_r (xs_h xs_n)))))))) (R_X12_feed_b77 ih hdp hq _ _ _ _ _ _ _ _ _ hF)
def F_X12_feed (x0 : Nat) (x1 : Int32) (x2 : Int32) (x3 : Int32) (x4 : Int32) (x5 : Int32) (h : xH) : Option (Int32 × xH) := (wI h x0 11 0 0).bind fun h2 => (fI h2 x0 11 5).bind fun v6 => if (v6 + 20) ≤ ((900 : Int32)) then F_X12_feed_b24 FU x0 x1 x2 x3 x4 x5 0 h2 else some ((-5), h2)
theorem R_X12_feed {Γ : xG} {l : Launch} {d : Nat} {r : Int32} {h' : xH} (x0 : Nat) (x1 : Int32) (x2 : Int32) (x3 : Int32) (x4 : Int32) (x5 : Int32) (h : xH) (hdp : 0 ≤ d) (hF : F_X12_feed x0 x1 x2 x3 x4 x5 h = some (r, h')) : Gm Γ l d 0 0 m_X12_feed [.ref x0, .int x1, .int x2, .int x3, .int x4, .int x5] h (fun a u => a = some (.int r) ∧ u = h') := by
  refine Gm.of pn_X12 (Nat.le_of_ble_eq_true rfl) ?_
  show Gd Γ l d m_X12_feed 0 [.ref x0, .int x1, .int x2, .int x3, .int x4, .int x5, xhole, xhole] [] h 0 0 _
  generalize hQ : (fun (a : Option Value) (u : xH) => a = some (.int r) ∧ u = h') = Q
  have hq : Q (some (.int r)) h' := by rw [← hQ]; exact ⟨rfl, rfl⟩
  clear hQ
  unfold F_X12_feed at hF
  refine g_aloadn d_X12_feed_0 rfl ?_
  refine g_ic (0) d_X12_feed_1 ic_0 ?_
  obtain ⟨h2, e2, hF⟩ := Option.bind_eq_some_iff.mp hF
  refine q_wI d_X12_feed_2 (w_X12_1 _) e2 ?_
  refine g_aloadn d_X12_feed_5 rfl ?_
  obtain ⟨v6, e6, hF⟩ := Option.bind_eq_some_iff.mp hF
  refine q_fI d_X12_feed_6 f_X12_86 e6 ?_
  refine g_bi (20) d_X12_feed_9 bi_20 ?_
  refine g_iadd d_X12_feed_11 ?_
  refine g_si (900) d_X12_feed_12 si_900 ?_
  refine g_icmp_le 21 d_X12_feed_15 rfl (fun c15 => ?_) (fun c15 => ?_)
  · have hF := x_t hF c15
    refine g_ic (0) d_X12_feed_21 ic_0 ?_
    refine q_istore [.ref x0, .int x1, .int x2, .int x3, .int x4, .int x5, .int 0, xhole] d_X12_feed_22 (by decide) rfl ?_
    exact q_to (xs_r (xs_r (xs_r (xs_r (xs_r (xs_r (xs_r (xs_h xs_n)))))))) (R_X12_feed_b24 hdp hq FU _ _ _ _ _ _ _ _ hF)
  · have hF := x_f hF c15
    refine g_bi (-5) d_X12_feed_18 bi_m5 ?_
    obtain ⟨rfl, rfl⟩ := x_inj hF
    exact g_iret d_X12_feed_20 rfl hq
theorem d_X12_see_0 : decode cX12_see 0 = .ok (.iload_n 1, 1) := by decide +kernel
theorem d_X12_see_1 : decode cX12_see 1 = .ok (.aload_n 0, 1) := by decide +kernel
theorem d_X12_see_2 : decode cX12_see 2 = .ok (.getfield 89, 3) := by decide +kernel
theorem d_X12_see_5 : decode cX12_see 5 = .ok (.if_icmp .ge 12, 3) := by decide +kernel
theorem d_X12_see_8 : decode cX12_see 8 = .ok (.aload_n 0, 1) := by decide +kernel
theorem d_X12_see_9 : decode cX12_see 9 = .ok (.getfield 21, 3) := by decide +kernel
theorem d_X12_see_12 : decode cX12_see 12 = .ok (.iload_n 1, 1) := by decide +kernel
theorem d_X12_see_13 : decode cX12_see 13 = .ok (.iaload, 1) := by decide +kernel
theorem d_X12_see_14 : decode cX12_see 14 = .ok (.goto 4, 3) := by decide +kernel
theorem d_X12_see_17 : decode cX12_see 17 = .ok (.iconst (-1), 1) := by decide +kernel
theorem d_X12_see_18 : decode cX12_see 18 = .ok (.ireturn, 1) := by decide +kernel
def F_X12_see (x0 : Nat) (x1 : Int32) (h : xH) : Option (Int32 × xH) := (fI h x0 11 8).bind fun v2 => if v2 ≤ x1 then some ((-1), h) else (fR h x0 11 3).bind fun v9 => (aI h v9 x1).bind fun v13 => some (v13, h)
theorem R_X12_see {Γ : xG} {l : Launch} {d : Nat} {r : Int32} {h' : xH} (x0 : Nat) (x1 : Int32) (h : xH) (hdp : 0 ≤ d) (hF : F_X12_see x0 x1 h = some (r, h')) : Gm Γ l d 0 0 m_X12_see [.ref x0, .int x1] h (fun a u => a = some (.int r) ∧ u = h') := by
  refine Gm.of pn_X12 (Nat.le_of_ble_eq_true rfl) ?_
  show Gd Γ l d m_X12_see 0 [.ref x0, .int x1] [] h 0 0 _
  generalize hQ : (fun (a : Option Value) (u : xH) => a = some (.int r) ∧ u = h') = Q
  have hq : Q (some (.int r)) h' := by rw [← hQ]; exact ⟨rfl, rfl⟩
  clear hQ
  unfold F_X12_see at hF
  refine g_iloadn d_X12_see_0 rfl ?_
  refine g_aloadn d_X12_see_1 rfl ?_
  obtain ⟨v2, e2, hF⟩ := Option.bind_eq_some_iff.mp hF
  refine q_fI d_X12_see_2 f_X12_89 e2 ?_
  refine g_icmp_ge 17 d_X12_see_5 rfl (fun c5 => ?_) (fun c5 => ?_)
  · have hF := x_t hF c5
    refine g_ic (-1) d_X12_see_17 ic_m1 ?_
    obtain ⟨rfl, rfl⟩ := x_inj hF
    exact g_iret d_X12_see_18 rfl hq
  · have hF := x_f hF c5
    refine g_aloadn d_X12_see_8 rfl ?_
    obtain ⟨v9, e9, hF⟩ := Option.bind_eq_some_iff.mp hF
    refine q_fR d_X12_see_9 f_X12_21 e9 ?_
    refine g_iloadn d_X12_see_12 rfl ?_
    obtain ⟨v13, e13, hF⟩ := Option.bind_eq_some_iff.mp hF
    refine q_aI d_X12_see_13 e13 ?_
    refine g_goto 18 d_X12_see_14 rfl ?_
    obtain ⟨rfl, rfl⟩ := x_inj hF
    exact g_iret d_X12_see_18 rfl hq
theorem d_X12_isSmall_0 : decode cX12_isSmall 0 = .ok (.iload_n 0, 1) := by decide +kernel
theorem d_X12_isSmall_1 : decode cX12_isSmall 1 = .ok (.bipush 97, 2) := by decide +kernel
theorem d_X12_isSmall_3 : decode cX12_isSmall 3 = .ok (.if_icmp .lt 13, 3) := by decide +kernel
theorem d_X12_isSmall_6 : decode cX12_isSmall 6 = .ok (.iload_n 0, 1) := by decide +kernel
theorem d_X12_isSmall_7 : decode cX12_isSmall 7 = .ok (.bipush 122, 2) := by decide +kernel
theorem d_X12_isSmall_9 : decode cX12_isSmall 9 = .ok (.if_icmp .gt 7, 3) := by decide +kernel
theorem d_X12_isSmall_12 : decode cX12_isSmall 12 = .ok (.iconst 1, 1) := by decide +kernel
theorem d_X12_isSmall_13 : decode cX12_isSmall 13 = .ok (.goto 4, 3) := by decide +kernel
theorem d_X12_isSmall_16 : decode cX12_isSmall 16 = .ok (.iconst 0, 1) := by decide +kernel
theorem d_X12_isSmall_17 : decode cX12_isSmall 17 = .ok (.ireturn, 1) := by decide +kernel
def F_X12_isSmall (x0 : Int32) (h : xH) : Option (Int32 × xH) := if x0 < ((97 : Int32)) then some (0, h) else if ((122 : Int32)) < x0 then some (0, h) else some (1, h)
theorem R_X12_isSmall {Γ : xG} {l : Launch} {d : Nat} {r : Int32} {h' : xH} (x0 : Int32) (h : xH) (hdp : 0 ≤ d) (hF : F_X12_isSmall x0 h = some (r, h')) : Gm Γ l d 0 0 m_X12_isSmall [.int x0] h (fun a u => a = some (.int r) ∧ u = h') := by
  refine Gm.of pn_X12 (Nat.le_of_ble_eq_true rfl) ?_
  show Gd Γ l d m_X12_isSmall 0 [.int x0] [] h 0 0 _
  generalize hQ : (fun (a : Option Value) (u : xH) => a = some (.int r) ∧ u = h') = Q
  have hq : Q (some (.int r)) h' := by rw [← hQ]; exact ⟨rfl, rfl⟩
  clear hQ
  unfold F_X12_isSmall at hF
  refine g_iloadn d_X12_isSmall_0 rfl ?_
  refine g_bi (97) d_X12_isSmall_1 bi_97 ?_
  refine g_icmp_lt 16 d_X12_isSmall_3 rfl (fun c3 => ?_) (fun c3 => ?_)
  · have hF := x_t hF c3
    refine g_ic (0) d_X12_isSmall_16 ic_0 ?_
    obtain ⟨rfl, rfl⟩ := x_inj hF
    exact g_zret d_X12_isSmall_17 rfl rfl hq
  · have hF := x_f hF c3
    refine g_iloadn d_X12_isSmall_6 rfl ?_
    refine g_bi (122) d_X12_isSmall_7 bi_122 ?_
    refine g_icmp_gt 16 d_X12_isSmall_9 rfl (fun c9 => ?_) (fun c9 => ?_)
    · have hF := x_t hF c9
      refine g_ic (0) d_X12_isSmall_16 ic_0 ?_
      obtain ⟨rfl, rfl⟩ := x_inj hF
      exact g_zret d_X12_isSmall_17 rfl rfl hq
    · have hF := x_f hF c9
      refine g_ic (1) d_X12_isSmall_12 ic_1 ?_
      refine g_goto 17 d_X12_isSmall_13 rfl ?_
      obtain ⟨rfl, rfl⟩ := x_inj hF
      exact g_zret d_X12_isSmall_17 rfl rfl hq
theorem d_X12_isDigit_0 : decode cX12_isDigit 0 = .ok (.iload_n 0, 1) := by decide +kernel
theorem d_X12_isDigit_1 : decode cX12_isDigit 1 = .ok (.bipush 48, 2) := by decide +kernel
theorem d_X12_isDigit_3 : decode cX12_isDigit 3 = .ok (.if_icmp .lt 13, 3) := by decide +kernel
theorem d_X12_isDigit_6 : decode cX12_isDigit 6 = .ok (.iload_n 0, 1) := by decide +kernel
theorem d_X12_isDigit_7 : decode cX12_isDigit 7 = .ok (.bipush 57, 2) := by decide +kernel
theorem d_X12_isDigit_9 : decode cX12_isDigit 9 = .ok (.if_icmp .gt 7, 3) := by decide +kernel
theorem d_X12_isDigit_12 : decode cX12_isDigit 12 = .ok (.iconst 1, 1) := by decide +kernel
theorem d_X12_isDigit_13 : decode cX12_isDigit 13 = .ok (.goto 4, 3) := by decide +kernel
theorem d_X12_isDigit_16 : decode cX12_isDigit 16 = .ok (.iconst 0, 1) := by decide +kernel
theorem d_X12_isDigit_17 : decode cX12_isDigit 17 = .ok (.ireturn, 1) := by decide +kernel
def F_X12_isDigit (x0 : Int32) (h : xH) : Option (Int32 × xH) := if x0 < ((48 : Int32)) then some (0, h) else if ((57 : Int32)) < x0 then some (0, h) else some (1, h)
theorem R_X12_isDigit {Γ : xG} {l : Launch} {d : Nat} {r : Int32} {h' : xH} (x0 : Int32) (h : xH) (hdp : 0 ≤ d) (hF : F_X12_isDigit x0 h = some (r, h')) : Gm Γ l d 0 0 m_X12_isDigit [.int x0] h (fun a u => a = some (.int r) ∧ u = h') := by
  refine Gm.of pn_X12 (Nat.le_of_ble_eq_true rfl) ?_
  show Gd Γ l d m_X12_isDigit 0 [.int x0] [] h 0 0 _
  generalize hQ : (fun (a : Option Value) (u : xH) => a = some (.int r) ∧ u = h') = Q
  have hq : Q (some (.int r)) h' := by rw [← hQ]; exact ⟨rfl, rfl⟩
  clear hQ
  unfold F_X12_isDigit at hF
  refine g_iloadn d_X12_isDigit_0 rfl ?_
  refine g_bi (48) d_X12_isDigit_1 bi_48 ?_
  refine g_icmp_lt 16 d_X12_isDigit_3 rfl (fun c3 => ?_) (fun c3 => ?_)
  · have hF := x_t hF c3
    refine g_ic (0) d_X12_isDigit_16 ic_0 ?_
    obtain ⟨rfl, rfl⟩ := x_inj hF
    exact g_zret d_X12_isDigit_17 rfl rfl hq
  · have hF := x_f hF c3
    refine g_iloadn d_X12_isDigit_6 rfl ?_
    refine g_bi (57) d_X12_isDigit_7 bi_57 ?_
    refine g_icmp_gt 16 d_X12_isDigit_9 rfl (fun c9 => ?_) (fun c9 => ?_)
    · have hF := x_t hF c9
      refine g_ic (0) d_X12_isDigit_16 ic_0 ?_
      obtain ⟨rfl, rfl⟩ := x_inj hF
      exact g_zret d_X12_isDigit_17 rfl rfl hq
    · have hF := x_f hF c9
      refine g_ic (1) d_X12_isDigit_12 ic_1 ?_
      refine g_goto 17 d_X12_isDigit_13 rfl ?_
      obtain ⟨rfl, rfl⟩ := x_inj hF
      exact g_zret d_X12_isDigit_17 rfl rfl hq
theorem d_X12_keyAt_0 : decode cX12_keyAt 0 = .ok (.iconst 0, 1) := by decide +kernel
theorem d_X12_keyAt_1 : decode cX12_keyAt 1 = .ok (.istore_n 1, 1) := by decide +kernel
theorem d_X12_keyAt_2 : decode cX12_keyAt 2 = .ok (.iconst 1, 1) := by decide +kernel
theorem d_X12_keyAt_3 : decode cX12_keyAt 3 = .ok (.istore_n 2, 1) := by decide +kernel
theorem d_X12_keyAt_4 : decode cX12_keyAt 4 = .ok (.iload_n 2, 1) := by decide +kernel
theorem d_X12_keyAt_5 : decode cX12_keyAt 5 = .ok (.ldc 92, 2) := by decide +kernel
theorem d_X12_keyAt_7 : decode cX12_keyAt 7 = .ok (.invokevirtual 94, 3) := by decide +kernel
theorem d_X12_keyAt_10 : decode cX12_keyAt 10 = .ok (.if_icmp .ge 113, 3) := by decide +kernel
theorem d_X12_keyAt_13 : decode cX12_keyAt 13 = .ok (.iconst 0, 1) := by decide +kernel
theorem d_X12_keyAt_14 : decode cX12_keyAt 14 = .ok (.istore_n 3, 1) := by decide +kernel
theorem d_X12_keyAt_15 : decode cX12_keyAt 15 = .ok (.ldc 92, 2) := by decide +kernel
theorem d_X12_keyAt_17 : decode cX12_keyAt 17 = .ok (.iload_n 2, 1) := by decide +kernel
theorem d_X12_keyAt_18 : decode cX12_keyAt 18 = .ok (.iload_n 3, 1) := by decide +kernel
theorem d_X12_keyAt_19 : decode cX12_keyAt 19 = .ok (.iadd, 1) := by decide +kernel
theorem d_X12_keyAt_20 : decode cX12_keyAt 20 = .ok (.invokevirtual 100, 3) := by decide +kernel
theorem d_X12_keyAt_23 : decode cX12_keyAt 23 = .ok (.bipush 32, 2) := by decide +kernel
theorem d_X12_keyAt_25 : decode cX12_keyAt 25 = .ok (.if_icmp .eq 44, 3) := by decide +kernel
theorem d_X12_keyAt_28 : decode cX12_keyAt 28 = .ok (.aload_n 0, 1) := by decide +kernel
theorem d_X12_keyAt_29 : decode cX12_keyAt 29 = .ok (.getfield 104, 3) := by decide +kernel
theorem d_X12_keyAt_32 : decode cX12_keyAt 32 = .ok (.iload_n 3, 1) := by decide +kernel
theorem d_X12_keyAt_33 : decode cX12_keyAt 33 = .ok (.iadd, 1) := by decide +kernel
theorem d_X12_keyAt_34 : decode cX12_keyAt 34 = .ok (.aload_n 0, 1) := by decide +kernel
theorem d_X12_keyAt_35 : decode cX12_keyAt 35 = .ok (.getfield 107, 3) := by decide +kernel
theorem d_X12_keyAt_38 : decode cX12_keyAt 38 = .ok (.if_icmp .ge 31, 3) := by decide +kernel
theorem d_X12_keyAt_41 : decode cX12_keyAt 41 = .ok (.aload_n 0, 1) := by decide +kernel
theorem d_X12_keyAt_42 : decode cX12_keyAt 42 = .ok (.getfield 21, 3) := by decide +kernel
theorem d_X12_keyAt_45 : decode cX12_keyAt 45 = .ok (.aload_n 0, 1) := by decide +kernel
theorem d_X12_keyAt_46 : decode cX12_keyAt 46 = .ok (.getfield 104, 3) := by decide +kernel
theorem d_X12_keyAt_49 : decode cX12_keyAt 49 = .ok (.iload_n 3, 1) := by decide +kernel
theorem d_X12_keyAt_50 : decode cX12_keyAt 50 = .ok (.iadd, 1) := by decide +kernel
theorem d_X12_keyAt_51 : decode cX12_keyAt 51 = .ok (.iaload, 1) := by decide +kernel
theorem d_X12_keyAt_52 : decode cX12_keyAt 52 = .ok (.ldc 92, 2) := by decide +kernel
theorem d_X12_keyAt_54 : decode cX12_keyAt 54 = .ok (.iload_n 2, 1) := by decide +kernel
theorem d_X12_keyAt_55 : decode cX12_keyAt 55 = .ok (.iload_n 3, 1) := by decide +kernel
theorem d_X12_keyAt_56 : decode cX12_keyAt 56 = .ok (.iadd, 1) := by decide +kernel
theorem d_X12_keyAt_57 : decode cX12_keyAt 57 = .ok (.invokevirtual 100, 3) := by decide +kernel
theorem d_X12_keyAt_60 : decode cX12_keyAt 60 = .ok (.if_icmp .ne 9, 3) := by decide +kernel
theorem d_X12_keyAt_63 : decode cX12_keyAt 63 = .ok (.iinc 3 1, 3) := by decide +kernel
theorem d_X12_keyAt_66 : decode cX12_keyAt 66 = .ok (.goto (-51), 3) := by decide +kernel
theorem d_X12_keyAt_69 : decode cX12_keyAt 69 = .ok (.ldc 92, 2) := by decide +kernel
theorem d_X12_keyAt_71 : decode cX12_keyAt 71 = .ok (.iload_n 2, 1) := by decide +kernel
theorem d_X12_keyAt_72 : decode cX12_keyAt 72 = .ok (.iload_n 3, 1) := by decide +kernel
theorem d_X12_keyAt_73 : decode cX12_keyAt 73 = .ok (.iadd, 1) := by decide +kernel
theorem d_X12_keyAt_74 : decode cX12_keyAt 74 = .ok (.invokevirtual 100, 3) := by decide +kernel
theorem d_X12_keyAt_77 : decode cX12_keyAt 77 = .ok (.bipush 32, 2) := by decide +kernel
theorem d_X12_keyAt_79 : decode cX12_keyAt 79 = .ok (.if_icmp .ne 18, 3) := by decide +kernel
theorem d_X12_keyAt_82 : decode cX12_keyAt 82 = .ok (.aload_n 0, 1) := by decide +kernel
theorem d_X12_keyAt_83 : decode cX12_keyAt 83 = .ok (.getfield 104, 3) := by decide +kernel
theorem d_X12_keyAt_86 : decode cX12_keyAt 86 = .ok (.iload_n 3, 1) := by decide +kernel
theorem d_X12_keyAt_87 : decode cX12_keyAt 87 = .ok (.iadd, 1) := by decide +kernel
theorem d_X12_keyAt_88 : decode cX12_keyAt 88 = .ok (.aload_n 0, 1) := by decide +kernel
theorem d_X12_keyAt_89 : decode cX12_keyAt 89 = .ok (.getfield 107, 3) := by decide +kernel
theorem d_X12_keyAt_92 : decode cX12_keyAt 92 = .ok (.if_icmp .ne 5, 3) := by decide +kernel
theorem d_X12_keyAt_95 : decode cX12_keyAt 95 = .ok (.iload_n 1, 1) := by decide +kernel
theorem d_X12_keyAt_96 : decode cX12_keyAt 96 = .ok (.ireturn, 1) := by decide +kernel
theorem d_X12_keyAt_97 : decode cX12_keyAt 97 = .ok (.ldc 92, 2) := by decide +kernel
theorem d_X12_keyAt_99 : decode cX12_keyAt 99 = .ok (.iload_n 2, 1) := by decide +kernel
theorem d_X12_keyAt_100 : decode cX12_keyAt 100 = .ok (.invokevirtual 100, 3) := by decide +kernel
theorem d_X12_keyAt_103 : decode cX12_keyAt 103 = .ok (.bipush 32, 2) := by decide +kernel
theorem d_X12_keyAt_105 : decode cX12_keyAt 105 = .ok (.if_icmp .eq 9, 3) := by decide +kernel
theorem d_X12_keyAt_108 : decode cX12_keyAt 108 = .ok (.iinc 2 1, 3) := by decide +kernel
theorem d_X12_keyAt_111 : decode cX12_keyAt 111 = .ok (.goto (-14), 3) := by decide +kernel
theorem d_X12_keyAt_114 : decode cX12_keyAt 114 = .ok (.iinc 2 1, 3) := by decide +kernel
theorem d_X12_keyAt_117 : decode cX12_keyAt 117 = .ok (.iinc 1 1, 3) := by decide +kernel
theorem d_X12_keyAt_120 : decode cX12_keyAt 120 = .ok (.goto (-116), 3) := by decide +kernel
theorem d_X12_keyAt_123 : decode cX12_keyAt 123 = .ok (.bipush 22, 2) := by decide +kernel
theorem d_X12_keyAt_125 : decode cX12_keyAt 125 = .ok (.ireturn, 1) := by decide +kernel
def F_X12_keyAt_b97 (k4 : Nat → Int32 → Int32 → xH → Option (Int32 × xH)) : Nat → Nat → Int32 → Int32 → xH → Option (Int32 × xH)
  | 0, _, _, _, _ => none
  | n + 1, x0, x1, x2, h => (rcS h 64).bind fun _ => (F_J0_charAt_5068e 64 x2 h).bind fun z100 => if z100.1 = ((32 : Int32)) then k4 x0 (x1 + 1) (x2 + 1) z100.2 else F_X12_keyAt_b97 k4 n x0 x1 (x2 + 1) z100.2
theorem R_X12_keyAt_b97 {Γ : xG} {l : Launch} {d : Nat} {Q : Option Value → xH → Prop} {r : Int32} {h' : xH} {k4 : Nat → Int32 → Int32 → xH → Option (Int32 × xH)} (K4 : ∀ (x0 : Nat) (x1 : Int32) (x2 : Int32)  (h : xH), k4 x0 x1 x2 h = some (r, h') → Gd Γ l d m_X12_keyAt 4 [.ref x0, .int x1, .int x2, xhole] [] h 0 0 Q) (hdp : 5 ≤ d) (hq : Q (some (.int r)) h') : ∀ (n : Nat) (x0 : Nat) (x1 : Int32) (x2 : Int32) (h : xH), F_X12_keyAt_b97 k4 n x0 x1 x2 h = some (r, h') → Gd Γ l d m_X12_keyAt 97 [.ref x0, .int x1, .int x2, xhole] [] h 0 0 Q := by
  intro n
  induction n with
  | zero => intro x0 x1 x2 h hF; cases hF
  | succ n ih =>
  intro x0 x1 x2 h hF
  rw [F_X12_keyAt_b97] at hF
  refine g_ldcS (i := 32) d_X12_keyAt_97 rfl ?_
  refine g_iloadn d_X12_keyAt_99 rfl ?_
  obtain ⟨_, g100, hF⟩ := Option.bind_eq_some_iff.mp hF
  obtain ⟨⟨r100, h100⟩, e100, hF⟩ := Option.bind_eq_some_iff.mp hF
  try dsimp only at hF
  refine q_callV [.int x2] [] rfl d_X12_keyAt_100 v_X12_100 (by omega) rfl (Nat.le_of_ble_eq_true rfl) (rcS_rc g100) (R_J0_charAt_5068e _ _ _ (by omega) e100) ?_
  refine g_bi (32) d_X12_keyAt_103 bi_32 ?_
  refine g_icmp_eq 114 d_X12_keyAt_105 rfl (fun c105 => ?_) (fun c105 => ?_)
  · have hF := x_t hF c105
    refine q_iinc (1) [.ref x0, .int x1, .int (x2 + 1), xhole] d_X12_keyAt_114 ic_1 rfl (by decide) rfl ?_
    refine q_iinc (1) [.ref x0, .int (x1 + 1), .int (x2 + 1), xhole] d_X12_keyAt_117 ic_1 rfl (by decide) rfl ?_
    refine g_goto 4 d_X12_keyAt_120 rfl ?_
    exact q_to (xs_r (xs_r (xs_r (xs_h xs_n)))) (K4 _ _ _ _ hF)
  · have hF := x_f hF c105
    refine q_iinc (1) [.ref x0, .int x1, .int (x2 + 1), xhole] d_X12_keyAt_108 ic_1 rfl (by decide) rfl ?_
    refine g_goto 97 d_X12_keyAt_111 rfl ?_
    exact q_to (xs_r (xs_r (xs_r (xs_h xs_n)))) (ih _ _ _ _ hF)
def F_X12_keyAt_b69 (k4 : Nat → Int32 → Int32 → xH → Option (Int32 × xH)) (x0 : Nat) (x1 : Int32) (x2 : Int32) (x3 : Int32) (h : xH) : Option (Int32 × xH) := (rcS h 64).bind fun _ => (F_J0_charAt_5068e 64 (x2 + x3) h).bind fun z74 => if ¬ z74.1 = ((32 : Int32)) then F_X12_keyAt_b97 k4 FU x0 x1 x2 z74.2 else (fI z74.2 x0 11 6).bind fun v83 => (fI z74.2 x0 11 7).bind fun v89 => if ¬ (v83 + x3) = v89 then F_X12_keyAt_b97 k4 FU x0 x1 x2 z74.2 else some (x1, z74.2)
theorem R_X12_keyAt_b69 {Γ : xG} {l : Launch} {d : Nat} {Q : Option Value → xH → Prop} {r : Int32} {h' : xH} {k4 : Nat → Int32 → Int32 → xH → Option (Int32 × xH)} (K4 : ∀ (x0 : Nat) (x1 : Int32) (x2 : Int32)  (h : xH), k4 x0 x1 x2 h = some (r, h') → Gd Γ l d m_X12_keyAt 4 [.ref x0, .int x1, .int x2, xhole] [] h 0 0 Q) (hdp : 5 ≤ d) (hq : Q (some (.int r)) h') : ∀ (x0 : Nat) (x1 : Int32) (x2 : Int32) (x3 : Int32) (h : xH), F_X12_keyAt_b69 k4 x0 x1 x2 x3 h = some (r, h') → Gd Γ l d m_X12_keyAt 69 [.ref x0, .int x1, .int x2, .int x3] [] h 0 0 Q := by
  intro x0 x1 x2 x3 h hF
  unfold F_X12_keyAt_b69 at hF
  refine g_ldcS (i := 32) d_X12_keyAt_69 rfl ?_
  refine g_iloadn d_X12_keyAt_71 rfl ?_
  refine g_iloadn d_X12_keyAt_72 rfl ?_
  refine g_iadd d_X12_keyAt_73 ?_
  obtain ⟨_, g74, hF⟩ := Option.bind_eq_some_iff.mp hF
  obtain ⟨⟨r74, h74⟩, e74, hF⟩ := Option.bind_eq_some_iff.mp hF
  try dsimp only at hF
  refine q_callV [.int (x2 + x3)] [] rfl d_X12_keyAt_74 v_X12_100 (by omega) rfl (Nat.le_of_ble_eq_true rfl) (rcS_rc g74) (R_J0_charAt_5068e _ _ _ (by omega) e74) ?_
  refine g_bi (32) d_X12_keyAt_77 bi_32 ?_
  refine g_icmp_ne 97 d_X12_keyAt_79 rfl (fun c79 => ?_) (fun c79 => ?_)
  · have hF := x_t hF c79
    exact q_to (xs_r (xs_r (xs_r (xs_h xs_n)))) (R_X12_keyAt_b97 K4 hdp hq FU _ _ _ _ hF)
  · have hF := x_f hF (not_not_intro c79)
    refine g_aloadn d_X12_keyAt_82 rfl ?_
    obtain ⟨v83, e83, hF⟩ := Option.bind_eq_some_iff.mp hF
    refine q_fI d_X12_keyAt_83 f_X12_104 e83 ?_
    refine g_iloadn d_X12_keyAt_86 rfl ?_
    refine g_iadd d_X12_keyAt_87 ?_
    refine g_aloadn d_X12_keyAt_88 rfl ?_
    obtain ⟨v89, e89, hF⟩ := Option.bind_eq_some_iff.mp hF
    refine q_fI d_X12_keyAt_89 f_X12_107 e89 ?_
    refine g_icmp_ne 97 d_X12_keyAt_92 rfl (fun c92 => ?_) (fun c92 => ?_)
    · have hF := x_t hF c92
      exact q_to (xs_r (xs_r (xs_r (xs_h xs_n)))) (R_X12_keyAt_b97 K4 hdp hq FU _ _ _ _ hF)
    · have hF := x_f hF (not_not_intro c92)
      refine g_iloadn d_X12_keyAt_95 rfl ?_
      obtain ⟨rfl, rfl⟩ := x_inj hF
      exact g_iret d_X12_keyAt_96 rfl hq
def F_X12_keyAt_b15 (k4 : Nat → Int32 → Int32 → xH → Option (Int32 × xH)) : Nat → Nat → Int32 → Int32 → Int32 → xH → Option (Int32 × xH)
  | 0, _, _, _, _, _ => none
  | n + 1, x0, x1, x2, x3, h => (rcS h 64).bind fun _ => (F_J0_charAt_5068e 64 (x2 + x3) h).bind fun z20 => if z20.1 = ((32 : Int32)) then F_X12_keyAt_b69 k4 x0 x1 x2 x3 z20.2 else (fI z20.2 x0 11 6).bind fun v29 => (fI z20.2 x0 11 7).bind fun v35 => if v35 ≤ (v29 + x3) then F_X12_keyAt_b69 k4 x0 x1 x2 x3 z20.2 else (fR z20.2 x0 11 3).bind fun v42 => (fI z20.2 x0 11 6).bind fun v46 => (aI z20.2 v42 (v46 + x3)).bind fun v51 => (rcS z20.2 64).bind fun _ => (F_J0_charAt_5068e 64 (x2 + x3) z20.2).bind fun z57 => if ¬ v51 = z57.1 then F_X12_keyAt_b69 k4 x0 x1 x2 x3 z57.2 else F_X12_keyAt_b15 k4 n x0 x1 x2 (x3 + 1) z57.2
theorem R_X12_keyAt_b15 {Γ : xG} {l : Launch} {d : Nat} {Q : Option Value → xH → Prop} {r : Int32} {h' : xH} {k4 : Nat → Int32 → Int32 → xH → Option (Int32 × xH)} (K4 : ∀ (x0 : Nat) (x1 : Int32) (x2 : Int32)  (h : xH), k4 x0 x1 x2 h = some (r, h') → Gd Γ l d m_X12_keyAt 4 [.ref x0, .int x1, .int x2, xhole] [] h 0 0 Q) (hdp : 5 ≤ d) (hq : Q (some (.int r)) h') : ∀ (n : Nat) (x0 : Nat) (x1 : Int32) (x2 : Int32) (x3 : Int32) (h : xH), F_X12_keyAt_b15 k4 n x0 x1 x2 x3 h = some (r, h') → Gd Γ l d m_X12_keyAt 15 [.ref x0, .int x1, .int x2, .int x3] [] h 0 0 Q := by
  intro n
  induction n with
  | zero => intro x0 x1 x2 x3 h hF; cases hF
  | succ n ih =>
  intro x0 x1 x2 x3 h hF
  rw [F_X12_keyAt_b15] at hF
  refine g_ldcS (i := 32) d_X12_keyAt_15 rfl ?_
  refine g_iloadn d_X12_keyAt_17 rfl ?_
  refine g_iloadn d_X12_keyAt_18 rfl ?_
  refine g_iadd d_X12_keyAt_19 ?_
  obtain ⟨_, g20, hF⟩ := Option.bind_eq_some_iff.mp hF
  obtain ⟨⟨r20, h20⟩, e20, hF⟩ := Option.bind_eq_some_iff.mp hF
  try dsimp only at hF
  refine q_callV [.int (x2 + x3)] [] rfl d_X12_keyAt_20 v_X12_100 (by omega) rfl (Nat.le_of_ble_eq_true rfl) (rcS_rc g20) (R_J0_charAt_5068e _ _ _ (by omega) e20) ?_
  refine g_bi (32) d_X12_keyAt_23 bi_32 ?_
  refine g_icmp_eq 69 d_X12_keyAt_25 rfl (fun c25 => ?_) (fun c25 => ?_)
  · have hF := x_t hF c25
    exact q_to (xs_r (xs_r (xs_r (xs_r xs_n)))) (R_X12_keyAt_b69 K4 hdp hq _ _ _ _ _ hF)
  · have hF := x_f hF c25
    refine g_aloadn d_X12_keyAt_28 rfl ?_
    obtain ⟨v29, e29, hF⟩ := Option.bind_eq_some_iff.mp hF
    refine q_fI d_X12_keyAt_29 f_X12_104 e29 ?_
    refine g_iloadn d_X12_keyAt_32 rfl ?_
    refine g_iadd d_X12_keyAt_33 ?_
    refine g_aloadn d_X12_keyAt_34 rfl ?_
    obtain ⟨v35, e35, hF⟩ := Option.bind_eq_some_iff.mp hF
    refine q_fI d_X12_keyAt_35 f_X12_107 e35 ?_
    refine g_icmp_ge 69 d_X12_keyAt_38 rfl (fun c38 => ?_) (fun c38 => ?_)
    · have hF := x_t hF c38
      exact q_to (xs_r (xs_r (xs_r (xs_r xs_n)))) (R_X12_keyAt_b69 K4 hdp hq _ _ _ _ _ hF)
    · have hF := x_f hF c38
      refine g_aloadn d_X12_keyAt_41 rfl ?_
      obtain ⟨v42, e42, hF⟩ := Option.bind_eq_some_iff.mp hF
      refine q_fR d_X12_keyAt_42 f_X12_21 e42 ?_
      refine g_aloadn d_X12_keyAt_45 rfl ?_
      obtain ⟨v46, e46, hF⟩ := Option.bind_eq_some_iff.mp hF
      refine q_fI d_X12_keyAt_46 f_X12_104 e46 ?_
      refine g_iloadn d_X12_keyAt_49 rfl ?_
      refine g_iadd d_X12_keyAt_50 ?_
      obtain ⟨v51, e51, hF⟩ := Option.bind_eq_some_iff.mp hF
      refine q_aI d_X12_keyAt_51 e51 ?_
      refine g_ldcS (i := 32) d_X12_keyAt_52 rfl ?_
      refine g_iloadn d_X12_keyAt_54 rfl ?_
      refine g_iloadn d_X12_keyAt_55 rfl ?_
      refine g_iadd d_X12_keyAt_56 ?_
      obtain ⟨_, g57, hF⟩ := Option.bind_eq_some_iff.mp hF
      obtain ⟨⟨r57, h57⟩, e57, hF⟩ := Option.bind_eq_some_iff.mp hF
      try dsimp only at hF
      refine q_callV [.int (x2 + x3)] [.int v51] rfl d_X12_keyAt_57 v_X12_100 (by omega) rfl (Nat.le_of_ble_eq_true rfl) (rcS_rc g57) (R_J0_charAt_5068e _ _ _ (by omega) e57) ?_
      refine g_icmp_ne 69 d_X12_keyAt_60 rfl (fun c60 => ?_) (fun c60 => ?_)
      · have hF := x_t hF c60
        exact q_to (xs_r (xs_r (xs_r (xs_r xs_n)))) (R_X12_keyAt_b69 K4 hdp hq _ _ _ _ _ hF)
      · have hF := x_f hF (not_not_intro c60)
        refine q_iinc (1) [.ref x0, .int x1, .int x2, .int (x3 + 1)] d_X12_keyAt_63 ic_1 rfl (by decide) rfl ?_
        refine g_goto 15 d_X12_keyAt_66 rfl ?_
        exact q_to (xs_r (xs_r (xs_r (xs_r xs_n)))) (ih _ _ _ _ _ hF)
def F_X12_keyAt_b4 : Nat → Nat → Int32 → Int32 → xH → Option (Int32 × xH)
  | 0, _, _, _, _ => none
  | n + 1, x0, x1, x2, h => (rcS h 64).bind fun _ => (F_J0_length_8abf5 64 h).bind fun z7 => if z7.1 ≤ x2 then some (22, z7.2) else F_X12_keyAt_b15 (F_X12_keyAt_b4 n) FU x0 x1 x2 0 z7.2
theorem R_X12_keyAt_b4 {Γ : xG} {l : Launch} {d : Nat} {Q : Option Value → xH → Prop} {r : Int32} {h' : xH} (hdp : 5 ≤ d) (hq : Q (some (.int r)) h') : ∀ (n : Nat) (x0 : Nat) (x1 : Int32) (x2 : Int32) (h : xH), F_X12_keyAt_b4 n x0 x1 x2 h = some (r, h') → Gd Γ l d m_X12_keyAt 4 [.ref x0, .int x1, .int x2, xhole] [] h 0 0 Q := by
  intro n
  induction n with
  | zero => intro x0 x1 x2 h hF; cases hF
  | succ n ih =>
  intro x0 x1 x2 h hF
  rw [F_X12_keyAt_b4] at hF
  refine g_iloadn d_X12_keyAt_4 rfl ?_
  refine g_ldcS (i := 32) d_X12_keyAt_5 rfl ?_
  obtain ⟨_, g7, hF⟩ := Option.bind_eq_some_iff.mp hF
  obtain ⟨⟨r7, h7⟩, e7, hF⟩ := Option.bind_eq_some_iff.mp hF
  try dsimp only at hF
  refine q_callV [] [.int x2] rfl d_X12_keyAt_7 v_X12_94 (by omega) rfl (Nat.le_of_ble_eq_true rfl) (rcS_rc g7) (R_J0_length_8abf5 _ _ (by omega) e7) ?_
  refine g_icmp_ge 123 d_X12_keyAt_10 rfl (fun c10 => ?_) (fun c10 => ?_)
  · have hF := x_t hF c10
    refine g_bi (22) d_X12_keyAt_123 bi_22 ?_
    obtain ⟨rfl, rfl⟩ := x_inj hF
    exact g_iret d_X12_keyAt_125 rfl hq
  · have hF := x_f hF c10
    refine g_ic (0) d_X12_keyAt_13 ic_0 ?_
    refine q_istoren [.ref x0, .int x1, .int x2, .int 0] d_X12_keyAt_14 (by decide) rfl ?_
    exact q_to (xs_r (xs_r (xs_r (xs_r xs_n)))) (R_X12_keyAt_b15 ih hdp hq FU _ _ _ _ _ hF)
def F_X12_keyAt (x0 : Nat) (h : xH) : Option (Int32 × xH) := F_X12_keyAt_b4 FU x0 0 1 h
theorem R_X12_keyAt {Γ : xG} {l : Launch} {d : Nat} {r : Int32} {h' : xH} (x0 : Nat) (h : xH) (hdp : 5 ≤ d) (hF : F_X12_keyAt x0 h = some (r, h')) : Gm Γ l d 0 0 m_X12_keyAt [.ref x0] h (fun a u => a = some (.int r) ∧ u = h') := by
  refine Gm.of pn_X12 (Nat.le_of_ble_eq_true rfl) ?_
  show Gd Γ l d m_X12_keyAt 0 [.ref x0, xhole, xhole, xhole] [] h 0 0 _
  generalize hQ : (fun (a : Option Value) (u : xH) => a = some (.int r) ∧ u = h') = Q
  have hq : Q (some (.int r)) h' := by rw [← hQ]; exact ⟨rfl, rfl⟩
  clear hQ
  unfold F_X12_keyAt at hF
  refine g_ic (0) d_X12_keyAt_0 ic_0 ?_
  refine q_istoren [.ref x0, .int 0, xhole, xhole] d_X12_keyAt_1 (by decide) rfl ?_
  refine g_ic (1) d_X12_keyAt_2 ic_1 ?_
  refine q_istoren [.ref x0, .int 0, .int 1, xhole] d_X12_keyAt_3 (by decide) rfl ?_
  exact q_to (xs_r (xs_r (xs_r (xs_h xs_n)))) (R_X12_keyAt_b4 hdp hq FU _ _ _ _ hF)
theorem d_X12_next_0 : decode cX12_next 0 = .ok (.aload_n 0, 1) := by decide +kernel
theorem d_X12_next_1 : decode cX12_next 1 = .ok (.aload_n 0, 1) := by decide +kernel
theorem d_X12_next_2 : decode cX12_next 2 = .ok (.getfield 107, 3) := by decide +kernel
theorem d_X12_next_5 : decode cX12_next 5 = .ok (.putfield 104, 3) := by decide +kernel
theorem d_X12_next_8 : decode cX12_next 8 = .ok (.aload_n 0, 1) := by decide +kernel
theorem d_X12_next_9 : decode cX12_next 9 = .ok (.aload_n 0, 1) := by decide +kernel
theorem d_X12_next_10 : decode cX12_next 10 = .ok (.getfield 104, 3) := by decide +kernel
theorem d_X12_next_13 : decode cX12_next 13 = .ok (.invokevirtual 110, 3) := by decide +kernel
theorem d_X12_next_16 : decode cX12_next 16 = .ok (.bipush 10, 2) := by decide +kernel
theorem d_X12_next_18 : decode cX12_next 18 = .ok (.if_icmp .eq 16, 3) := by decide +kernel
theorem d_X12_next_21 : decode cX12_next 21 = .ok (.aload_n 0, 1) := by decide +kernel
theorem d_X12_next_22 : decode cX12_next 22 = .ok (.aload_n 0, 1) := by decide +kernel
theorem d_X12_next_23 : decode cX12_next 23 = .ok (.getfield 104, 3) := by decide +kernel
theorem d_X12_next_26 : decode cX12_next 26 = .ok (.invokevirtual 110, 3) := by decide +kernel
theorem d_X12_next_29 : decode cX12_next 29 = .ok (.bipush 32, 2) := by decide +kernel
theorem d_X12_next_31 : decode cX12_next 31 = .ok (.if_icmp .ne 16, 3) := by decide +kernel
theorem d_X12_next_34 : decode cX12_next 34 = .ok (.aload_n 0, 1) := by decide +kernel
theorem d_X12_next_35 : decode cX12_next 35 = .ok (.dup, 1) := by decide +kernel
theorem d_X12_next_36 : decode cX12_next 36 = .ok (.getfield 104, 3) := by decide +kernel
theorem d_X12_next_39 : decode cX12_next 39 = .ok (.iconst 1, 1) := by decide +kernel
theorem d_X12_next_40 : decode cX12_next 40 = .ok (.iadd, 1) := by decide +kernel
theorem d_X12_next_41 : decode cX12_next 41 = .ok (.putfield 104, 3) := by decide +kernel
theorem d_X12_next_44 : decode cX12_next 44 = .ok (.goto (-36), 3) := by decide +kernel
theorem d_X12_next_47 : decode cX12_next 47 = .ok (.aload_n 0, 1) := by decide +kernel
theorem d_X12_next_48 : decode cX12_next 48 = .ok (.aload_n 0, 1) := by decide +kernel
theorem d_X12_next_49 : decode cX12_next 49 = .ok (.getfield 104, 3) := by decide +kernel
theorem d_X12_next_52 : decode cX12_next 52 = .ok (.putfield 107, 3) := by decide +kernel
theorem d_X12_next_55 : decode cX12_next 55 = .ok (.aload_n 0, 1) := by decide +kernel
theorem d_X12_next_56 : decode cX12_next 56 = .ok (.getfield 104, 3) := by decide +kernel
theorem d_X12_next_59 : decode cX12_next 59 = .ok (.aload_n 0, 1) := by decide +kernel
theorem d_X12_next_60 : decode cX12_next 60 = .ok (.getfield 89, 3) := by decide +kernel
theorem d_X12_next_63 : decode cX12_next 63 = .ok (.if_icmp .lt 12, 3) := by decide +kernel
theorem d_X12_next_66 : decode cX12_next 66 = .ok (.aload_n 0, 1) := by decide +kernel
theorem d_X12_next_67 : decode cX12_next 67 = .ok (.bipush 24, 2) := by decide +kernel
theorem d_X12_next_69 : decode cX12_next 69 = .ok (.putfield 114, 3) := by decide +kernel
theorem d_X12_next_72 : decode cX12_next 72 = .ok (.goto 222, 3) := by decide +kernel
theorem d_X12_next_75 : decode cX12_next 75 = .ok (.aload_n 0, 1) := by decide +kernel
theorem d_X12_next_76 : decode cX12_next 76 = .ok (.aload_n 0, 1) := by decide +kernel
theorem d_X12_next_77 : decode cX12_next 77 = .ok (.getfield 104, 3) := by decide +kernel
theorem d_X12_next_80 : decode cX12_next 80 = .ok (.invokevirtual 110, 3) := by decide +kernel
theorem d_X12_next_83 : decode cX12_next 83 = .ok (.invokestatic 117, 3) := by decide +kernel
theorem d_X12_next_86 : decode cX12_next 86 = .ok (.ifCond .eq 41, 3) := by decide +kernel
theorem d_X12_next_89 : decode cX12_next 89 = .ok (.aload_n 0, 1) := by decide +kernel
theorem d_X12_next_90 : decode cX12_next 90 = .ok (.aload_n 0, 1) := by decide +kernel
theorem d_X12_next_91 : decode cX12_next 91 = .ok (.getfield 107, 3) := by decide +kernel
theorem d_X12_next_94 : decode cX12_next 94 = .ok (.invokevirtual 110, 3) := by decide +kernel
theorem d_X12_next_97 : decode cX12_next 97 = .ok (.invokestatic 117, 3) := by decide +kernel
theorem d_X12_next_100 : decode cX12_next 100 = .ok (.ifCond .eq 16, 3) := by decide +kernel
theorem d_X12_next_103 : decode cX12_next 103 = .ok (.aload_n 0, 1) := by decide +kernel
theorem d_X12_next_104 : decode cX12_next 104 = .ok (.dup, 1) := by decide +kernel
theorem d_X12_next_105 : decode cX12_next 105 = .ok (.getfield 107, 3) := by decide +kernel
theorem d_X12_next_108 : decode cX12_next 108 = .ok (.iconst 1, 1) := by decide +kernel
theorem d_X12_next_109 : decode cX12_next 109 = .ok (.iadd, 1) := by decide +kernel
theorem d_X12_next_110 : decode cX12_next 110 = .ok (.putfield 107, 3) := by decide +kernel
theorem d_X12_next_113 : decode cX12_next 113 = .ok (.goto (-24), 3) := by decide +kernel
theorem d_X12_next_116 : decode cX12_next 116 = .ok (.aload_n 0, 1) := by decide +kernel
theorem d_X12_next_117 : decode cX12_next 117 = .ok (.aload_n 0, 1) := by decide +kernel
theorem d_X12_next_118 : decode cX12_next 118 = .ok (.invokevirtual 121, 3) := by decide +kernel
theorem d_X12_next_121 : decode cX12_next 121 = .ok (.putfield 114, 3) := by decide +kernel
theorem d_X12_next_124 : decode cX12_next 124 = .ok (.goto 170, 3) := by decide +kernel
theorem d_X12_next_127 : decode cX12_next 127 = .ok (.aload_n 0, 1) := by decide +kernel
theorem d_X12_next_128 : decode cX12_next 128 = .ok (.aload_n 0, 1) := by decide +kernel
theorem d_X12_next_129 : decode cX12_next 129 = .ok (.getfield 104, 3) := by decide +kernel
theorem d_X12_next_132 : decode cX12_next 132 = .ok (.invokevirtual 110, 3) := by decide +kernel
theorem d_X12_next_135 : decode cX12_next 135 = .ok (.invokestatic 124, 3) := by decide +kernel
theorem d_X12_next_138 : decode cX12_next 138 = .ok (.ifCond .eq 98, 3) := by decide +kernel
theorem d_X12_next_141 : decode cX12_next 141 = .ok (.aload_n 0, 1) := by decide +kernel
theorem d_X12_next_142 : decode cX12_next 142 = .ok (.iconst 0, 1) := by decide +kernel
theorem d_X12_next_143 : decode cX12_next 143 = .ok (.putfield 127, 3) := by decide +kernel
theorem d_X12_next_146 : decode cX12_next 146 = .ok (.aload_n 0, 1) := by decide +kernel
theorem d_X12_next_147 : decode cX12_next 147 = .ok (.aload_n 0, 1) := by decide +kernel
theorem d_X12_next_148 : decode cX12_next 148 = .ok (.getfield 107, 3) := by decide +kernel
theorem d_X12_next_151 : decode cX12_next 151 = .ok (.invokevirtual 110, 3) := by decide +kernel
theorem d_X12_next_154 : decode cX12_next 154 = .ok (.invokestatic 124, 3) := by decide +kernel
theorem d_X12_next_157 : decode cX12_next 157 = .ok (.ifCond .eq 52, 3) := by decide +kernel
theorem d_X12_next_160 : decode cX12_next 160 = .ok (.aload_n 0, 1) := by decide +kernel
theorem d_X12_next_161 : decode cX12_next 161 = .ok (.getfield 107, 3) := by decide +kernel
theorem d_X12_next_164 : decode cX12_next 164 = .ok (.aload_n 0, 1) := by decide +kernel
theorem d_X12_next_165 : decode cX12_next 165 = .ok (.getfield 104, 3) := by decide +kernel
theorem d_X12_next_168 : decode cX12_next 168 = .ok (.isub, 1) := by decide +kernel
theorem d_X12_next_169 : decode cX12_next 169 = .ok (.iconst 3, 1) := by decide +kernel
theorem d_X12_next_170 : decode cX12_next 170 = .ok (.if_icmp .ge 26, 3) := by decide +kernel
theorem d_X12_next_173 : decode cX12_next 173 = .ok (.aload_n 0, 1) := by decide +kernel
theorem d_X12_next_174 : decode cX12_next 174 = .ok (.bipush 10, 2) := by decide +kernel
theorem d_X12_next_176 : decode cX12_next 176 = .ok (.aload_n 0, 1) := by decide +kernel
theorem d_X12_next_177 : decode cX12_next 177 = .ok (.getfield 127, 3) := by decide +kernel
theorem d_X12_next_180 : decode cX12_next 180 = .ok (.imul, 1) := by decide +kernel
theorem d_X12_next_181 : decode cX12_next 181 = .ok (.aload_n 0, 1) := by decide +kernel
theorem d_X12_next_182 : decode cX12_next 182 = .ok (.aload_n 0, 1) := by decide +kernel
theorem d_X12_next_183 : decode cX12_next 183 = .ok (.getfield 107, 3) := by decide +kernel
theorem d_X12_next_186 : decode cX12_next 186 = .ok (.invokevirtual 110, 3) := by decide +kernel
theorem d_X12_next_189 : decode cX12_next 189 = .ok (.iadd, 1) := by decide +kernel
theorem d_X12_next_190 : decode cX12_next 190 = .ok (.bipush 48, 2) := by decide +kernel
theorem d_X12_next_192 : decode cX12_next 192 = .ok (.isub, 1) := by decide +kernel
theorem d_X12_next_193 : decode cX12_next 193 = .ok (.putfield 127, 3) := by decide +kernel
theorem d_X12_next_196 : decode cX12_next 196 = .ok (.aload_n 0, 1) := by decide +kernel
theorem d_X12_next_197 : decode cX12_next 197 = .ok (.dup, 1) := by decide +kernel
theorem d_X12_next_198 : decode cX12_next 198 = .ok (.getfield 107, 3) := by decide +kernel
theorem d_X12_next_201 : decode cX12_next 201 = .ok (.iconst 1, 1) := by decide +kernel
theorem d_X12_next_202 : decode cX12_next 202 = .ok (.iadd, 1) := by decide +kernel
theorem d_X12_next_203 : decode cX12_next 203 = .ok (.putfield 107, 3) := by decide +kernel
theorem d_X12_next_206 : decode cX12_next 206 = .ok (.goto (-60), 3) := by decide +kernel
theorem d_X12_next_209 : decode cX12_next 209 = .ok (.aload_n 0, 1) := by decide +kernel
theorem d_X12_next_210 : decode cX12_next 210 = .ok (.aload_n 0, 1) := by decide +kernel
theorem d_X12_next_211 : decode cX12_next 211 = .ok (.getfield 107, 3) := by decide +kernel
theorem d_X12_next_214 : decode cX12_next 214 = .ok (.aload_n 0, 1) := by decide +kernel
theorem d_X12_next_215 : decode cX12_next 215 = .ok (.getfield 104, 3) := by decide +kernel
theorem d_X12_next_218 : decode cX12_next 218 = .ok (.isub, 1) := by decide +kernel
theorem d_X12_next_219 : decode cX12_next 219 = .ok (.iconst 3, 1) := by decide +kernel
theorem d_X12_next_220 : decode cX12_next 220 = .ok (.if_icmp .le 8, 3) := by decide +kernel
theorem d_X12_next_223 : decode cX12_next 223 = .ok (.bipush 25, 2) := by decide +kernel
theorem d_X12_next_225 : decode cX12_next 225 = .ok (.goto 5, 3) := by decide +kernel
theorem d_X12_next_228 : decode cX12_next 228 = .ok (.bipush 23, 2) := by decide +kernel
theorem d_X12_next_230 : decode cX12_next 230 = .ok (.putfield 114, 3) := by decide +kernel
theorem d_X12_next_233 : decode cX12_next 233 = .ok (.goto 61, 3) := by decide +kernel
theorem d_X12_next_236 : decode cX12_next 236 = .ok (.aload_n 0, 1) := by decide +kernel
theorem d_X12_next_237 : decode cX12_next 237 = .ok (.dup, 1) := by decide +kernel
theorem d_X12_next_238 : decode cX12_next 238 = .ok (.getfield 107, 3) := by decide +kernel
theorem d_X12_next_241 : decode cX12_next 241 = .ok (.iconst 1, 1) := by decide +kernel
theorem d_X12_next_242 : decode cX12_next 242 = .ok (.iadd, 1) := by decide +kernel
theorem d_X12_next_243 : decode cX12_next 243 = .ok (.putfield 107, 3) := by decide +kernel
theorem d_X12_next_246 : decode cX12_next 246 = .ok (.aload_n 0, 1) := by decide +kernel
theorem d_X12_next_247 : decode cX12_next 247 = .ok (.bipush 25, 2) := by decide +kernel
theorem d_X12_next_249 : decode cX12_next 249 = .ok (.putfield 114, 3) := by decide +kernel
theorem d_X12_next_252 : decode cX12_next 252 = .ok (.iconst 0, 1) := by decide +kernel
theorem d_X12_next_253 : decode cX12_next 253 = .ok (.istore_n 1, 1) := by decide +kernel
theorem d_X12_next_254 : decode cX12_next 254 = .ok (.iload_n 1, 1) := by decide +kernel
theorem d_X12_next_255 : decode cX12_next 255 = .ok (.ldc 130, 2) := by decide +kernel
theorem d_X12_next_257 : decode cX12_next 257 = .ok (.invokevirtual 94, 3) := by decide +kernel
theorem d_X12_next_260 : decode cX12_next 260 = .ok (.if_icmp .ge 34, 3) := by decide +kernel
theorem d_X12_next_263 : decode cX12_next 263 = .ok (.aload_n 0, 1) := by decide +kernel
theorem d_X12_next_264 : decode cX12_next 264 = .ok (.aload_n 0, 1) := by decide +kernel
theorem d_X12_next_265 : decode cX12_next 265 = .ok (.getfield 104, 3) := by decide +kernel
theorem d_X12_next_268 : decode cX12_next 268 = .ok (.invokevirtual 110, 3) := by decide +kernel
theorem d_X12_next_271 : decode cX12_next 271 = .ok (.ldc 130, 2) := by decide +kernel
theorem d_X12_next_273 : decode cX12_next 273 = .ok (.iload_n 1, 1) := by decide +kernel
theorem d_X12_next_274 : decode cX12_next 274 = .ok (.invokevirtual 100, 3) := by decide +kernel
theorem d_X12_next_277 : decode cX12_next 277 = .ok (.if_icmp .ne 11, 3) := by decide +kernel
theorem d_X12_next_280 : decode cX12_next 280 = .ok (.aload_n 0, 1) := by decide +kernel
theorem d_X12_next_281 : decode cX12_next 281 = .ok (.bipush 30, 2) := by decide +kernel
theorem d_X12_next_283 : decode cX12_next 283 = .ok (.iload_n 1, 1) := by decide +kernel
theorem d_X12_next_284 : decode cX12_next 284 = .ok (.iadd, 1) := by decide +kernel
theorem d_X12_next_285 : decode cX12_next 285 = .ok (.putfield 114, 3) := by decide +kernel
theorem d_X12_next_288 : decode cX12_next 288 = .ok (.iinc 1 1, 3) := by decide +kernel
theorem d_X12_next_291 : decode cX12_next 291 = .ok (.goto (-37), 3) := by decide +kernel
theorem d_X12_next_294 : decode cX12_next 294 = .ok (.return_, 1) := by decide +kernel
def F_X12_next_b89 : Nat → Nat → xH → Option (Unit × xH)
  | 0, _, _ => none
  | n + 1, x0, h => (fI h x0 11 7).bind fun v91 => (rc h x0 11).bind fun _ => (F_X12_see x0 v91 h).bind fun z94 => (F_X12_isSmall z94.1 z94.2).bind fun z97 => if z97.1 = 0 then (rc z97.2 x0 11).bind fun _ => (F_X12_keyAt x0 z97.2).bind fun z118 => (wI z118.2 x0 11 9 z118.1).bind fun h121 => some ((), h121) else (fI z97.2 x0 11 7).bind fun v105 => (wI z97.2 x0 11 7 (v105 + 1)).bind fun h110 => F_X12_next_b89 n x0 h110
theorem R_X12_next_b89 {Γ : xG} {l : Launch} {d : Nat} {Q : Option Value → xH → Prop} {r : Unit} {h' : xH} (hdp : 6 ≤ d) (hq : Q (none) h') : ∀ (n : Nat) (x0 : Nat) (h : xH), F_X12_next_b89 n x0 h = some (r, h') → Gd Γ l d m_X12_next 89 [.ref x0, xhole] [] h 0 0 Q := by
  intro n
  induction n with
  | zero => intro x0 h hF; cases hF
  | succ n ih =>
  intro x0 h hF
  rw [F_X12_next_b89] at hF
  refine g_aloadn d_X12_next_89 rfl ?_
  refine g_aloadn d_X12_next_90 rfl ?_
  obtain ⟨v91, e91, hF⟩ := Option.bind_eq_some_iff.mp hF
  refine q_fI d_X12_next_91 f_X12_107 e91 ?_
  obtain ⟨_, g94, hF⟩ := Option.bind_eq_some_iff.mp hF
  obtain ⟨⟨r94, h94⟩, e94, hF⟩ := Option.bind_eq_some_iff.mp hF
  try dsimp only at hF
  refine q_callV [.int v91] [] rfl d_X12_next_94 v_X12_110 (by omega) rfl (Nat.le_of_ble_eq_true rfl) (rc_rc g94 (by decide) rfl) (R_X12_see _ _ _ (by omega) e94) ?_
  obtain ⟨⟨r97, h97⟩, e97, hF⟩ := Option.bind_eq_some_iff.mp hF
  try dsimp only at hF
  refine q_callS [.int (r94)] [] rfl d_X12_next_97 s_X12_117 (by omega) rfl (Nat.le_of_ble_eq_true rfl) (R_X12_isSmall _ _ (by omega) e97) ?_
  refine g_if_eq 116 d_X12_next_100 rfl (fun c100 => ?_) (fun c100 => ?_)
  · have hF := x_t hF c100
    refine g_aloadn d_X12_next_116 rfl ?_
    refine g_aloadn d_X12_next_117 rfl ?_
    obtain ⟨_, g118, hF⟩ := Option.bind_eq_some_iff.mp hF
    obtain ⟨⟨r118, h118⟩, e118, hF⟩ := Option.bind_eq_some_iff.mp hF
    try dsimp only at hF
    refine q_callV [] [.ref x0] rfl d_X12_next_118 v_X12_121 (by omega) rfl (Nat.le_of_ble_eq_true rfl) (rc_rc g118 (by decide) rfl) (R_X12_keyAt _ _ (by omega) e118) ?_
    obtain ⟨h121, e121, hF⟩ := Option.bind_eq_some_iff.mp hF
    refine q_wI d_X12_next_121 (w_X12_114 _) e121 ?_
    refine g_goto 294 d_X12_next_124 rfl ?_
    obtain ⟨rfl, rfl⟩ := x_inj hF
    exact g_vret d_X12_next_294 rfl hq
  · have hF := x_f hF c100
    refine g_aloadn d_X12_next_103 rfl ?_
    refine g_dup d_X12_next_104 rfl ?_
    obtain ⟨v105, e105, hF⟩ := Option.bind_eq_some_iff.mp hF
    refine q_fI d_X12_next_105 f_X12_107 e105 ?_
    refine g_ic (1) d_X12_next_108 ic_1 ?_
    refine g_iadd d_X12_next_109 ?_
    obtain ⟨h110, e110, hF⟩ := Option.bind_eq_some_iff.mp hF
    refine q_wI d_X12_next_110 (w_X12_107 _) e110 ?_
    refine g_goto 89 d_X12_next_113 rfl ?_
    exact q_to (xs_r (xs_h xs_n)) (ih _ _ hF)
def F_X12_next_b34 (k8 : Nat → xH → Option (Unit × xH)) (x0 : Nat) (h : xH) : Option (Unit × xH) := (fI h x0 11 6).bind fun v36 => (wI h x0 11 6 (v36 + 1)).bind fun h41 => k8 x0 h41
theorem R_X12_next_b34 {Γ : xG} {l : Launch} {d : Nat} {Q : Option Value → xH → Prop} {r : Unit} {h' : xH} {k8 : Nat → xH → Option (Unit × xH)} (K8 : ∀ (x0 : Nat)  (h : xH), k8 x0 h = some (r, h') → Gd Γ l d m_X12_next 8 [.ref x0, xhole] [] h 0 0 Q) (hdp : 6 ≤ d) (hq : Q (none) h') : ∀ (x0 : Nat) (h : xH), F_X12_next_b34 k8 x0 h = some (r, h') → Gd Γ l d m_X12_next 34 [.ref x0, xhole] [] h 0 0 Q := by
  intro x0 h hF
  unfold F_X12_next_b34 at hF
  refine g_aloadn d_X12_next_34 rfl ?_
  refine g_dup d_X12_next_35 rfl ?_
  obtain ⟨v36, e36, hF⟩ := Option.bind_eq_some_iff.mp hF
  refine q_fI d_X12_next_36 f_X12_104 e36 ?_
  refine g_ic (1) d_X12_next_39 ic_1 ?_
  refine g_iadd d_X12_next_40 ?_
  obtain ⟨h41, e41, hF⟩ := Option.bind_eq_some_iff.mp hF
  refine q_wI d_X12_next_41 (w_X12_104 _) e41 ?_
  refine g_goto 8 d_X12_next_44 rfl ?_
  exact q_to (xs_r (xs_h xs_n)) (K8 _ _ hF)
def F_X12_next_b254 : Nat → Nat → Int32 → xH → Option (Unit × xH)
  | 0, _, _, _ => none
  | n + 1, x0, x1, h => (rcS h 66).bind fun _ => (F_J0_length_8abf5 66 h).bind fun z257 => if z257.1 ≤ x1 then some ((), z257.2) else (fI z257.2 x0 11 6).bind fun v265 => (rc z257.2 x0 11).bind fun _ => (F_X12_see x0 v265 z257.2).bind fun z268 => (rcS z268.2 66).bind fun _ => (F_J0_charAt_5068e 66 x1 z268.2).bind fun z274 => if ¬ z268.1 = z274.1 then F_X12_next_b254 n x0 (x1 + 1) z274.2 else (wI z274.2 x0 11 9 (((30 : Int32)) + x1)).bind fun h285 => F_X12_next_b254 n x0 (x1 + 1) h285
theorem R_X12_next_b254 {Γ : xG} {l : Launch} {d : Nat} {Q : Option Value → xH → Prop} {r : Unit} {h' : xH} (hdp : 6 ≤ d) (hq : Q (none) h') : ∀ (n : Nat) (x0 : Nat) (x1 : Int32) (h : xH), F_X12_next_b254 n x0 x1 h = some (r, h') → Gd Γ l d m_X12_next 254 [.ref x0, .int x1] [] h 0 0 Q := by
  intro n
  induction n with
  | zero => intro x0 x1 h hF; cases hF
  | succ n ih =>
  intro x0 x1 h hF
  rw [F_X12_next_b254] at hF
  refine g_iloadn d_X12_next_254 rfl ?_
  refine g_ldcS (i := 33) d_X12_next_255 rfl ?_
  obtain ⟨_, g257, hF⟩ := Option.bind_eq_some_iff.mp hF
  obtain ⟨⟨r257, h257⟩, e257, hF⟩ := Option.bind_eq_some_iff.mp hF
  try dsimp only at hF
  refine q_callV [] [.int x1] rfl d_X12_next_257 v_X12_94 (by omega) rfl (Nat.le_of_ble_eq_true rfl) (rcS_rc g257) (R_J0_length_8abf5 _ _ (by omega) e257) ?_
  refine g_icmp_ge 294 d_X12_next_260 rfl (fun c260 => ?_) (fun c260 => ?_)
  · have hF := x_t hF c260
    obtain ⟨rfl, rfl⟩ := x_inj hF
    exact g_vret d_X12_next_294 rfl hq
  · have hF := x_f hF c260
    refine g_aloadn d_X12_next_263 rfl ?_
    refine g_aloadn d_X12_next_264 rfl ?_
    obtain ⟨v265, e265, hF⟩ := Option.bind_eq_some_iff.mp hF
    refine q_fI d_X12_next_265 f_X12_104 e265 ?_
    obtain ⟨_, g268, hF⟩ := Option.bind_eq_some_iff.mp hF
    obtain ⟨⟨r268, h268⟩, e268, hF⟩ := Option.bind_eq_some_iff.mp hF
    try dsimp only at hF
    refine q_callV [.int v265] [] rfl d_X12_next_268 v_X12_110 (by omega) rfl (Nat.le_of_ble_eq_true rfl) (rc_rc g268 (by decide) rfl) (R_X12_see _ _ _ (by omega) e268) ?_
    refine g_ldcS (i := 33) d_X12_next_271 rfl ?_
    refine g_iloadn d_X12_next_273 rfl ?_
    obtain ⟨_, g274, hF⟩ := Option.bind_eq_some_iff.mp hF
    obtain ⟨⟨r274, h274⟩, e274, hF⟩ := Option.bind_eq_some_iff.mp hF
    try dsimp only at hF
    refine q_callV [.int x1] [.int (r268)] rfl d_X12_next_274 v_X12_100 (by omega) rfl (Nat.le_of_ble_eq_true rfl) (rcS_rc g274) (R_J0_charAt_5068e _ _ _ (by omega) e274) ?_
    refine g_icmp_ne 288 d_X12_next_277 rfl (fun c277 => ?_) (fun c277 => ?_)
    · have hF := x_t hF c277
      refine q_iinc (1) [.ref x0, .int (x1 + 1)] d_X12_next_288 ic_1 rfl (by decide) rfl ?_
      refine g_goto 254 d_X12_next_291 rfl ?_
      exact q_to (xs_r (xs_r xs_n)) (ih _ _ _ hF)
    · have hF := x_f hF (not_not_intro c277)
      refine g_aloadn d_X12_next_280 rfl ?_
      refine g_bi (30) d_X12_next_281 bi_30 ?_
      refine g_iloadn d_X12_next_283 rfl ?_
      refine g_iadd d_X12_next_284 ?_
      obtain ⟨h285, e285, hF⟩ := Option.bind_eq_some_iff.mp hF
      refine q_wI d_X12_next_285 (w_X12_114 _) e285 ?_
      refine q_iinc (1) [.ref x0, .int (x1 + 1)] d_X12_next_288 ic_1 rfl (by decide) rfl ?_
      refine g_goto 254 d_X12_next_291 rfl ?_
      exact q_to (xs_r (xs_r xs_n)) (ih _ _ _ hF)
def F_X12_next_b196 (k146 : Nat → xH → Option (Unit × xH)) (x0 : Nat) (h : xH) : Option (Unit × xH) := (fI h x0 11 7).bind fun v198 => (wI h x0 11 7 (v198 + 1)).bind fun h203 => k146 x0 h203
theorem R_X12_next_b196 {Γ : xG} {l : Launch} {d : Nat} {Q : Option Value → xH → Prop} {r : Unit} {h' : xH} {k146 : Nat → xH → Option (Unit × xH)} (K146 : ∀ (x0 : Nat)  (h : xH), k146 x0 h = some (r, h') → Gd Γ l d m_X12_next 146 [.ref x0, xhole] [] h 0 0 Q) (hdp : 6 ≤ d) (hq : Q (none) h') : ∀ (x0 : Nat) (h : xH), F_X12_next_b196 k146 x0 h = some (r, h') → Gd Γ l d m_X12_next 196 [.ref x0, xhole] [] h 0 0 Q := by
  intro x0 h hF
  unfold F_X12_next_b196 at hF
  refine g_aloadn d_X12_next_196 rfl ?_
  refine g_dup d_X12_next_197 rfl ?_
  obtain ⟨v198, e198, hF⟩ := Option.bind_eq_some_iff.mp hF
  refine q_fI d_X12_next_198 f_X12_107 e198 ?_
  refine g_ic (1) d_X12_next_201 ic_1 ?_
  refine g_iadd d_X12_next_202 ?_
  obtain ⟨h203, e203, hF⟩ := Option.bind_eq_some_iff.mp hF
  refine q_wI d_X12_next_203 (w_X12_107 _) e203 ?_
  refine g_goto 146 d_X12_next_206 rfl ?_
  exact q_to (xs_r (xs_h xs_n)) (K146 _ _ hF)
def F_X12_next_b146 : Nat → Nat → xH → Option (Unit × xH)
  | 0, _, _ => none
  | n + 1, x0, h => (fI h x0 11 7).bind fun v148 => (rc h x0 11).bind fun _ => (F_X12_see x0 v148 h).bind fun z151 => (F_X12_isDigit z151.1 z151.2).bind fun z154 => if z154.1 = 0 then (fI z154.2 x0 11 7).bind fun v211 => (fI z154.2 x0 11 6).bind fun v215 => if (v211 - v215) ≤ ((3 : Int32)) then (wI z154.2 x0 11 9 23).bind fun h230 => some ((), h230) else (wI z154.2 x0 11 9 25).bind fun h230 => some ((), h230) else (fI z154.2 x0 11 7).bind fun v161 => (fI z154.2 x0 11 6).bind fun v165 => if ((3 : Int32)) ≤ (v161 - v165) then F_X12_next_b196 (F_X12_next_b146 n) x0 z154.2 else (fI z154.2 x0 11 10).bind fun v177 => (fI z154.2 x0 11 7).bind fun v183 => (rc z154.2 x0 11).bind fun _ => (F_X12_see x0 v183 z154.2).bind fun z186 => (wI z186.2 x0 11 10 (((((10 : Int32)) * v177) + z186.1) - 48)).bind fun h193 => F_X12_next_b196 (F_X12_next_b146 n) x0 h193
theorem R_X12_next_b146 {Γ : xG} {l : Launch} {d : Nat} {Q : Option Value → xH → Prop} {r : Unit} {h' : xH} (hdp : 6 ≤ d) (hq : Q (none) h') : ∀ (n : Nat) (x0 : Nat) (h : xH), F_X12_next_b146 n x0 h = some (r, h') → Gd Γ l d m_X12_next 146 [.ref x0, xhole] [] h 0 0 Q := by
  intro n
  induction n with
  | zero => intro x0 h hF; cases hF
  | succ n ih =>
  intro x0 h hF
  rw [F_X12_next_b146] at hF
  refine g_aloadn d_X12_next_146 rfl ?_
  refine g_aloadn d_X12_next_147 rfl ?_
  obtain ⟨v148, e148, hF⟩ := Option.bind_eq_some_iff.mp hF
  refine q_fI d_X12_next_148 f_X12_107 e148 ?_
  obtain ⟨_, g151, hF⟩ := Option.bind_eq_some_iff.mp hF
  obtain ⟨⟨r151, h151⟩, e151, hF⟩ := Option.bind_eq_some_iff.mp hF
  try dsimp only at hF
  refine q_callV [.int v148] [] rfl d_X12_next_151 v_X12_110 (by omega) rfl (Nat.le_of_ble_eq_true rfl) (rc_rc g151 (by decide) rfl) (R_X12_see _ _ _ (by omega) e151) ?_
  obtain ⟨⟨r154, h154⟩, e154, hF⟩ := Option.bind_eq_some_iff.mp hF
  try dsimp only at hF
  refine q_callS [.int (r151)] [] rfl d_X12_next_154 s_X12_124 (by omega) rfl (Nat.le_of_ble_eq_true rfl) (R_X12_isDigit _ _ (by omega) e154) ?_
  refine g_if_eq 209 d_X12_next_157 rfl (fun c157 => ?_) (fun c157 => ?_)
  · have hF := x_t hF c157
    refine g_aloadn d_X12_next_209 rfl ?_
    refine g_aloadn d_X12_next_210 rfl ?_
    obtain ⟨v211, e211, hF⟩ := Option.bind_eq_some_iff.mp hF
    refine q_fI d_X12_next_211 f_X12_107 e211 ?_
    refine g_aloadn d_X12_next_214 rfl ?_
    obtain ⟨v215, e215, hF⟩ := Option.bind_eq_some_iff.mp hF
    refine q_fI d_X12_next_215 f_X12_104 e215 ?_
    refine g_isub d_X12_next_218 ?_
    refine g_ic (3) d_X12_next_219 ic_3 ?_
    refine g_icmp_le 228 d_X12_next_220 rfl (fun c220 => ?_) (fun c220 => ?_)
    · have hF := x_t hF c220
      refine g_bi (23) d_X12_next_228 bi_23 ?_
      obtain ⟨h230, e230, hF⟩ := Option.bind_eq_some_iff.mp hF
      refine q_wI d_X12_next_230 (w_X12_114 _) e230 ?_
      refine g_goto 294 d_X12_next_233 rfl ?_
      obtain ⟨rfl, rfl⟩ := x_inj hF
      exact g_vret d_X12_next_294 rfl hq
    · have hF := x_f hF c220
      refine g_bi (25) d_X12_next_223 bi_25 ?_
      refine g_goto 230 d_X12_next_225 rfl ?_
      obtain ⟨h230, e230, hF⟩ := Option.bind_eq_some_iff.mp hF
      refine q_wI d_X12_next_230 (w_X12_114 _) e230 ?_
      refine g_goto 294 d_X12_next_233 rfl ?_
      obtain ⟨rfl, rfl⟩ := x_inj hF
      exact g_vret d_X12_next_294 rfl hq
  · have hF := x_f hF c157
    refine g_aloadn d_X12_next_160 rfl ?_
    obtain ⟨v161, e161, hF⟩ := Option.bind_eq_some_iff.mp hF
    refine q_fI d_X12_next_161 f_X12_107 e161 ?_
    refine g_aloadn d_X12_next_164 rfl ?_
    obtain ⟨v165, e165, hF⟩ := Option.bind_eq_some_iff.mp hF
    refine q_fI d_X12_next_165 f_X12_104 e165 ?_
    refine g_isub d_X12_next_168 ?_
    refine g_ic (3) d_X12_next_169 ic_3 ?_
    refine g_icmp_ge 196 d_X12_next_170 rfl (fun c170 => ?_) (fun c170 => ?_)
    · have hF := x_t hF c170
      exact q_to (xs_r (xs_h xs_n)) (R_X12_next_b196 ih hdp hq _ _ hF)
    · have hF := x_f hF c170
      refine g_aloadn d_X12_next_173 rfl ?_
      refine g_bi (10) d_X12_next_174 bi_10 ?_
      refine g_aloadn d_X12_next_176 rfl ?_
      obtain ⟨v177, e177, hF⟩ := Option.bind_eq_some_iff.mp hF
      refine q_fI d_X12_next_177 f_X12_127 e177 ?_
      refine g_imul d_X12_next_180 ?_
      refine g_aloadn d_X12_next_181 rfl ?_
      refine g_aloadn d_X12_next_182 rfl ?_
      obtain ⟨v183, e183, hF⟩ := Option.bind_eq_some_iff.mp hF
      refine q_fI d_X12_next_183 f_X12_107 e183 ?_
      obtain ⟨_, g186, hF⟩ := Option.bind_eq_some_iff.mp hF
      obtain ⟨⟨r186, h186⟩, e186, hF⟩ := Option.bind_eq_some_iff.mp hF
      try dsimp only at hF
      refine q_callV [.int v183] [.int (((10 : Int32)) * v177), .ref x0] rfl d_X12_next_186 v_X12_110 (by omega) rfl (Nat.le_of_ble_eq_true rfl) (rc_rc g186 (by decide) rfl) (R_X12_see _ _ _ (by omega) e186) ?_
      refine g_iadd d_X12_next_189 ?_
      refine g_bi (48) d_X12_next_190 bi_48 ?_
      refine g_isub d_X12_next_192 ?_
      obtain ⟨h193, e193, hF⟩ := Option.bind_eq_some_iff.mp hF
      refine q_wI d_X12_next_193 (w_X12_127 _) e193 ?_
      exact q_to (xs_r (xs_h xs_n)) (R_X12_next_b196 ih hdp hq _ _ hF)
def F_X12_next_b8 : Nat → Nat → xH → Option (Unit × xH)
  | 0, _, _ => none
  | n + 1, x0, h => (fI h x0 11 6).bind fun v10 => (rc h x0 11).bind fun _ => (F_X12_see x0 v10 h).bind fun z13 => if z13.1 = ((10 : Int32)) then F_X12_next_b34 (F_X12_next_b8 n) x0 z13.2 else (fI z13.2 x0 11 6).bind fun v23 => (rc z13.2 x0 11).bind fun _ => (F_X12_see x0 v23 z13.2).bind fun z26 => if ¬ z26.1 = ((32 : Int32)) then (fI z26.2 x0 11 6).bind fun v49 => (wI z26.2 x0 11 7 v49).bind fun h52 => (fI h52 x0 11 6).bind fun v56 => (fI h52 x0 11 8).bind fun v60 => if v56 < v60 then (fI h52 x0 11 6).bind fun v77 => (rc h52 x0 11).bind fun _ => (F_X12_see x0 v77 h52).bind fun z80 => (F_X12_isSmall z80.1 z80.2).bind fun z83 => if z83.1 = 0 then (fI z83.2 x0 11 6).bind fun v129 => (rc z83.2 x0 11).bind fun _ => (F_X12_see x0 v129 z83.2).bind fun z132 => (F_X12_isDigit z132.1 z132.2).bind fun z135 => if z135.1 = 0 then (fI z135.2 x0 11 7).bind fun v238 => (wI z135.2 x0 11 7 (v238 + 1)).bind fun h243 => (wI h243 x0 11 9 25).bind fun h249 => F_X12_next_b254 FU x0 0 h249 else (wI z135.2 x0 11 10 0).bind fun h143 => F_X12_next_b146 FU x0 h143 else F_X12_next_b89 FU x0 z83.2 else (wI h52 x0 11 9 24).bind fun h69 => some ((), h69) else F_X12_next_b34 (F_X12_next_b8 n) x0 z26.2
theorem R_X12_next_b8 {Γ : xG} {l : Launch} {d : Nat} {Q : Option Value → xH → Prop} {r : Unit} {h' : xH} (hdp : 6 ≤ d) (hq : Q (none) h') : ∀ (n : Nat) (x0 : Nat) (h : xH), F_X12_next_b8 n x0 h = some (r, h') → Gd Γ l d m_X12_next 8 [.ref x0, xhole] [] h 0 0 Q := by
  intro n
  induction n with
  | zero => intro x0 h hF; cases hF
  | succ n ih =>
  intro x0 h hF
  rw [F_X12_next_b8] at hF
  refine g_aloadn d_X12_next_8 rfl ?_
  refine g_aloadn d_X12_next_9 rfl ?_
  obtain ⟨v10, e10, hF⟩ := Option.bind_eq_some_iff.mp hF
  refine q_fI d_X12_next_10 f_X12_104 e10 ?_
  obtain ⟨_, g13, hF⟩ := Option.bind_eq_some_iff.mp hF
  obtain ⟨⟨r13, h13⟩, e13, hF⟩ := Option.bind_eq_some_iff.mp hF
  try dsimp only at hF
  refine q_callV [.int v10] [] rfl d_X12_next_13 v_X12_110 (by omega) rfl (Nat.le_of_ble_eq_true rfl) (rc_rc g13 (by decide) rfl) (R_X12_see _ _ _ (by omega) e13) ?_
  refine g_bi (10) d_X12_next_16 bi_10 ?_
  refine g_icmp_eq 34 d_X12_next_18 rfl (fun c18 => ?_) (fun c18 => ?_)
  · have hF := x_t hF c18
    exact q_to (xs_r (xs_h xs_n)) (R_X12_next_b34 ih hdp hq _ _ hF)
  · have hF := x_f hF c18
    refine g_aloadn d_X12_next_21 rfl ?_
    refine g_aloadn d_X12_next_22 rfl ?_
    obtain ⟨v23, e23, hF⟩ := Option.bind_eq_some_iff.mp hF
    refine q_fI d_X12_next_23 f_X12_104 e23 ?_
    obtain ⟨_, g26, hF⟩ := Option.bind_eq_some_iff.mp hF
    obtain ⟨⟨r26, h26⟩, e26, hF⟩ := Option.bind_eq_some_iff.mp hF
    try dsimp only at hF
    refine q_callV [.int v23] [] rfl d_X12_next_26 v_X12_110 (by omega) rfl (Nat.le_of_ble_eq_true rfl) (rc_rc g26 (by decide) rfl) (R_X12_see _ _ _ (by omega) e26) ?_
    refine g_bi (32) d_X12_next_29 bi_32 ?_
    refine g_icmp_ne 47 d_X12_next_31 rfl (fun c31 => ?_) (fun c31 => ?_)
    · have hF := x_t hF c31
      refine g_aloadn d_X12_next_47 rfl ?_
      refine g_aloadn d_X12_next_48 rfl ?_
      obtain ⟨v49, e49, hF⟩ := Option.bind_eq_some_iff.mp hF
      refine q_fI d_X12_next_49 f_X12_104 e49 ?_
      obtain ⟨h52, e52, hF⟩ := Option.bind_eq_some_iff.mp hF
      refine q_wI d_X12_next_52 (w_X12_107 _) e52 ?_
      refine g_aloadn d_X12_next_55 rfl ?_
      obtain ⟨v56, e56, hF⟩ := Option.bind_eq_some_iff.mp hF
      refine q_fI d_X12_next_56 f_X12_104 e56 ?_
      refine g_aloadn d_X12_next_59 rfl ?_
      obtain ⟨v60, e60, hF⟩ := Option.bind_eq_some_iff.mp hF
      refine q_fI d_X12_next_60 f_X12_89 e60 ?_
      refine g_icmp_lt 75 d_X12_next_63 rfl (fun c63 => ?_) (fun c63 => ?_)
      · have hF := x_t hF c63
        refine g_aloadn d_X12_next_75 rfl ?_
        refine g_aloadn d_X12_next_76 rfl ?_
        obtain ⟨v77, e77, hF⟩ := Option.bind_eq_some_iff.mp hF
        refine q_fI d_X12_next_77 f_X12_104 e77 ?_
        obtain ⟨_, g80, hF⟩ := Option.bind_eq_some_iff.mp hF
        obtain ⟨⟨r80, h80⟩, e80, hF⟩ := Option.bind_eq_some_iff.mp hF
        try dsimp only at hF
        refine q_callV [.int v77] [] rfl d_X12_next_80 v_X12_110 (by omega) rfl (Nat.le_of_ble_eq_true rfl) (rc_rc g80 (by decide) rfl) (R_X12_see _ _ _ (by omega) e80) ?_
        obtain ⟨⟨r83, h83⟩, e83, hF⟩ := Option.bind_eq_some_iff.mp hF
        try dsimp only at hF
        refine q_callS [.int (r80)] [] rfl d_X12_next_83 s_X12_117 (by omega) rfl (Nat.le_of_ble_eq_true rfl) (R_X12_isSmall _ _ (by omega) e83) ?_
        refine g_if_eq 127 d_X12_next_86 rfl (fun c86 => ?_) (fun c86 => ?_)
        · have hF := x_t hF c86
          refine g_aloadn d_X12_next_127 rfl ?_
          refine g_aloadn d_X12_next_128 rfl ?_
          obtain ⟨v129, e129, hF⟩ := Option.bind_eq_some_iff.mp hF
          refine q_fI d_X12_next_129 f_X12_104 e129 ?_
          obtain ⟨_, g132, hF⟩ := Option.bind_eq_some_iff.mp hF
          obtain ⟨⟨r132, h132⟩, e132, hF⟩ := Option.bind_eq_some_iff.mp hF
          try dsimp only at hF
          refine q_callV [.int v129] [] rfl d_X12_next_132 v_X12_110 (by omega) rfl (Nat.le_of_ble_eq_true rfl) (rc_rc g132 (by decide) rfl) (R_X12_see _ _ _ (by omega) e132) ?_
          obtain ⟨⟨r135, h135⟩, e135, hF⟩ := Option.bind_eq_some_iff.mp hF
          try dsimp only at hF
          refine q_callS [.int (r132)] [] rfl d_X12_next_135 s_X12_124 (by omega) rfl (Nat.le_of_ble_eq_true rfl) (R_X12_isDigit _ _ (by omega) e135) ?_
          refine g_if_eq 236 d_X12_next_138 rfl (fun c138 => ?_) (fun c138 => ?_)
          · have hF := x_t hF c138
            refine g_aloadn d_X12_next_236 rfl ?_
            refine g_dup d_X12_next_237 rfl ?_
            obtain ⟨v238, e238, hF⟩ := Option.bind_eq_some_iff.mp hF
            refine q_fI d_X12_next_238 f_X12_107 e238 ?_
            refine g_ic (1) d_X12_next_241 ic_1 ?_
            refine g_iadd d_X12_next_242 ?_
            obtain ⟨h243, e243, hF⟩ := Option.bind_eq_some_iff.mp hF
            refine q_wI d_X12_next_243 (w_X12_107 _) e243 ?_
            refine g_aloadn d_X12_next_246 rfl ?_
            refine g_bi (25) d_X12_next_247 bi_25 ?_
            obtain ⟨h249, e249, hF⟩ := Option.bind_eq_some_iff.mp hF
            refine q_wI d_X12_next_249 (w_X12_114 _) e249 ?_
            refine g_ic (0) d_X12_next_252 ic_0 ?_
            refine q_istoren [.ref x0, .int 0] d_X12_next_253 (by decide) rfl ?_
            exact q_to (xs_r (xs_r xs_n)) (R_X12_next_b254 hdp hq FU _ _ _ hF)
          · have hF := x_f hF c138
            refine g_aloadn d_X12_next_141 rfl ?_
            refine g_ic (0) d_X12_next_142 ic_0 ?_
            obtain ⟨h143, e143, hF⟩ := Option.bind_eq_some_iff.mp hF
            refine q_wI d_X12_next_143 (w_X12_127 _) e143 ?_
            exact q_to (xs_r (xs_h xs_n)) (R_X12_next_b146 hdp hq FU _ _ hF)
        · have hF := x_f hF c86
          exact q_to (xs_r (xs_h xs_n)) (R_X12_next_b89 hdp hq FU _ _ hF)
      · have hF := x_f hF c63
        refine g_aloadn d_X12_next_66 rfl ?_
        refine g_bi (24) d_X12_next_67 bi_24 ?_
        obtain ⟨h69, e69, hF⟩ := Option.bind_eq_some_iff.mp hF
        refine q_wI d_X12_next_69 (w_X12_114 _) e69 ?_
        refine g_goto 294 d_X12_next_72 rfl ?_
        obtain ⟨rfl, rfl⟩ := x_inj hF
        exact g_vret d_X12_next_294 rfl hq
    · have hF := x_f hF (not_not_intro c31)
      exact q_to (xs_r (xs_h xs_n)) (R_X12_next_b34 ih hdp hq _ _ hF)
def F_X12_next (x0 : Nat) (h : xH) : Option (Unit × xH) := (fI h x0 11 7).bind fun v2 => (wI h x0 11 6 v2).bind fun h5 => F_X12_next_b8 FU x0 h5
theorem R_X12_next {Γ : xG} {l : Launch} {d : Nat} {r : Unit} {h' : xH} (x0 : Nat) (h : xH) (hdp : 6 ≤ d) (hF : F_X12_next x0 h = some (r, h')) : Gm Γ l d 0 0 m_X12_next [.ref x0] h (fun a u => a = none ∧ u = h') := by
  refine Gm.of pn_X12 (Nat.le_of_ble_eq_true rfl) ?_
  show Gd Γ l d m_X12_next 0 [.ref x0, xhole] [] h 0 0 _
  generalize hQ : (fun (a : Option Value) (u : xH) => a = none ∧ u = h') = Q
  have hq : Q (none) h' := by rw [← hQ]; exact ⟨rfl, rfl⟩
  clear hQ
  unfold F_X12_next at hF
  refine g_aloadn d_X12_next_0 rfl ?_
  refine g_aloadn d_X12_next_1 rfl ?_
  obtain ⟨v2, e2, hF⟩ := Option.bind_eq_some_iff.mp hF
  refine q_fI d_X12_next_2 f_X12_107 e2 ?_
  obtain ⟨h5, e5, hF⟩ := Option.bind_eq_some_iff.mp hF
  refine q_wI d_X12_next_5 (w_X12_104 _) e5 ?_
  exact q_to (xs_r (xs_h xs_n)) (R_X12_next_b8 hdp hq FU _ _ hF)
theorem d_X12_fails_0 : decode cX12_fails 0 = .ok (.aload_n 0, 1) := by decide +kernel
theorem d_X12_fails_1 : decode cX12_fails 1 = .ok (.getfield 132, 3) := by decide +kernel
theorem d_X12_fails_4 : decode cX12_fails 4 = .ok (.ifCond .eq 4, 3) := by decide +kernel
theorem d_X12_fails_7 : decode cX12_fails 7 = .ok (.return_, 1) := by decide +kernel
theorem d_X12_fails_8 : decode cX12_fails 8 = .ok (.aload_n 0, 1) := by decide +kernel
theorem d_X12_fails_9 : decode cX12_fails 9 = .ok (.aload_n 0, 1) := by decide +kernel
theorem d_X12_fails_10 : decode cX12_fails 10 = .ok (.getfield 114, 3) := by decide +kernel
theorem d_X12_fails_13 : decode cX12_fails 13 = .ok (.bipush 25, 2) := by decide +kernel
theorem d_X12_fails_15 : decode cX12_fails 15 = .ok (.if_icmp .ne 7, 3) := by decide +kernel
theorem d_X12_fails_18 : decode cX12_fails 18 = .ok (.iconst 1, 1) := by decide +kernel
theorem d_X12_fails_19 : decode cX12_fails 19 = .ok (.goto 4, 3) := by decide +kernel
theorem d_X12_fails_22 : decode cX12_fails 22 = .ok (.iload_n 1, 1) := by decide +kernel
theorem d_X12_fails_23 : decode cX12_fails 23 = .ok (.putfield 132, 3) := by decide +kernel
theorem d_X12_fails_26 : decode cX12_fails 26 = .ok (.aload_n 0, 1) := by decide +kernel
theorem d_X12_fails_27 : decode cX12_fails 27 = .ok (.aload_n 0, 1) := by decide +kernel
theorem d_X12_fails_28 : decode cX12_fails 28 = .ok (.getfield 104, 3) := by decide +kernel
theorem d_X12_fails_31 : decode cX12_fails 31 = .ok (.putfield 135, 3) := by decide +kernel
theorem d_X12_fails_34 : decode cX12_fails 34 = .ok (.return_, 1) := by decide +kernel
def F_X12_fails (x0 : Nat) (x1 : Int32) (h : xH) : Option (Unit × xH) := (fI h x0 11 11).bind fun v1 => if v1 = 0 then (fI h x0 11 9).bind fun v10 => if ¬ v10 = ((25 : Int32)) then (wI h x0 11 11 x1).bind fun h23 => (fI h23 x0 11 6).bind fun v28 => (wI h23 x0 11 12 v28).bind fun h31 => some ((), h31) else (wI h x0 11 11 1).bind fun h23 => (fI h23 x0 11 6).bind fun v28 => (wI h23 x0 11 12 v28).bind fun h31 => some ((), h31) else some ((), h)
theorem R_X12_fails {Γ : xG} {l : Launch} {d : Nat} {r : Unit} {h' : xH} (x0 : Nat) (x1 : Int32) (h : xH) (hdp : 0 ≤ d) (hF : F_X12_fails x0 x1 h = some (r, h')) : Gm Γ l d 0 0 m_X12_fails [.ref x0, .int x1] h (fun a u => a = none ∧ u = h') := by
  refine Gm.of pn_X12 (Nat.le_of_ble_eq_true rfl) ?_
  show Gd Γ l d m_X12_fails 0 [.ref x0, .int x1] [] h 0 0 _
  generalize hQ : (fun (a : Option Value) (u : xH) => a = none ∧ u = h') = Q
  have hq : Q (none) h' := by rw [← hQ]; exact ⟨rfl, rfl⟩
  clear hQ
  unfold F_X12_fails at hF
  refine g_aloadn d_X12_fails_0 rfl ?_
  obtain ⟨v1, e1, hF⟩ := Option.bind_eq_some_iff.mp hF
  refine q_fI d_X12_fails_1 f_X12_132 e1 ?_
  refine g_if_eq 8 d_X12_fails_4 rfl (fun c4 => ?_) (fun c4 => ?_)
  · have hF := x_t hF c4
    refine g_aloadn d_X12_fails_8 rfl ?_
    refine g_aloadn d_X12_fails_9 rfl ?_
    obtain ⟨v10, e10, hF⟩ := Option.bind_eq_some_iff.mp hF
    refine q_fI d_X12_fails_10 f_X12_114 e10 ?_
    refine g_bi (25) d_X12_fails_13 bi_25 ?_
    refine g_icmp_ne 22 d_X12_fails_15 rfl (fun c15 => ?_) (fun c15 => ?_)
    · have hF := x_t hF c15
      refine g_iloadn d_X12_fails_22 rfl ?_
      obtain ⟨h23, e23, hF⟩ := Option.bind_eq_some_iff.mp hF
      refine q_wI d_X12_fails_23 (w_X12_132 _) e23 ?_
      refine g_aloadn d_X12_fails_26 rfl ?_
      refine g_aloadn d_X12_fails_27 rfl ?_
      obtain ⟨v28, e28, hF⟩ := Option.bind_eq_some_iff.mp hF
      refine q_fI d_X12_fails_28 f_X12_104 e28 ?_
      obtain ⟨h31, e31, hF⟩ := Option.bind_eq_some_iff.mp hF
      refine q_wI d_X12_fails_31 (w_X12_135 _) e31 ?_
      obtain ⟨rfl, rfl⟩ := x_inj hF
      exact g_vret d_X12_fails_34 rfl hq
    · have hF := x_f hF (not_not_intro c15)
      refine g_ic (1) d_X12_fails_18 ic_1 ?_
      refine g_goto 23 d_X12_fails_19 rfl ?_
      obtain ⟨h23, e23, hF⟩ := Option.bind_eq_some_iff.mp hF
      refine q_wI d_X12_fails_23 (w_X12_132 _) e23 ?_
      refine g_aloadn d_X12_fails_26 rfl ?_
      refine g_aloadn d_X12_fails_27 rfl ?_
      obtain ⟨v28, e28, hF⟩ := Option.bind_eq_some_iff.mp hF
      refine q_fI d_X12_fails_28 f_X12_104 e28 ?_
      obtain ⟨h31, e31, hF⟩ := Option.bind_eq_some_iff.mp hF
      refine q_wI d_X12_fails_31 (w_X12_135 _) e31 ?_
      obtain ⟨rfl, rfl⟩ := x_inj hF
      exact g_vret d_X12_fails_34 rfl hq
  · have hF := x_f hF c4
    obtain ⟨rfl, rfl⟩ := x_inj hF
    exact g_vret d_X12_fails_7 rfl hq
theorem d_X12_is_0 : decode cX12_is 0 = .ok (.aload_n 0, 1) := by decide +kernel
theorem d_X12_is_1 : decode cX12_is 1 = .ok (.getfield 132, 3) := by decide +kernel
theorem d_X12_is_4 : decode cX12_is 4 = .ok (.ifCond .ne 15, 3) := by decide +kernel
theorem d_X12_is_7 : decode cX12_is 7 = .ok (.aload_n 0, 1) := by decide +kernel
theorem d_X12_is_8 : decode cX12_is 8 = .ok (.getfield 114, 3) := by decide +kernel
theorem d_X12_is_11 : decode cX12_is 11 = .ok (.iload_n 1, 1) := by decide +kernel
theorem d_X12_is_12 : decode cX12_is 12 = .ok (.if_icmp .ne 7, 3) := by decide +kernel
theorem d_X12_is_15 : decode cX12_is 15 = .ok (.iconst 1, 1) := by decide +kernel
theorem d_X12_is_16 : decode cX12_is 16 = .ok (.goto 4, 3) := by decide +kernel
theorem d_X12_is_19 : decode cX12_is 19 = .ok (.iconst 0, 1) := by decide +kernel
theorem d_X12_is_20 : decode cX12_is 20 = .ok (.ireturn, 1) := by decide +kernel
def F_X12_is (x0 : Nat) (x1 : Int32) (h : xH) : Option (Int32 × xH) := (fI h x0 11 11).bind fun v1 => if ¬ v1 = 0 then some (0, h) else (fI h x0 11 9).bind fun v8 => if ¬ v8 = x1 then some (0, h) else some (1, h)
theorem R_X12_is {Γ : xG} {l : Launch} {d : Nat} {r : Int32} {h' : xH} (x0 : Nat) (x1 : Int32) (h : xH) (hdp : 0 ≤ d) (hF : F_X12_is x0 x1 h = some (r, h')) : Gm Γ l d 0 0 m_X12_is [.ref x0, .int x1] h (fun a u => a = some (.int r) ∧ u = h') := by
  refine Gm.of pn_X12 (Nat.le_of_ble_eq_true rfl) ?_
  show Gd Γ l d m_X12_is 0 [.ref x0, .int x1] [] h 0 0 _
  generalize hQ : (fun (a : Option Value) (u : xH) => a = some (.int r) ∧ u = h') = Q
  have hq : Q (some (.int r)) h' := by rw [← hQ]; exact ⟨rfl, rfl⟩
  clear hQ
  unfold F_X12_is at hF
  refine g_aloadn d_X12_is_0 rfl ?_
  obtain ⟨v1, e1, hF⟩ := Option.bind_eq_some_iff.mp hF
  refine q_fI d_X12_is_1 f_X12_132 e1 ?_
  refine g_if_ne 19 d_X12_is_4 rfl (fun c4 => ?_) (fun c4 => ?_)
  · have hF := x_t hF c4
    refine g_ic (0) d_X12_is_19 ic_0 ?_
    obtain ⟨rfl, rfl⟩ := x_inj hF
    exact g_zret d_X12_is_20 rfl rfl hq
  · have hF := x_f hF (not_not_intro c4)
    refine g_aloadn d_X12_is_7 rfl ?_
    obtain ⟨v8, e8, hF⟩ := Option.bind_eq_some_iff.mp hF
    refine q_fI d_X12_is_8 f_X12_114 e8 ?_
    refine g_iloadn d_X12_is_11 rfl ?_
    refine g_icmp_ne 19 d_X12_is_12 rfl (fun c12 => ?_) (fun c12 => ?_)
    · have hF := x_t hF c12
      refine g_ic (0) d_X12_is_19 ic_0 ?_
      obtain ⟨rfl, rfl⟩ := x_inj hF
      exact g_zret d_X12_is_20 rfl rfl hq
    · have hF := x_f hF (not_not_intro c12)
      refine g_ic (1) d_X12_is_15 ic_1 ?_
      refine g_goto 20 d_X12_is_16 rfl ?_
      obtain ⟨rfl, rfl⟩ := x_inj hF
      exact g_zret d_X12_is_20 rfl rfl hq
theorem d_X12_eats_0 : decode cX12_eats 0 = .ok (.aload_n 0, 1) := by decide +kernel
theorem d_X12_eats_1 : decode cX12_eats 1 = .ok (.iload_n 1, 1) := by decide +kernel
theorem d_X12_eats_2 : decode cX12_eats 2 = .ok (.invokevirtual 138, 3) := by decide +kernel
theorem d_X12_eats_5 : decode cX12_eats 5 = .ok (.ifCond .ne 5, 3) := by decide +kernel
theorem d_X12_eats_8 : decode cX12_eats 8 = .ok (.iconst 0, 1) := by decide +kernel
theorem d_X12_eats_9 : decode cX12_eats 9 = .ok (.ireturn, 1) := by decide +kernel
theorem d_X12_eats_10 : decode cX12_eats 10 = .ok (.aload_n 0, 1) := by decide +kernel
theorem d_X12_eats_11 : decode cX12_eats 11 = .ok (.invokevirtual 141, 3) := by decide +kernel
theorem d_X12_eats_14 : decode cX12_eats 14 = .ok (.iconst 1, 1) := by decide +kernel
theorem d_X12_eats_15 : decode cX12_eats 15 = .ok (.ireturn, 1) := by decide +kernel
def F_X12_eats (x0 : Nat) (x1 : Int32) (h : xH) : Option (Int32 × xH) := (rc h x0 11).bind fun _ => (F_X12_is x0 x1 h).bind fun z2 => if ¬ z2.1 = 0 then (rc z2.2 x0 11).bind fun _ => (F_X12_next x0 z2.2).bind fun z11 => some (1, z11.2) else some (0, z2.2)
theorem R_X12_eats {Γ : xG} {l : Launch} {d : Nat} {r : Int32} {h' : xH} (x0 : Nat) (x1 : Int32) (h : xH) (hdp : 7 ≤ d) (hF : F_X12_eats x0 x1 h = some (r, h')) : Gm Γ l d 0 0 m_X12_eats [.ref x0, .int x1] h (fun a u => a = some (.int r) ∧ u = h') := by
  refine Gm.of pn_X12 (Nat.le_of_ble_eq_true rfl) ?_
  show Gd Γ l d m_X12_eats 0 [.ref x0, .int x1] [] h 0 0 _
  generalize hQ : (fun (a : Option Value) (u : xH) => a = some (.int r) ∧ u = h') = Q
  have hq : Q (some (.int r)) h' := by rw [← hQ]; exact ⟨rfl, rfl⟩
  clear hQ
  unfold F_X12_eats at hF
  refine g_aloadn d_X12_eats_0 rfl ?_
  refine g_iloadn d_X12_eats_1 rfl ?_
  obtain ⟨_, g2, hF⟩ := Option.bind_eq_some_iff.mp hF
  obtain ⟨⟨r2, h2⟩, e2, hF⟩ := Option.bind_eq_some_iff.mp hF
  try dsimp only at hF
  refine q_callV [.int x1] [] rfl d_X12_eats_2 v_X12_138 (by omega) rfl (Nat.le_of_ble_eq_true rfl) (rc_rc g2 (by decide) rfl) (R_X12_is _ _ _ (by omega) e2) ?_
  refine g_if_ne 10 d_X12_eats_5 rfl (fun c5 => ?_) (fun c5 => ?_)
  · have hF := x_t hF c5
    refine g_aloadn d_X12_eats_10 rfl ?_
    obtain ⟨_, g11, hF⟩ := Option.bind_eq_some_iff.mp hF
    obtain ⟨⟨r11, h11⟩, e11, hF⟩ := Option.bind_eq_some_iff.mp hF
    try dsimp only at hF
    refine q_callV [] [] rfl d_X12_eats_11 v_X12_141 (by omega) rfl (Nat.le_of_ble_eq_true rfl) (rc_rc g11 (by decide) rfl) (R_X12_next _ _ (by omega) e11) ?_
    refine g_ic (1) d_X12_eats_14 ic_1 ?_
    obtain ⟨rfl, rfl⟩ := x_inj hF
    exact g_zret d_X12_eats_15 rfl rfl hq
  · have hF := x_f hF (not_not_intro c5)
    refine g_ic (0) d_X12_eats_8 ic_0 ?_
    obtain ⟨rfl, rfl⟩ := x_inj hF
    exact g_zret d_X12_eats_9 rfl rfl hq
theorem d_X12_takes_0 : decode cX12_takes 0 = .ok (.aload_n 0, 1) := by decide +kernel
theorem d_X12_takes_1 : decode cX12_takes 1 = .ok (.bipush 23, 2) := by decide +kernel
theorem d_X12_takes_3 : decode cX12_takes 3 = .ok (.invokevirtual 138, 3) := by decide +kernel
theorem d_X12_takes_6 : decode cX12_takes 6 = .ok (.ifCond .ne 11, 3) := by decide +kernel
theorem d_X12_takes_9 : decode cX12_takes 9 = .ok (.aload_n 0, 1) := by decide +kernel
theorem d_X12_takes_10 : decode cX12_takes 10 = .ok (.iconst 2, 1) := by decide +kernel
theorem d_X12_takes_11 : decode cX12_takes 11 = .ok (.invokevirtual 144, 3) := by decide +kernel
theorem d_X12_takes_14 : decode cX12_takes 14 = .ok (.goto 23, 3) := by decide +kernel
theorem d_X12_takes_17 : decode cX12_takes 17 = .ok (.aload_n 0, 1) := by decide +kernel
theorem d_X12_takes_18 : decode cX12_takes 18 = .ok (.getfield 127, 3) := by decide +kernel
theorem d_X12_takes_21 : decode cX12_takes 21 = .ok (.i2l, 1) := by decide +kernel
theorem d_X12_takes_22 : decode cX12_takes 22 = .ok (.iload_n 1, 1) := by decide +kernel
theorem d_X12_takes_23 : decode cX12_takes 23 = .ok (.i2l, 1) := by decide +kernel
theorem d_X12_takes_24 : decode cX12_takes 24 = .ok (.iload_n 2, 1) := by decide +kernel
theorem d_X12_takes_25 : decode cX12_takes 25 = .ok (.i2l, 1) := by decide +kernel
theorem d_X12_takes_26 : decode cX12_takes 26 = .ok (.invokestatic 148, 3) := by decide +kernel
theorem d_X12_takes_29 : decode cX12_takes 29 = .ok (.ifCond .ne 8, 3) := by decide +kernel
theorem d_X12_takes_32 : decode cX12_takes 32 = .ok (.aload_n 0, 1) := by decide +kernel
theorem d_X12_takes_33 : decode cX12_takes 33 = .ok (.iconst 3, 1) := by decide +kernel
theorem d_X12_takes_34 : decode cX12_takes 34 = .ok (.invokevirtual 144, 3) := by decide +kernel
theorem d_X12_takes_37 : decode cX12_takes 37 = .ok (.aload_n 0, 1) := by decide +kernel
theorem d_X12_takes_38 : decode cX12_takes 38 = .ok (.getfield 127, 3) := by decide +kernel
theorem d_X12_takes_41 : decode cX12_takes 41 = .ok (.istore_n 3, 1) := by decide +kernel
theorem d_X12_takes_42 : decode cX12_takes 42 = .ok (.aload_n 0, 1) := by decide +kernel
theorem d_X12_takes_43 : decode cX12_takes 43 = .ok (.getfield 132, 3) := by decide +kernel
theorem d_X12_takes_46 : decode cX12_takes 46 = .ok (.ifCond .ne 7, 3) := by decide +kernel
theorem d_X12_takes_49 : decode cX12_takes 49 = .ok (.aload_n 0, 1) := by decide +kernel
theorem d_X12_takes_50 : decode cX12_takes 50 = .ok (.invokevirtual 141, 3) := by decide +kernel
theorem d_X12_takes_53 : decode cX12_takes 53 = .ok (.iload_n 3, 1) := by decide +kernel
theorem d_X12_takes_54 : decode cX12_takes 54 = .ok (.ireturn, 1) := by decide +kernel
def F_X12_takes_b37 (x0 : Nat) (h : xH) : Option (Int32 × xH) := (fI h x0 11 10).bind fun v38 => (fI h x0 11 11).bind fun v43 => if ¬ v43 = 0 then some (v38, h) else (rc h x0 11).bind fun _ => (F_X12_next x0 h).bind fun z50 => some (v38, z50.2)
theorem R_X12_takes_b37 {Γ : xG} {l : Launch} {d : Nat} {Q : Option Value → xH → Prop} {r : Int32} {h' : xH} (hdp : 7 ≤ d) (hq : Q (some (.int r)) h') : ∀ (x0 : Nat) (h : xH), F_X12_takes_b37 x0 h = some (r, h') → Gd Γ l d m_X12_takes 37 [.ref x0, xhole, xhole, xhole] [] h 0 0 Q := by
  intro x0 h hF
  unfold F_X12_takes_b37 at hF
  refine g_aloadn d_X12_takes_37 rfl ?_
  obtain ⟨v38, e38, hF⟩ := Option.bind_eq_some_iff.mp hF
  refine q_fI d_X12_takes_38 f_X12_127 e38 ?_
  refine q_istoren [.ref x0, xhole, xhole, .int v38] d_X12_takes_41 (by decide) rfl ?_
  refine g_aloadn d_X12_takes_42 rfl ?_
  obtain ⟨v43, e43, hF⟩ := Option.bind_eq_some_iff.mp hF
  refine q_fI d_X12_takes_43 f_X12_132 e43 ?_
  refine g_if_ne 53 d_X12_takes_46 rfl (fun c46 => ?_) (fun c46 => ?_)
  · have hF := x_t hF c46
    refine g_iloadn d_X12_takes_53 rfl ?_
    obtain ⟨rfl, rfl⟩ := x_inj hF
    exact g_iret d_X12_takes_54 rfl hq
  · have hF := x_f hF (not_not_intro c46)
    refine g_aloadn d_X12_takes_49 rfl ?_
    obtain ⟨_, g50, hF⟩ := Option.bind_eq_some_iff.mp hF
    obtain ⟨⟨r50, h50⟩, e50, hF⟩ := Option.bind_eq_some_iff.mp hF
    try dsimp only at hF
    refine q_callV [] [] rfl d_X12_takes_50 v_X12_141 (by omega) rfl (Nat.le_of_ble_eq_true rfl) (rc_rc g50 (by decide) rfl) (R_X12_next _ _ (by omega) e50) ?_
    refine g_iloadn d_X12_takes_53 rfl ?_
    obtain ⟨rfl, rfl⟩ := x_inj hF
    exact g_iret d_X12_takes_54 rfl hq
def F_X12_takes (x0 : Nat) (x1 : Int32) (x2 : Int32) (h : xH) : Option (Int32 × xH) := (rc h x0 11).bind fun _ => (F_X12_is x0 23 h).bind fun z3 => if ¬ z3.1 = 0 then (fI z3.2 x0 11 10).bind fun v18 => (F_X12_within v18.toInt64 x1.toInt64 x2.toInt64 z3.2).bind fun z26 => if ¬ z26.1 = 0 then F_X12_takes_b37 x0 z26.2 else (rc z26.2 x0 11).bind fun _ => (F_X12_fails x0 3 z26.2).bind fun z34 => F_X12_takes_b37 x0 z34.2 else (rc z3.2 x0 11).bind fun _ => (F_X12_fails x0 2 z3.2).bind fun z11 => F_X12_takes_b37 x0 z11.2
theorem R_X12_takes {Γ : xG} {l : Launch} {d : Nat} {r : Int32} {h' : xH} (x0 : Nat) (x1 : Int32) (x2 : Int32) (h : xH) (hdp : 7 ≤ d) (hF : F_X12_takes x0 x1 x2 h = some (r, h')) : Gm Γ l d 0 0 m_X12_takes [.ref x0, .int x1, .int x2] h (fun a u => a = some (.int r) ∧ u = h') := by
  refine Gm.of pn_X12 (Nat.le_of_ble_eq_true rfl) ?_
  show Gd Γ l d m_X12_takes 0 [.ref x0, .int x1, .int x2, xhole] [] h 0 0 _
  generalize hQ : (fun (a : Option Value) (u : xH) => a = some (.int r) ∧ u = h') = Q
  have hq : Q (some (.int r)) h' := by rw [← hQ]; exact ⟨rfl, rfl⟩
  clear hQ
  unfold F_X12_takes at hF
  refine g_aloadn d_X12_takes_0 rfl ?_
  refine g_bi (23) d_X12_takes_1 bi_23 ?_
  obtain ⟨_, g3, hF⟩ := Option.bind_eq_some_iff.mp hF
  obtain ⟨⟨r3, h3⟩, e3, hF⟩ := Option.bind_eq_some_iff.mp hF
  try dsimp only at hF
  refine q_callV [.int 23] [] rfl d_X12_takes_3 v_X12_138 (by omega) rfl (Nat.le_of_ble_eq_true rfl) (rc_rc g3 (by decide) rfl) (R_X12_is _ _ _ (by omega) e3) ?_
  refine g_if_ne 17 d_X12_takes_6 rfl (fun c6 => ?_) (fun c6 => ?_)
  · have hF := x_t hF c6
    refine g_aloadn d_X12_takes_17 rfl ?_
    obtain ⟨v18, e18, hF⟩ := Option.bind_eq_some_iff.mp hF
    refine q_fI d_X12_takes_18 f_X12_127 e18 ?_
    refine g_i2l d_X12_takes_21 ?_
    refine g_iloadn d_X12_takes_22 rfl ?_
    refine g_i2l d_X12_takes_23 ?_
    refine g_iloadn d_X12_takes_24 rfl ?_
    refine g_i2l d_X12_takes_25 ?_
    obtain ⟨⟨r26, h26⟩, e26, hF⟩ := Option.bind_eq_some_iff.mp hF
    try dsimp only at hF
    refine q_callS [.long (v18.toInt64), .long (x1.toInt64), .long (x2.toInt64)] [] rfl d_X12_takes_26 s_X12_148 (by omega) rfl (Nat.le_of_ble_eq_true rfl) (R_X12_within _ _ _ _ (by omega) e26) ?_
    refine g_if_ne 37 d_X12_takes_29 rfl (fun c29 => ?_) (fun c29 => ?_)
    · have hF := x_t hF c29
      exact q_to (xs_r (xs_h (xs_h (xs_h xs_n)))) (R_X12_takes_b37 hdp hq _ _ hF)
    · have hF := x_f hF (not_not_intro c29)
      refine g_aloadn d_X12_takes_32 rfl ?_
      refine g_ic (3) d_X12_takes_33 ic_3 ?_
      obtain ⟨_, g34, hF⟩ := Option.bind_eq_some_iff.mp hF
      obtain ⟨⟨r34, h34⟩, e34, hF⟩ := Option.bind_eq_some_iff.mp hF
      try dsimp only at hF
      refine q_callV [.int 3] [] rfl d_X12_takes_34 v_X12_144 (by omega) rfl (Nat.le_of_ble_eq_true rfl) (rc_rc g34 (by decide) rfl) (R_X12_fails _ _ _ (by omega) e34) ?_
      exact q_to (xs_r (xs_h (xs_h (xs_h xs_n)))) (R_X12_takes_b37 hdp hq _ _ hF)
  · have hF := x_f hF (not_not_intro c6)
    refine g_aloadn d_X12_takes_9 rfl ?_
    refine g_ic (2) d_X12_takes_10 ic_2 ?_
    obtain ⟨_, g11, hF⟩ := Option.bind_eq_some_iff.mp hF
    obtain ⟨⟨r11, h11⟩, e11, hF⟩ := Option.bind_eq_some_iff.mp hF
    try dsimp only at hF
    refine q_callV [.int 2] [] rfl d_X12_takes_11 v_X12_144 (by omega) rfl (Nat.le_of_ble_eq_true rfl) (rc_rc g11 (by decide) rfl) (R_X12_fails _ _ _ (by omega) e11) ?_
    refine g_goto 37 d_X12_takes_14 rfl ?_
    exact q_to (xs_r (xs_h (xs_h (xs_h xs_n)))) (R_X12_takes_b37 hdp hq _ _ hF)
theorem d_X12_isIn_0 : decode cX12_isIn 0 = .ok (.lload_n 0, 1) := by decide +kernel
theorem d_X12_isIn_1 : decode cX12_isIn 1 = .ok (.iload_n 2, 1) := by decide +kernel
theorem d_X12_isIn_2 : decode cX12_isIn 2 = .ok (.lshr, 1) := by decide +kernel
theorem d_X12_isIn_3 : decode cX12_isIn 3 = .ok (.lconst 1, 1) := by decide +kernel
theorem d_X12_isIn_4 : decode cX12_isIn 4 = .ok (.land, 1) := by decide +kernel
theorem d_X12_isIn_5 : decode cX12_isIn 5 = .ok (.lconst 1, 1) := by decide +kernel
theorem d_X12_isIn_6 : decode cX12_isIn 6 = .ok (.lcmp, 1) := by decide +kernel
theorem d_X12_isIn_7 : decode cX12_isIn 7 = .ok (.ifCond .ne 7, 3) := by decide +kernel
theorem d_X12_isIn_10 : decode cX12_isIn 10 = .ok (.iconst 1, 1) := by decide +kernel
theorem d_X12_isIn_11 : decode cX12_isIn 11 = .ok (.goto 4, 3) := by decide +kernel
theorem d_X12_isIn_14 : decode cX12_isIn 14 = .ok (.iconst 0, 1) := by decide +kernel
theorem d_X12_isIn_15 : decode cX12_isIn 15 = .ok (.ireturn, 1) := by decide +kernel
def F_X12_isIn (x0 : Int64) (x2 : Int32) (h : xH) : Option (Int32 × xH) := if ¬ (lg_cmp ((x0 >>> ((x2).toInt64 &&& 63)) &&& 1) 1) = 0 then some (0, h) else some (1, h)
theorem R_X12_isIn {Γ : xG} {l : Launch} {d : Nat} {r : Int32} {h' : xH} (x0 : Int64) (x2 : Int32) (h : xH) (hdp : 0 ≤ d) (hF : F_X12_isIn x0 x2 h = some (r, h')) : Gm Γ l d 0 0 m_X12_isIn [.long x0, .int x2] h (fun a u => a = some (.int r) ∧ u = h') := by
  refine Gm.of pn_X12 (Nat.le_of_ble_eq_true rfl) ?_
  show Gd Γ l d m_X12_isIn 0 [.long x0, xhole, .int x2] [] h 0 0 _
  generalize hQ : (fun (a : Option Value) (u : xH) => a = some (.int r) ∧ u = h') = Q
  have hq : Q (some (.int r)) h' := by rw [← hQ]; exact ⟨rfl, rfl⟩
  clear hQ
  unfold F_X12_isIn at hF
  refine g_lloadn d_X12_isIn_0 rfl ?_
  refine g_iloadn d_X12_isIn_1 rfl ?_
  refine g_lshr d_X12_isIn_2 ?_
  refine g_lc 1 d_X12_isIn_3 rfl ?_
  refine g_land d_X12_isIn_4 ?_
  refine g_lc 1 d_X12_isIn_5 rfl ?_
  refine g_lcmp d_X12_isIn_6 ?_
  refine g_if_ne 14 d_X12_isIn_7 rfl (fun c7 => ?_) (fun c7 => ?_)
  · have hF := x_t hF c7
    refine g_ic (0) d_X12_isIn_14 ic_0 ?_
    obtain ⟨rfl, rfl⟩ := x_inj hF
    exact g_zret d_X12_isIn_15 rfl rfl hq
  · have hF := x_f hF (not_not_intro c7)
    refine g_ic (1) d_X12_isIn_10 ic_1 ?_
    refine g_goto 15 d_X12_isIn_11 rfl ?_
    obtain ⟨rfl, rfl⟩ := x_inj hF
    exact g_zret d_X12_isIn_15 rfl rfl hq
theorem d_X12_wordOf_0 : decode cX12_wordOf 0 = .ok (.aload_n 0, 1) := by decide +kernel
theorem d_X12_wordOf_1 : decode cX12_wordOf 1 = .ok (.getfield 152, 3) := by decide +kernel
theorem d_X12_wordOf_4 : decode cX12_wordOf 4 = .ok (.iconst 1, 1) := by decide +kernel
theorem d_X12_wordOf_5 : decode cX12_wordOf 5 = .ok (.if_icmp .ne 28, 3) := by decide +kernel
theorem d_X12_wordOf_8 : decode cX12_wordOf 8 = .ok (.iload_n 1, 1) := by decide +kernel
theorem d_X12_wordOf_9 : decode cX12_wordOf 9 = .ok (.i2l, 1) := by decide +kernel
theorem d_X12_wordOf_10 : decode cX12_wordOf 10 = .ok (.ldc2_w 155, 3) := by decide +kernel
theorem d_X12_wordOf_13 : decode cX12_wordOf 13 = .ok (.ldc2_w 157, 3) := by decide +kernel
theorem d_X12_wordOf_16 : decode cX12_wordOf 16 = .ok (.invokestatic 148, 3) := by decide +kernel
theorem d_X12_wordOf_19 : decode cX12_wordOf 19 = .ok (.ifCond .eq 12, 3) := by decide +kernel
theorem d_X12_wordOf_22 : decode cX12_wordOf 22 = .ok (.iconst 5, 1) := by decide +kernel
theorem d_X12_wordOf_23 : decode cX12_wordOf 23 = .ok (.iload_n 1, 1) := by decide +kernel
theorem d_X12_wordOf_24 : decode cX12_wordOf 24 = .ok (.iadd, 1) := by decide +kernel
theorem d_X12_wordOf_25 : decode cX12_wordOf 25 = .ok (.bipush 13, 2) := by decide +kernel
theorem d_X12_wordOf_27 : decode cX12_wordOf 27 = .ok (.isub, 1) := by decide +kernel
theorem d_X12_wordOf_28 : decode cX12_wordOf 28 = .ok (.goto 4, 3) := by decide +kernel
theorem d_X12_wordOf_31 : decode cX12_wordOf 31 = .ok (.iconst (-1), 1) := by decide +kernel
theorem d_X12_wordOf_32 : decode cX12_wordOf 32 = .ok (.ireturn, 1) := by decide +kernel
theorem d_X12_wordOf_33 : decode cX12_wordOf 33 = .ok (.iload_n 1, 1) := by decide +kernel
theorem d_X12_wordOf_34 : decode cX12_wordOf 34 = .ok (.tableswitch 52 6 12 #[46, 48, 50, 52, 52, 42, 44], 42) := by decide +kernel
theorem d_X12_wordOf_76 : decode cX12_wordOf 76 = .ok (.iconst 0, 1) := by decide +kernel
theorem d_X12_wordOf_77 : decode cX12_wordOf 77 = .ok (.ireturn, 1) := by decide +kernel
theorem d_X12_wordOf_78 : decode cX12_wordOf 78 = .ok (.iconst 1, 1) := by decide +kernel
theorem d_X12_wordOf_79 : decode cX12_wordOf 79 = .ok (.ireturn, 1) := by decide +kernel
theorem d_X12_wordOf_80 : decode cX12_wordOf 80 = .ok (.iconst 2, 1) := by decide +kernel
theorem d_X12_wordOf_81 : decode cX12_wordOf 81 = .ok (.ireturn, 1) := by decide +kernel
theorem d_X12_wordOf_82 : decode cX12_wordOf 82 = .ok (.iconst 3, 1) := by decide +kernel
theorem d_X12_wordOf_83 : decode cX12_wordOf 83 = .ok (.ireturn, 1) := by decide +kernel
theorem d_X12_wordOf_84 : decode cX12_wordOf 84 = .ok (.iconst 4, 1) := by decide +kernel
theorem d_X12_wordOf_85 : decode cX12_wordOf 85 = .ok (.ireturn, 1) := by decide +kernel
theorem d_X12_wordOf_86 : decode cX12_wordOf 86 = .ok (.iconst (-1), 1) := by decide +kernel
theorem d_X12_wordOf_87 : decode cX12_wordOf 87 = .ok (.ireturn, 1) := by decide +kernel
def F_X12_wordOf (x0 : Nat) (x1 : Int32) (h : xH) : Option (Int32 × xH) := (fI h x0 11 15).bind fun v1 => if ¬ v1 = ((1 : Int32)) then if x1 = 6 then some (2, h) else if x1 = 7 then some (3, h) else if x1 = 8 then some (4, h) else if x1 = 9 then some ((-1), h) else if x1 = 10 then some ((-1), h) else if x1 = 11 then some (0, h) else if x1 = 12 then some (1, h) else some ((-1), h) else (F_X12_within x1.toInt64 13 15 h).bind fun z16 => if z16.1 = 0 then some ((-1), z16.2) else some ((((5 : Int32)) + x1) - 13, z16.2)
theorem R_X12_wordOf {Γ : xG} {l : Launch} {d : Nat} {r : Int32} {h' : xH} (x0 : Nat) (x1 : Int32) (h : xH) (hdp : 1 ≤ d) (hF : F_X12_wordOf x0 x1 h = some (r, h')) : Gm Γ l d 0 0 m_X12_wordOf [.ref x0, .int x1] h (fun a u => a = some (.int r) ∧ u = h') := by
  refine Gm.of pn_X12 (Nat.le_of_ble_eq_true rfl) ?_
  show Gd Γ l d m_X12_wordOf 0 [.ref x0, .int x1] [] h 0 0 _
  generalize hQ : (fun (a : Option Value) (u : xH) => a = some (.int r) ∧ u = h') = Q
  have hq : Q (some (.int r)) h' := by rw [← hQ]; exact ⟨rfl, rfl⟩
  clear hQ
  unfold F_X12_wordOf at hF
  refine g_aloadn d_X12_wordOf_0 rfl ?_
  obtain ⟨v1, e1, hF⟩ := Option.bind_eq_some_iff.mp hF
  refine q_fI d_X12_wordOf_1 f_X12_152 e1 ?_
  refine g_ic (1) d_X12_wordOf_4 ic_1 ?_
  refine g_icmp_ne 33 d_X12_wordOf_5 rfl (fun c5 => ?_) (fun c5 => ?_)
  · have hF := x_t hF c5
    refine g_iloadn d_X12_wordOf_33 rfl ?_
    rcases Classical.em (x1 = 6) with c34_0 | c34_0
    · have hF := x_t hF c34_0
      refine q_tabIn 80 d_X12_wordOf_34 c34_0 (by decide) (by decide) rfl rfl ?_
      refine g_ic (2) d_X12_wordOf_80 ic_2 ?_
      obtain ⟨rfl, rfl⟩ := x_inj hF
      exact g_iret d_X12_wordOf_81 rfl hq
    have hF := x_f hF c34_0
    rcases Classical.em (x1 = 7) with c34_1 | c34_1
    · have hF := x_t hF c34_1
      refine q_tabIn 82 d_X12_wordOf_34 c34_1 (by decide) (by decide) rfl rfl ?_
      refine g_ic (3) d_X12_wordOf_82 ic_3 ?_
      obtain ⟨rfl, rfl⟩ := x_inj hF
      exact g_iret d_X12_wordOf_83 rfl hq
    have hF := x_f hF c34_1
    rcases Classical.em (x1 = 8) with c34_2 | c34_2
    · have hF := x_t hF c34_2
      refine q_tabIn 84 d_X12_wordOf_34 c34_2 (by decide) (by decide) rfl rfl ?_
      refine g_ic (4) d_X12_wordOf_84 ic_4 ?_
      obtain ⟨rfl, rfl⟩ := x_inj hF
      exact g_iret d_X12_wordOf_85 rfl hq
    have hF := x_f hF c34_2
    rcases Classical.em (x1 = 9) with c34_3 | c34_3
    · have hF := x_t hF c34_3
      refine q_tabIn 86 d_X12_wordOf_34 c34_3 (by decide) (by decide) rfl rfl ?_
      refine g_ic (-1) d_X12_wordOf_86 ic_m1 ?_
      obtain ⟨rfl, rfl⟩ := x_inj hF
      exact g_iret d_X12_wordOf_87 rfl hq
    have hF := x_f hF c34_3
    rcases Classical.em (x1 = 10) with c34_4 | c34_4
    · have hF := x_t hF c34_4
      refine q_tabIn 86 d_X12_wordOf_34 c34_4 (by decide) (by decide) rfl rfl ?_
      refine g_ic (-1) d_X12_wordOf_86 ic_m1 ?_
      obtain ⟨rfl, rfl⟩ := x_inj hF
      exact g_iret d_X12_wordOf_87 rfl hq
    have hF := x_f hF c34_4
    rcases Classical.em (x1 = 11) with c34_5 | c34_5
    · have hF := x_t hF c34_5
      refine q_tabIn 76 d_X12_wordOf_34 c34_5 (by decide) (by decide) rfl rfl ?_
      refine g_ic (0) d_X12_wordOf_76 ic_0 ?_
      obtain ⟨rfl, rfl⟩ := x_inj hF
      exact g_iret d_X12_wordOf_77 rfl hq
    have hF := x_f hF c34_5
    rcases Classical.em (x1 = 12) with c34_6 | c34_6
    · have hF := x_t hF c34_6
      refine q_tabIn 78 d_X12_wordOf_34 c34_6 (by decide) (by decide) rfl rfl ?_
      refine g_ic (1) d_X12_wordOf_78 ic_1 ?_
      obtain ⟨rfl, rfl⟩ := x_inj hF
      exact g_iret d_X12_wordOf_79 rfl hq
    have hF := x_f hF c34_6
    refine g_tabOut 86 d_X12_wordOf_34 (by have a0 := sw_ne c34_0 (k := 6) (by decide); have a1 := sw_ne c34_1 (k := 7) (by decide); have a2 := sw_ne c34_2 (k := 8) (by decide); have a3 := sw_ne c34_3 (k := 9) (by decide); have a4 := sw_ne c34_4 (k := 10) (by decide); have a5 := sw_ne c34_5 (k := 11) (by decide); have a6 := sw_ne c34_6 (k := 12) (by decide); omega) rfl ?_
    refine g_ic (-1) d_X12_wordOf_86 ic_m1 ?_
    obtain ⟨rfl, rfl⟩ := x_inj hF
    exact g_iret d_X12_wordOf_87 rfl hq
  · have hF := x_f hF (not_not_intro c5)
    refine g_iloadn d_X12_wordOf_8 rfl ?_
    refine g_i2l d_X12_wordOf_9 ?_
    refine g_ldc2 d_X12_wordOf_10 k_X12_155 ?_
    refine g_ldc2 d_X12_wordOf_13 k_X12_157 ?_
    obtain ⟨⟨r16, h16⟩, e16, hF⟩ := Option.bind_eq_some_iff.mp hF
    try dsimp only at hF
    refine q_callS [.long (x1.toInt64), .long 13, .long 15] [] rfl d_X12_wordOf_16 s_X12_148 (by omega) rfl (Nat.le_of_ble_eq_true rfl) (R_X12_within _ _ _ _ (by omega) e16) ?_
    refine g_if_eq 31 d_X12_wordOf_19 rfl (fun c19 => ?_) (fun c19 => ?_)
    · have hF := x_t hF c19
      refine g_ic (-1) d_X12_wordOf_31 ic_m1 ?_
      obtain ⟨rfl, rfl⟩ := x_inj hF
      exact g_iret d_X12_wordOf_32 rfl hq
    · have hF := x_f hF c19
      refine g_ic (5) d_X12_wordOf_22 ic_5 ?_
      refine g_iloadn d_X12_wordOf_23 rfl ?_
      refine g_iadd d_X12_wordOf_24 ?_
      refine g_bi (13) d_X12_wordOf_25 bi_13 ?_
      refine g_isub d_X12_wordOf_27 ?_
      refine g_goto 32 d_X12_wordOf_28 rfl ?_
      obtain ⟨rfl, rfl⟩ := x_inj hF
      exact g_iret d_X12_wordOf_32 rfl hq
theorem d_X12_codes_0 : decode cX12_codes 0 = .ok (.aload_n 0, 1) := by decide +kernel
theorem d_X12_codes_1 : decode cX12_codes 1 = .ok (.getfield 132, 3) := by decide +kernel
theorem d_X12_codes_4 : decode cX12_codes 4 = .ok (.ifCond .eq 4, 3) := by decide +kernel
theorem d_X12_codes_7 : decode cX12_codes 7 = .ok (.return_, 1) := by decide +kernel
theorem d_X12_codes_8 : decode cX12_codes 8 = .ok (.aload_n 0, 1) := by decide +kernel
theorem d_X12_codes_9 : decode cX12_codes 9 = .ok (.getfield 24, 3) := by decide +kernel
theorem d_X12_codes_12 : decode cX12_codes 12 = .ok (.sipush 329, 3) := by decide +kernel
theorem d_X12_codes_15 : decode cX12_codes 15 = .ok (.aload_n 0, 1) := by decide +kernel
theorem d_X12_codes_16 : decode cX12_codes 16 = .ok (.getfield 24, 3) := by decide +kernel
theorem d_X12_codes_19 : decode cX12_codes 19 = .ok (.sipush 328, 3) := by decide +kernel
theorem d_X12_codes_22 : decode cX12_codes 22 = .ok (.iaload, 1) := by decide +kernel
theorem d_X12_codes_23 : decode cX12_codes 23 = .ok (.iadd, 1) := by decide +kernel
theorem d_X12_codes_24 : decode cX12_codes 24 = .ok (.iload_n 1, 1) := by decide +kernel
theorem d_X12_codes_25 : decode cX12_codes 25 = .ok (.iastore, 1) := by decide +kernel
theorem d_X12_codes_26 : decode cX12_codes 26 = .ok (.aload_n 0, 1) := by decide +kernel
theorem d_X12_codes_27 : decode cX12_codes 27 = .ok (.getfield 24, 3) := by decide +kernel
theorem d_X12_codes_30 : decode cX12_codes 30 = .ok (.sipush 328, 3) := by decide +kernel
theorem d_X12_codes_33 : decode cX12_codes 33 = .ok (.dup2, 1) := by decide +kernel
theorem d_X12_codes_34 : decode cX12_codes 34 = .ok (.iaload, 1) := by decide +kernel
theorem d_X12_codes_35 : decode cX12_codes 35 = .ok (.iconst 1, 1) := by decide +kernel
theorem d_X12_codes_36 : decode cX12_codes 36 = .ok (.iadd, 1) := by decide +kernel
theorem d_X12_codes_37 : decode cX12_codes 37 = .ok (.iastore, 1) := by decide +kernel
theorem d_X12_codes_38 : decode cX12_codes 38 = .ok (.return_, 1) := by decide +kernel
def F_X12_codes (x0 : Nat) (x1 : Int32) (h : xH) : Option (Unit × xH) := (fI h x0 11 11).bind fun v1 => if v1 = 0 then (fR h x0 11 4).bind fun v9 => (fR h x0 11 4).bind fun v16 => (aI h v16 328).bind fun v22 => (sI h v9 (((329 : Int32)) + v22) x1).bind fun h25 => (fR h25 x0 11 4).bind fun v27 => (aI h25 v27 328).bind fun v34 => (sI h25 v27 328 (v34 + 1)).bind fun h37 => some ((), h37) else some ((), h)
theorem R_X12_codes {Γ : xG} {l : Launch} {d : Nat} {r : Unit} {h' : xH} (x0 : Nat) (x1 : Int32) (h : xH) (hdp : 0 ≤ d) (hF : F_X12_codes x0 x1 h = some (r, h')) : Gm Γ l d 0 0 m_X12_codes [.ref x0, .int x1] h (fun a u => a = none ∧ u = h') := by
  refine Gm.of pn_X12 (Nat.le_of_ble_eq_true rfl) ?_
  show Gd Γ l d m_X12_codes 0 [.ref x0, .int x1] [] h 0 0 _
  generalize hQ : (fun (a : Option Value) (u : xH) => a = none ∧ u = h') = Q
  have hq : Q (none) h' := by rw [← hQ]; exact ⟨rfl, rfl⟩
  clear hQ
  unfold F_X12_codes at hF
  refine g_aloadn d_X12_codes_0 rfl ?_
  obtain ⟨v1, e1, hF⟩ := Option.bind_eq_some_iff.mp hF
  refine q_fI d_X12_codes_1 f_X12_132 e1 ?_
  refine g_if_eq 8 d_X12_codes_4 rfl (fun c4 => ?_) (fun c4 => ?_)
  · have hF := x_t hF c4
    refine g_aloadn d_X12_codes_8 rfl ?_
    obtain ⟨v9, e9, hF⟩ := Option.bind_eq_some_iff.mp hF
    refine q_fR d_X12_codes_9 f_X12_24 e9 ?_
    refine g_si (329) d_X12_codes_12 si_329 ?_
    refine g_aloadn d_X12_codes_15 rfl ?_
    obtain ⟨v16, e16, hF⟩ := Option.bind_eq_some_iff.mp hF
    refine q_fR d_X12_codes_16 f_X12_24 e16 ?_
    refine g_si (328) d_X12_codes_19 si_328 ?_
    obtain ⟨v22, e22, hF⟩ := Option.bind_eq_some_iff.mp hF
    refine q_aI d_X12_codes_22 e22 ?_
    refine g_iadd d_X12_codes_23 ?_
    refine g_iloadn d_X12_codes_24 rfl ?_
    obtain ⟨h25, e25, hF⟩ := Option.bind_eq_some_iff.mp hF
    refine q_sI d_X12_codes_25 e25 ?_
    refine g_aloadn d_X12_codes_26 rfl ?_
    obtain ⟨v27, e27, hF⟩ := Option.bind_eq_some_iff.mp hF
    refine q_fR d_X12_codes_27 f_X12_24 e27 ?_
    refine g_si (328) d_X12_codes_30 si_328 ?_
    refine g_dup2 d_X12_codes_33 rfl rfl ?_
    obtain ⟨v34, e34, hF⟩ := Option.bind_eq_some_iff.mp hF
    refine q_aI d_X12_codes_34 e34 ?_
    refine g_ic (1) d_X12_codes_35 ic_1 ?_
    refine g_iadd d_X12_codes_36 ?_
    obtain ⟨h37, e37, hF⟩ := Option.bind_eq_some_iff.mp hF
    refine q_sI d_X12_codes_37 e37 ?_
    obtain ⟨rfl, rfl⟩ := x_inj hF
    exact g_vret d_X12_codes_38 rfl hq
  · have hF := x_f hF c4
    obtain ⟨rfl, rfl⟩ := x_inj hF
    exact g_vret d_X12_codes_7 rfl hq
theorem d_X12_goesIn_0 : decode cX12_goesIn 0 = .ok (.iload_n 1, 1) := by decide +kernel
theorem d_X12_goesIn_1 : decode cX12_goesIn 1 = .ok (.bipush 6, 2) := by decide +kernel
theorem d_X12_goesIn_3 : decode cX12_goesIn 3 = .ok (.if_icmp .ne 8, 3) := by decide +kernel
theorem d_X12_goesIn_6 : decode cX12_goesIn 6 = .ok (.aload_n 0, 1) := by decide +kernel
theorem d_X12_goesIn_7 : decode cX12_goesIn 7 = .ok (.iconst 4, 1) := by decide +kernel
theorem d_X12_goesIn_8 : decode cX12_goesIn 8 = .ok (.invokevirtual 144, 3) := by decide +kernel
theorem d_X12_goesIn_11 : decode cX12_goesIn 11 = .ok (.aload_n 0, 1) := by decide +kernel
theorem d_X12_goesIn_12 : decode cX12_goesIn 12 = .ok (.getfield 132, 3) := by decide +kernel
theorem d_X12_goesIn_15 : decode cX12_goesIn 15 = .ok (.ifCond .ne 7, 3) := by decide +kernel
theorem d_X12_goesIn_18 : decode cX12_goesIn 18 = .ok (.aload_n 0, 1) := by decide +kernel
theorem d_X12_goesIn_19 : decode cX12_goesIn 19 = .ok (.invokevirtual 141, 3) := by decide +kernel
theorem d_X12_goesIn_22 : decode cX12_goesIn 22 = .ok (.aload_n 0, 1) := by decide +kernel
theorem d_X12_goesIn_23 : decode cX12_goesIn 23 = .ok (.getfield 132, 3) := by decide +kernel
theorem d_X12_goesIn_26 : decode cX12_goesIn 26 = .ok (.ifCond .ne 7, 3) := by decide +kernel
theorem d_X12_goesIn_29 : decode cX12_goesIn 29 = .ok (.iconst 1, 1) := by decide +kernel
theorem d_X12_goesIn_30 : decode cX12_goesIn 30 = .ok (.goto 4, 3) := by decide +kernel
theorem d_X12_goesIn_33 : decode cX12_goesIn 33 = .ok (.iconst 0, 1) := by decide +kernel
theorem d_X12_goesIn_34 : decode cX12_goesIn 34 = .ok (.ireturn, 1) := by decide +kernel
def F_X12_goesIn_b22 (x0 : Nat) (h : xH) : Option (Int32 × xH) := (fI h x0 11 11).bind fun v23 => if ¬ v23 = 0 then some (0, h) else some (1, h)
theorem R_X12_goesIn_b22 {Γ : xG} {l : Launch} {d : Nat} {Q : Option Value → xH → Prop} {r : Int32} {h' : xH} (hdp : 7 ≤ d) (hq : Q (some (.int r)) h') : ∀ (x0 : Nat) (h : xH), F_X12_goesIn_b22 x0 h = some (r, h') → Gd Γ l d m_X12_goesIn 22 [.ref x0, xhole] [] h 0 0 Q := by
  intro x0 h hF
  unfold F_X12_goesIn_b22 at hF
  refine g_aloadn d_X12_goesIn_22 rfl ?_
  obtain ⟨v23, e23, hF⟩ := Option.bind_eq_some_iff.mp hF
  refine q_fI d_X12_goesIn_23 f_X12_132 e23 ?_
  refine g_if_ne 33 d_X12_goesIn_26 rfl (fun c26 => ?_) (fun c26 => ?_)
  · have hF := x_t hF c26
    refine g_ic (0) d_X12_goesIn_33 ic_0 ?_
    obtain ⟨rfl, rfl⟩ := x_inj hF
    exact g_zret d_X12_goesIn_34 rfl rfl hq
  · have hF := x_f hF (not_not_intro c26)
    refine g_ic (1) d_X12_goesIn_29 ic_1 ?_
    refine g_goto 34 d_X12_goesIn_30 rfl ?_
    obtain ⟨rfl, rfl⟩ := x_inj hF
    exact g_zret d_X12_goesIn_34 rfl rfl hq
def F_X12_goesIn_b11 (x0 : Nat) (h : xH) : Option (Int32 × xH) := (fI h x0 11 11).bind fun v12 => if ¬ v12 = 0 then F_X12_goesIn_b22 x0 h else (rc h x0 11).bind fun _ => (F_X12_next x0 h).bind fun z19 => F_X12_goesIn_b22 x0 z19.2
theorem R_X12_goesIn_b11 {Γ : xG} {l : Launch} {d : Nat} {Q : Option Value → xH → Prop} {r : Int32} {h' : xH} (hdp : 7 ≤ d) (hq : Q (some (.int r)) h') : ∀ (x0 : Nat) (h : xH), F_X12_goesIn_b11 x0 h = some (r, h') → Gd Γ l d m_X12_goesIn 11 [.ref x0, xhole] [] h 0 0 Q := by
  intro x0 h hF
  unfold F_X12_goesIn_b11 at hF
  refine g_aloadn d_X12_goesIn_11 rfl ?_
  obtain ⟨v12, e12, hF⟩ := Option.bind_eq_some_iff.mp hF
  refine q_fI d_X12_goesIn_12 f_X12_132 e12 ?_
  refine g_if_ne 22 d_X12_goesIn_15 rfl (fun c15 => ?_) (fun c15 => ?_)
  · have hF := x_t hF c15
    exact q_to (xs_r (xs_h xs_n)) (R_X12_goesIn_b22 hdp hq _ _ hF)
  · have hF := x_f hF (not_not_intro c15)
    refine g_aloadn d_X12_goesIn_18 rfl ?_
    obtain ⟨_, g19, hF⟩ := Option.bind_eq_some_iff.mp hF
    obtain ⟨⟨r19, h19⟩, e19, hF⟩ := Option.bind_eq_some_iff.mp hF
    try dsimp only at hF
    refine q_callV [] [] rfl d_X12_goesIn_19 v_X12_141 (by omega) rfl (Nat.le_of_ble_eq_true rfl) (rc_rc g19 (by decide) rfl) (R_X12_next _ _ (by omega) e19) ?_
    exact q_to (xs_r (xs_h xs_n)) (R_X12_goesIn_b22 hdp hq _ _ hF)
def F_X12_goesIn (x0 : Nat) (x1 : Int32) (h : xH) : Option (Int32 × xH) := if ¬ x1 = ((6 : Int32)) then F_X12_goesIn_b11 x0 h else (rc h x0 11).bind fun _ => (F_X12_fails x0 4 h).bind fun z8 => F_X12_goesIn_b11 x0 z8.2
theorem R_X12_goesIn {Γ : xG} {l : Launch} {d : Nat} {r : Int32} {h' : xH} (x0 : Nat) (x1 : Int32) (h : xH) (hdp : 7 ≤ d) (hF : F_X12_goesIn x0 x1 h = some (r, h')) : Gm Γ l d 0 0 m_X12_goesIn [.ref x0, .int x1] h (fun a u => a = some (.int r) ∧ u = h') := by
  refine Gm.of pn_X12 (Nat.le_of_ble_eq_true rfl) ?_
  show Gd Γ l d m_X12_goesIn 0 [.ref x0, .int x1] [] h 0 0 _
  generalize hQ : (fun (a : Option Value) (u : xH) => a = some (.int r) ∧ u = h') = Q
  have hq : Q (some (.int r)) h' := by rw [← hQ]; exact ⟨rfl, rfl⟩
  clear hQ
  unfold F_X12_goesIn at hF
  refine g_iloadn d_X12_goesIn_0 rfl ?_
  refine g_bi (6) d_X12_goesIn_1 bi_6 ?_
  refine g_icmp_ne 11 d_X12_goesIn_3 rfl (fun c3 => ?_) (fun c3 => ?_)
  · have hF := x_t hF c3
    exact q_to (xs_r (xs_h xs_n)) (R_X12_goesIn_b11 hdp hq _ _ hF)
  · have hF := x_f hF (not_not_intro c3)
    refine g_aloadn d_X12_goesIn_6 rfl ?_
    refine g_ic (4) d_X12_goesIn_7 ic_4 ?_
    obtain ⟨_, g8, hF⟩ := Option.bind_eq_some_iff.mp hF
    obtain ⟨⟨r8, h8⟩, e8, hF⟩ := Option.bind_eq_some_iff.mp hF
    try dsimp only at hF
    refine q_callV [.int 4] [] rfl d_X12_goesIn_8 v_X12_144 (by omega) rfl (Nat.le_of_ble_eq_true rfl) (rc_rc g8 (by decide) rfl) (R_X12_fails _ _ _ (by omega) e8) ?_
    exact q_to (xs_r (xs_h xs_n)) (R_X12_goesIn_b11 hdp hq _ _ hF)
theorem d_X12_readAtom_0 : decode cX12_readAtom 0 = .ok (.aload_n 0, 1) := by decide +kernel
theorem d_X12_readAtom_1 : decode cX12_readAtom 1 = .ok (.bipush 23, 2) := by decide +kernel
theorem d_X12_readAtom_3 : decode cX12_readAtom 3 = .ok (.invokevirtual 138, 3) := by decide +kernel
theorem d_X12_readAtom_6 : decode cX12_readAtom 6 = .ok (.ifCond .eq 18, 3) := by decide +kernel
theorem d_X12_readAtom_9 : decode cX12_readAtom 9 = .ok (.aload_n 0, 1) := by decide +kernel
theorem d_X12_readAtom_10 : decode cX12_readAtom 10 = .ok (.aload_n 0, 1) := by decide +kernel
theorem d_X12_readAtom_11 : decode cX12_readAtom 11 = .ok (.getfield 127, 3) := by decide +kernel
theorem d_X12_readAtom_14 : decode cX12_readAtom 14 = .ok (.invokevirtual 159, 3) := by decide +kernel
theorem d_X12_readAtom_17 : decode cX12_readAtom 17 = .ok (.aload_n 0, 1) := by decide +kernel
theorem d_X12_readAtom_18 : decode cX12_readAtom 18 = .ok (.invokevirtual 141, 3) := by decide +kernel
theorem d_X12_readAtom_21 : decode cX12_readAtom 21 = .ok (.goto 92, 3) := by decide +kernel
theorem d_X12_readAtom_24 : decode cX12_readAtom 24 = .ok (.aload_n 0, 1) := by decide +kernel
theorem d_X12_readAtom_25 : decode cX12_readAtom 25 = .ok (.getfield 132, 3) := by decide +kernel
theorem d_X12_readAtom_28 : decode cX12_readAtom 28 = .ok (.ifCond .ne 38, 3) := by decide +kernel
theorem d_X12_readAtom_31 : decode cX12_readAtom 31 = .ok (.aload_n 0, 1) := by decide +kernel
theorem d_X12_readAtom_32 : decode cX12_readAtom 32 = .ok (.aload_n 0, 1) := by decide +kernel
theorem d_X12_readAtom_33 : decode cX12_readAtom 33 = .ok (.getfield 114, 3) := by decide +kernel
theorem d_X12_readAtom_36 : decode cX12_readAtom 36 = .ok (.invokevirtual 162, 3) := by decide +kernel
theorem d_X12_readAtom_39 : decode cX12_readAtom 39 = .ok (.iconst (-1), 1) := by decide +kernel
theorem d_X12_readAtom_40 : decode cX12_readAtom 40 = .ok (.if_icmp .eq 26, 3) := by decide +kernel
theorem d_X12_readAtom_43 : decode cX12_readAtom 43 = .ok (.aload_n 0, 1) := by decide +kernel
theorem d_X12_readAtom_44 : decode cX12_readAtom 44 = .ok (.sipush 1000, 3) := by decide +kernel
theorem d_X12_readAtom_47 : decode cX12_readAtom 47 = .ok (.aload_n 0, 1) := by decide +kernel
theorem d_X12_readAtom_48 : decode cX12_readAtom 48 = .ok (.aload_n 0, 1) := by decide +kernel
theorem d_X12_readAtom_49 : decode cX12_readAtom 49 = .ok (.getfield 114, 3) := by decide +kernel
theorem d_X12_readAtom_52 : decode cX12_readAtom 52 = .ok (.invokevirtual 162, 3) := by decide +kernel
theorem d_X12_readAtom_55 : decode cX12_readAtom 55 = .ok (.iadd, 1) := by decide +kernel
theorem d_X12_readAtom_56 : decode cX12_readAtom 56 = .ok (.invokevirtual 159, 3) := by decide +kernel
theorem d_X12_readAtom_59 : decode cX12_readAtom 59 = .ok (.aload_n 0, 1) := by decide +kernel
theorem d_X12_readAtom_60 : decode cX12_readAtom 60 = .ok (.invokevirtual 141, 3) := by decide +kernel
theorem d_X12_readAtom_63 : decode cX12_readAtom 63 = .ok (.goto 50, 3) := by decide +kernel
theorem d_X12_readAtom_66 : decode cX12_readAtom 66 = .ok (.aload_n 0, 1) := by decide +kernel
theorem d_X12_readAtom_67 : decode cX12_readAtom 67 = .ok (.bipush 35, 2) := by decide +kernel
theorem d_X12_readAtom_69 : decode cX12_readAtom 69 = .ok (.invokevirtual 138, 3) := by decide +kernel
theorem d_X12_readAtom_72 : decode cX12_readAtom 72 = .ok (.ifCond .eq 36, 3) := by decide +kernel
theorem d_X12_readAtom_75 : decode cX12_readAtom 75 = .ok (.aload_n 0, 1) := by decide +kernel
theorem d_X12_readAtom_76 : decode cX12_readAtom 76 = .ok (.iload_n 1, 1) := by decide +kernel
theorem d_X12_readAtom_77 : decode cX12_readAtom 77 = .ok (.invokevirtual 165, 3) := by decide +kernel
theorem d_X12_readAtom_80 : decode cX12_readAtom 80 = .ok (.ifCond .ne 4, 3) := by decide +kernel
theorem d_X12_readAtom_83 : decode cX12_readAtom 83 = .ok (.return_, 1) := by decide +kernel
theorem d_X12_readAtom_84 : decode cX12_readAtom 84 = .ok (.aload_n 0, 1) := by decide +kernel
theorem d_X12_readAtom_85 : decode cX12_readAtom 85 = .ok (.iload_n 1, 1) := by decide +kernel
theorem d_X12_readAtom_86 : decode cX12_readAtom 86 = .ok (.iconst 1, 1) := by decide +kernel
theorem d_X12_readAtom_87 : decode cX12_readAtom 87 = .ok (.iadd, 1) := by decide +kernel
theorem d_X12_readAtom_88 : decode cX12_readAtom 88 = .ok (.invokevirtual 168, 3) := by decide +kernel
theorem d_X12_readAtom_91 : decode cX12_readAtom 91 = .ok (.aload_n 0, 1) := by decide +kernel
theorem d_X12_readAtom_92 : decode cX12_readAtom 92 = .ok (.bipush 36, 2) := by decide +kernel
theorem d_X12_readAtom_94 : decode cX12_readAtom 94 = .ok (.invokevirtual 171, 3) := by decide +kernel
theorem d_X12_readAtom_97 : decode cX12_readAtom 97 = .ok (.ifCond .ne 16, 3) := by decide +kernel
theorem d_X12_readAtom_100 : decode cX12_readAtom 100 = .ok (.aload_n 0, 1) := by decide +kernel
theorem d_X12_readAtom_101 : decode cX12_readAtom 101 = .ok (.iconst 2, 1) := by decide +kernel
theorem d_X12_readAtom_102 : decode cX12_readAtom 102 = .ok (.invokevirtual 144, 3) := by decide +kernel
theorem d_X12_readAtom_105 : decode cX12_readAtom 105 = .ok (.goto 8, 3) := by decide +kernel
theorem d_X12_readAtom_108 : decode cX12_readAtom 108 = .ok (.aload_n 0, 1) := by decide +kernel
theorem d_X12_readAtom_109 : decode cX12_readAtom 109 = .ok (.iconst 2, 1) := by decide +kernel
theorem d_X12_readAtom_110 : decode cX12_readAtom 110 = .ok (.invokevirtual 144, 3) := by decide +kernel
theorem d_X12_readAtom_113 : decode cX12_readAtom 113 = .ok (.return_, 1) := by decide +kernel
def F_X12_readAtom_b66 (f_X12_readSum : Nat → Int32 → xH → Option (Unit × xH)) (x0 : Nat) (x1 : Int32) (h : xH) : Option (Unit × xH) := (rc h x0 11).bind fun _ => (F_X12_is x0 35 h).bind fun z69 => if z69.1 = 0 then (rc z69.2 x0 11).bind fun _ => (F_X12_fails x0 2 z69.2).bind fun z110 => some ((), z110.2) else (rc z69.2 x0 11).bind fun _ => (F_X12_goesIn x0 x1 z69.2).bind fun z77 => if ¬ z77.1 = 0 then (rc z77.2 x0 11).bind fun _ => (f_X12_readSum x0 (x1 + 1) z77.2).bind fun z88 => (rc z88.2 x0 11).bind fun _ => (F_X12_eats x0 36 z88.2).bind fun z94 => if ¬ z94.1 = 0 then some ((), z94.2) else (rc z94.2 x0 11).bind fun _ => (F_X12_fails x0 2 z94.2).bind fun z102 => some ((), z102.2) else some ((), z77.2)
theorem R_X12_readAtom_b66 {Γ : xG} {l : Launch} {d : Nat} {Q : Option Value → xH → Prop} {r : Unit} {h' : xH} {f_X12_readSum : Nat → Int32 → xH → Option (Unit × xH)} (K_X12_readSum : ∀ (y0 : Nat) (y1 : Int32) (u : xH) (q : Unit) (u' : xH), f_X12_readSum y0 y1 u = some (q, u') → Gm Γ l (d - 1) 0 0 m_X12_readSum [.ref y0, .int y1] u (fun a w => a = none ∧ w = u')) (hdp : 8 ≤ d) (hq : Q (none) h') : ∀ (x0 : Nat) (x1 : Int32) (h : xH), F_X12_readAtom_b66 f_X12_readSum x0 x1 h = some (r, h') → Gd Γ l d m_X12_readAtom 66 [.ref x0, .int x1] [] h 0 0 Q := by
  intro x0 x1 h hF
  unfold F_X12_readAtom_b66 at hF
  refine g_aloadn d_X12_readAtom_66 rfl ?_
  refine g_bi (35) d_X12_readAtom_67 bi_35 ?_
  obtain ⟨_, g69, hF⟩ := Option.bind_eq_some_iff.mp hF
  obtain ⟨⟨r69, h69⟩, e69, hF⟩ := Option.bind_eq_some_iff.mp hF
  try dsimp only at hF
  refine q_callV [.int 35] [] rfl d_X12_readAtom_69 v_X12_138 (by omega) rfl (Nat.le_of_ble_eq_true rfl) (rc_rc g69 (by decide) rfl) (R_X12_is _ _ _ (by omega) e69) ?_
  refine g_if_eq 108 d_X12_readAtom_72 rfl (fun c72 => ?_) (fun c72 => ?_)
  · have hF := x_t hF c72
    refine g_aloadn d_X12_readAtom_108 rfl ?_
    refine g_ic (2) d_X12_readAtom_109 ic_2 ?_
    obtain ⟨_, g110, hF⟩ := Option.bind_eq_some_iff.mp hF
    obtain ⟨⟨r110, h110⟩, e110, hF⟩ := Option.bind_eq_some_iff.mp hF
    try dsimp only at hF
    refine q_callV [.int 2] [] rfl d_X12_readAtom_110 v_X12_144 (by omega) rfl (Nat.le_of_ble_eq_true rfl) (rc_rc g110 (by decide) rfl) (R_X12_fails _ _ _ (by omega) e110) ?_
    obtain ⟨rfl, rfl⟩ := x_inj hF
    exact g_vret d_X12_readAtom_113 rfl hq
  · have hF := x_f hF c72
    refine g_aloadn d_X12_readAtom_75 rfl ?_
    refine g_iloadn d_X12_readAtom_76 rfl ?_
    obtain ⟨_, g77, hF⟩ := Option.bind_eq_some_iff.mp hF
    obtain ⟨⟨r77, h77⟩, e77, hF⟩ := Option.bind_eq_some_iff.mp hF
    try dsimp only at hF
    refine q_callV [.int x1] [] rfl d_X12_readAtom_77 v_X12_165 (by omega) rfl (Nat.le_of_ble_eq_true rfl) (rc_rc g77 (by decide) rfl) (R_X12_goesIn _ _ _ (by omega) e77) ?_
    refine g_if_ne 84 d_X12_readAtom_80 rfl (fun c80 => ?_) (fun c80 => ?_)
    · have hF := x_t hF c80
      refine g_aloadn d_X12_readAtom_84 rfl ?_
      refine g_iloadn d_X12_readAtom_85 rfl ?_
      refine g_ic (1) d_X12_readAtom_86 ic_1 ?_
      refine g_iadd d_X12_readAtom_87 ?_
      obtain ⟨_, g88, hF⟩ := Option.bind_eq_some_iff.mp hF
      obtain ⟨⟨r88, h88⟩, e88, hF⟩ := Option.bind_eq_some_iff.mp hF
      try dsimp only at hF
      refine q_callV [.int (x1 + 1)] [] rfl d_X12_readAtom_88 v_X12_168 (by omega) rfl (Nat.le_of_ble_eq_true rfl) (rc_rc g88 (by decide) rfl) (K_X12_readSum _ _ _ _ _ e88) ?_
      refine g_aloadn d_X12_readAtom_91 rfl ?_
      refine g_bi (36) d_X12_readAtom_92 bi_36 ?_
      obtain ⟨_, g94, hF⟩ := Option.bind_eq_some_iff.mp hF
      obtain ⟨⟨r94, h94⟩, e94, hF⟩ := Option.bind_eq_some_iff.mp hF
      try dsimp only at hF
      refine q_callV [.int 36] [] rfl d_X12_readAtom_94 v_X12_171 (by omega) rfl (Nat.le_of_ble_eq_true rfl) (rc_rc g94 (by decide) rfl) (R_X12_eats _ _ _ (by omega) e94) ?_
      refine g_if_ne 113 d_X12_readAtom_97 rfl (fun c97 => ?_) (fun c97 => ?_)
      · have hF := x_t hF c97
        obtain ⟨rfl, rfl⟩ := x_inj hF
        exact g_vret d_X12_readAtom_113 rfl hq
      · have hF := x_f hF (not_not_intro c97)
        refine g_aloadn d_X12_readAtom_100 rfl ?_
        refine g_ic (2) d_X12_readAtom_101 ic_2 ?_
        obtain ⟨_, g102, hF⟩ := Option.bind_eq_some_iff.mp hF
        obtain ⟨⟨r102, h102⟩, e102, hF⟩ := Option.bind_eq_some_iff.mp hF
        try dsimp only at hF
        refine q_callV [.int 2] [] rfl d_X12_readAtom_102 v_X12_144 (by omega) rfl (Nat.le_of_ble_eq_true rfl) (rc_rc g102 (by decide) rfl) (R_X12_fails _ _ _ (by omega) e102) ?_
        refine g_goto 113 d_X12_readAtom_105 rfl ?_
        obtain ⟨rfl, rfl⟩ := x_inj hF
        exact g_vret d_X12_readAtom_113 rfl hq
    · have hF := x_f hF (not_not_intro c80)
      obtain ⟨rfl, rfl⟩ := x_inj hF
      exact g_vret d_X12_readAtom_83 rfl hq
def F_X12_readAtom (f_X12_readSum : Nat → Int32 → xH → Option (Unit × xH)) (x0 : Nat) (x1 : Int32) (h : xH) : Option (Unit × xH) := (rc h x0 11).bind fun _ => (F_X12_is x0 23 h).bind fun z3 => if z3.1 = 0 then (fI z3.2 x0 11 11).bind fun v25 => if ¬ v25 = 0 then F_X12_readAtom_b66 f_X12_readSum x0 x1 z3.2 else (fI z3.2 x0 11 9).bind fun v33 => (rc z3.2 x0 11).bind fun _ => (F_X12_wordOf x0 v33 z3.2).bind fun z36 => if z36.1 = (((-1) : Int32)) then F_X12_readAtom_b66 f_X12_readSum x0 x1 z36.2 else (fI z36.2 x0 11 9).bind fun v49 => (rc z36.2 x0 11).bind fun _ => (F_X12_wordOf x0 v49 z36.2).bind fun z52 => (rc z52.2 x0 11).bind fun _ => (F_X12_codes x0 (((1000 : Int32)) + z52.1) z52.2).bind fun z56 => (rc z56.2 x0 11).bind fun _ => (F_X12_next x0 z56.2).bind fun z60 => some ((), z60.2) else (fI z3.2 x0 11 10).bind fun v11 => (rc z3.2 x0 11).bind fun _ => (F_X12_codes x0 v11 z3.2).bind fun z14 => (rc z14.2 x0 11).bind fun _ => (F_X12_next x0 z14.2).bind fun z18 => some ((), z18.2)
theorem R_X12_readAtom {Γ : xG} {l : Launch} {d : Nat} {r : Unit} {h' : xH} {f_X12_readSum : Nat → Int32 → xH → Option (Unit × xH)} (K_X12_readSum : ∀ (y0 : Nat) (y1 : Int32) (u : xH) (q : Unit) (u' : xH), f_X12_readSum y0 y1 u = some (q, u') → Gm Γ l (d - 1) 0 0 m_X12_readSum [.ref y0, .int y1] u (fun a w => a = none ∧ w = u')) (x0 : Nat) (x1 : Int32) (h : xH) (hdp : 8 ≤ d) (hF : F_X12_readAtom f_X12_readSum x0 x1 h = some (r, h')) : Gm Γ l d 0 0 m_X12_readAtom [.ref x0, .int x1] h (fun a u => a = none ∧ u = h') := by
  refine Gm.of pn_X12 (Nat.le_of_ble_eq_true rfl) ?_
  show Gd Γ l d m_X12_readAtom 0 [.ref x0, .int x1] [] h 0 0 _
  generalize hQ : (fun (a : Option Value) (u : xH) => a = none ∧ u = h') = Q
  have hq : Q (none) h' := by rw [← hQ]; exact ⟨rfl, rfl⟩
  clear hQ
  unfold F_X12_readAtom at hF
  refine g_aloadn d_X12_readAtom_0 rfl ?_
  refine g_bi (23) d_X12_readAtom_1 bi_23 ?_
  obtain ⟨_, g3, hF⟩ := Option.bind_eq_some_iff.mp hF
  obtain ⟨⟨r3, h3⟩, e3, hF⟩ := Option.bind_eq_some_iff.mp hF
  try dsimp only at hF
  refine q_callV [.int 23] [] rfl d_X12_readAtom_3 v_X12_138 (by omega) rfl (Nat.le_of_ble_eq_true rfl) (rc_rc g3 (by decide) rfl) (R_X12_is _ _ _ (by omega) e3) ?_
  refine g_if_eq 24 d_X12_readAtom_6 rfl (fun c6 => ?_) (fun c6 => ?_)
  · have hF := x_t hF c6
    refine g_aloadn d_X12_readAtom_24 rfl ?_
    obtain ⟨v25, e25, hF⟩ := Option.bind_eq_some_iff.mp hF
    refine q_fI d_X12_readAtom_25 f_X12_132 e25 ?_
    refine g_if_ne 66 d_X12_readAtom_28 rfl (fun c28 => ?_) (fun c28 => ?_)
    · have hF := x_t hF c28
      exact q_to (xs_r (xs_r xs_n)) (R_X12_readAtom_b66 K_X12_readSum hdp hq _ _ _ hF)
    · have hF := x_f hF (not_not_intro c28)
      refine g_aloadn d_X12_readAtom_31 rfl ?_
      refine g_aloadn d_X12_readAtom_32 rfl ?_
      obtain ⟨v33, e33, hF⟩ := Option.bind_eq_some_iff.mp hF
      refine q_fI d_X12_readAtom_33 f_X12_114 e33 ?_
      obtain ⟨_, g36, hF⟩ := Option.bind_eq_some_iff.mp hF
      obtain ⟨⟨r36, h36⟩, e36, hF⟩ := Option.bind_eq_some_iff.mp hF
      try dsimp only at hF
      refine q_callV [.int v33] [] rfl d_X12_readAtom_36 v_X12_162 (by omega) rfl (Nat.le_of_ble_eq_true rfl) (rc_rc g36 (by decide) rfl) (R_X12_wordOf _ _ _ (by omega) e36) ?_
      refine g_ic (-1) d_X12_readAtom_39 ic_m1 ?_
      refine g_icmp_eq 66 d_X12_readAtom_40 rfl (fun c40 => ?_) (fun c40 => ?_)
      · have hF := x_t hF c40
        exact q_to (xs_r (xs_r xs_n)) (R_X12_readAtom_b66 K_X12_readSum hdp hq _ _ _ hF)
      · have hF := x_f hF c40
        refine g_aloadn d_X12_readAtom_43 rfl ?_
        refine g_si (1000) d_X12_readAtom_44 si_1000 ?_
        refine g_aloadn d_X12_readAtom_47 rfl ?_
        refine g_aloadn d_X12_readAtom_48 rfl ?_
        obtain ⟨v49, e49, hF⟩ := Option.bind_eq_some_iff.mp hF
        refine q_fI d_X12_readAtom_49 f_X12_114 e49 ?_
        obtain ⟨_, g52, hF⟩ := Option.bind_eq_some_iff.mp hF
        obtain ⟨⟨r52, h52⟩, e52, hF⟩ := Option.bind_eq_some_iff.mp hF
        try dsimp only at hF
        refine q_callV [.int v49] [.int 1000, .ref x0] rfl d_X12_readAtom_52 v_X12_162 (by omega) rfl (Nat.le_of_ble_eq_true rfl) (rc_rc g52 (by decide) rfl) (R_X12_wordOf _ _ _ (by omega) e52) ?_
        refine g_iadd d_X12_readAtom_55 ?_
        obtain ⟨_, g56, hF⟩ := Option.bind_eq_some_iff.mp hF
        obtain ⟨⟨r56, h56⟩, e56, hF⟩ := Option.bind_eq_some_iff.mp hF
        try dsimp only at hF
        refine q_callV [.int (((1000 : Int32)) + r52)] [] rfl d_X12_readAtom_56 v_X12_159 (by omega) rfl (Nat.le_of_ble_eq_true rfl) (rc_rc g56 (by decide) rfl) (R_X12_codes _ _ _ (by omega) e56) ?_
        refine g_aloadn d_X12_readAtom_59 rfl ?_
        obtain ⟨_, g60, hF⟩ := Option.bind_eq_some_iff.mp hF
        obtain ⟨⟨r60, h60⟩, e60, hF⟩ := Option.bind_eq_some_iff.mp hF
        try dsimp only at hF
        refine q_callV [] [] rfl d_X12_readAtom_60 v_X12_141 (by omega) rfl (Nat.le_of_ble_eq_true rfl) (rc_rc g60 (by decide) rfl) (R_X12_next _ _ (by omega) e60) ?_
        refine g_goto 113 d_X12_readAtom_63 rfl ?_
        obtain ⟨rfl, rfl⟩ := x_inj hF
        exact g_vret d_X12_readAtom_113 rfl hq
  · have hF := x_f hF c6
    refine g_aloadn d_X12_readAtom_9 rfl ?_
    refine g_aloadn d_X12_readAtom_10 rfl ?_
    obtain ⟨v11, e11, hF⟩ := Option.bind_eq_some_iff.mp hF
    refine q_fI d_X12_readAtom_11 f_X12_127 e11 ?_
    obtain ⟨_, g14, hF⟩ := Option.bind_eq_some_iff.mp hF
    obtain ⟨⟨r14, h14⟩, e14, hF⟩ := Option.bind_eq_some_iff.mp hF
    try dsimp only at hF
    refine q_callV [.int v11] [] rfl d_X12_readAtom_14 v_X12_159 (by omega) rfl (Nat.le_of_ble_eq_true rfl) (rc_rc g14 (by decide) rfl) (R_X12_codes _ _ _ (by omega) e14) ?_
    refine g_aloadn d_X12_readAtom_17 rfl ?_
    obtain ⟨_, g18, hF⟩ := Option.bind_eq_some_iff.mp hF
    obtain ⟨⟨r18, h18⟩, e18, hF⟩ := Option.bind_eq_some_iff.mp hF
    try dsimp only at hF
    refine q_callV [] [] rfl d_X12_readAtom_18 v_X12_141 (by omega) rfl (Nat.le_of_ble_eq_true rfl) (rc_rc g18 (by decide) rfl) (R_X12_next _ _ (by omega) e18) ?_
    refine g_goto 113 d_X12_readAtom_21 rfl ?_
    obtain ⟨rfl, rfl⟩ := x_inj hF
    exact g_vret d_X12_readAtom_113 rfl hq
theorem d_X12_readTerm_0 : decode cX12_readTerm 0 = .ok (.aload_n 0, 1) := by decide +kernel
theorem d_X12_readTerm_1 : decode cX12_readTerm 1 = .ok (.iload_n 1, 1) := by decide +kernel
theorem d_X12_readTerm_2 : decode cX12_readTerm 2 = .ok (.invokevirtual 174, 3) := by decide +kernel
theorem d_X12_readTerm_5 : decode cX12_readTerm 5 = .ok (.aload_n 0, 1) := by decide +kernel
theorem d_X12_readTerm_6 : decode cX12_readTerm 6 = .ok (.bipush 34, 2) := by decide +kernel
theorem d_X12_readTerm_8 : decode cX12_readTerm 8 = .ok (.invokevirtual 171, 3) := by decide +kernel
theorem d_X12_readTerm_11 : decode cX12_readTerm 11 = .ok (.ifCond .eq 18, 3) := by decide +kernel
theorem d_X12_readTerm_14 : decode cX12_readTerm 14 = .ok (.aload_n 0, 1) := by decide +kernel
theorem d_X12_readTerm_15 : decode cX12_readTerm 15 = .ok (.iload_n 1, 1) := by decide +kernel
theorem d_X12_readTerm_16 : decode cX12_readTerm 16 = .ok (.invokevirtual 174, 3) := by decide +kernel
theorem d_X12_readTerm_19 : decode cX12_readTerm 19 = .ok (.aload_n 0, 1) := by decide +kernel
theorem d_X12_readTerm_20 : decode cX12_readTerm 20 = .ok (.sipush 3002, 3) := by decide +kernel
theorem d_X12_readTerm_23 : decode cX12_readTerm 23 = .ok (.invokevirtual 159, 3) := by decide +kernel
theorem d_X12_readTerm_26 : decode cX12_readTerm 26 = .ok (.goto (-21), 3) := by decide +kernel
theorem d_X12_readTerm_29 : decode cX12_readTerm 29 = .ok (.return_, 1) := by decide +kernel
def F_X12_readTerm_b5 (f_X12_readAtom : Nat → Int32 → xH → Option (Unit × xH)) : Nat → Nat → Int32 → xH → Option (Unit × xH)
  | 0, _, _, _ => none
  | n + 1, x0, x1, h => (rc h x0 11).bind fun _ => (F_X12_eats x0 34 h).bind fun z8 => if z8.1 = 0 then some ((), z8.2) else (rc z8.2 x0 11).bind fun _ => (f_X12_readAtom x0 x1 z8.2).bind fun z16 => (rc z16.2 x0 11).bind fun _ => (F_X12_codes x0 3002 z16.2).bind fun z23 => F_X12_readTerm_b5 f_X12_readAtom n x0 x1 z23.2
theorem R_X12_readTerm_b5 {Γ : xG} {l : Launch} {d : Nat} {Q : Option Value → xH → Prop} {r : Unit} {h' : xH} {f_X12_readAtom : Nat → Int32 → xH → Option (Unit × xH)} (K_X12_readAtom : ∀ (y0 : Nat) (y1 : Int32) (u : xH) (q : Unit) (u' : xH), f_X12_readAtom y0 y1 u = some (q, u') → Gm Γ l (d - 1) 0 0 m_X12_readAtom [.ref y0, .int y1] u (fun a w => a = none ∧ w = u')) (hdp : 8 ≤ d) (hq : Q (none) h') : ∀ (n : Nat) (x0 : Nat) (x1 : Int32) (h : xH), F_X12_readTerm_b5 f_X12_readAtom n x0 x1 h = some (r, h') → Gd Γ l d m_X12_readTerm 5 [.ref x0, .int x1] [] h 0 0 Q := by
  intro n
  induction n with
  | zero => intro x0 x1 h hF; cases hF
  | succ n ih =>
  intro x0 x1 h hF
  rw [F_X12_readTerm_b5] at hF
  refine g_aloadn d_X12_readTerm_5 rfl ?_
  refine g_bi (34) d_X12_readTerm_6 bi_34 ?_
  obtain ⟨_, g8, hF⟩ := Option.bind_eq_some_iff.mp hF
  obtain ⟨⟨r8, h8⟩, e8, hF⟩ := Option.bind_eq_some_iff.mp hF
  try dsimp only at hF
  refine q_callV [.int 34] [] rfl d_X12_readTerm_8 v_X12_171 (by omega) rfl (Nat.le_of_ble_eq_true rfl) (rc_rc g8 (by decide) rfl) (R_X12_eats _ _ _ (by omega) e8) ?_
  refine g_if_eq 29 d_X12_readTerm_11 rfl (fun c11 => ?_) (fun c11 => ?_)
  · have hF := x_t hF c11
    obtain ⟨rfl, rfl⟩ := x_inj hF
    exact g_vret d_X12_readTerm_29 rfl hq
  · have hF := x_f hF c11
    refine g_aloadn d_X12_readTerm_14 rfl ?_
    refine g_iloadn d_X12_readTerm_15 rfl ?_
    obtain ⟨_, g16, hF⟩ := Option.bind_eq_some_iff.mp hF
    obtain ⟨⟨r16, h16⟩, e16, hF⟩ := Option.bind_eq_some_iff.mp hF
    try dsimp only at hF
    refine q_callV [.int x1] [] rfl d_X12_readTerm_16 v_X12_174 (by omega) rfl (Nat.le_of_ble_eq_true rfl) (rc_rc g16 (by decide) rfl) (K_X12_readAtom _ _ _ _ _ e16) ?_
    refine g_aloadn d_X12_readTerm_19 rfl ?_
    refine g_si (3002) d_X12_readTerm_20 si_3002 ?_
    obtain ⟨_, g23, hF⟩ := Option.bind_eq_some_iff.mp hF
    obtain ⟨⟨r23, h23⟩, e23, hF⟩ := Option.bind_eq_some_iff.mp hF
    try dsimp only at hF
    refine q_callV [.int 3002] [] rfl d_X12_readTerm_23 v_X12_159 (by omega) rfl (Nat.le_of_ble_eq_true rfl) (rc_rc g23 (by decide) rfl) (R_X12_codes _ _ _ (by omega) e23) ?_
    refine g_goto 5 d_X12_readTerm_26 rfl ?_
    exact q_to (xs_r (xs_r xs_n)) (ih _ _ _ hF)
def F_X12_readTerm (f_X12_readAtom : Nat → Int32 → xH → Option (Unit × xH)) (x0 : Nat) (x1 : Int32) (h : xH) : Option (Unit × xH) := (rc h x0 11).bind fun _ => (f_X12_readAtom x0 x1 h).bind fun z2 => F_X12_readTerm_b5 f_X12_readAtom FU x0 x1 z2.2
theorem R_X12_readTerm {Γ : xG} {l : Launch} {d : Nat} {r : Unit} {h' : xH} {f_X12_readAtom : Nat → Int32 → xH → Option (Unit × xH)} (K_X12_readAtom : ∀ (y0 : Nat) (y1 : Int32) (u : xH) (q : Unit) (u' : xH), f_X12_readAtom y0 y1 u = some (q, u') → Gm Γ l (d - 1) 0 0 m_X12_readAtom [.ref y0, .int y1] u (fun a w => a = none ∧ w = u')) (x0 : Nat) (x1 : Int32) (h : xH) (hdp : 8 ≤ d) (hF : F_X12_readTerm f_X12_readAtom x0 x1 h = some (r, h')) : Gm Γ l d 0 0 m_X12_readTerm [.ref x0, .int x1] h (fun a u => a = none ∧ u = h') := by
  refine Gm.of pn_X12 (Nat.le_of_ble_eq_true rfl) ?_
  show Gd Γ l d m_X12_readTerm 0 [.ref x0, .int x1] [] h 0 0 _
  generalize hQ : (fun (a : Option Value) (u : xH) => a = none ∧ u = h') = Q
  have hq : Q (none) h' := by rw [← hQ]; exact ⟨rfl, rfl⟩
  clear hQ
  unfold F_X12_readTerm at hF
  refine g_aloadn d_X12_readTerm_0 rfl ?_
  refine g_iloadn d_X12_readTerm_1 rfl ?_
  obtain ⟨_, g2, hF⟩ := Option.bind_eq_some_iff.mp hF
  obtain ⟨⟨r2, h2⟩, e2, hF⟩ := Option.bind_eq_some_iff.mp hF
  try dsimp only at hF
  refine q_callV [.int x1] [] rfl d_X12_readTerm_2 v_X12_174 (by omega) rfl (Nat.le_of_ble_eq_true rfl) (rc_rc g2 (by decide) rfl) (K_X12_readAtom _ _ _ _ _ e2) ?_
  exact q_to (xs_r (xs_r xs_n)) (R_X12_readTerm_b5 K_X12_readAtom hdp hq FU _ _ _ hF)
theorem d_X12_readSum_0 : decode cX12_readSum 0 = .ok (.aload_n 0, 1) := by decide +kernel
theorem d_X12_readSum_1 : decode cX12_readSum 1 = .ok (.iload_n 1, 1) := by decide +kernel
theorem d_X12_readSum_2 : decode cX12_readSum 2 = .ok (.invokevirtual 177, 3) := by decide +kernel
theorem d_X12_readSum_5 : decode cX12_readSum 5 = .ok (.aload_n 0, 1) := by decide +kernel
theorem d_X12_readSum_6 : decode cX12_readSum 6 = .ok (.bipush 32, 2) := by decide +kernel
theorem d_X12_readSum_8 : decode cX12_readSum 8 = .ok (.invokevirtual 138, 3) := by decide +kernel
theorem d_X12_readSum_11 : decode cX12_readSum 11 = .ok (.ifCond .ne 12, 3) := by decide +kernel
theorem d_X12_readSum_14 : decode cX12_readSum 14 = .ok (.aload_n 0, 1) := by decide +kernel
theorem d_X12_readSum_15 : decode cX12_readSum 15 = .ok (.bipush 33, 2) := by decide +kernel
theorem d_X12_readSum_17 : decode cX12_readSum 17 = .ok (.invokevirtual 138, 3) := by decide +kernel
theorem d_X12_readSum_20 : decode cX12_readSum 20 = .ok (.ifCond .eq 39, 3) := by decide +kernel
theorem d_X12_readSum_23 : decode cX12_readSum 23 = .ok (.aload_n 0, 1) := by decide +kernel
theorem d_X12_readSum_24 : decode cX12_readSum 24 = .ok (.getfield 114, 3) := by decide +kernel
theorem d_X12_readSum_27 : decode cX12_readSum 27 = .ok (.bipush 32, 2) := by decide +kernel
theorem d_X12_readSum_29 : decode cX12_readSum 29 = .ok (.if_icmp .ne 9, 3) := by decide +kernel
theorem d_X12_readSum_32 : decode cX12_readSum 32 = .ok (.sipush 3000, 3) := by decide +kernel
theorem d_X12_readSum_35 : decode cX12_readSum 35 = .ok (.goto 6, 3) := by decide +kernel
theorem d_X12_readSum_38 : decode cX12_readSum 38 = .ok (.sipush 3001, 3) := by decide +kernel
theorem d_X12_readSum_41 : decode cX12_readSum 41 = .ok (.istore_n 2, 1) := by decide +kernel
theorem d_X12_readSum_42 : decode cX12_readSum 42 = .ok (.aload_n 0, 1) := by decide +kernel
theorem d_X12_readSum_43 : decode cX12_readSum 43 = .ok (.invokevirtual 141, 3) := by decide +kernel
theorem d_X12_readSum_46 : decode cX12_readSum 46 = .ok (.aload_n 0, 1) := by decide +kernel
theorem d_X12_readSum_47 : decode cX12_readSum 47 = .ok (.iload_n 1, 1) := by decide +kernel
theorem d_X12_readSum_48 : decode cX12_readSum 48 = .ok (.invokevirtual 177, 3) := by decide +kernel
theorem d_X12_readSum_51 : decode cX12_readSum 51 = .ok (.aload_n 0, 1) := by decide +kernel
theorem d_X12_readSum_52 : decode cX12_readSum 52 = .ok (.iload_n 2, 1) := by decide +kernel
theorem d_X12_readSum_53 : decode cX12_readSum 53 = .ok (.invokevirtual 159, 3) := by decide +kernel
theorem d_X12_readSum_56 : decode cX12_readSum 56 = .ok (.goto (-51), 3) := by decide +kernel
theorem d_X12_readSum_59 : decode cX12_readSum 59 = .ok (.return_, 1) := by decide +kernel
def F_X12_readSum_b41 (f_X12_readTerm : Nat → Int32 → xH → Option (Unit × xH)) (k5 : Nat → Int32 → xH → Option (Unit × xH)) (x0 : Nat) (x1 : Int32) (s0 : Int32) (h : xH) : Option (Unit × xH) := (rc h x0 11).bind fun _ => (F_X12_next x0 h).bind fun z43 => (rc z43.2 x0 11).bind fun _ => (f_X12_readTerm x0 x1 z43.2).bind fun z48 => (rc z48.2 x0 11).bind fun _ => (F_X12_codes x0 s0 z48.2).bind fun z53 => k5 x0 x1 z53.2
theorem R_X12_readSum_b41 {Γ : xG} {l : Launch} {d : Nat} {Q : Option Value → xH → Prop} {r : Unit} {h' : xH} {f_X12_readTerm : Nat → Int32 → xH → Option (Unit × xH)} {k5 : Nat → Int32 → xH → Option (Unit × xH)} (K_X12_readTerm : ∀ (y0 : Nat) (y1 : Int32) (u : xH) (q : Unit) (u' : xH), f_X12_readTerm y0 y1 u = some (q, u') → Gm Γ l (d - 1) 0 0 m_X12_readTerm [.ref y0, .int y1] u (fun a w => a = none ∧ w = u')) (K5 : ∀ (x0 : Nat) (x1 : Int32)  (h : xH), k5 x0 x1 h = some (r, h') → Gd Γ l d m_X12_readSum 5 [.ref x0, .int x1, xhole] [] h 0 0 Q) (hdp : 7 ≤ d) (hq : Q (none) h') : ∀ (x0 : Nat) (x1 : Int32) (s0 : Int32) (h : xH), F_X12_readSum_b41 f_X12_readTerm k5 x0 x1 s0 h = some (r, h') → Gd Γ l d m_X12_readSum 41 [.ref x0, .int x1, xhole] [.int s0] h 0 0 Q := by
  intro x0 x1 s0 h hF
  unfold F_X12_readSum_b41 at hF
  refine q_istoren [.ref x0, .int x1, .int s0] d_X12_readSum_41 (by decide) rfl ?_
  refine g_aloadn d_X12_readSum_42 rfl ?_
  obtain ⟨_, g43, hF⟩ := Option.bind_eq_some_iff.mp hF
  obtain ⟨⟨r43, h43⟩, e43, hF⟩ := Option.bind_eq_some_iff.mp hF
  try dsimp only at hF
  refine q_callV [] [] rfl d_X12_readSum_43 v_X12_141 (by omega) rfl (Nat.le_of_ble_eq_true rfl) (rc_rc g43 (by decide) rfl) (R_X12_next _ _ (by omega) e43) ?_
  refine g_aloadn d_X12_readSum_46 rfl ?_
  refine g_iloadn d_X12_readSum_47 rfl ?_
  obtain ⟨_, g48, hF⟩ := Option.bind_eq_some_iff.mp hF
  obtain ⟨⟨r48, h48⟩, e48, hF⟩ := Option.bind_eq_some_iff.mp hF
  try dsimp only at hF
  refine q_callV [.int x1] [] rfl d_X12_readSum_48 v_X12_177 (by omega) rfl (Nat.le_of_ble_eq_true rfl) (rc_rc g48 (by decide) rfl) (K_X12_readTerm _ _ _ _ _ e48) ?_
  refine g_aloadn d_X12_readSum_51 rfl ?_
  refine g_iloadn d_X12_readSum_52 rfl ?_
  obtain ⟨_, g53, hF⟩ := Option.bind_eq_some_iff.mp hF
  obtain ⟨⟨r53, h53⟩, e53, hF⟩ := Option.bind_eq_some_iff.mp hF
  try dsimp only at hF
  refine q_callV [.int s0] [] rfl d_X12_readSum_53 v_X12_159 (by omega) rfl (Nat.le_of_ble_eq_true rfl) (rc_rc g53 (by decide) rfl) (R_X12_codes _ _ _ (by omega) e53) ?_
  refine g_goto 5 d_X12_readSum_56 rfl ?_
  exact q_to (xs_r (xs_r (xs_h xs_n))) (K5 _ _ _ hF)
def F_X12_readSum_b23 (f_X12_readTerm : Nat → Int32 → xH → Option (Unit × xH)) (k5 : Nat → Int32 → xH → Option (Unit × xH)) (x0 : Nat) (x1 : Int32) (h : xH) : Option (Unit × xH) := (fI h x0 11 9).bind fun v24 => if ¬ v24 = ((32 : Int32)) then F_X12_readSum_b41 f_X12_readTerm k5 x0 x1 3001 h else F_X12_readSum_b41 f_X12_readTerm k5 x0 x1 3000 h
theorem R_X12_readSum_b23 {Γ : xG} {l : Launch} {d : Nat} {Q : Option Value → xH → Prop} {r : Unit} {h' : xH} {f_X12_readTerm : Nat → Int32 → xH → Option (Unit × xH)} {k5 : Nat → Int32 → xH → Option (Unit × xH)} (K_X12_readTerm : ∀ (y0 : Nat) (y1 : Int32) (u : xH) (q : Unit) (u' : xH), f_X12_readTerm y0 y1 u = some (q, u') → Gm Γ l (d - 1) 0 0 m_X12_readTerm [.ref y0, .int y1] u (fun a w => a = none ∧ w = u')) (K5 : ∀ (x0 : Nat) (x1 : Int32)  (h : xH), k5 x0 x1 h = some (r, h') → Gd Γ l d m_X12_readSum 5 [.ref x0, .int x1, xhole] [] h 0 0 Q) (hdp : 7 ≤ d) (hq : Q (none) h') : ∀ (x0 : Nat) (x1 : Int32) (h : xH), F_X12_readSum_b23 f_X12_readTerm k5 x0 x1 h = some (r, h') → Gd Γ l d m_X12_readSum 23 [.ref x0, .int x1, xhole] [] h 0 0 Q := by
  intro x0 x1 h hF
  unfold F_X12_readSum_b23 at hF
  refine g_aloadn d_X12_readSum_23 rfl ?_
  obtain ⟨v24, e24, hF⟩ := Option.bind_eq_some_iff.mp hF
  refine q_fI d_X12_readSum_24 f_X12_114 e24 ?_
  refine g_bi (32) d_X12_readSum_27 bi_32 ?_
  refine g_icmp_ne 38 d_X12_readSum_29 rfl (fun c29 => ?_) (fun c29 => ?_)
  · have hF := x_t hF c29
    refine g_si (3001) d_X12_readSum_38 si_3001 ?_
    exact q_to (xs_r (xs_r (xs_h xs_n))) (R_X12_readSum_b41 K_X12_readTerm K5 hdp hq _ _ _ _ hF)
  · have hF := x_f hF (not_not_intro c29)
    refine g_si (3000) d_X12_readSum_32 si_3000 ?_
    refine g_goto 41 d_X12_readSum_35 rfl ?_
    exact q_to (xs_r (xs_r (xs_h xs_n))) (R_X12_readSum_b41 K_X12_readTerm K5 hdp hq _ _ _ _ hF)
def F_X12_readSum_b5 (f_X12_readTerm : Nat → Int32 → xH → Option (Unit × xH)) : Nat → Nat → Int32 → xH → Option (Unit × xH)
  | 0, _, _, _ => none
  | n + 1, x0, x1, h => (rc h x0 11).bind fun _ => (F_X12_is x0 32 h).bind fun z8 => if ¬ z8.1 = 0 then F_X12_readSum_b23 f_X12_readTerm (F_X12_readSum_b5 f_X12_readTerm n) x0 x1 z8.2 else (rc z8.2 x0 11).bind fun _ => (F_X12_is x0 33 z8.2).bind fun z17 => if z17.1 = 0 then some ((), z17.2) else F_X12_readSum_b23 f_X12_readTerm (F_X12_readSum_b5 f_X12_readTerm n) x0 x1 z17.2
theorem R_X12_readSum_b5 {Γ : xG} {l : Launch} {d : Nat} {Q : Option Value → xH → Prop} {r : Unit} {h' : xH} {f_X12_readTerm : Nat → Int32 → xH → Option (Unit × xH)} (K_X12_readTerm : ∀ (y0 : Nat) (y1 : Int32) (u : xH) (q : Unit) (u' : xH), f_X12_readTerm y0 y1 u = some (q, u') → Gm Γ l (d - 1) 0 0 m_X12_readTerm [.ref y0, .int y1] u (fun a w => a = none ∧ w = u')) (hdp : 7 ≤ d) (hq : Q (none) h') : ∀ (n : Nat) (x0 : Nat) (x1 : Int32) (h : xH), F_X12_readSum_b5 f_X12_readTerm n x0 x1 h = some (r, h') → Gd Γ l d m_X12_readSum 5 [.ref x0, .int x1, xhole] [] h 0 0 Q := by
  intro n
  induction n with
  | zero => intro x0 x1 h hF; cases hF
  | succ n ih =>
  intro x0 x1 h hF
  rw [F_X12_readSum_b5] at hF
  refine g_aloadn d_X12_readSum_5 rfl ?_
  refine g_bi (32) d_X12_readSum_6 bi_32 ?_
  obtain ⟨_, g8, hF⟩ := Option.bind_eq_some_iff.mp hF
  obtain ⟨⟨r8, h8⟩, e8, hF⟩ := Option.bind_eq_some_iff.mp hF
  try dsimp only at hF
  refine q_callV [.int 32] [] rfl d_X12_readSum_8 v_X12_138 (by omega) rfl (Nat.le_of_ble_eq_true rfl) (rc_rc g8 (by decide) rfl) (R_X12_is _ _ _ (by omega) e8) ?_
  refine g_if_ne 23 d_X12_readSum_11 rfl (fun c11 => ?_) (fun c11 => ?_)
  · have hF := x_t hF c11
    exact q_to (xs_r (xs_r (xs_h xs_n))) (R_X12_readSum_b23 K_X12_readTerm ih hdp hq _ _ _ hF)
  · have hF := x_f hF (not_not_intro c11)
    refine g_aloadn d_X12_readSum_14 rfl ?_
    refine g_bi (33) d_X12_readSum_15 bi_33 ?_
    obtain ⟨_, g17, hF⟩ := Option.bind_eq_some_iff.mp hF
    obtain ⟨⟨r17, h17⟩, e17, hF⟩ := Option.bind_eq_some_iff.mp hF
    try dsimp only at hF
    refine q_callV [.int 33] [] rfl d_X12_readSum_17 v_X12_138 (by omega) rfl (Nat.le_of_ble_eq_true rfl) (rc_rc g17 (by decide) rfl) (R_X12_is _ _ _ (by omega) e17) ?_
    refine g_if_eq 59 d_X12_readSum_20 rfl (fun c20 => ?_) (fun c20 => ?_)
    · have hF := x_t hF c20
      obtain ⟨rfl, rfl⟩ := x_inj hF
      exact g_vret d_X12_readSum_59 rfl hq
    · have hF := x_f hF c20
      exact q_to (xs_r (xs_r (xs_h xs_n))) (R_X12_readSum_b23 K_X12_readTerm ih hdp hq _ _ _ hF)
def F_X12_readSum (f_X12_readTerm : Nat → Int32 → xH → Option (Unit × xH)) (x0 : Nat) (x1 : Int32) (h : xH) : Option (Unit × xH) := (rc h x0 11).bind fun _ => (f_X12_readTerm x0 x1 h).bind fun z2 => F_X12_readSum_b5 f_X12_readTerm FU x0 x1 z2.2
theorem R_X12_readSum {Γ : xG} {l : Launch} {d : Nat} {r : Unit} {h' : xH} {f_X12_readTerm : Nat → Int32 → xH → Option (Unit × xH)} (K_X12_readTerm : ∀ (y0 : Nat) (y1 : Int32) (u : xH) (q : Unit) (u' : xH), f_X12_readTerm y0 y1 u = some (q, u') → Gm Γ l (d - 1) 0 0 m_X12_readTerm [.ref y0, .int y1] u (fun a w => a = none ∧ w = u')) (x0 : Nat) (x1 : Int32) (h : xH) (hdp : 7 ≤ d) (hF : F_X12_readSum f_X12_readTerm x0 x1 h = some (r, h')) : Gm Γ l d 0 0 m_X12_readSum [.ref x0, .int x1] h (fun a u => a = none ∧ u = h') := by
  refine Gm.of pn_X12 (Nat.le_of_ble_eq_true rfl) ?_
  show Gd Γ l d m_X12_readSum 0 [.ref x0, .int x1, xhole] [] h 0 0 _
  generalize hQ : (fun (a : Option Value) (u : xH) => a = none ∧ u = h') = Q
  have hq : Q (none) h' := by rw [← hQ]; exact ⟨rfl, rfl⟩
  clear hQ
  unfold F_X12_readSum at hF
  refine g_aloadn d_X12_readSum_0 rfl ?_
  refine g_iloadn d_X12_readSum_1 rfl ?_
  obtain ⟨_, g2, hF⟩ := Option.bind_eq_some_iff.mp hF
  obtain ⟨⟨r2, h2⟩, e2, hF⟩ := Option.bind_eq_some_iff.mp hF
  try dsimp only at hF
  refine q_callV [.int x1] [] rfl d_X12_readSum_2 v_X12_177 (by omega) rfl (Nat.le_of_ble_eq_true rfl) (rc_rc g2 (by decide) rfl) (K_X12_readTerm _ _ _ _ _ e2) ?_
  exact q_to (xs_r (xs_r (xs_h xs_n))) (R_X12_readSum_b5 K_X12_readTerm hdp hq FU _ _ _ hF)
def G_X12_readAtom : Nat → (Nat → Int32 → xH → Option (Unit × xH)) × (Nat → Int32 → xH → Option (Unit × xH)) × (Nat → Int32 → xH → Option (Unit × xH))
  | 0 => ((fun _ _ _ => none), (fun _ _ _ => none), (fun _ _ _ => none))
  | n + 1 => ((F_X12_readAtom (G_X12_readAtom n).2.2), (F_X12_readTerm (G_X12_readAtom n).1), (F_X12_readSum (G_X12_readAtom n).2.1))
def C_X12_readAtom (n : Nat) : Nat → Int32 → xH → Option (Unit × xH) := (G_X12_readAtom n).1
def C_X12_readTerm (n : Nat) : Nat → Int32 → xH → Option (Unit × xH) := (G_X12_readAtom n).2.1
def C_X12_readSum (n : Nat) : Nat → Int32 → xH → Option (Unit × xH) := (G_X12_readAtom n).2.2
theorem RG_X12_readAtom {Γ : xG} {l : Launch} : ∀ (n d : Nat), 8 + n ≤ d → (∀ (y0 : Nat) (y1 : Int32) (u : xH) (q : Unit) (u' : xH), (G_X12_readAtom n).1 y0 y1 u = some (q, u') → Gm Γ l d 0 0 m_X12_readAtom [.ref y0, .int y1] u (fun a w => a = none ∧ w = u')) ∧ (∀ (y0 : Nat) (y1 : Int32) (u : xH) (q : Unit) (u' : xH), (G_X12_readAtom n).2.1 y0 y1 u = some (q, u') → Gm Γ l d 0 0 m_X12_readTerm [.ref y0, .int y1] u (fun a w => a = none ∧ w = u')) ∧ (∀ (y0 : Nat) (y1 : Int32) (u : xH) (q : Unit) (u' : xH), (G_X12_readAtom n).2.2 y0 y1 u = some (q, u') → Gm Γ l d 0 0 m_X12_readSum [.ref y0, .int y1] u (fun a w => a = none ∧ w = u')) := by
  intro n
  induction n with
  | zero => intro d hd; exact ⟨(fun _ _ _ _ _ hF => by cases (show (none : Option (Unit × xH)) = some _ from hF)), (fun _ _ _ _ _ hF => by cases (show (none : Option (Unit × xH)) = some _ from hF)), (fun _ _ _ _ _ hF => by cases (show (none : Option (Unit × xH)) = some _ from hF))⟩
  | succ n ih =>
  intro d hd
  have H := ih (d - 1) (by omega)
  exact ⟨(fun y0 y1 u q u' hF => R_X12_readAtom (H.2.2) y0 y1 u (by omega) hF), (fun y0 y1 u q u' hF => R_X12_readTerm (H.1) y0 y1 u (by omega) hF), (fun y0 y1 u q u' hF => R_X12_readSum (H.2.1) y0 y1 u (by omega) hF)⟩
theorem RC_X12_readAtom {Γ : xG} {l : Launch} {d : Nat} {q : Unit} {u' : xH} (n : Nat) (y0 : Nat) (y1 : Int32) (u : xH) (hd : 8 + n ≤ d) (hF : C_X12_readAtom n y0 y1 u = some (q, u')) : Gm Γ l d 0 0 m_X12_readAtom [.ref y0, .int y1] u (fun a w => a = none ∧ w = u') := (RG_X12_readAtom n d hd).1 y0 y1 u q u' hF
theorem RC_X12_readTerm {Γ : xG} {l : Launch} {d : Nat} {q : Unit} {u' : xH} (n : Nat) (y0 : Nat) (y1 : Int32) (u : xH) (hd : 8 + n ≤ d) (hF : C_X12_readTerm n y0 y1 u = some (q, u')) : Gm Γ l d 0 0 m_X12_readTerm [.ref y0, .int y1] u (fun a w => a = none ∧ w = u') := (RG_X12_readAtom n d hd).2.1 y0 y1 u q u' hF
theorem RC_X12_readSum {Γ : xG} {l : Launch} {d : Nat} {q : Unit} {u' : xH} (n : Nat) (y0 : Nat) (y1 : Int32) (u : xH) (hd : 8 + n ≤ d) (hF : C_X12_readSum n y0 y1 u = some (q, u')) : Gm Γ l d 0 0 m_X12_readSum [.ref y0, .int y1] u (fun a w => a = none ∧ w = u') := (RG_X12_readAtom n d hd).2.2 y0 y1 u q u' hF
theorem d_X12_readUnit_0 : decode cX12_readUnit 0 = .ok (.aload_n 0, 1) := by decide +kernel
theorem d_X12_readUnit_1 : decode cX12_readUnit 1 = .ok (.bipush 18, 2) := by decide +kernel
theorem d_X12_readUnit_3 : decode cX12_readUnit 3 = .ok (.invokevirtual 138, 3) := by decide +kernel
theorem d_X12_readUnit_6 : decode cX12_readUnit 6 = .ok (.ifCond .eq 27, 3) := by decide +kernel
theorem d_X12_readUnit_9 : decode cX12_readUnit 9 = .ok (.aload_n 0, 1) := by decide +kernel
theorem d_X12_readUnit_10 : decode cX12_readUnit 10 = .ok (.iload_n 1, 1) := by decide +kernel
theorem d_X12_readUnit_11 : decode cX12_readUnit 11 = .ok (.invokevirtual 165, 3) := by decide +kernel
theorem d_X12_readUnit_14 : decode cX12_readUnit 14 = .ok (.ifCond .ne 4, 3) := by decide +kernel
theorem d_X12_readUnit_17 : decode cX12_readUnit 17 = .ok (.return_, 1) := by decide +kernel
theorem d_X12_readUnit_18 : decode cX12_readUnit 18 = .ok (.aload_n 0, 1) := by decide +kernel
theorem d_X12_readUnit_19 : decode cX12_readUnit 19 = .ok (.iload_n 1, 1) := by decide +kernel
theorem d_X12_readUnit_20 : decode cX12_readUnit 20 = .ok (.iconst 1, 1) := by decide +kernel
theorem d_X12_readUnit_21 : decode cX12_readUnit 21 = .ok (.iadd, 1) := by decide +kernel
theorem d_X12_readUnit_22 : decode cX12_readUnit 22 = .ok (.invokevirtual 180, 3) := by decide +kernel
theorem d_X12_readUnit_25 : decode cX12_readUnit 25 = .ok (.aload_n 0, 1) := by decide +kernel
theorem d_X12_readUnit_26 : decode cX12_readUnit 26 = .ok (.sipush 3006, 3) := by decide +kernel
theorem d_X12_readUnit_29 : decode cX12_readUnit 29 = .ok (.invokevirtual 159, 3) := by decide +kernel
theorem d_X12_readUnit_32 : decode cX12_readUnit 32 = .ok (.return_, 1) := by decide +kernel
theorem d_X12_readUnit_33 : decode cX12_readUnit 33 = .ok (.aload_n 0, 1) := by decide +kernel
theorem d_X12_readUnit_34 : decode cX12_readUnit 34 = .ok (.bipush 37, 2) := by decide +kernel
theorem d_X12_readUnit_36 : decode cX12_readUnit 36 = .ok (.invokevirtual 138, 3) := by decide +kernel
theorem d_X12_readUnit_39 : decode cX12_readUnit 39 = .ok (.ifCond .eq 34, 3) := by decide +kernel
theorem d_X12_readUnit_42 : decode cX12_readUnit 42 = .ok (.aload_n 0, 1) := by decide +kernel
theorem d_X12_readUnit_43 : decode cX12_readUnit 43 = .ok (.iload_n 1, 1) := by decide +kernel
theorem d_X12_readUnit_44 : decode cX12_readUnit 44 = .ok (.invokevirtual 165, 3) := by decide +kernel
theorem d_X12_readUnit_47 : decode cX12_readUnit 47 = .ok (.ifCond .ne 4, 3) := by decide +kernel
theorem d_X12_readUnit_50 : decode cX12_readUnit 50 = .ok (.return_, 1) := by decide +kernel
theorem d_X12_readUnit_51 : decode cX12_readUnit 51 = .ok (.aload_n 0, 1) := by decide +kernel
theorem d_X12_readUnit_52 : decode cX12_readUnit 52 = .ok (.iload_n 1, 1) := by decide +kernel
theorem d_X12_readUnit_53 : decode cX12_readUnit 53 = .ok (.iconst 1, 1) := by decide +kernel
theorem d_X12_readUnit_54 : decode cX12_readUnit 54 = .ok (.iadd, 1) := by decide +kernel
theorem d_X12_readUnit_55 : decode cX12_readUnit 55 = .ok (.invokevirtual 183, 3) := by decide +kernel
theorem d_X12_readUnit_58 : decode cX12_readUnit 58 = .ok (.aload_n 0, 1) := by decide +kernel
theorem d_X12_readUnit_59 : decode cX12_readUnit 59 = .ok (.bipush 38, 2) := by decide +kernel
theorem d_X12_readUnit_61 : decode cX12_readUnit 61 = .ok (.invokevirtual 171, 3) := by decide +kernel
theorem d_X12_readUnit_64 : decode cX12_readUnit 64 = .ok (.ifCond .ne 8, 3) := by decide +kernel
theorem d_X12_readUnit_67 : decode cX12_readUnit 67 = .ok (.aload_n 0, 1) := by decide +kernel
theorem d_X12_readUnit_68 : decode cX12_readUnit 68 = .ok (.iconst 2, 1) := by decide +kernel
theorem d_X12_readUnit_69 : decode cX12_readUnit 69 = .ok (.invokevirtual 144, 3) := by decide +kernel
theorem d_X12_readUnit_72 : decode cX12_readUnit 72 = .ok (.return_, 1) := by decide +kernel
theorem d_X12_readUnit_73 : decode cX12_readUnit 73 = .ok (.aload_n 0, 1) := by decide +kernel
theorem d_X12_readUnit_74 : decode cX12_readUnit 74 = .ok (.iload_n 1, 1) := by decide +kernel
theorem d_X12_readUnit_75 : decode cX12_readUnit 75 = .ok (.invokevirtual 168, 3) := by decide +kernel
theorem d_X12_readUnit_78 : decode cX12_readUnit 78 = .ok (.aload_n 0, 1) := by decide +kernel
theorem d_X12_readUnit_79 : decode cX12_readUnit 79 = .ok (.bipush 39, 2) := by decide +kernel
theorem d_X12_readUnit_81 : decode cX12_readUnit 81 = .ok (.invokevirtual 138, 3) := by decide +kernel
theorem d_X12_readUnit_84 : decode cX12_readUnit 84 = .ok (.ifCond .eq 9, 3) := by decide +kernel
theorem d_X12_readUnit_87 : decode cX12_readUnit 87 = .ok (.sipush 3003, 3) := by decide +kernel
theorem d_X12_readUnit_90 : decode cX12_readUnit 90 = .ok (.goto 21, 3) := by decide +kernel
theorem d_X12_readUnit_93 : decode cX12_readUnit 93 = .ok (.aload_n 0, 1) := by decide +kernel
theorem d_X12_readUnit_94 : decode cX12_readUnit 94 = .ok (.bipush 40, 2) := by decide +kernel
theorem d_X12_readUnit_96 : decode cX12_readUnit 96 = .ok (.invokevirtual 138, 3) := by decide +kernel
theorem d_X12_readUnit_99 : decode cX12_readUnit 99 = .ok (.ifCond .eq 9, 3) := by decide +kernel
theorem d_X12_readUnit_102 : decode cX12_readUnit 102 = .ok (.sipush 3004, 3) := by decide +kernel
theorem d_X12_readUnit_105 : decode cX12_readUnit 105 = .ok (.goto 6, 3) := by decide +kernel
theorem d_X12_readUnit_108 : decode cX12_readUnit 108 = .ok (.sipush 3005, 3) := by decide +kernel
theorem d_X12_readUnit_111 : decode cX12_readUnit 111 = .ok (.istore_n 2, 1) := by decide +kernel
theorem d_X12_readUnit_112 : decode cX12_readUnit 112 = .ok (.aload_n 0, 1) := by decide +kernel
theorem d_X12_readUnit_113 : decode cX12_readUnit 113 = .ok (.bipush 39, 2) := by decide +kernel
theorem d_X12_readUnit_115 : decode cX12_readUnit 115 = .ok (.invokevirtual 138, 3) := by decide +kernel
theorem d_X12_readUnit_118 : decode cX12_readUnit 118 = .ok (.ifCond .ne 21, 3) := by decide +kernel
theorem d_X12_readUnit_121 : decode cX12_readUnit 121 = .ok (.aload_n 0, 1) := by decide +kernel
theorem d_X12_readUnit_122 : decode cX12_readUnit 122 = .ok (.bipush 40, 2) := by decide +kernel
theorem d_X12_readUnit_124 : decode cX12_readUnit 124 = .ok (.invokevirtual 138, 3) := by decide +kernel
theorem d_X12_readUnit_127 : decode cX12_readUnit 127 = .ok (.ifCond .ne 12, 3) := by decide +kernel
theorem d_X12_readUnit_130 : decode cX12_readUnit 130 = .ok (.aload_n 0, 1) := by decide +kernel
theorem d_X12_readUnit_131 : decode cX12_readUnit 131 = .ok (.bipush 41, 2) := by decide +kernel
theorem d_X12_readUnit_133 : decode cX12_readUnit 133 = .ok (.invokevirtual 138, 3) := by decide +kernel
theorem d_X12_readUnit_136 : decode cX12_readUnit 136 = .ok (.ifCond .eq 10, 3) := by decide +kernel
theorem d_X12_readUnit_139 : decode cX12_readUnit 139 = .ok (.aload_n 0, 1) := by decide +kernel
theorem d_X12_readUnit_140 : decode cX12_readUnit 140 = .ok (.invokevirtual 141, 3) := by decide +kernel
theorem d_X12_readUnit_143 : decode cX12_readUnit 143 = .ok (.goto 8, 3) := by decide +kernel
theorem d_X12_readUnit_146 : decode cX12_readUnit 146 = .ok (.aload_n 0, 1) := by decide +kernel
theorem d_X12_readUnit_147 : decode cX12_readUnit 147 = .ok (.iconst 2, 1) := by decide +kernel
theorem d_X12_readUnit_148 : decode cX12_readUnit 148 = .ok (.invokevirtual 144, 3) := by decide +kernel
theorem d_X12_readUnit_151 : decode cX12_readUnit 151 = .ok (.aload_n 0, 1) := by decide +kernel
theorem d_X12_readUnit_152 : decode cX12_readUnit 152 = .ok (.iload_n 1, 1) := by decide +kernel
theorem d_X12_readUnit_153 : decode cX12_readUnit 153 = .ok (.invokevirtual 168, 3) := by decide +kernel
theorem d_X12_readUnit_156 : decode cX12_readUnit 156 = .ok (.aload_n 0, 1) := by decide +kernel
theorem d_X12_readUnit_157 : decode cX12_readUnit 157 = .ok (.iload_n 2, 1) := by decide +kernel
theorem d_X12_readUnit_158 : decode cX12_readUnit 158 = .ok (.invokevirtual 159, 3) := by decide +kernel
theorem d_X12_readUnit_161 : decode cX12_readUnit 161 = .ok (.return_, 1) := by decide +kernel
def F_X12_readUnit_b151 (f_X12_readUnit : Nat → Int32 → xH → Option (Unit × xH)) (f_X12_readTruth : Nat → Int32 → xH → Option (Unit × xH)) (x0 : Nat) (x1 : Int32) (x2 : Int32) (h : xH) : Option (Unit × xH) := (rc h x0 11).bind fun _ => (C_X12_readSum 100 x0 x1 h).bind fun z153 => (rc z153.2 x0 11).bind fun _ => (F_X12_codes x0 x2 z153.2).bind fun z158 => some ((), z158.2)
theorem R_X12_readUnit_b151 {Γ : xG} {l : Launch} {d : Nat} {Q : Option Value → xH → Prop} {r : Unit} {h' : xH} {f_X12_readUnit : Nat → Int32 → xH → Option (Unit × xH)} {f_X12_readTruth : Nat → Int32 → xH → Option (Unit × xH)} (K_X12_readUnit : ∀ (y0 : Nat) (y1 : Int32) (u : xH) (q : Unit) (u' : xH), f_X12_readUnit y0 y1 u = some (q, u') → Gm Γ l (d - 1) 0 0 m_X12_readUnit [.ref y0, .int y1] u (fun a w => a = none ∧ w = u')) (K_X12_readTruth : ∀ (y0 : Nat) (y1 : Int32) (u : xH) (q : Unit) (u' : xH), f_X12_readTruth y0 y1 u = some (q, u') → Gm Γ l (d - 1) 0 0 m_X12_readTruth [.ref y0, .int y1] u (fun a w => a = none ∧ w = u')) (hdp : 109 ≤ d) (hq : Q (none) h') : ∀ (x0 : Nat) (x1 : Int32) (x2 : Int32) (h : xH), F_X12_readUnit_b151 f_X12_readUnit f_X12_readTruth x0 x1 x2 h = some (r, h') → Gd Γ l d m_X12_readUnit 151 [.ref x0, .int x1, .int x2] [] h 0 0 Q := by
  intro x0 x1 x2 h hF
  unfold F_X12_readUnit_b151 at hF
  refine g_aloadn d_X12_readUnit_151 rfl ?_
  refine g_iloadn d_X12_readUnit_152 rfl ?_
  obtain ⟨_, g153, hF⟩ := Option.bind_eq_some_iff.mp hF
  obtain ⟨⟨r153, h153⟩, e153, hF⟩ := Option.bind_eq_some_iff.mp hF
  try dsimp only at hF
  refine q_callV [.int x1] [] rfl d_X12_readUnit_153 v_X12_168 (by omega) rfl (Nat.le_of_ble_eq_true rfl) (rc_rc g153 (by decide) rfl) (RC_X12_readSum 100 _ _ _ (by omega) e153) ?_
  refine g_aloadn d_X12_readUnit_156 rfl ?_
  refine g_iloadn d_X12_readUnit_157 rfl ?_
  obtain ⟨_, g158, hF⟩ := Option.bind_eq_some_iff.mp hF
  obtain ⟨⟨r158, h158⟩, e158, hF⟩ := Option.bind_eq_some_iff.mp hF
  try dsimp only at hF
  refine q_callV [.int x2] [] rfl d_X12_readUnit_158 v_X12_159 (by omega) rfl (Nat.le_of_ble_eq_true rfl) (rc_rc g158 (by decide) rfl) (R_X12_codes _ _ _ (by omega) e158) ?_
  obtain ⟨rfl, rfl⟩ := x_inj hF
  exact g_vret d_X12_readUnit_161 rfl hq
def F_X12_readUnit_b139 (f_X12_readUnit : Nat → Int32 → xH → Option (Unit × xH)) (f_X12_readTruth : Nat → Int32 → xH → Option (Unit × xH)) (x0 : Nat) (x1 : Int32) (x2 : Int32) (h : xH) : Option (Unit × xH) := (rc h x0 11).bind fun _ => (F_X12_next x0 h).bind fun z140 => F_X12_readUnit_b151 f_X12_readUnit f_X12_readTruth x0 x1 x2 z140.2
theorem R_X12_readUnit_b139 {Γ : xG} {l : Launch} {d : Nat} {Q : Option Value → xH → Prop} {r : Unit} {h' : xH} {f_X12_readUnit : Nat → Int32 → xH → Option (Unit × xH)} {f_X12_readTruth : Nat → Int32 → xH → Option (Unit × xH)} (K_X12_readUnit : ∀ (y0 : Nat) (y1 : Int32) (u : xH) (q : Unit) (u' : xH), f_X12_readUnit y0 y1 u = some (q, u') → Gm Γ l (d - 1) 0 0 m_X12_readUnit [.ref y0, .int y1] u (fun a w => a = none ∧ w = u')) (K_X12_readTruth : ∀ (y0 : Nat) (y1 : Int32) (u : xH) (q : Unit) (u' : xH), f_X12_readTruth y0 y1 u = some (q, u') → Gm Γ l (d - 1) 0 0 m_X12_readTruth [.ref y0, .int y1] u (fun a w => a = none ∧ w = u')) (hdp : 109 ≤ d) (hq : Q (none) h') : ∀ (x0 : Nat) (x1 : Int32) (x2 : Int32) (h : xH), F_X12_readUnit_b139 f_X12_readUnit f_X12_readTruth x0 x1 x2 h = some (r, h') → Gd Γ l d m_X12_readUnit 139 [.ref x0, .int x1, .int x2] [] h 0 0 Q := by
  intro x0 x1 x2 h hF
  unfold F_X12_readUnit_b139 at hF
  refine g_aloadn d_X12_readUnit_139 rfl ?_
  obtain ⟨_, g140, hF⟩ := Option.bind_eq_some_iff.mp hF
  obtain ⟨⟨r140, h140⟩, e140, hF⟩ := Option.bind_eq_some_iff.mp hF
  try dsimp only at hF
  refine q_callV [] [] rfl d_X12_readUnit_140 v_X12_141 (by omega) rfl (Nat.le_of_ble_eq_true rfl) (rc_rc g140 (by decide) rfl) (R_X12_next _ _ (by omega) e140) ?_
  refine g_goto 151 d_X12_readUnit_143 rfl ?_
  exact q_to (xs_r (xs_r (xs_r xs_n))) (R_X12_readUnit_b151 K_X12_readUnit K_X12_readTruth hdp hq _ _ _ _ hF)
def F_X12_readUnit_b111 (f_X12_readUnit : Nat → Int32 → xH → Option (Unit × xH)) (f_X12_readTruth : Nat → Int32 → xH → Option (Unit × xH)) (x0 : Nat) (x1 : Int32) (s0 : Int32) (h : xH) : Option (Unit × xH) := (rc h x0 11).bind fun _ => (F_X12_is x0 39 h).bind fun z115 => if ¬ z115.1 = 0 then F_X12_readUnit_b139 f_X12_readUnit f_X12_readTruth x0 x1 s0 z115.2 else (rc z115.2 x0 11).bind fun _ => (F_X12_is x0 40 z115.2).bind fun z124 => if ¬ z124.1 = 0 then F_X12_readUnit_b139 f_X12_readUnit f_X12_readTruth x0 x1 s0 z124.2 else (rc z124.2 x0 11).bind fun _ => (F_X12_is x0 41 z124.2).bind fun z133 => if z133.1 = 0 then (rc z133.2 x0 11).bind fun _ => (F_X12_fails x0 2 z133.2).bind fun z148 => F_X12_readUnit_b151 f_X12_readUnit f_X12_readTruth x0 x1 s0 z148.2 else F_X12_readUnit_b139 f_X12_readUnit f_X12_readTruth x0 x1 s0 z133.2
theorem R_X12_readUnit_b111 {Γ : xG} {l : Launch} {d : Nat} {Q : Option Value → xH → Prop} {r : Unit} {h' : xH} {f_X12_readUnit : Nat → Int32 → xH → Option (Unit × xH)} {f_X12_readTruth : Nat → Int32 → xH → Option (Unit × xH)} (K_X12_readUnit : ∀ (y0 : Nat) (y1 : Int32) (u : xH) (q : Unit) (u' : xH), f_X12_readUnit y0 y1 u = some (q, u') → Gm Γ l (d - 1) 0 0 m_X12_readUnit [.ref y0, .int y1] u (fun a w => a = none ∧ w = u')) (K_X12_readTruth : ∀ (y0 : Nat) (y1 : Int32) (u : xH) (q : Unit) (u' : xH), f_X12_readTruth y0 y1 u = some (q, u') → Gm Γ l (d - 1) 0 0 m_X12_readTruth [.ref y0, .int y1] u (fun a w => a = none ∧ w = u')) (hdp : 109 ≤ d) (hq : Q (none) h') : ∀ (x0 : Nat) (x1 : Int32) (s0 : Int32) (h : xH), F_X12_readUnit_b111 f_X12_readUnit f_X12_readTruth x0 x1 s0 h = some (r, h') → Gd Γ l d m_X12_readUnit 111 [.ref x0, .int x1, xhole] [.int s0] h 0 0 Q := by
  intro x0 x1 s0 h hF
  unfold F_X12_readUnit_b111 at hF
  refine q_istoren [.ref x0, .int x1, .int s0] d_X12_readUnit_111 (by decide) rfl ?_
  refine g_aloadn d_X12_readUnit_112 rfl ?_
  refine g_bi (39) d_X12_readUnit_113 bi_39 ?_
  obtain ⟨_, g115, hF⟩ := Option.bind_eq_some_iff.mp hF
  obtain ⟨⟨r115, h115⟩, e115, hF⟩ := Option.bind_eq_some_iff.mp hF
  try dsimp only at hF
  refine q_callV [.int 39] [] rfl d_X12_readUnit_115 v_X12_138 (by omega) rfl (Nat.le_of_ble_eq_true rfl) (rc_rc g115 (by decide) rfl) (R_X12_is _ _ _ (by omega) e115) ?_
  refine g_if_ne 139 d_X12_readUnit_118 rfl (fun c118 => ?_) (fun c118 => ?_)
  · have hF := x_t hF c118
    exact q_to (xs_r (xs_r (xs_r xs_n))) (R_X12_readUnit_b139 K_X12_readUnit K_X12_readTruth hdp hq _ _ _ _ hF)
  · have hF := x_f hF (not_not_intro c118)
    refine g_aloadn d_X12_readUnit_121 rfl ?_
    refine g_bi (40) d_X12_readUnit_122 bi_40 ?_
    obtain ⟨_, g124, hF⟩ := Option.bind_eq_some_iff.mp hF
    obtain ⟨⟨r124, h124⟩, e124, hF⟩ := Option.bind_eq_some_iff.mp hF
    try dsimp only at hF
    refine q_callV [.int 40] [] rfl d_X12_readUnit_124 v_X12_138 (by omega) rfl (Nat.le_of_ble_eq_true rfl) (rc_rc g124 (by decide) rfl) (R_X12_is _ _ _ (by omega) e124) ?_
    refine g_if_ne 139 d_X12_readUnit_127 rfl (fun c127 => ?_) (fun c127 => ?_)
    · have hF := x_t hF c127
      exact q_to (xs_r (xs_r (xs_r xs_n))) (R_X12_readUnit_b139 K_X12_readUnit K_X12_readTruth hdp hq _ _ _ _ hF)
    · have hF := x_f hF (not_not_intro c127)
      refine g_aloadn d_X12_readUnit_130 rfl ?_
      refine g_bi (41) d_X12_readUnit_131 bi_41 ?_
      obtain ⟨_, g133, hF⟩ := Option.bind_eq_some_iff.mp hF
      obtain ⟨⟨r133, h133⟩, e133, hF⟩ := Option.bind_eq_some_iff.mp hF
      try dsimp only at hF
      refine q_callV [.int 41] [] rfl d_X12_readUnit_133 v_X12_138 (by omega) rfl (Nat.le_of_ble_eq_true rfl) (rc_rc g133 (by decide) rfl) (R_X12_is _ _ _ (by omega) e133) ?_
      refine g_if_eq 146 d_X12_readUnit_136 rfl (fun c136 => ?_) (fun c136 => ?_)
      · have hF := x_t hF c136
        refine g_aloadn d_X12_readUnit_146 rfl ?_
        refine g_ic (2) d_X12_readUnit_147 ic_2 ?_
        obtain ⟨_, g148, hF⟩ := Option.bind_eq_some_iff.mp hF
        obtain ⟨⟨r148, h148⟩, e148, hF⟩ := Option.bind_eq_some_iff.mp hF
        try dsimp only at hF
        refine q_callV [.int 2] [] rfl d_X12_readUnit_148 v_X12_144 (by omega) rfl (Nat.le_of_ble_eq_true rfl) (rc_rc g148 (by decide) rfl) (R_X12_fails _ _ _ (by omega) e148) ?_
        exact q_to (xs_r (xs_r (xs_r xs_n))) (R_X12_readUnit_b151 K_X12_readUnit K_X12_readTruth hdp hq _ _ _ _ hF)
      · have hF := x_f hF c136
        exact q_to (xs_r (xs_r (xs_r xs_n))) (R_X12_readUnit_b139 K_X12_readUnit K_X12_readTruth hdp hq _ _ _ _ hF)
def F_X12_readUnit (f_X12_readUnit : Nat → Int32 → xH → Option (Unit × xH)) (f_X12_readTruth : Nat → Int32 → xH → Option (Unit × xH)) (x0 : Nat) (x1 : Int32) (h : xH) : Option (Unit × xH) := (rc h x0 11).bind fun _ => (F_X12_is x0 18 h).bind fun z3 => if z3.1 = 0 then (rc z3.2 x0 11).bind fun _ => (F_X12_is x0 37 z3.2).bind fun z36 => if z36.1 = 0 then (rc z36.2 x0 11).bind fun _ => (C_X12_readSum 100 x0 x1 z36.2).bind fun z75 => (rc z75.2 x0 11).bind fun _ => (F_X12_is x0 39 z75.2).bind fun z81 => if z81.1 = 0 then (rc z81.2 x0 11).bind fun _ => (F_X12_is x0 40 z81.2).bind fun z96 => if z96.1 = 0 then F_X12_readUnit_b111 f_X12_readUnit f_X12_readTruth x0 x1 3005 z96.2 else F_X12_readUnit_b111 f_X12_readUnit f_X12_readTruth x0 x1 3004 z96.2 else F_X12_readUnit_b111 f_X12_readUnit f_X12_readTruth x0 x1 3003 z81.2 else (rc z36.2 x0 11).bind fun _ => (F_X12_goesIn x0 x1 z36.2).bind fun z44 => if ¬ z44.1 = 0 then (rc z44.2 x0 11).bind fun _ => (f_X12_readTruth x0 (x1 + 1) z44.2).bind fun z55 => (rc z55.2 x0 11).bind fun _ => (F_X12_eats x0 38 z55.2).bind fun z61 => if ¬ z61.1 = 0 then some ((), z61.2) else (rc z61.2 x0 11).bind fun _ => (F_X12_fails x0 2 z61.2).bind fun z69 => some ((), z69.2) else some ((), z44.2) else (rc z3.2 x0 11).bind fun _ => (F_X12_goesIn x0 x1 z3.2).bind fun z11 => if ¬ z11.1 = 0 then (rc z11.2 x0 11).bind fun _ => (f_X12_readUnit x0 (x1 + 1) z11.2).bind fun z22 => (rc z22.2 x0 11).bind fun _ => (F_X12_codes x0 3006 z22.2).bind fun z29 => some ((), z29.2) else some ((), z11.2)
theorem R_X12_readUnit {Γ : xG} {l : Launch} {d : Nat} {r : Unit} {h' : xH} {f_X12_readUnit : Nat → Int32 → xH → Option (Unit × xH)} {f_X12_readTruth : Nat → Int32 → xH → Option (Unit × xH)} (K_X12_readUnit : ∀ (y0 : Nat) (y1 : Int32) (u : xH) (q : Unit) (u' : xH), f_X12_readUnit y0 y1 u = some (q, u') → Gm Γ l (d - 1) 0 0 m_X12_readUnit [.ref y0, .int y1] u (fun a w => a = none ∧ w = u')) (K_X12_readTruth : ∀ (y0 : Nat) (y1 : Int32) (u : xH) (q : Unit) (u' : xH), f_X12_readTruth y0 y1 u = some (q, u') → Gm Γ l (d - 1) 0 0 m_X12_readTruth [.ref y0, .int y1] u (fun a w => a = none ∧ w = u')) (x0 : Nat) (x1 : Int32) (h : xH) (hdp : 109 ≤ d) (hF : F_X12_readUnit f_X12_readUnit f_X12_readTruth x0 x1 h = some (r, h')) : Gm Γ l d 0 0 m_X12_readUnit [.ref x0, .int x1] h (fun a u => a = none ∧ u = h') := by
  refine Gm.of pn_X12 (Nat.le_of_ble_eq_true rfl) ?_
  show Gd Γ l d m_X12_readUnit 0 [.ref x0, .int x1, xhole] [] h 0 0 _
  generalize hQ : (fun (a : Option Value) (u : xH) => a = none ∧ u = h') = Q
  have hq : Q (none) h' := by rw [← hQ]; exact ⟨rfl, rfl⟩
  clear hQ
  unfold F_X12_readUnit at hF
  refine g_aloadn d_X12_readUnit_0 rfl ?_
  refine g_bi (18) d_X12_readUnit_1 bi_18 ?_
  obtain ⟨_, g3, hF⟩ := Option.bind_eq_some_iff.mp hF
  obtain ⟨⟨r3, h3⟩, e3, hF⟩ := Option.bind_eq_some_iff.mp hF
  try dsimp only at hF
  refine q_callV [.int 18] [] rfl d_X12_readUnit_3 v_X12_138 (by omega) rfl (Nat.le_of_ble_eq_true rfl) (rc_rc g3 (by decide) rfl) (R_X12_is _ _ _ (by omega) e3) ?_
  refine g_if_eq 33 d_X12_readUnit_6 rfl (fun c6 => ?_) (fun c6 => ?_)
  · have hF := x_t hF c6
    refine g_aloadn d_X12_readUnit_33 rfl ?_
    refine g_bi (37) d_X12_readUnit_34 bi_37 ?_
    obtain ⟨_, g36, hF⟩ := Option.bind_eq_some_iff.mp hF
    obtain ⟨⟨r36, h36⟩, e36, hF⟩ := Option.bind_eq_some_iff.mp hF
    try dsimp only at hF
    refine q_callV [.int 37] [] rfl d_X12_readUnit_36 v_X12_138 (by omega) rfl (Nat.le_of_ble_eq_true rfl) (rc_rc g36 (by decide) rfl) (R_X12_is _ _ _ (by omega) e36) ?_
    refine g_if_eq 73 d_X12_readUnit_39 rfl (fun c39 => ?_) (fun c39 => ?_)
    · have hF := x_t hF c39
      refine g_aloadn d_X12_readUnit_73 rfl ?_
      refine g_iloadn d_X12_readUnit_74 rfl ?_
      obtain ⟨_, g75, hF⟩ := Option.bind_eq_some_iff.mp hF
      obtain ⟨⟨r75, h75⟩, e75, hF⟩ := Option.bind_eq_some_iff.mp hF
      try dsimp only at hF
      refine q_callV [.int x1] [] rfl d_X12_readUnit_75 v_X12_168 (by omega) rfl (Nat.le_of_ble_eq_true rfl) (rc_rc g75 (by decide) rfl) (RC_X12_readSum 100 _ _ _ (by omega) e75) ?_
      refine g_aloadn d_X12_readUnit_78 rfl ?_
      refine g_bi (39) d_X12_readUnit_79 bi_39 ?_
      obtain ⟨_, g81, hF⟩ := Option.bind_eq_some_iff.mp hF
      obtain ⟨⟨r81, h81⟩, e81, hF⟩ := Option.bind_eq_some_iff.mp hF
      try dsimp only at hF
      refine q_callV [.int 39] [] rfl d_X12_readUnit_81 v_X12_138 (by omega) rfl (Nat.le_of_ble_eq_true rfl) (rc_rc g81 (by decide) rfl) (R_X12_is _ _ _ (by omega) e81) ?_
      refine g_if_eq 93 d_X12_readUnit_84 rfl (fun c84 => ?_) (fun c84 => ?_)
      · have hF := x_t hF c84
        refine g_aloadn d_X12_readUnit_93 rfl ?_
        refine g_bi (40) d_X12_readUnit_94 bi_40 ?_
        obtain ⟨_, g96, hF⟩ := Option.bind_eq_some_iff.mp hF
        obtain ⟨⟨r96, h96⟩, e96, hF⟩ := Option.bind_eq_some_iff.mp hF
        try dsimp only at hF
        refine q_callV [.int 40] [] rfl d_X12_readUnit_96 v_X12_138 (by omega) rfl (Nat.le_of_ble_eq_true rfl) (rc_rc g96 (by decide) rfl) (R_X12_is _ _ _ (by omega) e96) ?_
        refine g_if_eq 108 d_X12_readUnit_99 rfl (fun c99 => ?_) (fun c99 => ?_)
        · have hF := x_t hF c99
          refine g_si (3005) d_X12_readUnit_108 si_3005 ?_
          exact q_to (xs_r (xs_r (xs_h xs_n))) (R_X12_readUnit_b111 K_X12_readUnit K_X12_readTruth hdp hq _ _ _ _ hF)
        · have hF := x_f hF c99
          refine g_si (3004) d_X12_readUnit_102 si_3004 ?_
          refine g_goto 111 d_X12_readUnit_105 rfl ?_
          exact q_to (xs_r (xs_r (xs_h xs_n))) (R_X12_readUnit_b111 K_X12_readUnit K_X12_readTruth hdp hq _ _ _ _ hF)
      · have hF := x_f hF c84
        refine g_si (3003) d_X12_readUnit_87 si_3003 ?_
        refine g_goto 111 d_X12_readUnit_90 rfl ?_
        exact q_to (xs_r (xs_r (xs_h xs_n))) (R_X12_readUnit_b111 K_X12_readUnit K_X12_readTruth hdp hq _ _ _ _ hF)
    · have hF := x_f hF c39
      refine g_aloadn d_X12_readUnit_42 rfl ?_
      refine g_iloadn d_X12_readUnit_43 rfl ?_
      obtain ⟨_, g44, hF⟩ := Option.bind_eq_some_iff.mp hF
      obtain ⟨⟨r44, h44⟩, e44, hF⟩ := Option.bind_eq_some_iff.mp hF
      try dsimp only at hF
      refine q_callV [.int x1] [] rfl d_X12_readUnit_44 v_X12_165 (by omega) rfl (Nat.le_of_ble_eq_true rfl) (rc_rc g44 (by decide) rfl) (R_X12_goesIn _ _ _ (by omega) e44) ?_
      refine g_if_ne 51 d_X12_readUnit_47 rfl (fun c47 => ?_) (fun c47 => ?_)
      · have hF := x_t hF c47
        refine g_aloadn d_X12_readUnit_51 rfl ?_
        refine g_iloadn d_X12_readUnit_52 rfl ?_
        refine g_ic (1) d_X12_readUnit_53 ic_1 ?_
        refine g_iadd d_X12_readUnit_54 ?_
        obtain ⟨_, g55, hF⟩ := Option.bind_eq_some_iff.mp hF
        obtain ⟨⟨r55, h55⟩, e55, hF⟩ := Option.bind_eq_some_iff.mp hF
        try dsimp only at hF
        refine q_callV [.int (x1 + 1)] [] rfl d_X12_readUnit_55 v_X12_183 (by omega) rfl (Nat.le_of_ble_eq_true rfl) (rc_rc g55 (by decide) rfl) (K_X12_readTruth _ _ _ _ _ e55) ?_
        refine g_aloadn d_X12_readUnit_58 rfl ?_
        refine g_bi (38) d_X12_readUnit_59 bi_38 ?_
        obtain ⟨_, g61, hF⟩ := Option.bind_eq_some_iff.mp hF
        obtain ⟨⟨r61, h61⟩, e61, hF⟩ := Option.bind_eq_some_iff.mp hF
        try dsimp only at hF
        refine q_callV [.int 38] [] rfl d_X12_readUnit_61 v_X12_171 (by omega) rfl (Nat.le_of_ble_eq_true rfl) (rc_rc g61 (by decide) rfl) (R_X12_eats _ _ _ (by omega) e61) ?_
        refine g_if_ne 72 d_X12_readUnit_64 rfl (fun c64 => ?_) (fun c64 => ?_)
        · have hF := x_t hF c64
          obtain ⟨rfl, rfl⟩ := x_inj hF
          exact g_vret d_X12_readUnit_72 rfl hq
        · have hF := x_f hF (not_not_intro c64)
          refine g_aloadn d_X12_readUnit_67 rfl ?_
          refine g_ic (2) d_X12_readUnit_68 ic_2 ?_
          obtain ⟨_, g69, hF⟩ := Option.bind_eq_some_iff.mp hF
          obtain ⟨⟨r69, h69⟩, e69, hF⟩ := Option.bind_eq_some_iff.mp hF
          try dsimp only at hF
          refine q_callV [.int 2] [] rfl d_X12_readUnit_69 v_X12_144 (by omega) rfl (Nat.le_of_ble_eq_true rfl) (rc_rc g69 (by decide) rfl) (R_X12_fails _ _ _ (by omega) e69) ?_
          obtain ⟨rfl, rfl⟩ := x_inj hF
          exact g_vret d_X12_readUnit_72 rfl hq
      · have hF := x_f hF (not_not_intro c47)
        obtain ⟨rfl, rfl⟩ := x_inj hF
        exact g_vret d_X12_readUnit_50 rfl hq
  · have hF := x_f hF c6
    refine g_aloadn d_X12_readUnit_9 rfl ?_
    refine g_iloadn d_X12_readUnit_10 rfl ?_
    obtain ⟨_, g11, hF⟩ := Option.bind_eq_some_iff.mp hF
    obtain ⟨⟨r11, h11⟩, e11, hF⟩ := Option.bind_eq_some_iff.mp hF
    try dsimp only at hF
    refine q_callV [.int x1] [] rfl d_X12_readUnit_11 v_X12_165 (by omega) rfl (Nat.le_of_ble_eq_true rfl) (rc_rc g11 (by decide) rfl) (R_X12_goesIn _ _ _ (by omega) e11) ?_
    refine g_if_ne 18 d_X12_readUnit_14 rfl (fun c14 => ?_) (fun c14 => ?_)
    · have hF := x_t hF c14
      refine g_aloadn d_X12_readUnit_18 rfl ?_
      refine g_iloadn d_X12_readUnit_19 rfl ?_
      refine g_ic (1) d_X12_readUnit_20 ic_1 ?_
      refine g_iadd d_X12_readUnit_21 ?_
      obtain ⟨_, g22, hF⟩ := Option.bind_eq_some_iff.mp hF
      obtain ⟨⟨r22, h22⟩, e22, hF⟩ := Option.bind_eq_some_iff.mp hF
      try dsimp only at hF
      refine q_callV [.int (x1 + 1)] [] rfl d_X12_readUnit_22 v_X12_180 (by omega) rfl (Nat.le_of_ble_eq_true rfl) (rc_rc g22 (by decide) rfl) (K_X12_readUnit _ _ _ _ _ e22) ?_
      refine g_aloadn d_X12_readUnit_25 rfl ?_
      refine g_si (3006) d_X12_readUnit_26 si_3006 ?_
      obtain ⟨_, g29, hF⟩ := Option.bind_eq_some_iff.mp hF
      obtain ⟨⟨r29, h29⟩, e29, hF⟩ := Option.bind_eq_some_iff.mp hF
      try dsimp only at hF
      refine q_callV [.int 3006] [] rfl d_X12_readUnit_29 v_X12_159 (by omega) rfl (Nat.le_of_ble_eq_true rfl) (rc_rc g29 (by decide) rfl) (R_X12_codes _ _ _ (by omega) e29) ?_
      obtain ⟨rfl, rfl⟩ := x_inj hF
      exact g_vret d_X12_readUnit_32 rfl hq
    · have hF := x_f hF (not_not_intro c14)
      obtain ⟨rfl, rfl⟩ := x_inj hF
      exact g_vret d_X12_readUnit_17 rfl hq
theorem d_X12_readBoth_0 : decode cX12_readBoth 0 = .ok (.aload_n 0, 1) := by decide +kernel
theorem d_X12_readBoth_1 : decode cX12_readBoth 1 = .ok (.iload_n 1, 1) := by decide +kernel
theorem d_X12_readBoth_2 : decode cX12_readBoth 2 = .ok (.invokevirtual 180, 3) := by decide +kernel
theorem d_X12_readBoth_5 : decode cX12_readBoth 5 = .ok (.aload_n 0, 1) := by decide +kernel
theorem d_X12_readBoth_6 : decode cX12_readBoth 6 = .ok (.bipush 16, 2) := by decide +kernel
theorem d_X12_readBoth_8 : decode cX12_readBoth 8 = .ok (.invokevirtual 171, 3) := by decide +kernel
theorem d_X12_readBoth_11 : decode cX12_readBoth 11 = .ok (.ifCond .eq 18, 3) := by decide +kernel
theorem d_X12_readBoth_14 : decode cX12_readBoth 14 = .ok (.aload_n 0, 1) := by decide +kernel
theorem d_X12_readBoth_15 : decode cX12_readBoth 15 = .ok (.iload_n 1, 1) := by decide +kernel
theorem d_X12_readBoth_16 : decode cX12_readBoth 16 = .ok (.invokevirtual 180, 3) := by decide +kernel
theorem d_X12_readBoth_19 : decode cX12_readBoth 19 = .ok (.aload_n 0, 1) := by decide +kernel
theorem d_X12_readBoth_20 : decode cX12_readBoth 20 = .ok (.sipush 3007, 3) := by decide +kernel
theorem d_X12_readBoth_23 : decode cX12_readBoth 23 = .ok (.invokevirtual 159, 3) := by decide +kernel
theorem d_X12_readBoth_26 : decode cX12_readBoth 26 = .ok (.goto (-21), 3) := by decide +kernel
theorem d_X12_readBoth_29 : decode cX12_readBoth 29 = .ok (.return_, 1) := by decide +kernel
def F_X12_readBoth_b5 (f_X12_readUnit : Nat → Int32 → xH → Option (Unit × xH)) : Nat → Nat → Int32 → xH → Option (Unit × xH)
  | 0, _, _, _ => none
  | n + 1, x0, x1, h => (rc h x0 11).bind fun _ => (F_X12_eats x0 16 h).bind fun z8 => if z8.1 = 0 then some ((), z8.2) else (rc z8.2 x0 11).bind fun _ => (f_X12_readUnit x0 x1 z8.2).bind fun z16 => (rc z16.2 x0 11).bind fun _ => (F_X12_codes x0 3007 z16.2).bind fun z23 => F_X12_readBoth_b5 f_X12_readUnit n x0 x1 z23.2
theorem R_X12_readBoth_b5 {Γ : xG} {l : Launch} {d : Nat} {Q : Option Value → xH → Prop} {r : Unit} {h' : xH} {f_X12_readUnit : Nat → Int32 → xH → Option (Unit × xH)} (K_X12_readUnit : ∀ (y0 : Nat) (y1 : Int32) (u : xH) (q : Unit) (u' : xH), f_X12_readUnit y0 y1 u = some (q, u') → Gm Γ l (d - 1) 0 0 m_X12_readUnit [.ref y0, .int y1] u (fun a w => a = none ∧ w = u')) (hdp : 8 ≤ d) (hq : Q (none) h') : ∀ (n : Nat) (x0 : Nat) (x1 : Int32) (h : xH), F_X12_readBoth_b5 f_X12_readUnit n x0 x1 h = some (r, h') → Gd Γ l d m_X12_readBoth 5 [.ref x0, .int x1] [] h 0 0 Q := by
  intro n
  induction n with
  | zero => intro x0 x1 h hF; cases hF
  | succ n ih =>
  intro x0 x1 h hF
  rw [F_X12_readBoth_b5] at hF
  refine g_aloadn d_X12_readBoth_5 rfl ?_
  refine g_bi (16) d_X12_readBoth_6 bi_16 ?_
  obtain ⟨_, g8, hF⟩ := Option.bind_eq_some_iff.mp hF
  obtain ⟨⟨r8, h8⟩, e8, hF⟩ := Option.bind_eq_some_iff.mp hF
  try dsimp only at hF
  refine q_callV [.int 16] [] rfl d_X12_readBoth_8 v_X12_171 (by omega) rfl (Nat.le_of_ble_eq_true rfl) (rc_rc g8 (by decide) rfl) (R_X12_eats _ _ _ (by omega) e8) ?_
  refine g_if_eq 29 d_X12_readBoth_11 rfl (fun c11 => ?_) (fun c11 => ?_)
  · have hF := x_t hF c11
    obtain ⟨rfl, rfl⟩ := x_inj hF
    exact g_vret d_X12_readBoth_29 rfl hq
  · have hF := x_f hF c11
    refine g_aloadn d_X12_readBoth_14 rfl ?_
    refine g_iloadn d_X12_readBoth_15 rfl ?_
    obtain ⟨_, g16, hF⟩ := Option.bind_eq_some_iff.mp hF
    obtain ⟨⟨r16, h16⟩, e16, hF⟩ := Option.bind_eq_some_iff.mp hF
    try dsimp only at hF
    refine q_callV [.int x1] [] rfl d_X12_readBoth_16 v_X12_180 (by omega) rfl (Nat.le_of_ble_eq_true rfl) (rc_rc g16 (by decide) rfl) (K_X12_readUnit _ _ _ _ _ e16) ?_
    refine g_aloadn d_X12_readBoth_19 rfl ?_
    refine g_si (3007) d_X12_readBoth_20 si_3007 ?_
    obtain ⟨_, g23, hF⟩ := Option.bind_eq_some_iff.mp hF
    obtain ⟨⟨r23, h23⟩, e23, hF⟩ := Option.bind_eq_some_iff.mp hF
    try dsimp only at hF
    refine q_callV [.int 3007] [] rfl d_X12_readBoth_23 v_X12_159 (by omega) rfl (Nat.le_of_ble_eq_true rfl) (rc_rc g23 (by decide) rfl) (R_X12_codes _ _ _ (by omega) e23) ?_
    refine g_goto 5 d_X12_readBoth_26 rfl ?_
    exact q_to (xs_r (xs_r xs_n)) (ih _ _ _ hF)
def F_X12_readBoth (f_X12_readUnit : Nat → Int32 → xH → Option (Unit × xH)) (x0 : Nat) (x1 : Int32) (h : xH) : Option (Unit × xH) := (rc h x0 11).bind fun _ => (f_X12_readUnit x0 x1 h).bind fun z2 => F_X12_readBoth_b5 f_X12_readUnit FU x0 x1 z2.2
theorem R_X12_readBoth {Γ : xG} {l : Launch} {d : Nat} {r : Unit} {h' : xH} {f_X12_readUnit : Nat → Int32 → xH → Option (Unit × xH)} (K_X12_readUnit : ∀ (y0 : Nat) (y1 : Int32) (u : xH) (q : Unit) (u' : xH), f_X12_readUnit y0 y1 u = some (q, u') → Gm Γ l (d - 1) 0 0 m_X12_readUnit [.ref y0, .int y1] u (fun a w => a = none ∧ w = u')) (x0 : Nat) (x1 : Int32) (h : xH) (hdp : 8 ≤ d) (hF : F_X12_readBoth f_X12_readUnit x0 x1 h = some (r, h')) : Gm Γ l d 0 0 m_X12_readBoth [.ref x0, .int x1] h (fun a u => a = none ∧ u = h') := by
  refine Gm.of pn_X12 (Nat.le_of_ble_eq_true rfl) ?_
  show Gd Γ l d m_X12_readBoth 0 [.ref x0, .int x1] [] h 0 0 _
  generalize hQ : (fun (a : Option Value) (u : xH) => a = none ∧ u = h') = Q
  have hq : Q (none) h' := by rw [← hQ]; exact ⟨rfl, rfl⟩
  clear hQ
  unfold F_X12_readBoth at hF
  refine g_aloadn d_X12_readBoth_0 rfl ?_
  refine g_iloadn d_X12_readBoth_1 rfl ?_
  obtain ⟨_, g2, hF⟩ := Option.bind_eq_some_iff.mp hF
  obtain ⟨⟨r2, h2⟩, e2, hF⟩ := Option.bind_eq_some_iff.mp hF
  try dsimp only at hF
  refine q_callV [.int x1] [] rfl d_X12_readBoth_2 v_X12_180 (by omega) rfl (Nat.le_of_ble_eq_true rfl) (rc_rc g2 (by decide) rfl) (K_X12_readUnit _ _ _ _ _ e2) ?_
  exact q_to (xs_r (xs_r xs_n)) (R_X12_readBoth_b5 K_X12_readUnit hdp hq FU _ _ _ hF)
theorem d_X12_readTruth_0 : decode cX12_readTruth 0 = .ok (.aload_n 0, 1) := by decide +kernel
theorem d_X12_readTruth_1 : decode cX12_readTruth 1 = .ok (.iload_n 1, 1) := by decide +kernel
theorem d_X12_readTruth_2 : decode cX12_readTruth 2 = .ok (.invokevirtual 186, 3) := by decide +kernel
theorem d_X12_readTruth_5 : decode cX12_readTruth 5 = .ok (.aload_n 0, 1) := by decide +kernel
theorem d_X12_readTruth_6 : decode cX12_readTruth 6 = .ok (.bipush 17, 2) := by decide +kernel
theorem d_X12_readTruth_8 : decode cX12_readTruth 8 = .ok (.invokevirtual 171, 3) := by decide +kernel
theorem d_X12_readTruth_11 : decode cX12_readTruth 11 = .ok (.ifCond .eq 18, 3) := by decide +kernel
theorem d_X12_readTruth_14 : decode cX12_readTruth 14 = .ok (.aload_n 0, 1) := by decide +kernel
theorem d_X12_readTruth_15 : decode cX12_readTruth 15 = .ok (.iload_n 1, 1) := by decide +kernel
theorem d_X12_readTruth_16 : decode cX12_readTruth 16 = .ok (.invokevirtual 186, 3) := by decide +kernel
theorem d_X12_readTruth_19 : decode cX12_readTruth 19 = .ok (.aload_n 0, 1) := by decide +kernel
theorem d_X12_readTruth_20 : decode cX12_readTruth 20 = .ok (.sipush 3008, 3) := by decide +kernel
theorem d_X12_readTruth_23 : decode cX12_readTruth 23 = .ok (.invokevirtual 159, 3) := by decide +kernel
theorem d_X12_readTruth_26 : decode cX12_readTruth 26 = .ok (.goto (-21), 3) := by decide +kernel
theorem d_X12_readTruth_29 : decode cX12_readTruth 29 = .ok (.return_, 1) := by decide +kernel
def F_X12_readTruth_b5 (f_X12_readBoth : Nat → Int32 → xH → Option (Unit × xH)) : Nat → Nat → Int32 → xH → Option (Unit × xH)
  | 0, _, _, _ => none
  | n + 1, x0, x1, h => (rc h x0 11).bind fun _ => (F_X12_eats x0 17 h).bind fun z8 => if z8.1 = 0 then some ((), z8.2) else (rc z8.2 x0 11).bind fun _ => (f_X12_readBoth x0 x1 z8.2).bind fun z16 => (rc z16.2 x0 11).bind fun _ => (F_X12_codes x0 3008 z16.2).bind fun z23 => F_X12_readTruth_b5 f_X12_readBoth n x0 x1 z23.2
theorem R_X12_readTruth_b5 {Γ : xG} {l : Launch} {d : Nat} {Q : Option Value → xH → Prop} {r : Unit} {h' : xH} {f_X12_readBoth : Nat → Int32 → xH → Option (Unit × xH)} (K_X12_readBoth : ∀ (y0 : Nat) (y1 : Int32) (u : xH) (q : Unit) (u' : xH), f_X12_readBoth y0 y1 u = some (q, u') → Gm Γ l (d - 1) 0 0 m_X12_readBoth [.ref y0, .int y1] u (fun a w => a = none ∧ w = u')) (hdp : 8 ≤ d) (hq : Q (none) h') : ∀ (n : Nat) (x0 : Nat) (x1 : Int32) (h : xH), F_X12_readTruth_b5 f_X12_readBoth n x0 x1 h = some (r, h') → Gd Γ l d m_X12_readTruth 5 [.ref x0, .int x1] [] h 0 0 Q := by
  intro n
  induction n with
  | zero => intro x0 x1 h hF; cases hF
  | succ n ih =>
  intro x0 x1 h hF
  rw [F_X12_readTruth_b5] at hF
  refine g_aloadn d_X12_readTruth_5 rfl ?_
  refine g_bi (17) d_X12_readTruth_6 bi_17 ?_
  obtain ⟨_, g8, hF⟩ := Option.bind_eq_some_iff.mp hF
  obtain ⟨⟨r8, h8⟩, e8, hF⟩ := Option.bind_eq_some_iff.mp hF
  try dsimp only at hF
  refine q_callV [.int 17] [] rfl d_X12_readTruth_8 v_X12_171 (by omega) rfl (Nat.le_of_ble_eq_true rfl) (rc_rc g8 (by decide) rfl) (R_X12_eats _ _ _ (by omega) e8) ?_
  refine g_if_eq 29 d_X12_readTruth_11 rfl (fun c11 => ?_) (fun c11 => ?_)
  · have hF := x_t hF c11
    obtain ⟨rfl, rfl⟩ := x_inj hF
    exact g_vret d_X12_readTruth_29 rfl hq
  · have hF := x_f hF c11
    refine g_aloadn d_X12_readTruth_14 rfl ?_
    refine g_iloadn d_X12_readTruth_15 rfl ?_
    obtain ⟨_, g16, hF⟩ := Option.bind_eq_some_iff.mp hF
    obtain ⟨⟨r16, h16⟩, e16, hF⟩ := Option.bind_eq_some_iff.mp hF
    try dsimp only at hF
    refine q_callV [.int x1] [] rfl d_X12_readTruth_16 v_X12_186 (by omega) rfl (Nat.le_of_ble_eq_true rfl) (rc_rc g16 (by decide) rfl) (K_X12_readBoth _ _ _ _ _ e16) ?_
    refine g_aloadn d_X12_readTruth_19 rfl ?_
    refine g_si (3008) d_X12_readTruth_20 si_3008 ?_
    obtain ⟨_, g23, hF⟩ := Option.bind_eq_some_iff.mp hF
    obtain ⟨⟨r23, h23⟩, e23, hF⟩ := Option.bind_eq_some_iff.mp hF
    try dsimp only at hF
    refine q_callV [.int 3008] [] rfl d_X12_readTruth_23 v_X12_159 (by omega) rfl (Nat.le_of_ble_eq_true rfl) (rc_rc g23 (by decide) rfl) (R_X12_codes _ _ _ (by omega) e23) ?_
    refine g_goto 5 d_X12_readTruth_26 rfl ?_
    exact q_to (xs_r (xs_r xs_n)) (ih _ _ _ hF)
def F_X12_readTruth (f_X12_readBoth : Nat → Int32 → xH → Option (Unit × xH)) (x0 : Nat) (x1 : Int32) (h : xH) : Option (Unit × xH) := (rc h x0 11).bind fun _ => (f_X12_readBoth x0 x1 h).bind fun z2 => F_X12_readTruth_b5 f_X12_readBoth FU x0 x1 z2.2
theorem R_X12_readTruth {Γ : xG} {l : Launch} {d : Nat} {r : Unit} {h' : xH} {f_X12_readBoth : Nat → Int32 → xH → Option (Unit × xH)} (K_X12_readBoth : ∀ (y0 : Nat) (y1 : Int32) (u : xH) (q : Unit) (u' : xH), f_X12_readBoth y0 y1 u = some (q, u') → Gm Γ l (d - 1) 0 0 m_X12_readBoth [.ref y0, .int y1] u (fun a w => a = none ∧ w = u')) (x0 : Nat) (x1 : Int32) (h : xH) (hdp : 8 ≤ d) (hF : F_X12_readTruth f_X12_readBoth x0 x1 h = some (r, h')) : Gm Γ l d 0 0 m_X12_readTruth [.ref x0, .int x1] h (fun a u => a = none ∧ u = h') := by
  refine Gm.of pn_X12 (Nat.le_of_ble_eq_true rfl) ?_
  show Gd Γ l d m_X12_readTruth 0 [.ref x0, .int x1] [] h 0 0 _
  generalize hQ : (fun (a : Option Value) (u : xH) => a = none ∧ u = h') = Q
  have hq : Q (none) h' := by rw [← hQ]; exact ⟨rfl, rfl⟩
  clear hQ
  unfold F_X12_readTruth at hF
  refine g_aloadn d_X12_readTruth_0 rfl ?_
  refine g_iloadn d_X12_readTruth_1 rfl ?_
  obtain ⟨_, g2, hF⟩ := Option.bind_eq_some_iff.mp hF
  obtain ⟨⟨r2, h2⟩, e2, hF⟩ := Option.bind_eq_some_iff.mp hF
  try dsimp only at hF
  refine q_callV [.int x1] [] rfl d_X12_readTruth_2 v_X12_186 (by omega) rfl (Nat.le_of_ble_eq_true rfl) (rc_rc g2 (by decide) rfl) (K_X12_readBoth _ _ _ _ _ e2) ?_
  exact q_to (xs_r (xs_r xs_n)) (R_X12_readTruth_b5 K_X12_readBoth hdp hq FU _ _ _ hF)
def G_X12_readUnit : Nat → (Nat → Int32 → xH → Option (Unit × xH)) × (Nat → Int32 → xH → Option (Unit × xH)) × (Nat → Int32 → xH → Option (Unit × xH))
  | 0 => ((fun _ _ _ => none), (fun _ _ _ => none), (fun _ _ _ => none))
  | n + 1 => ((F_X12_readUnit (G_X12_readUnit n).1 (G_X12_readUnit n).2.2), (F_X12_readBoth (G_X12_readUnit n).1), (F_X12_readTruth (G_X12_readUnit n).2.1))
def C_X12_readUnit (n : Nat) : Nat → Int32 → xH → Option (Unit × xH) := (G_X12_readUnit n).1
def C_X12_readBoth (n : Nat) : Nat → Int32 → xH → Option (Unit × xH) := (G_X12_readUnit n).2.1
def C_X12_readTruth (n : Nat) : Nat → Int32 → xH → Option (Unit × xH) := (G_X12_readUnit n).2.2
theorem RG_X12_readUnit {Γ : xG} {l : Launch} : ∀ (n d : Nat), 109 + n ≤ d → (∀ (y0 : Nat) (y1 : Int32) (u : xH) (q : Unit) (u' : xH), (G_X12_readUnit n).1 y0 y1 u = some (q, u') → Gm Γ l d 0 0 m_X12_readUnit [.ref y0, .int y1] u (fun a w => a = none ∧ w = u')) ∧ (∀ (y0 : Nat) (y1 : Int32) (u : xH) (q : Unit) (u' : xH), (G_X12_readUnit n).2.1 y0 y1 u = some (q, u') → Gm Γ l d 0 0 m_X12_readBoth [.ref y0, .int y1] u (fun a w => a = none ∧ w = u')) ∧ (∀ (y0 : Nat) (y1 : Int32) (u : xH) (q : Unit) (u' : xH), (G_X12_readUnit n).2.2 y0 y1 u = some (q, u') → Gm Γ l d 0 0 m_X12_readTruth [.ref y0, .int y1] u (fun a w => a = none ∧ w = u')) := by
  intro n
  induction n with
  | zero => intro d hd; exact ⟨(fun _ _ _ _ _ hF => by cases (show (none : Option (Unit × xH)) = some _ from hF)), (fun _ _ _ _ _ hF => by cases (show (none : Option (Unit × xH)) = some _ from hF)), (fun _ _ _ _ _ hF => by cases (show (none : Option (Unit × xH)) = some _ from hF))⟩
  | succ n ih =>
  intro d hd
  have H := ih (d - 1) (by omega)
  exact ⟨(fun y0 y1 u q u' hF => R_X12_readUnit (H.1) (H.2.2) y0 y1 u (by omega) hF), (fun y0 y1 u q u' hF => R_X12_readBoth (H.1) y0 y1 u (by omega) hF), (fun y0 y1 u q u' hF => R_X12_readTruth (H.2.1) y0 y1 u (by omega) hF)⟩
theorem RC_X12_readUnit {Γ : xG} {l : Launch} {d : Nat} {q : Unit} {u' : xH} (n : Nat) (y0 : Nat) (y1 : Int32) (u : xH) (hd : 109 + n ≤ d) (hF : C_X12_readUnit n y0 y1 u = some (q, u')) : Gm Γ l d 0 0 m_X12_readUnit [.ref y0, .int y1] u (fun a w => a = none ∧ w = u') := (RG_X12_readUnit n d hd).1 y0 y1 u q u' hF
theorem RC_X12_readBoth {Γ : xG} {l : Launch} {d : Nat} {q : Unit} {u' : xH} (n : Nat) (y0 : Nat) (y1 : Int32) (u : xH) (hd : 109 + n ≤ d) (hF : C_X12_readBoth n y0 y1 u = some (q, u')) : Gm Γ l d 0 0 m_X12_readBoth [.ref y0, .int y1] u (fun a w => a = none ∧ w = u') := (RG_X12_readUnit n d hd).2.1 y0 y1 u q u' hF
theorem RC_X12_readTruth {Γ : xG} {l : Launch} {d : Nat} {q : Unit} {u' : xH} (n : Nat) (y0 : Nat) (y1 : Int32) (u : xH) (hd : 109 + n ≤ d) (hF : C_X12_readTruth n y0 y1 u = some (q, u')) : Gm Γ l d 0 0 m_X12_readTruth [.ref y0, .int y1] u (fun a w => a = none ∧ w = u') := (RG_X12_readUnit n d hd).2.2 y0 y1 u q u' hF
theorem d_X12_readTune_0 : decode cX12_readTune 0 = .ok (.aload_n 0, 1) := by decide +kernel
theorem d_X12_readTune_1 : decode cX12_readTune 1 = .ok (.getfield 24, 3) := by decide +kernel
theorem d_X12_readTune_4 : decode cX12_readTune 4 = .ok (.iconst 2, 1) := by decide +kernel
theorem d_X12_readTune_5 : decode cX12_readTune 5 = .ok (.iaload, 1) := by decide +kernel
theorem d_X12_readTune_6 : decode cX12_readTune 6 = .ok (.istore_n 1, 1) := by decide +kernel
theorem d_X12_readTune_7 : decode cX12_readTune 7 = .ok (.iload_n 1, 1) := by decide +kernel
theorem d_X12_readTune_8 : decode cX12_readTune 8 = .ok (.bipush 6, 2) := by decide +kernel
theorem d_X12_readTune_10 : decode cX12_readTune 10 = .ok (.if_icmp .ne 8, 3) := by decide +kernel
theorem d_X12_readTune_13 : decode cX12_readTune 13 = .ok (.aload_n 0, 1) := by decide +kernel
theorem d_X12_readTune_14 : decode cX12_readTune 14 = .ok (.iconst 4, 1) := by decide +kernel
theorem d_X12_readTune_15 : decode cX12_readTune 15 = .ok (.invokevirtual 144, 3) := by decide +kernel
theorem d_X12_readTune_18 : decode cX12_readTune 18 = .ok (.aload_n 0, 1) := by decide +kernel
theorem d_X12_readTune_19 : decode cX12_readTune 19 = .ok (.getfield 132, 3) := by decide +kernel
theorem d_X12_readTune_22 : decode cX12_readTune 22 = .ok (.ifCond .eq 4, 3) := by decide +kernel
theorem d_X12_readTune_25 : decode cX12_readTune 25 = .ok (.return_, 1) := by decide +kernel
theorem d_X12_readTune_26 : decode cX12_readTune 26 = .ok (.aload_n 0, 1) := by decide +kernel
theorem d_X12_readTune_27 : decode cX12_readTune 27 = .ok (.invokevirtual 141, 3) := by decide +kernel
theorem d_X12_readTune_30 : decode cX12_readTune 30 = .ok (.iconst 0, 1) := by decide +kernel
theorem d_X12_readTune_31 : decode cX12_readTune 31 = .ok (.istore_n 2, 1) := by decide +kernel
theorem d_X12_readTune_32 : decode cX12_readTune 32 = .ok (.aload_n 0, 1) := by decide +kernel
theorem d_X12_readTune_33 : decode cX12_readTune 33 = .ok (.getfield 132, 3) := by decide +kernel
theorem d_X12_readTune_36 : decode cX12_readTune 36 = .ok (.ifCond .ne 55, 3) := by decide +kernel
theorem d_X12_readTune_39 : decode cX12_readTune 39 = .ok (.iload_n 2, 1) := by decide +kernel
theorem d_X12_readTune_40 : decode cX12_readTune 40 = .ok (.bipush 9, 2) := by decide +kernel
theorem d_X12_readTune_42 : decode cX12_readTune 42 = .ok (.if_icmp .ge 49, 3) := by decide +kernel
theorem d_X12_readTune_45 : decode cX12_readTune 45 = .ok (.iload_n 2, 1) := by decide +kernel
theorem d_X12_readTune_46 : decode cX12_readTune 46 = .ok (.ifCond .eq 12, 3) := by decide +kernel
theorem d_X12_readTune_49 : decode cX12_readTune 49 = .ok (.aload_n 0, 1) := by decide +kernel
theorem d_X12_readTune_50 : decode cX12_readTune 50 = .ok (.bipush 23, 2) := by decide +kernel
theorem d_X12_readTune_52 : decode cX12_readTune 52 = .ok (.invokevirtual 138, 3) := by decide +kernel
theorem d_X12_readTune_55 : decode cX12_readTune 55 = .ok (.ifCond .eq 36, 3) := by decide +kernel
theorem d_X12_readTune_58 : decode cX12_readTune 58 = .ok (.aload_n 0, 1) := by decide +kernel
theorem d_X12_readTune_59 : decode cX12_readTune 59 = .ok (.getfield 24, 3) := by decide +kernel
theorem d_X12_readTune_62 : decode cX12_readTune 62 = .ok (.bipush 17, 2) := by decide +kernel
theorem d_X12_readTune_64 : decode cX12_readTune 64 = .ok (.bipush 9, 2) := by decide +kernel
theorem d_X12_readTune_66 : decode cX12_readTune 66 = .ok (.iload_n 1, 1) := by decide +kernel
theorem d_X12_readTune_67 : decode cX12_readTune 67 = .ok (.imul, 1) := by decide +kernel
theorem d_X12_readTune_68 : decode cX12_readTune 68 = .ok (.iadd, 1) := by decide +kernel
theorem d_X12_readTune_69 : decode cX12_readTune 69 = .ok (.iload_n 2, 1) := by decide +kernel
theorem d_X12_readTune_70 : decode cX12_readTune 70 = .ok (.iadd, 1) := by decide +kernel
theorem d_X12_readTune_71 : decode cX12_readTune 71 = .ok (.aload_n 0, 1) := by decide +kernel
theorem d_X12_readTune_72 : decode cX12_readTune 72 = .ok (.iconst 0, 1) := by decide +kernel
theorem d_X12_readTune_73 : decode cX12_readTune 73 = .ok (.aload_n 0, 1) := by decide +kernel
theorem d_X12_readTune_74 : decode cX12_readTune 74 = .ok (.getfield 24, 3) := by decide +kernel
theorem d_X12_readTune_77 : decode cX12_readTune 77 = .ok (.iconst 1, 1) := by decide +kernel
theorem d_X12_readTune_78 : decode cX12_readTune 78 = .ok (.iaload, 1) := by decide +kernel
theorem d_X12_readTune_79 : decode cX12_readTune 79 = .ok (.iconst 1, 1) := by decide +kernel
theorem d_X12_readTune_80 : decode cX12_readTune 80 = .ok (.isub, 1) := by decide +kernel
theorem d_X12_readTune_81 : decode cX12_readTune 81 = .ok (.invokevirtual 189, 3) := by decide +kernel
theorem d_X12_readTune_84 : decode cX12_readTune 84 = .ok (.iastore, 1) := by decide +kernel
theorem d_X12_readTune_85 : decode cX12_readTune 85 = .ok (.iinc 2 1, 3) := by decide +kernel
theorem d_X12_readTune_88 : decode cX12_readTune 88 = .ok (.goto (-56), 3) := by decide +kernel
theorem d_X12_readTune_91 : decode cX12_readTune 91 = .ok (.aload_n 0, 1) := by decide +kernel
theorem d_X12_readTune_92 : decode cX12_readTune 92 = .ok (.getfield 132, 3) := by decide +kernel
theorem d_X12_readTune_95 : decode cX12_readTune 95 = .ok (.ifCond .eq 4, 3) := by decide +kernel
theorem d_X12_readTune_98 : decode cX12_readTune 98 = .ok (.return_, 1) := by decide +kernel
theorem d_X12_readTune_99 : decode cX12_readTune 99 = .ok (.aload_n 0, 1) := by decide +kernel
theorem d_X12_readTune_100 : decode cX12_readTune 100 = .ok (.getfield 24, 3) := by decide +kernel
theorem d_X12_readTune_103 : decode cX12_readTune 103 = .ok (.bipush 11, 2) := by decide +kernel
theorem d_X12_readTune_105 : decode cX12_readTune 105 = .ok (.iload_n 1, 1) := by decide +kernel
theorem d_X12_readTune_106 : decode cX12_readTune 106 = .ok (.iadd, 1) := by decide +kernel
theorem d_X12_readTune_107 : decode cX12_readTune 107 = .ok (.iload_n 2, 1) := by decide +kernel
theorem d_X12_readTune_108 : decode cX12_readTune 108 = .ok (.iastore, 1) := by decide +kernel
theorem d_X12_readTune_109 : decode cX12_readTune 109 = .ok (.aload_n 0, 1) := by decide +kernel
theorem d_X12_readTune_110 : decode cX12_readTune 110 = .ok (.getfield 24, 3) := by decide +kernel
theorem d_X12_readTune_113 : decode cX12_readTune 113 = .ok (.iconst 2, 1) := by decide +kernel
theorem d_X12_readTune_114 : decode cX12_readTune 114 = .ok (.dup2, 1) := by decide +kernel
theorem d_X12_readTune_115 : decode cX12_readTune 115 = .ok (.iaload, 1) := by decide +kernel
theorem d_X12_readTune_116 : decode cX12_readTune 116 = .ok (.iconst 1, 1) := by decide +kernel
theorem d_X12_readTune_117 : decode cX12_readTune 117 = .ok (.iadd, 1) := by decide +kernel
theorem d_X12_readTune_118 : decode cX12_readTune 118 = .ok (.iastore, 1) := by decide +kernel
theorem d_X12_readTune_119 : decode cX12_readTune 119 = .ok (.return_, 1) := by decide +kernel
def F_X12_readTune_b58 (k32 : Nat → Int32 → Int32 → xH → Option (Unit × xH)) (x0 : Nat) (x1 : Int32) (x2 : Int32) (h : xH) : Option (Unit × xH) := (fR h x0 11 4).bind fun v59 => (fR h x0 11 4).bind fun v74 => (aI h v74 1).bind fun v78 => (rc h x0 11).bind fun _ => (F_X12_takes x0 0 (v78 - 1) h).bind fun z81 => (sI z81.2 v59 ((((17 : Int32)) + (((9 : Int32)) * x1)) + x2) z81.1).bind fun h84 => k32 x0 x1 (x2 + 1) h84
theorem R_X12_readTune_b58 {Γ : xG} {l : Launch} {d : Nat} {Q : Option Value → xH → Prop} {r : Unit} {h' : xH} {k32 : Nat → Int32 → Int32 → xH → Option (Unit × xH)} (K32 : ∀ (x0 : Nat) (x1 : Int32) (x2 : Int32)  (h : xH), k32 x0 x1 x2 h = some (r, h') → Gd Γ l d m_X12_readTune 32 [.ref x0, .int x1, .int x2] [] h 0 0 Q) (hdp : 8 ≤ d) (hq : Q (none) h') : ∀ (x0 : Nat) (x1 : Int32) (x2 : Int32) (h : xH), F_X12_readTune_b58 k32 x0 x1 x2 h = some (r, h') → Gd Γ l d m_X12_readTune 58 [.ref x0, .int x1, .int x2] [] h 0 0 Q := by
  intro x0 x1 x2 h hF
  unfold F_X12_readTune_b58 at hF
  refine g_aloadn d_X12_readTune_58 rfl ?_
  obtain ⟨v59, e59, hF⟩ := Option.bind_eq_some_iff.mp hF
  refine q_fR d_X12_readTune_59 f_X12_24 e59 ?_
  refine g_bi (17) d_X12_readTune_62 bi_17 ?_
  refine g_bi (9) d_X12_readTune_64 bi_9 ?_
  refine g_iloadn d_X12_readTune_66 rfl ?_
  refine g_imul d_X12_readTune_67 ?_
  refine g_iadd d_X12_readTune_68 ?_
  refine g_iloadn d_X12_readTune_69 rfl ?_
  refine g_iadd d_X12_readTune_70 ?_
  refine g_aloadn d_X12_readTune_71 rfl ?_
  refine g_ic (0) d_X12_readTune_72 ic_0 ?_
  refine g_aloadn d_X12_readTune_73 rfl ?_
  obtain ⟨v74, e74, hF⟩ := Option.bind_eq_some_iff.mp hF
  refine q_fR d_X12_readTune_74 f_X12_24 e74 ?_
  refine g_ic (1) d_X12_readTune_77 ic_1 ?_
  obtain ⟨v78, e78, hF⟩ := Option.bind_eq_some_iff.mp hF
  refine q_aI d_X12_readTune_78 e78 ?_
  refine g_ic (1) d_X12_readTune_79 ic_1 ?_
  refine g_isub d_X12_readTune_80 ?_
  obtain ⟨_, g81, hF⟩ := Option.bind_eq_some_iff.mp hF
  obtain ⟨⟨r81, h81⟩, e81, hF⟩ := Option.bind_eq_some_iff.mp hF
  try dsimp only at hF
  refine q_callV [.int 0, .int (v78 - 1)] [.int ((((17 : Int32)) + (((9 : Int32)) * x1)) + x2), .ref v59] rfl d_X12_readTune_81 v_X12_189 (by omega) rfl (Nat.le_of_ble_eq_true rfl) (rc_rc g81 (by decide) rfl) (R_X12_takes _ _ _ _ (by omega) e81) ?_
  obtain ⟨h84, e84, hF⟩ := Option.bind_eq_some_iff.mp hF
  refine q_sI d_X12_readTune_84 e84 ?_
  refine q_iinc (1) [.ref x0, .int x1, .int (x2 + 1)] d_X12_readTune_85 ic_1 rfl (by decide) rfl ?_
  refine g_goto 32 d_X12_readTune_88 rfl ?_
  exact q_to (xs_r (xs_r (xs_r xs_n))) (K32 _ _ _ _ hF)
def F_X12_readTune_b91 (x0 : Nat) (x1 : Int32) (x2 : Int32) (h : xH) : Option (Unit × xH) := (fI h x0 11 11).bind fun v92 => if v92 = 0 then (fR h x0 11 4).bind fun v100 => (sI h v100 (((11 : Int32)) + x1) x2).bind fun h108 => (fR h108 x0 11 4).bind fun v110 => (aI h108 v110 2).bind fun v115 => (sI h108 v110 2 (v115 + 1)).bind fun h118 => some ((), h118) else some ((), h)
theorem R_X12_readTune_b91 {Γ : xG} {l : Launch} {d : Nat} {Q : Option Value → xH → Prop} {r : Unit} {h' : xH} (hdp : 8 ≤ d) (hq : Q (none) h') : ∀ (x0 : Nat) (x1 : Int32) (x2 : Int32) (h : xH), F_X12_readTune_b91 x0 x1 x2 h = some (r, h') → Gd Γ l d m_X12_readTune 91 [.ref x0, .int x1, .int x2] [] h 0 0 Q := by
  intro x0 x1 x2 h hF
  unfold F_X12_readTune_b91 at hF
  refine g_aloadn d_X12_readTune_91 rfl ?_
  obtain ⟨v92, e92, hF⟩ := Option.bind_eq_some_iff.mp hF
  refine q_fI d_X12_readTune_92 f_X12_132 e92 ?_
  refine g_if_eq 99 d_X12_readTune_95 rfl (fun c95 => ?_) (fun c95 => ?_)
  · have hF := x_t hF c95
    refine g_aloadn d_X12_readTune_99 rfl ?_
    obtain ⟨v100, e100, hF⟩ := Option.bind_eq_some_iff.mp hF
    refine q_fR d_X12_readTune_100 f_X12_24 e100 ?_
    refine g_bi (11) d_X12_readTune_103 bi_11 ?_
    refine g_iloadn d_X12_readTune_105 rfl ?_
    refine g_iadd d_X12_readTune_106 ?_
    refine g_iloadn d_X12_readTune_107 rfl ?_
    obtain ⟨h108, e108, hF⟩ := Option.bind_eq_some_iff.mp hF
    refine q_sI d_X12_readTune_108 e108 ?_
    refine g_aloadn d_X12_readTune_109 rfl ?_
    obtain ⟨v110, e110, hF⟩ := Option.bind_eq_some_iff.mp hF
    refine q_fR d_X12_readTune_110 f_X12_24 e110 ?_
    refine g_ic (2) d_X12_readTune_113 ic_2 ?_
    refine g_dup2 d_X12_readTune_114 rfl rfl ?_
    obtain ⟨v115, e115, hF⟩ := Option.bind_eq_some_iff.mp hF
    refine q_aI d_X12_readTune_115 e115 ?_
    refine g_ic (1) d_X12_readTune_116 ic_1 ?_
    refine g_iadd d_X12_readTune_117 ?_
    obtain ⟨h118, e118, hF⟩ := Option.bind_eq_some_iff.mp hF
    refine q_sI d_X12_readTune_118 e118 ?_
    obtain ⟨rfl, rfl⟩ := x_inj hF
    exact g_vret d_X12_readTune_119 rfl hq
  · have hF := x_f hF c95
    obtain ⟨rfl, rfl⟩ := x_inj hF
    exact g_vret d_X12_readTune_98 rfl hq
def F_X12_readTune_b32 : Nat → Nat → Int32 → Int32 → xH → Option (Unit × xH)
  | 0, _, _, _, _ => none
  | n + 1, x0, x1, x2, h => (fI h x0 11 11).bind fun v33 => if ¬ v33 = 0 then F_X12_readTune_b91 x0 x1 x2 h else if ((9 : Int32)) ≤ x2 then F_X12_readTune_b91 x0 x1 x2 h else if x2 = 0 then F_X12_readTune_b58 (F_X12_readTune_b32 n) x0 x1 x2 h else (rc h x0 11).bind fun _ => (F_X12_is x0 23 h).bind fun z52 => if z52.1 = 0 then F_X12_readTune_b91 x0 x1 x2 z52.2 else F_X12_readTune_b58 (F_X12_readTune_b32 n) x0 x1 x2 z52.2
theorem R_X12_readTune_b32 {Γ : xG} {l : Launch} {d : Nat} {Q : Option Value → xH → Prop} {r : Unit} {h' : xH} (hdp : 8 ≤ d) (hq : Q (none) h') : ∀ (n : Nat) (x0 : Nat) (x1 : Int32) (x2 : Int32) (h : xH), F_X12_readTune_b32 n x0 x1 x2 h = some (r, h') → Gd Γ l d m_X12_readTune 32 [.ref x0, .int x1, .int x2] [] h 0 0 Q := by
  intro n
  induction n with
  | zero => intro x0 x1 x2 h hF; cases hF
  | succ n ih =>
  intro x0 x1 x2 h hF
  rw [F_X12_readTune_b32] at hF
  refine g_aloadn d_X12_readTune_32 rfl ?_
  obtain ⟨v33, e33, hF⟩ := Option.bind_eq_some_iff.mp hF
  refine q_fI d_X12_readTune_33 f_X12_132 e33 ?_
  refine g_if_ne 91 d_X12_readTune_36 rfl (fun c36 => ?_) (fun c36 => ?_)
  · have hF := x_t hF c36
    exact q_to (xs_r (xs_r (xs_r xs_n))) (R_X12_readTune_b91 hdp hq _ _ _ _ hF)
  · have hF := x_f hF (not_not_intro c36)
    refine g_iloadn d_X12_readTune_39 rfl ?_
    refine g_bi (9) d_X12_readTune_40 bi_9 ?_
    refine g_icmp_ge 91 d_X12_readTune_42 rfl (fun c42 => ?_) (fun c42 => ?_)
    · have hF := x_t hF c42
      exact q_to (xs_r (xs_r (xs_r xs_n))) (R_X12_readTune_b91 hdp hq _ _ _ _ hF)
    · have hF := x_f hF c42
      refine g_iloadn d_X12_readTune_45 rfl ?_
      refine g_if_eq 58 d_X12_readTune_46 rfl (fun c46 => ?_) (fun c46 => ?_)
      · have hF := x_t hF c46
        exact q_to (xs_r (xs_r (xs_r xs_n))) (R_X12_readTune_b58 ih hdp hq _ _ _ _ hF)
      · have hF := x_f hF c46
        refine g_aloadn d_X12_readTune_49 rfl ?_
        refine g_bi (23) d_X12_readTune_50 bi_23 ?_
        obtain ⟨_, g52, hF⟩ := Option.bind_eq_some_iff.mp hF
        obtain ⟨⟨r52, h52⟩, e52, hF⟩ := Option.bind_eq_some_iff.mp hF
        try dsimp only at hF
        refine q_callV [.int 23] [] rfl d_X12_readTune_52 v_X12_138 (by omega) rfl (Nat.le_of_ble_eq_true rfl) (rc_rc g52 (by decide) rfl) (R_X12_is _ _ _ (by omega) e52) ?_
        refine g_if_eq 91 d_X12_readTune_55 rfl (fun c55 => ?_) (fun c55 => ?_)
        · have hF := x_t hF c55
          exact q_to (xs_r (xs_r (xs_r xs_n))) (R_X12_readTune_b91 hdp hq _ _ _ _ hF)
        · have hF := x_f hF c55
          exact q_to (xs_r (xs_r (xs_r xs_n))) (R_X12_readTune_b58 ih hdp hq _ _ _ _ hF)
def F_X12_readTune_b18 (x0 : Nat) (x1 : Int32) (h : xH) : Option (Unit × xH) := (fI h x0 11 11).bind fun v19 => if v19 = 0 then (rc h x0 11).bind fun _ => (F_X12_next x0 h).bind fun z27 => F_X12_readTune_b32 FU x0 x1 0 z27.2 else some ((), h)
theorem R_X12_readTune_b18 {Γ : xG} {l : Launch} {d : Nat} {Q : Option Value → xH → Prop} {r : Unit} {h' : xH} (hdp : 8 ≤ d) (hq : Q (none) h') : ∀ (x0 : Nat) (x1 : Int32) (h : xH), F_X12_readTune_b18 x0 x1 h = some (r, h') → Gd Γ l d m_X12_readTune 18 [.ref x0, .int x1, xhole] [] h 0 0 Q := by
  intro x0 x1 h hF
  unfold F_X12_readTune_b18 at hF
  refine g_aloadn d_X12_readTune_18 rfl ?_
  obtain ⟨v19, e19, hF⟩ := Option.bind_eq_some_iff.mp hF
  refine q_fI d_X12_readTune_19 f_X12_132 e19 ?_
  refine g_if_eq 26 d_X12_readTune_22 rfl (fun c22 => ?_) (fun c22 => ?_)
  · have hF := x_t hF c22
    refine g_aloadn d_X12_readTune_26 rfl ?_
    obtain ⟨_, g27, hF⟩ := Option.bind_eq_some_iff.mp hF
    obtain ⟨⟨r27, h27⟩, e27, hF⟩ := Option.bind_eq_some_iff.mp hF
    try dsimp only at hF
    refine q_callV [] [] rfl d_X12_readTune_27 v_X12_141 (by omega) rfl (Nat.le_of_ble_eq_true rfl) (rc_rc g27 (by decide) rfl) (R_X12_next _ _ (by omega) e27) ?_
    refine g_ic (0) d_X12_readTune_30 ic_0 ?_
    refine q_istoren [.ref x0, .int x1, .int 0] d_X12_readTune_31 (by decide) rfl ?_
    exact q_to (xs_r (xs_r (xs_r xs_n))) (R_X12_readTune_b32 hdp hq FU _ _ _ _ hF)
  · have hF := x_f hF c22
    obtain ⟨rfl, rfl⟩ := x_inj hF
    exact g_vret d_X12_readTune_25 rfl hq
def F_X12_readTune (x0 : Nat) (h : xH) : Option (Unit × xH) := (fR h x0 11 4).bind fun v1 => (aI h v1 2).bind fun v5 => if ¬ v5 = ((6 : Int32)) then F_X12_readTune_b18 x0 v5 h else (rc h x0 11).bind fun _ => (F_X12_fails x0 4 h).bind fun z15 => F_X12_readTune_b18 x0 v5 z15.2
theorem R_X12_readTune {Γ : xG} {l : Launch} {d : Nat} {r : Unit} {h' : xH} (x0 : Nat) (h : xH) (hdp : 8 ≤ d) (hF : F_X12_readTune x0 h = some (r, h')) : Gm Γ l d 0 0 m_X12_readTune [.ref x0] h (fun a u => a = none ∧ u = h') := by
  refine Gm.of pn_X12 (Nat.le_of_ble_eq_true rfl) ?_
  show Gd Γ l d m_X12_readTune 0 [.ref x0, xhole, xhole] [] h 0 0 _
  generalize hQ : (fun (a : Option Value) (u : xH) => a = none ∧ u = h') = Q
  have hq : Q (none) h' := by rw [← hQ]; exact ⟨rfl, rfl⟩
  clear hQ
  unfold F_X12_readTune at hF
  refine g_aloadn d_X12_readTune_0 rfl ?_
  obtain ⟨v1, e1, hF⟩ := Option.bind_eq_some_iff.mp hF
  refine q_fR d_X12_readTune_1 f_X12_24 e1 ?_
  refine g_ic (2) d_X12_readTune_4 ic_2 ?_
  obtain ⟨v5, e5, hF⟩ := Option.bind_eq_some_iff.mp hF
  refine q_aI d_X12_readTune_5 e5 ?_
  refine q_istoren [.ref x0, .int v5, xhole] d_X12_readTune_6 (by decide) rfl ?_
  refine g_iloadn d_X12_readTune_7 rfl ?_
  refine g_bi (6) d_X12_readTune_8 bi_6 ?_
  refine g_icmp_ne 18 d_X12_readTune_10 rfl (fun c10 => ?_) (fun c10 => ?_)
  · have hF := x_t hF c10
    exact q_to (xs_r (xs_r (xs_h xs_n))) (R_X12_readTune_b18 hdp hq _ _ _ hF)
  · have hF := x_f hF (not_not_intro c10)
    refine g_aloadn d_X12_readTune_13 rfl ?_
    refine g_ic (4) d_X12_readTune_14 ic_4 ?_
    obtain ⟨_, g15, hF⟩ := Option.bind_eq_some_iff.mp hF
    obtain ⟨⟨r15, h15⟩, e15, hF⟩ := Option.bind_eq_some_iff.mp hF
    try dsimp only at hF
    refine q_callV [.int 4] [] rfl d_X12_readTune_15 v_X12_144 (by omega) rfl (Nat.le_of_ble_eq_true rfl) (rc_rc g15 (by decide) rfl) (R_X12_fails _ _ _ (by omega) e15) ?_
    exact q_to (xs_r (xs_r (xs_h xs_n))) (R_X12_readTune_b18 hdp hq _ _ _ hF)
