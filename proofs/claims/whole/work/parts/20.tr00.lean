/-! ===== methods as functions, 0: written by a program out of the listings ===== -/
theorem d_X10_hasPerson_0 : decode cX10_hasPerson 0 = .ok (.iload_n 1, 1) := by decide +kernel
theorem d_X10_hasPerson_1 : decode cX10_hasPerson 1 = .ok (.ifCond .lt 15, 3) := by decide +kernel
theorem d_X10_hasPerson_4 : decode cX10_hasPerson 4 = .ok (.iload_n 1, 1) := by decide +kernel
theorem d_X10_hasPerson_5 : decode cX10_hasPerson 5 = .ok (.aload_n 0, 1) := by decide +kernel
theorem d_X10_hasPerson_6 : decode cX10_hasPerson 6 = .ok (.getfield 24, 3) := by decide +kernel
theorem d_X10_hasPerson_9 : decode cX10_hasPerson 9 = .ok (.if_icmp .ge 7, 3) := by decide +kernel
theorem d_X10_hasPerson_12 : decode cX10_hasPerson 12 = .ok (.iconst 1, 1) := by decide +kernel
theorem d_X10_hasPerson_13 : decode cX10_hasPerson 13 = .ok (.goto 4, 3) := by decide +kernel
theorem d_X10_hasPerson_16 : decode cX10_hasPerson 16 = .ok (.iconst 0, 1) := by decide +kernel
theorem d_X10_hasPerson_17 : decode cX10_hasPerson 17 = .ok (.ireturn, 1) := by decide +kernel
def F_X10_hasPerson (x0 : Nat) (x1 : Int32) (h : xH) : Option (Int32 × xH) := if x1 < 0 then some (0, h) else (fI h x0 9 4).bind fun v6 => if v6 ≤ x1 then some (0, h) else some (1, h)
theorem R_X10_hasPerson {Γ : xG} {l : Launch} {d : Nat} {r : Int32} {h' : xH} (x0 : Nat) (x1 : Int32) (h : xH) (hdp : 0 ≤ d) (hF : F_X10_hasPerson x0 x1 h = some (r, h')) : Gm Γ l d 0 0 m_X10_hasPerson [.ref x0, .int x1] h (fun a u => a = some (.int r) ∧ u = h') := by
  refine Gm.of pn_X10 (Nat.le_of_ble_eq_true rfl) ?_
  show Gd Γ l d m_X10_hasPerson 0 [.ref x0, .int x1] [] h 0 0 _
  generalize hQ : (fun (a : Option Value) (u : xH) => a = some (.int r) ∧ u = h') = Q
  have hq : Q (some (.int r)) h' := by rw [← hQ]; exact ⟨rfl, rfl⟩
  clear hQ
  unfold F_X10_hasPerson at hF
  refine g_iloadn d_X10_hasPerson_0 rfl ?_
  refine g_if_lt 16 d_X10_hasPerson_1 rfl (fun c1 => ?_) (fun c1 => ?_)
  · have hF := x_t hF c1
    refine g_ic (0) d_X10_hasPerson_16 ic_0 ?_
    obtain ⟨rfl, rfl⟩ := x_inj hF
    exact g_zret d_X10_hasPerson_17 rfl rfl hq
  · have hF := x_f hF c1
    refine g_iloadn d_X10_hasPerson_4 rfl ?_
    refine g_aloadn d_X10_hasPerson_5 rfl ?_
    obtain ⟨v6, e6, hF⟩ := Option.bind_eq_some_iff.mp hF
    refine q_fI d_X10_hasPerson_6 f_X10_24 e6 ?_
    refine g_icmp_ge 16 d_X10_hasPerson_9 rfl (fun c9 => ?_) (fun c9 => ?_)
    · have hF := x_t hF c9
      refine g_ic (0) d_X10_hasPerson_16 ic_0 ?_
      obtain ⟨rfl, rfl⟩ := x_inj hF
      exact g_zret d_X10_hasPerson_17 rfl rfl hq
    · have hF := x_f hF c9
      refine g_ic (1) d_X10_hasPerson_12 ic_1 ?_
      refine g_goto 17 d_X10_hasPerson_13 rfl ?_
      obtain ⟨rfl, rfl⟩ := x_inj hF
      exact g_zret d_X10_hasPerson_17 rfl rfl hq
theorem d_X10_hasPlace_0 : decode cX10_hasPlace 0 = .ok (.iload_n 1, 1) := by decide +kernel
theorem d_X10_hasPlace_1 : decode cX10_hasPlace 1 = .ok (.ifCond .lt 15, 3) := by decide +kernel
theorem d_X10_hasPlace_4 : decode cX10_hasPlace 4 = .ok (.iload_n 1, 1) := by decide +kernel
theorem d_X10_hasPlace_5 : decode cX10_hasPlace 5 = .ok (.aload_n 0, 1) := by decide +kernel
theorem d_X10_hasPlace_6 : decode cX10_hasPlace 6 = .ok (.getfield 21, 3) := by decide +kernel
theorem d_X10_hasPlace_9 : decode cX10_hasPlace 9 = .ok (.if_icmp .ge 7, 3) := by decide +kernel
theorem d_X10_hasPlace_12 : decode cX10_hasPlace 12 = .ok (.iconst 1, 1) := by decide +kernel
theorem d_X10_hasPlace_13 : decode cX10_hasPlace 13 = .ok (.goto 4, 3) := by decide +kernel
theorem d_X10_hasPlace_16 : decode cX10_hasPlace 16 = .ok (.iconst 0, 1) := by decide +kernel
theorem d_X10_hasPlace_17 : decode cX10_hasPlace 17 = .ok (.ireturn, 1) := by decide +kernel
def F_X10_hasPlace (x0 : Nat) (x1 : Int32) (h : xH) : Option (Int32 × xH) := if x1 < 0 then some (0, h) else (fI h x0 9 3).bind fun v6 => if v6 ≤ x1 then some (0, h) else some (1, h)
theorem R_X10_hasPlace {Γ : xG} {l : Launch} {d : Nat} {r : Int32} {h' : xH} (x0 : Nat) (x1 : Int32) (h : xH) (hdp : 0 ≤ d) (hF : F_X10_hasPlace x0 x1 h = some (r, h')) : Gm Γ l d 0 0 m_X10_hasPlace [.ref x0, .int x1] h (fun a u => a = some (.int r) ∧ u = h') := by
  refine Gm.of pn_X10 (Nat.le_of_ble_eq_true rfl) ?_
  show Gd Γ l d m_X10_hasPlace 0 [.ref x0, .int x1] [] h 0 0 _
  generalize hQ : (fun (a : Option Value) (u : xH) => a = some (.int r) ∧ u = h') = Q
  have hq : Q (some (.int r)) h' := by rw [← hQ]; exact ⟨rfl, rfl⟩
  clear hQ
  unfold F_X10_hasPlace at hF
  refine g_iloadn d_X10_hasPlace_0 rfl ?_
  refine g_if_lt 16 d_X10_hasPlace_1 rfl (fun c1 => ?_) (fun c1 => ?_)
  · have hF := x_t hF c1
    refine g_ic (0) d_X10_hasPlace_16 ic_0 ?_
    obtain ⟨rfl, rfl⟩ := x_inj hF
    exact g_zret d_X10_hasPlace_17 rfl rfl hq
  · have hF := x_f hF c1
    refine g_iloadn d_X10_hasPlace_4 rfl ?_
    refine g_aloadn d_X10_hasPlace_5 rfl ?_
    obtain ⟨v6, e6, hF⟩ := Option.bind_eq_some_iff.mp hF
    refine q_fI d_X10_hasPlace_6 f_X10_21 e6 ?_
    refine g_icmp_ge 16 d_X10_hasPlace_9 rfl (fun c9 => ?_) (fun c9 => ?_)
    · have hF := x_t hF c9
      refine g_ic (0) d_X10_hasPlace_16 ic_0 ?_
      obtain ⟨rfl, rfl⟩ := x_inj hF
      exact g_zret d_X10_hasPlace_17 rfl rfl hq
    · have hF := x_f hF c9
      refine g_ic (1) d_X10_hasPlace_12 ic_1 ?_
      refine g_goto 17 d_X10_hasPlace_13 rfl ?_
      obtain ⟨rfl, rfl⟩ := x_inj hF
      exact g_zret d_X10_hasPlace_17 rfl rfl hq
theorem d_X0_move_0 : decode cX0_move 0 = .ok (.aload_n 0, 1) := by decide +kernel
theorem d_X0_move_1 : decode cX0_move 1 = .ok (.iload_n 2, 1) := by decide +kernel
theorem d_X0_move_2 : decode cX0_move 2 = .ok (.invokevirtual 9, 3) := by decide +kernel
theorem d_X0_move_5 : decode cX0_move 5 = .ok (.ifCond .eq 11, 3) := by decide +kernel
theorem d_X0_move_8 : decode cX0_move 8 = .ok (.aload_n 0, 1) := by decide +kernel
theorem d_X0_move_9 : decode cX0_move 9 = .ok (.iload_n 3, 1) := by decide +kernel
theorem d_X0_move_10 : decode cX0_move 10 = .ok (.invokevirtual 15, 3) := by decide +kernel
theorem d_X0_move_13 : decode cX0_move 13 = .ok (.ifCond .ne 5, 3) := by decide +kernel
theorem d_X0_move_16 : decode cX0_move 16 = .ok (.iconst 1, 1) := by decide +kernel
theorem d_X0_move_17 : decode cX0_move 17 = .ok (.ireturn, 1) := by decide +kernel
theorem d_X0_move_18 : decode cX0_move 18 = .ok (.aload_n 0, 1) := by decide +kernel
theorem d_X0_move_19 : decode cX0_move 19 = .ok (.getfield 20, 3) := by decide +kernel
theorem d_X0_move_22 : decode cX0_move 22 = .ok (.aload_n 1, 1) := by decide +kernel
theorem d_X0_move_23 : decode cX0_move 23 = .ok (.getfield 24, 3) := by decide +kernel
theorem d_X0_move_26 : decode cX0_move 26 = .ok (.iload_n 2, 1) := by decide +kernel
theorem d_X0_move_27 : decode cX0_move 27 = .ok (.iaload, 1) := by decide +kernel
theorem d_X0_move_28 : decode cX0_move 28 = .ok (.iaload, 1) := by decide +kernel
theorem d_X0_move_29 : decode cX0_move 29 = .ok (.iload_n 3, 1) := by decide +kernel
theorem d_X0_move_30 : decode cX0_move 30 = .ok (.ishr, 1) := by decide +kernel
theorem d_X0_move_31 : decode cX0_move 31 = .ok (.iconst 1, 1) := by decide +kernel
theorem d_X0_move_32 : decode cX0_move 32 = .ok (.iand, 1) := by decide +kernel
theorem d_X0_move_33 : decode cX0_move 33 = .ok (.ifCond .ne 5, 3) := by decide +kernel
theorem d_X0_move_36 : decode cX0_move 36 = .ok (.iconst 2, 1) := by decide +kernel
theorem d_X0_move_37 : decode cX0_move 37 = .ok (.ireturn, 1) := by decide +kernel
theorem d_X0_move_38 : decode cX0_move 38 = .ok (.aload_n 1, 1) := by decide +kernel
theorem d_X0_move_39 : decode cX0_move 39 = .ok (.getfield 24, 3) := by decide +kernel
theorem d_X0_move_42 : decode cX0_move 42 = .ok (.iload_n 2, 1) := by decide +kernel
theorem d_X0_move_43 : decode cX0_move 43 = .ok (.iload_n 3, 1) := by decide +kernel
theorem d_X0_move_44 : decode cX0_move 44 = .ok (.iastore, 1) := by decide +kernel
theorem d_X0_move_45 : decode cX0_move 45 = .ok (.iconst 0, 1) := by decide +kernel
theorem d_X0_move_46 : decode cX0_move 46 = .ok (.ireturn, 1) := by decide +kernel
def F_X0_move (x0 : Nat) (x1 : Nat) (x2 : Int32) (x3 : Int32) (h : xH) : Option (Int32 × xH) := (rc h x0 9).bind fun _ => (F_X10_hasPerson x0 x2 h).bind fun z2 => if z2.1 = 0 then some (1, z2.2) else (rc z2.2 x0 9).bind fun _ => (F_X10_hasPlace x0 x3 z2.2).bind fun z10 => if ¬ z10.1 = 0 then (fR z10.2 x0 9 9).bind fun v19 => (fR z10.2 x1 5 0).bind fun v23 => (aI z10.2 v23 x2).bind fun v27 => (aI z10.2 v19 v27).bind fun v28 => if ¬ ((v28 >>> (x3 &&& 31)) &&& 1) = 0 then (fR z10.2 x1 5 0).bind fun v39 => (sI z10.2 v39 x2 x3).bind fun h44 => some (0, h44) else some (2, z10.2) else some (1, z10.2)
theorem R_X0_move {Γ : xG} {l : Launch} {d : Nat} {r : Int32} {h' : xH} (x0 : Nat) (x1 : Nat) (x2 : Int32) (x3 : Int32) (h : xH) (hdp : 1 ≤ d) (hF : F_X0_move x0 x1 x2 x3 h = some (r, h')) : Gm Γ l d 0 0 m_X0_move [.ref x0, .ref x1, .int x2, .int x3] h (fun a u => a = some (.int r) ∧ u = h') := by
  refine Gm.of pn_X0 (Nat.le_of_ble_eq_true rfl) ?_
  show Gd Γ l d m_X0_move 0 [.ref x0, .ref x1, .int x2, .int x3] [] h 0 0 _
  generalize hQ : (fun (a : Option Value) (u : xH) => a = some (.int r) ∧ u = h') = Q
  have hq : Q (some (.int r)) h' := by rw [← hQ]; exact ⟨rfl, rfl⟩
  clear hQ
  unfold F_X0_move at hF
  refine g_aloadn d_X0_move_0 rfl ?_
  refine g_iloadn d_X0_move_1 rfl ?_
  obtain ⟨_, g2, hF⟩ := Option.bind_eq_some_iff.mp hF
  obtain ⟨⟨r2, h2⟩, e2, hF⟩ := Option.bind_eq_some_iff.mp hF
  try dsimp only at hF
  refine q_callV [.int x2] [] rfl d_X0_move_2 v_X0_9 (by omega) rfl (Nat.le_of_ble_eq_true rfl) (rc_rc g2 (by decide) rfl) (R_X10_hasPerson _ _ _ (by omega) e2) ?_
  refine g_if_eq 16 d_X0_move_5 rfl (fun c5 => ?_) (fun c5 => ?_)
  · have hF := x_t hF c5
    refine g_ic (1) d_X0_move_16 ic_1 ?_
    obtain ⟨rfl, rfl⟩ := x_inj hF
    exact g_iret d_X0_move_17 rfl hq
  · have hF := x_f hF c5
    refine g_aloadn d_X0_move_8 rfl ?_
    refine g_iloadn d_X0_move_9 rfl ?_
    obtain ⟨_, g10, hF⟩ := Option.bind_eq_some_iff.mp hF
    obtain ⟨⟨r10, h10⟩, e10, hF⟩ := Option.bind_eq_some_iff.mp hF
    try dsimp only at hF
    refine q_callV [.int x3] [] rfl d_X0_move_10 v_X0_15 (by omega) rfl (Nat.le_of_ble_eq_true rfl) (rc_rc g10 (by decide) rfl) (R_X10_hasPlace _ _ _ (by omega) e10) ?_
    refine g_if_ne 18 d_X0_move_13 rfl (fun c13 => ?_) (fun c13 => ?_)
    · have hF := x_t hF c13
      refine g_aloadn d_X0_move_18 rfl ?_
      obtain ⟨v19, e19, hF⟩ := Option.bind_eq_some_iff.mp hF
      refine q_fR d_X0_move_19 f_X0_20 e19 ?_
      refine g_aloadn d_X0_move_22 rfl ?_
      obtain ⟨v23, e23, hF⟩ := Option.bind_eq_some_iff.mp hF
      refine q_fR d_X0_move_23 f_X0_24 e23 ?_
      refine g_iloadn d_X0_move_26 rfl ?_
      obtain ⟨v27, e27, hF⟩ := Option.bind_eq_some_iff.mp hF
      refine q_aI d_X0_move_27 e27 ?_
      obtain ⟨v28, e28, hF⟩ := Option.bind_eq_some_iff.mp hF
      refine q_aI d_X0_move_28 e28 ?_
      refine g_iloadn d_X0_move_29 rfl ?_
      refine g_ishr d_X0_move_30 ?_
      refine g_ic (1) d_X0_move_31 ic_1 ?_
      refine g_iand d_X0_move_32 ?_
      refine g_if_ne 38 d_X0_move_33 rfl (fun c33 => ?_) (fun c33 => ?_)
      · have hF := x_t hF c33
        refine g_aloadn d_X0_move_38 rfl ?_
        obtain ⟨v39, e39, hF⟩ := Option.bind_eq_some_iff.mp hF
        refine q_fR d_X0_move_39 f_X0_24 e39 ?_
        refine g_iloadn d_X0_move_42 rfl ?_
        refine g_iloadn d_X0_move_43 rfl ?_
        obtain ⟨h44, e44, hF⟩ := Option.bind_eq_some_iff.mp hF
        refine q_sI d_X0_move_44 e44 ?_
        refine g_ic (0) d_X0_move_45 ic_0 ?_
        obtain ⟨rfl, rfl⟩ := x_inj hF
        exact g_iret d_X0_move_46 rfl hq
      · have hF := x_f hF (not_not_intro c33)
        refine g_ic (2) d_X0_move_36 ic_2 ?_
        obtain ⟨rfl, rfl⟩ := x_inj hF
        exact g_iret d_X0_move_37 rfl hq
    · have hF := x_f hF (not_not_intro c13)
      refine g_ic (1) d_X0_move_16 ic_1 ?_
      obtain ⟨rfl, rfl⟩ := x_inj hF
      exact g_iret d_X0_move_17 rfl hq
theorem d_X0_takeEar_0 : decode cX0_takeEar 0 = .ok (.aload_n 0, 1) := by decide +kernel
theorem d_X0_takeEar_1 : decode cX0_takeEar 1 = .ok (.iload_n 2, 1) := by decide +kernel
theorem d_X0_takeEar_2 : decode cX0_takeEar 2 = .ok (.invokevirtual 9, 3) := by decide +kernel
theorem d_X0_takeEar_5 : decode cX0_takeEar 5 = .ok (.ifCond .eq 13, 3) := by decide +kernel
theorem d_X0_takeEar_8 : decode cX0_takeEar 8 = .ok (.iload_n 3, 1) := by decide +kernel
theorem d_X0_takeEar_9 : decode cX0_takeEar 9 = .ok (.ifCond .lt 9, 3) := by decide +kernel
theorem d_X0_takeEar_12 : decode cX0_takeEar 12 = .ok (.iload_n 3, 1) := by decide +kernel
theorem d_X0_takeEar_13 : decode cX0_takeEar 13 = .ok (.bipush 10, 2) := by decide +kernel
theorem d_X0_takeEar_15 : decode cX0_takeEar 15 = .ok (.if_icmp .lt 5, 3) := by decide +kernel
theorem d_X0_takeEar_18 : decode cX0_takeEar 18 = .ok (.iconst 1, 1) := by decide +kernel
theorem d_X0_takeEar_19 : decode cX0_takeEar 19 = .ok (.ireturn, 1) := by decide +kernel
theorem d_X0_takeEar_20 : decode cX0_takeEar 20 = .ok (.aload_n 1, 1) := by decide +kernel
theorem d_X0_takeEar_21 : decode cX0_takeEar 21 = .ok (.getfield 29, 3) := by decide +kernel
theorem d_X0_takeEar_24 : decode cX0_takeEar 24 = .ok (.iload_n 2, 1) := by decide +kernel
theorem d_X0_takeEar_25 : decode cX0_takeEar 25 = .ok (.iload_n 3, 1) := by decide +kernel
theorem d_X0_takeEar_26 : decode cX0_takeEar 26 = .ok (.iastore, 1) := by decide +kernel
theorem d_X0_takeEar_27 : decode cX0_takeEar 27 = .ok (.iconst 0, 1) := by decide +kernel
theorem d_X0_takeEar_28 : decode cX0_takeEar 28 = .ok (.ireturn, 1) := by decide +kernel
def F_X0_takeEar (x0 : Nat) (x1 : Nat) (x2 : Int32) (x3 : Int32) (h : xH) : Option (Int32 × xH) := (rc h x0 9).bind fun _ => (F_X10_hasPerson x0 x2 h).bind fun z2 => if z2.1 = 0 then some (1, z2.2) else if x3 < 0 then some (1, z2.2) else if x3 < ((10 : Int32)) then (fR z2.2 x1 5 1).bind fun v21 => (sI z2.2 v21 x2 x3).bind fun h26 => some (0, h26) else some (1, z2.2)
theorem R_X0_takeEar {Γ : xG} {l : Launch} {d : Nat} {r : Int32} {h' : xH} (x0 : Nat) (x1 : Nat) (x2 : Int32) (x3 : Int32) (h : xH) (hdp : 1 ≤ d) (hF : F_X0_takeEar x0 x1 x2 x3 h = some (r, h')) : Gm Γ l d 0 0 m_X0_takeEar [.ref x0, .ref x1, .int x2, .int x3] h (fun a u => a = some (.int r) ∧ u = h') := by
  refine Gm.of pn_X0 (Nat.le_of_ble_eq_true rfl) ?_
  show Gd Γ l d m_X0_takeEar 0 [.ref x0, .ref x1, .int x2, .int x3] [] h 0 0 _
  generalize hQ : (fun (a : Option Value) (u : xH) => a = some (.int r) ∧ u = h') = Q
  have hq : Q (some (.int r)) h' := by rw [← hQ]; exact ⟨rfl, rfl⟩
  clear hQ
  unfold F_X0_takeEar at hF
  refine g_aloadn d_X0_takeEar_0 rfl ?_
  refine g_iloadn d_X0_takeEar_1 rfl ?_
  obtain ⟨_, g2, hF⟩ := Option.bind_eq_some_iff.mp hF
  obtain ⟨⟨r2, h2⟩, e2, hF⟩ := Option.bind_eq_some_iff.mp hF
  try dsimp only at hF
  refine q_callV [.int x2] [] rfl d_X0_takeEar_2 v_X0_9 (by omega) rfl (Nat.le_of_ble_eq_true rfl) (rc_rc g2 (by decide) rfl) (R_X10_hasPerson _ _ _ (by omega) e2) ?_
  refine g_if_eq 18 d_X0_takeEar_5 rfl (fun c5 => ?_) (fun c5 => ?_)
  · have hF := x_t hF c5
    refine g_ic (1) d_X0_takeEar_18 ic_1 ?_
    obtain ⟨rfl, rfl⟩ := x_inj hF
    exact g_iret d_X0_takeEar_19 rfl hq
  · have hF := x_f hF c5
    refine g_iloadn d_X0_takeEar_8 rfl ?_
    refine g_if_lt 18 d_X0_takeEar_9 rfl (fun c9 => ?_) (fun c9 => ?_)
    · have hF := x_t hF c9
      refine g_ic (1) d_X0_takeEar_18 ic_1 ?_
      obtain ⟨rfl, rfl⟩ := x_inj hF
      exact g_iret d_X0_takeEar_19 rfl hq
    · have hF := x_f hF c9
      refine g_iloadn d_X0_takeEar_12 rfl ?_
      refine g_bi (10) d_X0_takeEar_13 bi_10 ?_
      refine g_icmp_lt 20 d_X0_takeEar_15 rfl (fun c15 => ?_) (fun c15 => ?_)
      · have hF := x_t hF c15
        refine g_aloadn d_X0_takeEar_20 rfl ?_
        obtain ⟨v21, e21, hF⟩ := Option.bind_eq_some_iff.mp hF
        refine q_fR d_X0_takeEar_21 f_X0_29 e21 ?_
        refine g_iloadn d_X0_takeEar_24 rfl ?_
        refine g_iloadn d_X0_takeEar_25 rfl ?_
        obtain ⟨h26, e26, hF⟩ := Option.bind_eq_some_iff.mp hF
        refine q_sI d_X0_takeEar_26 e26 ?_
        refine g_ic (0) d_X0_takeEar_27 ic_0 ?_
        obtain ⟨rfl, rfl⟩ := x_inj hF
        exact g_iret d_X0_takeEar_28 rfl hq
      · have hF := x_f hF c15
        refine g_ic (1) d_X0_takeEar_18 ic_1 ?_
        obtain ⟨rfl, rfl⟩ := x_inj hF
        exact g_iret d_X0_takeEar_19 rfl hq
theorem d_X10_hasNote_0 : decode cX10_hasNote 0 = .ok (.iload_n 1, 1) := by decide +kernel
theorem d_X10_hasNote_1 : decode cX10_hasNote 1 = .ok (.ifCond .lt 15, 3) := by decide +kernel
theorem d_X10_hasNote_4 : decode cX10_hasNote 4 = .ok (.iload_n 1, 1) := by decide +kernel
theorem d_X10_hasNote_5 : decode cX10_hasNote 5 = .ok (.aload_n 0, 1) := by decide +kernel
theorem d_X10_hasNote_6 : decode cX10_hasNote 6 = .ok (.getfield 9, 3) := by decide +kernel
theorem d_X10_hasNote_9 : decode cX10_hasNote 9 = .ok (.if_icmp .ge 7, 3) := by decide +kernel
theorem d_X10_hasNote_12 : decode cX10_hasNote 12 = .ok (.iconst 1, 1) := by decide +kernel
theorem d_X10_hasNote_13 : decode cX10_hasNote 13 = .ok (.goto 4, 3) := by decide +kernel
theorem d_X10_hasNote_16 : decode cX10_hasNote 16 = .ok (.iconst 0, 1) := by decide +kernel
theorem d_X10_hasNote_17 : decode cX10_hasNote 17 = .ok (.ireturn, 1) := by decide +kernel
def F_X10_hasNote (x0 : Nat) (x1 : Int32) (h : xH) : Option (Int32 × xH) := if x1 < 0 then some (0, h) else (fI h x0 9 0).bind fun v6 => if v6 ≤ x1 then some (0, h) else some (1, h)
theorem R_X10_hasNote {Γ : xG} {l : Launch} {d : Nat} {r : Int32} {h' : xH} (x0 : Nat) (x1 : Int32) (h : xH) (hdp : 0 ≤ d) (hF : F_X10_hasNote x0 x1 h = some (r, h')) : Gm Γ l d 0 0 m_X10_hasNote [.ref x0, .int x1] h (fun a u => a = some (.int r) ∧ u = h') := by
  refine Gm.of pn_X10 (Nat.le_of_ble_eq_true rfl) ?_
  show Gd Γ l d m_X10_hasNote 0 [.ref x0, .int x1] [] h 0 0 _
  generalize hQ : (fun (a : Option Value) (u : xH) => a = some (.int r) ∧ u = h') = Q
  have hq : Q (some (.int r)) h' := by rw [← hQ]; exact ⟨rfl, rfl⟩
  clear hQ
  unfold F_X10_hasNote at hF
  refine g_iloadn d_X10_hasNote_0 rfl ?_
  refine g_if_lt 16 d_X10_hasNote_1 rfl (fun c1 => ?_) (fun c1 => ?_)
  · have hF := x_t hF c1
    refine g_ic (0) d_X10_hasNote_16 ic_0 ?_
    obtain ⟨rfl, rfl⟩ := x_inj hF
    exact g_zret d_X10_hasNote_17 rfl rfl hq
  · have hF := x_f hF c1
    refine g_iloadn d_X10_hasNote_4 rfl ?_
    refine g_aloadn d_X10_hasNote_5 rfl ?_
    obtain ⟨v6, e6, hF⟩ := Option.bind_eq_some_iff.mp hF
    refine q_fI d_X10_hasNote_6 f_X10_9 e6 ?_
    refine g_icmp_ge 16 d_X10_hasNote_9 rfl (fun c9 => ?_) (fun c9 => ?_)
    · have hF := x_t hF c9
      refine g_ic (0) d_X10_hasNote_16 ic_0 ?_
      obtain ⟨rfl, rfl⟩ := x_inj hF
      exact g_zret d_X10_hasNote_17 rfl rfl hq
    · have hF := x_f hF c9
      refine g_ic (1) d_X10_hasNote_12 ic_1 ?_
      refine g_goto 17 d_X10_hasNote_13 rfl ?_
      obtain ⟨rfl, rfl⟩ := x_inj hF
      exact g_zret d_X10_hasNote_17 rfl rfl hq
theorem d_X0_takeBlank_0 : decode cX0_takeBlank 0 = .ok (.aload_n 0, 1) := by decide +kernel
theorem d_X0_takeBlank_1 : decode cX0_takeBlank 1 = .ok (.iload_n 2, 1) := by decide +kernel
theorem d_X0_takeBlank_2 : decode cX0_takeBlank 2 = .ok (.invokevirtual 9, 3) := by decide +kernel
theorem d_X0_takeBlank_5 : decode cX0_takeBlank 5 = .ok (.ifCond .eq 16, 3) := by decide +kernel
theorem d_X0_takeBlank_8 : decode cX0_takeBlank 8 = .ok (.iload_n 3, 1) := by decide +kernel
theorem d_X0_takeBlank_9 : decode cX0_takeBlank 9 = .ok (.iconst (-1), 1) := by decide +kernel
theorem d_X0_takeBlank_10 : decode cX0_takeBlank 10 = .ok (.if_icmp .eq 13, 3) := by decide +kernel
theorem d_X0_takeBlank_13 : decode cX0_takeBlank 13 = .ok (.aload_n 0, 1) := by decide +kernel
theorem d_X0_takeBlank_14 : decode cX0_takeBlank 14 = .ok (.iload_n 3, 1) := by decide +kernel
theorem d_X0_takeBlank_15 : decode cX0_takeBlank 15 = .ok (.invokevirtual 32, 3) := by decide +kernel
theorem d_X0_takeBlank_18 : decode cX0_takeBlank 18 = .ok (.ifCond .ne 5, 3) := by decide +kernel
theorem d_X0_takeBlank_21 : decode cX0_takeBlank 21 = .ok (.iconst 1, 1) := by decide +kernel
theorem d_X0_takeBlank_22 : decode cX0_takeBlank 22 = .ok (.ireturn, 1) := by decide +kernel
theorem d_X0_takeBlank_23 : decode cX0_takeBlank 23 = .ok (.aload_n 1, 1) := by decide +kernel
theorem d_X0_takeBlank_24 : decode cX0_takeBlank 24 = .ok (.getfield 35, 3) := by decide +kernel
theorem d_X0_takeBlank_27 : decode cX0_takeBlank 27 = .ok (.iload_n 2, 1) := by decide +kernel
theorem d_X0_takeBlank_28 : decode cX0_takeBlank 28 = .ok (.iload_n 3, 1) := by decide +kernel
theorem d_X0_takeBlank_29 : decode cX0_takeBlank 29 = .ok (.iastore, 1) := by decide +kernel
theorem d_X0_takeBlank_30 : decode cX0_takeBlank 30 = .ok (.aload_n 1, 1) := by decide +kernel
theorem d_X0_takeBlank_31 : decode cX0_takeBlank 31 = .ok (.dup, 1) := by decide +kernel
theorem d_X0_takeBlank_32 : decode cX0_takeBlank 32 = .ok (.getfield 38, 3) := by decide +kernel
theorem d_X0_takeBlank_35 : decode cX0_takeBlank 35 = .ok (.iconst 1, 1) := by decide +kernel
theorem d_X0_takeBlank_36 : decode cX0_takeBlank 36 = .ok (.iload_n 2, 1) := by decide +kernel
theorem d_X0_takeBlank_37 : decode cX0_takeBlank 37 = .ok (.ishl, 1) := by decide +kernel
theorem d_X0_takeBlank_38 : decode cX0_takeBlank 38 = .ok (.iconst (-1), 1) := by decide +kernel
theorem d_X0_takeBlank_39 : decode cX0_takeBlank 39 = .ok (.ixor, 1) := by decide +kernel
theorem d_X0_takeBlank_40 : decode cX0_takeBlank 40 = .ok (.iand, 1) := by decide +kernel
theorem d_X0_takeBlank_41 : decode cX0_takeBlank 41 = .ok (.putfield 38, 3) := by decide +kernel
theorem d_X0_takeBlank_44 : decode cX0_takeBlank 44 = .ok (.iconst 0, 1) := by decide +kernel
theorem d_X0_takeBlank_45 : decode cX0_takeBlank 45 = .ok (.ireturn, 1) := by decide +kernel
def F_X0_takeBlank_b23 (x1 : Nat) (x2 : Int32) (x3 : Int32) (h : xH) : Option (Int32 × xH) := (fR h x1 5 2).bind fun v24 => (sI h v24 x2 x3).bind fun h29 => (fI h29 x1 5 3).bind fun v32 => (wI h29 x1 5 3 (v32 &&& ((((1 : Int32)) <<< (x2 &&& 31)) ^^^ ((-1))))).bind fun h41 => some (0, h41)
theorem R_X0_takeBlank_b23 {Γ : xG} {l : Launch} {d : Nat} {Q : Option Value → xH → Prop} {r : Int32} {h' : xH} (hdp : 1 ≤ d) (hq : Q (some (.int r)) h') : ∀ (x1 : Nat) (x2 : Int32) (x3 : Int32) (h : xH), F_X0_takeBlank_b23 x1 x2 x3 h = some (r, h') → Gd Γ l d m_X0_takeBlank 23 [xhole, .ref x1, .int x2, .int x3] [] h 0 0 Q := by
  intro x1 x2 x3 h hF
  unfold F_X0_takeBlank_b23 at hF
  refine g_aloadn d_X0_takeBlank_23 rfl ?_
  obtain ⟨v24, e24, hF⟩ := Option.bind_eq_some_iff.mp hF
  refine q_fR d_X0_takeBlank_24 f_X0_35 e24 ?_
  refine g_iloadn d_X0_takeBlank_27 rfl ?_
  refine g_iloadn d_X0_takeBlank_28 rfl ?_
  obtain ⟨h29, e29, hF⟩ := Option.bind_eq_some_iff.mp hF
  refine q_sI d_X0_takeBlank_29 e29 ?_
  refine g_aloadn d_X0_takeBlank_30 rfl ?_
  refine g_dup d_X0_takeBlank_31 rfl ?_
  obtain ⟨v32, e32, hF⟩ := Option.bind_eq_some_iff.mp hF
  refine q_fI d_X0_takeBlank_32 f_X0_38 e32 ?_
  refine g_ic (1) d_X0_takeBlank_35 ic_1 ?_
  refine g_iloadn d_X0_takeBlank_36 rfl ?_
  refine g_ishl d_X0_takeBlank_37 ?_
  refine g_ic (-1) d_X0_takeBlank_38 ic_m1 ?_
  refine g_ixor d_X0_takeBlank_39 ?_
  refine g_iand d_X0_takeBlank_40 ?_
  obtain ⟨h41, e41, hF⟩ := Option.bind_eq_some_iff.mp hF
  refine q_wI d_X0_takeBlank_41 (w_X0_38 _) e41 ?_
  refine g_ic (0) d_X0_takeBlank_44 ic_0 ?_
  obtain ⟨rfl, rfl⟩ := x_inj hF
  exact g_iret d_X0_takeBlank_45 rfl hq
def F_X0_takeBlank (x0 : Nat) (x1 : Nat) (x2 : Int32) (x3 : Int32) (h : xH) : Option (Int32 × xH) := (rc h x0 9).bind fun _ => (F_X10_hasPerson x0 x2 h).bind fun z2 => if z2.1 = 0 then some (1, z2.2) else if x3 = (((-1) : Int32)) then F_X0_takeBlank_b23 x1 x2 x3 z2.2 else (rc z2.2 x0 9).bind fun _ => (F_X10_hasNote x0 x3 z2.2).bind fun z15 => if ¬ z15.1 = 0 then F_X0_takeBlank_b23 x1 x2 x3 z15.2 else some (1, z15.2)
theorem R_X0_takeBlank {Γ : xG} {l : Launch} {d : Nat} {r : Int32} {h' : xH} (x0 : Nat) (x1 : Nat) (x2 : Int32) (x3 : Int32) (h : xH) (hdp : 1 ≤ d) (hF : F_X0_takeBlank x0 x1 x2 x3 h = some (r, h')) : Gm Γ l d 0 0 m_X0_takeBlank [.ref x0, .ref x1, .int x2, .int x3] h (fun a u => a = some (.int r) ∧ u = h') := by
  refine Gm.of pn_X0 (Nat.le_of_ble_eq_true rfl) ?_
  show Gd Γ l d m_X0_takeBlank 0 [.ref x0, .ref x1, .int x2, .int x3] [] h 0 0 _
  generalize hQ : (fun (a : Option Value) (u : xH) => a = some (.int r) ∧ u = h') = Q
  have hq : Q (some (.int r)) h' := by rw [← hQ]; exact ⟨rfl, rfl⟩
  clear hQ
  unfold F_X0_takeBlank at hF
  refine g_aloadn d_X0_takeBlank_0 rfl ?_
  refine g_iloadn d_X0_takeBlank_1 rfl ?_
  obtain ⟨_, g2, hF⟩ := Option.bind_eq_some_iff.mp hF
  obtain ⟨⟨r2, h2⟩, e2, hF⟩ := Option.bind_eq_some_iff.mp hF
  try dsimp only at hF
  refine q_callV [.int x2] [] rfl d_X0_takeBlank_2 v_X0_9 (by omega) rfl (Nat.le_of_ble_eq_true rfl) (rc_rc g2 (by decide) rfl) (R_X10_hasPerson _ _ _ (by omega) e2) ?_
  refine g_if_eq 21 d_X0_takeBlank_5 rfl (fun c5 => ?_) (fun c5 => ?_)
  · have hF := x_t hF c5
    refine g_ic (1) d_X0_takeBlank_21 ic_1 ?_
    obtain ⟨rfl, rfl⟩ := x_inj hF
    exact g_iret d_X0_takeBlank_22 rfl hq
  · have hF := x_f hF c5
    refine g_iloadn d_X0_takeBlank_8 rfl ?_
    refine g_ic (-1) d_X0_takeBlank_9 ic_m1 ?_
    refine g_icmp_eq 23 d_X0_takeBlank_10 rfl (fun c10 => ?_) (fun c10 => ?_)
    · have hF := x_t hF c10
      exact q_to (xs_h (xs_r (xs_r (xs_r xs_n)))) (R_X0_takeBlank_b23 hdp hq _ _ _ _ hF)
    · have hF := x_f hF c10
      refine g_aloadn d_X0_takeBlank_13 rfl ?_
      refine g_iloadn d_X0_takeBlank_14 rfl ?_
      obtain ⟨_, g15, hF⟩ := Option.bind_eq_some_iff.mp hF
      obtain ⟨⟨r15, h15⟩, e15, hF⟩ := Option.bind_eq_some_iff.mp hF
      try dsimp only at hF
      refine q_callV [.int x3] [] rfl d_X0_takeBlank_15 v_X0_32 (by omega) rfl (Nat.le_of_ble_eq_true rfl) (rc_rc g15 (by decide) rfl) (R_X10_hasNote _ _ _ (by omega) e15) ?_
      refine g_if_ne 23 d_X0_takeBlank_18 rfl (fun c18 => ?_) (fun c18 => ?_)
      · have hF := x_t hF c18
        exact q_to (xs_h (xs_r (xs_r (xs_r xs_n)))) (R_X0_takeBlank_b23 hdp hq _ _ _ _ hF)
      · have hF := x_f hF (not_not_intro c18)
        refine g_ic (1) d_X0_takeBlank_21 ic_1 ?_
        obtain ⟨rfl, rfl⟩ := x_inj hF
        exact g_iret d_X0_takeBlank_22 rfl hq
theorem d_X10_soundOn_0 : decode cX10_soundOn 0 = .ok (.aload_n 0, 1) := by decide +kernel
theorem d_X10_soundOn_1 : decode cX10_soundOn 1 = .ok (.getfield 37, 3) := by decide +kernel
theorem d_X10_soundOn_4 : decode cX10_soundOn 4 = .ok (.iload_n 1, 1) := by decide +kernel
theorem d_X10_soundOn_5 : decode cX10_soundOn 5 = .ok (.iaload, 1) := by decide +kernel
theorem d_X10_soundOn_6 : decode cX10_soundOn 6 = .ok (.istore_n 3, 1) := by decide +kernel
theorem d_X10_soundOn_7 : decode cX10_soundOn 7 = .ok (.iload_n 3, 1) := by decide +kernel
theorem d_X10_soundOn_8 : decode cX10_soundOn 8 = .ok (.iconst 1, 1) := by decide +kernel
theorem d_X10_soundOn_9 : decode cX10_soundOn 9 = .ok (.if_icmp .lt 7, 3) := by decide +kernel
theorem d_X10_soundOn_12 : decode cX10_soundOn 12 = .ok (.iload_n 2, 1) := by decide +kernel
theorem d_X10_soundOn_13 : decode cX10_soundOn 13 = .ok (.ifCond .ge 5, 3) := by decide +kernel
theorem d_X10_soundOn_16 : decode cX10_soundOn 16 = .ok (.iconst (-1), 1) := by decide +kernel
theorem d_X10_soundOn_17 : decode cX10_soundOn 17 = .ok (.ireturn, 1) := by decide +kernel
theorem d_X10_soundOn_18 : decode cX10_soundOn 18 = .ok (.aload_n 0, 1) := by decide +kernel
theorem d_X10_soundOn_19 : decode cX10_soundOn 19 = .ok (.getfield 34, 3) := by decide +kernel
theorem d_X10_soundOn_22 : decode cX10_soundOn 22 = .ok (.iload_n 1, 1) := by decide +kernel
theorem d_X10_soundOn_23 : decode cX10_soundOn 23 = .ok (.iconst 4, 1) := by decide +kernel
theorem d_X10_soundOn_24 : decode cX10_soundOn 24 = .ok (.imul, 1) := by decide +kernel
theorem d_X10_soundOn_25 : decode cX10_soundOn 25 = .ok (.iload_n 2, 1) := by decide +kernel
theorem d_X10_soundOn_26 : decode cX10_soundOn 26 = .ok (.iload_n 3, 1) := by decide +kernel
theorem d_X10_soundOn_27 : decode cX10_soundOn 27 = .ok (.irem, 1) := by decide +kernel
theorem d_X10_soundOn_28 : decode cX10_soundOn 28 = .ok (.iadd, 1) := by decide +kernel
theorem d_X10_soundOn_29 : decode cX10_soundOn 29 = .ok (.iaload, 1) := by decide +kernel
theorem d_X10_soundOn_30 : decode cX10_soundOn 30 = .ok (.istore 4, 2) := by decide +kernel
theorem d_X10_soundOn_32 : decode cX10_soundOn 32 = .ok (.iload 4, 2) := by decide +kernel
theorem d_X10_soundOn_34 : decode cX10_soundOn 34 = .ok (.aload_n 0, 1) := by decide +kernel
theorem d_X10_soundOn_35 : decode cX10_soundOn 35 = .ok (.getfield 9, 3) := by decide +kernel
theorem d_X10_soundOn_38 : decode cX10_soundOn 38 = .ok (.if_icmp .ge 8, 3) := by decide +kernel
theorem d_X10_soundOn_41 : decode cX10_soundOn 41 = .ok (.iload 4, 2) := by decide +kernel
theorem d_X10_soundOn_43 : decode cX10_soundOn 43 = .ok (.goto 4, 3) := by decide +kernel
theorem d_X10_soundOn_46 : decode cX10_soundOn 46 = .ok (.iconst (-1), 1) := by decide +kernel
theorem d_X10_soundOn_47 : decode cX10_soundOn 47 = .ok (.ireturn, 1) := by decide +kernel
def F_X10_soundOn (x0 : Nat) (x1 : Int32) (x2 : Int32) (h : xH) : Option (Int32 × xH) := (fR h x0 9 8).bind fun v1 => (aI h v1 x1).bind fun v5 => if v5 < ((1 : Int32)) then some ((-1), h) else if 0 ≤ x2 then (fR h x0 9 7).bind fun v19 => if v5 = 0 then none else (aI h v19 ((x1 * 4) + (irm x2 v5))).bind fun v29 => (fI h x0 9 0).bind fun v35 => if v35 ≤ v29 then some ((-1), h) else some (v29, h) else some ((-1), h)
theorem R_X10_soundOn {Γ : xG} {l : Launch} {d : Nat} {r : Int32} {h' : xH} (x0 : Nat) (x1 : Int32) (x2 : Int32) (h : xH) (hdp : 0 ≤ d) (hF : F_X10_soundOn x0 x1 x2 h = some (r, h')) : Gm Γ l d 0 0 m_X10_soundOn [.ref x0, .int x1, .int x2] h (fun a u => a = some (.int r) ∧ u = h') := by
  refine Gm.of pn_X10 (Nat.le_of_ble_eq_true rfl) ?_
  show Gd Γ l d m_X10_soundOn 0 [.ref x0, .int x1, .int x2, xhole, xhole] [] h 0 0 _
  generalize hQ : (fun (a : Option Value) (u : xH) => a = some (.int r) ∧ u = h') = Q
  have hq : Q (some (.int r)) h' := by rw [← hQ]; exact ⟨rfl, rfl⟩
  clear hQ
  unfold F_X10_soundOn at hF
  refine g_aloadn d_X10_soundOn_0 rfl ?_
  obtain ⟨v1, e1, hF⟩ := Option.bind_eq_some_iff.mp hF
  refine q_fR d_X10_soundOn_1 f_X10_37 e1 ?_
  refine g_iloadn d_X10_soundOn_4 rfl ?_
  obtain ⟨v5, e5, hF⟩ := Option.bind_eq_some_iff.mp hF
  refine q_aI d_X10_soundOn_5 e5 ?_
  refine q_istoren [.ref x0, .int x1, .int x2, .int v5, xhole] d_X10_soundOn_6 (by decide) rfl ?_
  refine g_iloadn d_X10_soundOn_7 rfl ?_
  refine g_ic (1) d_X10_soundOn_8 ic_1 ?_
  refine g_icmp_lt 16 d_X10_soundOn_9 rfl (fun c9 => ?_) (fun c9 => ?_)
  · have hF := x_t hF c9
    refine g_ic (-1) d_X10_soundOn_16 ic_m1 ?_
    obtain ⟨rfl, rfl⟩ := x_inj hF
    exact g_iret d_X10_soundOn_17 rfl hq
  · have hF := x_f hF c9
    refine g_iloadn d_X10_soundOn_12 rfl ?_
    refine g_if_ge 18 d_X10_soundOn_13 rfl (fun c13 => ?_) (fun c13 => ?_)
    · have hF := x_t hF c13
      refine g_aloadn d_X10_soundOn_18 rfl ?_
      obtain ⟨v19, e19, hF⟩ := Option.bind_eq_some_iff.mp hF
      refine q_fR d_X10_soundOn_19 f_X10_34 e19 ?_
      refine g_iloadn d_X10_soundOn_22 rfl ?_
      refine g_ic (4) d_X10_soundOn_23 ic_4 ?_
      refine g_imul d_X10_soundOn_24 ?_
      refine g_iloadn d_X10_soundOn_25 rfl ?_
      refine g_iloadn d_X10_soundOn_26 rfl ?_
      rcases x_nz hF with ⟨z27, hF⟩
      refine q_irem d_X10_soundOn_27 z27 ?_
      refine g_iadd d_X10_soundOn_28 ?_
      obtain ⟨v29, e29, hF⟩ := Option.bind_eq_some_iff.mp hF
      refine q_aI d_X10_soundOn_29 e29 ?_
      refine q_istore [.ref x0, .int x1, .int x2, .int v5, .int v29] d_X10_soundOn_30 (by decide) rfl ?_
      refine g_iload d_X10_soundOn_32 rfl ?_
      refine g_aloadn d_X10_soundOn_34 rfl ?_
      obtain ⟨v35, e35, hF⟩ := Option.bind_eq_some_iff.mp hF
      refine q_fI d_X10_soundOn_35 f_X10_9 e35 ?_
      refine g_icmp_ge 46 d_X10_soundOn_38 rfl (fun c38 => ?_) (fun c38 => ?_)
      · have hF := x_t hF c38
        refine g_ic (-1) d_X10_soundOn_46 ic_m1 ?_
        obtain ⟨rfl, rfl⟩ := x_inj hF
        exact g_iret d_X10_soundOn_47 rfl hq
      · have hF := x_f hF c38
        refine g_iload d_X10_soundOn_41 rfl ?_
        refine g_goto 47 d_X10_soundOn_43 rfl ?_
        obtain ⟨rfl, rfl⟩ := x_inj hF
        exact g_iret d_X10_soundOn_47 rfl hq
    · have hF := x_f hF c13
      refine g_ic (-1) d_X10_soundOn_16 ic_m1 ?_
      obtain ⟨rfl, rfl⟩ := x_inj hF
      exact g_iret d_X10_soundOn_17 rfl hq
theorem d_X0_passDay_0 : decode cX0_passDay 0 = .ok (.iconst 0, 1) := by decide +kernel
theorem d_X0_passDay_1 : decode cX0_passDay 1 = .ok (.istore_n 2, 1) := by decide +kernel
theorem d_X0_passDay_2 : decode cX0_passDay 2 = .ok (.iconst 0, 1) := by decide +kernel
theorem d_X0_passDay_3 : decode cX0_passDay 3 = .ok (.istore_n 3, 1) := by decide +kernel
theorem d_X0_passDay_4 : decode cX0_passDay 4 = .ok (.iload_n 3, 1) := by decide +kernel
theorem d_X0_passDay_5 : decode cX0_passDay 5 = .ok (.aload_n 0, 1) := by decide +kernel
theorem d_X0_passDay_6 : decode cX0_passDay 6 = .ok (.getfield 42, 3) := by decide +kernel
theorem d_X0_passDay_9 : decode cX0_passDay 9 = .ok (.if_icmp .ge 48, 3) := by decide +kernel
theorem d_X0_passDay_12 : decode cX0_passDay 12 = .ok (.aload_n 1, 1) := by decide +kernel
theorem d_X0_passDay_13 : decode cX0_passDay 13 = .ok (.getfield 35, 3) := by decide +kernel
theorem d_X0_passDay_16 : decode cX0_passDay 16 = .ok (.iload_n 3, 1) := by decide +kernel
theorem d_X0_passDay_17 : decode cX0_passDay 17 = .ok (.iaload, 1) := by decide +kernel
theorem d_X0_passDay_18 : decode cX0_passDay 18 = .ok (.istore 4, 2) := by decide +kernel
theorem d_X0_passDay_20 : decode cX0_passDay 20 = .ok (.iload 4, 2) := by decide +kernel
theorem d_X0_passDay_22 : decode cX0_passDay 22 = .ok (.iconst (-1), 1) := by decide +kernel
theorem d_X0_passDay_23 : decode cX0_passDay 23 = .ok (.if_icmp .eq 28, 3) := by decide +kernel
theorem d_X0_passDay_26 : decode cX0_passDay 26 = .ok (.aload_n 0, 1) := by decide +kernel
theorem d_X0_passDay_27 : decode cX0_passDay 27 = .ok (.aload_n 1, 1) := by decide +kernel
theorem d_X0_passDay_28 : decode cX0_passDay 28 = .ok (.getfield 24, 3) := by decide +kernel
theorem d_X0_passDay_31 : decode cX0_passDay 31 = .ok (.iload_n 3, 1) := by decide +kernel
theorem d_X0_passDay_32 : decode cX0_passDay 32 = .ok (.iaload, 1) := by decide +kernel
theorem d_X0_passDay_33 : decode cX0_passDay 33 = .ok (.aload_n 1, 1) := by decide +kernel
theorem d_X0_passDay_34 : decode cX0_passDay 34 = .ok (.getfield 45, 3) := by decide +kernel
theorem d_X0_passDay_37 : decode cX0_passDay 37 = .ok (.invokevirtual 48, 3) := by decide +kernel
theorem d_X0_passDay_40 : decode cX0_passDay 40 = .ok (.iload 4, 2) := by decide +kernel
theorem d_X0_passDay_42 : decode cX0_passDay 42 = .ok (.if_icmp .ne 9, 3) := by decide +kernel
theorem d_X0_passDay_45 : decode cX0_passDay 45 = .ok (.iload_n 2, 1) := by decide +kernel
theorem d_X0_passDay_46 : decode cX0_passDay 46 = .ok (.iconst 1, 1) := by decide +kernel
theorem d_X0_passDay_47 : decode cX0_passDay 47 = .ok (.iload_n 3, 1) := by decide +kernel
theorem d_X0_passDay_48 : decode cX0_passDay 48 = .ok (.ishl, 1) := by decide +kernel
theorem d_X0_passDay_49 : decode cX0_passDay 49 = .ok (.ior, 1) := by decide +kernel
theorem d_X0_passDay_50 : decode cX0_passDay 50 = .ok (.istore_n 2, 1) := by decide +kernel
theorem d_X0_passDay_51 : decode cX0_passDay 51 = .ok (.iinc 3 1, 3) := by decide +kernel
theorem d_X0_passDay_54 : decode cX0_passDay 54 = .ok (.goto (-50), 3) := by decide +kernel
theorem d_X0_passDay_57 : decode cX0_passDay 57 = .ok (.iload_n 2, 1) := by decide +kernel
theorem d_X0_passDay_58 : decode cX0_passDay 58 = .ok (.aload_n 1, 1) := by decide +kernel
theorem d_X0_passDay_59 : decode cX0_passDay 59 = .ok (.getfield 38, 3) := by decide +kernel
theorem d_X0_passDay_62 : decode cX0_passDay 62 = .ok (.iconst (-1), 1) := by decide +kernel
theorem d_X0_passDay_63 : decode cX0_passDay 63 = .ok (.ixor, 1) := by decide +kernel
theorem d_X0_passDay_64 : decode cX0_passDay 64 = .ok (.iand, 1) := by decide +kernel
theorem d_X0_passDay_65 : decode cX0_passDay 65 = .ok (.istore_n 2, 1) := by decide +kernel
theorem d_X0_passDay_66 : decode cX0_passDay 66 = .ok (.aload_n 1, 1) := by decide +kernel
theorem d_X0_passDay_67 : decode cX0_passDay 67 = .ok (.dup, 1) := by decide +kernel
theorem d_X0_passDay_68 : decode cX0_passDay 68 = .ok (.getfield 38, 3) := by decide +kernel
theorem d_X0_passDay_71 : decode cX0_passDay 71 = .ok (.iload_n 2, 1) := by decide +kernel
theorem d_X0_passDay_72 : decode cX0_passDay 72 = .ok (.ior, 1) := by decide +kernel
theorem d_X0_passDay_73 : decode cX0_passDay 73 = .ok (.putfield 38, 3) := by decide +kernel
theorem d_X0_passDay_76 : decode cX0_passDay 76 = .ok (.aload_n 1, 1) := by decide +kernel
theorem d_X0_passDay_77 : decode cX0_passDay 77 = .ok (.dup, 1) := by decide +kernel
theorem d_X0_passDay_78 : decode cX0_passDay 78 = .ok (.getfield 45, 3) := by decide +kernel
theorem d_X0_passDay_81 : decode cX0_passDay 81 = .ok (.iconst 1, 1) := by decide +kernel
theorem d_X0_passDay_82 : decode cX0_passDay 82 = .ok (.iadd, 1) := by decide +kernel
theorem d_X0_passDay_83 : decode cX0_passDay 83 = .ok (.putfield 45, 3) := by decide +kernel
theorem d_X0_passDay_86 : decode cX0_passDay 86 = .ok (.iload_n 2, 1) := by decide +kernel
theorem d_X0_passDay_87 : decode cX0_passDay 87 = .ok (.ireturn, 1) := by decide +kernel
def F_X0_passDay_b4 : Nat → Nat → Nat → Int32 → Int32 → xH → Option (Int32 × xH)
  | 0, _, _, _, _, _ => none
  | n + 1, x0, x1, x2, x3, h => (fI h x0 9 4).bind fun v6 => if v6 ≤ x3 then (fI h x1 5 3).bind fun v59 => (fI h x1 5 3).bind fun v68 => (wI h x1 5 3 (v68 ||| (x2 &&& (v59 ^^^ ((-1)))))).bind fun h73 => (fI h73 x1 5 4).bind fun v78 => (wI h73 x1 5 4 (v78 + 1)).bind fun h83 => some (x2 &&& (v59 ^^^ ((-1))), h83) else (fR h x1 5 2).bind fun v13 => (aI h v13 x3).bind fun v17 => if v17 = (((-1) : Int32)) then F_X0_passDay_b4 n x0 x1 x2 (x3 + 1) h else (fR h x1 5 0).bind fun v28 => (aI h v28 x3).bind fun v32 => (fI h x1 5 4).bind fun v34 => (rc h x0 9).bind fun _ => (F_X10_soundOn x0 v32 v34 h).bind fun z37 => if ¬ z37.1 = v17 then F_X0_passDay_b4 n x0 x1 x2 (x3 + 1) z37.2 else F_X0_passDay_b4 n x0 x1 (x2 ||| (((1 : Int32)) <<< (x3 &&& 31))) (x3 + 1) z37.2
theorem R_X0_passDay_b4 {Γ : xG} {l : Launch} {d : Nat} {Q : Option Value → xH → Prop} {r : Int32} {h' : xH} (hdp : 1 ≤ d) (hq : Q (some (.int r)) h') : ∀ (n : Nat) (x0 : Nat) (x1 : Nat) (x2 : Int32) (x3 : Int32) (h : xH), F_X0_passDay_b4 n x0 x1 x2 x3 h = some (r, h') → Gd Γ l d m_X0_passDay 4 [.ref x0, .ref x1, .int x2, .int x3, xhole] [] h 0 0 Q := by
  intro n
  induction n with
  | zero => intro x0 x1 x2 x3 h hF; cases hF
  | succ n ih =>
  intro x0 x1 x2 x3 h hF
  rw [F_X0_passDay_b4] at hF
  refine g_iloadn d_X0_passDay_4 rfl ?_
  refine g_aloadn d_X0_passDay_5 rfl ?_
  obtain ⟨v6, e6, hF⟩ := Option.bind_eq_some_iff.mp hF
  refine q_fI d_X0_passDay_6 f_X0_42 e6 ?_
  refine g_icmp_ge 57 d_X0_passDay_9 rfl (fun c9 => ?_) (fun c9 => ?_)
  · have hF := x_t hF c9
    refine g_iloadn d_X0_passDay_57 rfl ?_
    refine g_aloadn d_X0_passDay_58 rfl ?_
    obtain ⟨v59, e59, hF⟩ := Option.bind_eq_some_iff.mp hF
    refine q_fI d_X0_passDay_59 f_X0_38 e59 ?_
    refine g_ic (-1) d_X0_passDay_62 ic_m1 ?_
    refine g_ixor d_X0_passDay_63 ?_
    refine g_iand d_X0_passDay_64 ?_
    refine q_istoren [.ref x0, .ref x1, .int (x2 &&& (v59 ^^^ ((-1)))), .int x3, xhole] d_X0_passDay_65 (by decide) rfl ?_
    refine g_aloadn d_X0_passDay_66 rfl ?_
    refine g_dup d_X0_passDay_67 rfl ?_
    obtain ⟨v68, e68, hF⟩ := Option.bind_eq_some_iff.mp hF
    refine q_fI d_X0_passDay_68 f_X0_38 e68 ?_
    refine g_iloadn d_X0_passDay_71 rfl ?_
    refine g_ior d_X0_passDay_72 ?_
    obtain ⟨h73, e73, hF⟩ := Option.bind_eq_some_iff.mp hF
    refine q_wI d_X0_passDay_73 (w_X0_38 _) e73 ?_
    refine g_aloadn d_X0_passDay_76 rfl ?_
    refine g_dup d_X0_passDay_77 rfl ?_
    obtain ⟨v78, e78, hF⟩ := Option.bind_eq_some_iff.mp hF
    refine q_fI d_X0_passDay_78 f_X0_45 e78 ?_
    refine g_ic (1) d_X0_passDay_81 ic_1 ?_
    refine g_iadd d_X0_passDay_82 ?_
    obtain ⟨h83, e83, hF⟩ := Option.bind_eq_some_iff.mp hF
    refine q_wI d_X0_passDay_83 (w_X0_45 _) e83 ?_
    refine g_iloadn d_X0_passDay_86 rfl ?_
    obtain ⟨rfl, rfl⟩ := x_inj hF
    exact g_iret d_X0_passDay_87 rfl hq
  · have hF := x_f hF c9
    refine g_aloadn d_X0_passDay_12 rfl ?_
    obtain ⟨v13, e13, hF⟩ := Option.bind_eq_some_iff.mp hF
    refine q_fR d_X0_passDay_13 f_X0_35 e13 ?_
    refine g_iloadn d_X0_passDay_16 rfl ?_
    obtain ⟨v17, e17, hF⟩ := Option.bind_eq_some_iff.mp hF
    refine q_aI d_X0_passDay_17 e17 ?_
    refine q_istore [.ref x0, .ref x1, .int x2, .int x3, .int v17] d_X0_passDay_18 (by decide) rfl ?_
    refine g_iload d_X0_passDay_20 rfl ?_
    refine g_ic (-1) d_X0_passDay_22 ic_m1 ?_
    refine g_icmp_eq 51 d_X0_passDay_23 rfl (fun c23 => ?_) (fun c23 => ?_)
    · have hF := x_t hF c23
      refine q_iinc (1) [.ref x0, .ref x1, .int x2, .int (x3 + 1), .int v17] d_X0_passDay_51 ic_1 rfl (by decide) rfl ?_
      refine g_goto 4 d_X0_passDay_54 rfl ?_
      exact q_to (xs_r (xs_r (xs_r (xs_r (xs_h xs_n))))) (ih _ _ _ _ _ hF)
    · have hF := x_f hF c23
      refine g_aloadn d_X0_passDay_26 rfl ?_
      refine g_aloadn d_X0_passDay_27 rfl ?_
      obtain ⟨v28, e28, hF⟩ := Option.bind_eq_some_iff.mp hF
      refine q_fR d_X0_passDay_28 f_X0_24 e28 ?_
      refine g_iloadn d_X0_passDay_31 rfl ?_
      obtain ⟨v32, e32, hF⟩ := Option.bind_eq_some_iff.mp hF
      refine q_aI d_X0_passDay_32 e32 ?_
      refine g_aloadn d_X0_passDay_33 rfl ?_
      obtain ⟨v34, e34, hF⟩ := Option.bind_eq_some_iff.mp hF
      refine q_fI d_X0_passDay_34 f_X0_45 e34 ?_
      obtain ⟨_, g37, hF⟩ := Option.bind_eq_some_iff.mp hF
      obtain ⟨⟨r37, h37⟩, e37, hF⟩ := Option.bind_eq_some_iff.mp hF
      try dsimp only at hF
      refine q_callV [.int v32, .int v34] [] rfl d_X0_passDay_37 v_X0_48 (by omega) rfl (Nat.le_of_ble_eq_true rfl) (rc_rc g37 (by decide) rfl) (R_X10_soundOn _ _ _ _ (by omega) e37) ?_
      refine g_iload d_X0_passDay_40 rfl ?_
      refine g_icmp_ne 51 d_X0_passDay_42 rfl (fun c42 => ?_) (fun c42 => ?_)
      · have hF := x_t hF c42
        refine q_iinc (1) [.ref x0, .ref x1, .int x2, .int (x3 + 1), .int v17] d_X0_passDay_51 ic_1 rfl (by decide) rfl ?_
        refine g_goto 4 d_X0_passDay_54 rfl ?_
        exact q_to (xs_r (xs_r (xs_r (xs_r (xs_h xs_n))))) (ih _ _ _ _ _ hF)
      · have hF := x_f hF (not_not_intro c42)
        refine g_iloadn d_X0_passDay_45 rfl ?_
        refine g_ic (1) d_X0_passDay_46 ic_1 ?_
        refine g_iloadn d_X0_passDay_47 rfl ?_
        refine g_ishl d_X0_passDay_48 ?_
        refine g_ior d_X0_passDay_49 ?_
        refine q_istoren [.ref x0, .ref x1, .int (x2 ||| (((1 : Int32)) <<< (x3 &&& 31))), .int x3, .int v17] d_X0_passDay_50 (by decide) rfl ?_
        refine q_iinc (1) [.ref x0, .ref x1, .int (x2 ||| (((1 : Int32)) <<< (x3 &&& 31))), .int (x3 + 1), .int v17] d_X0_passDay_51 ic_1 rfl (by decide) rfl ?_
        refine g_goto 4 d_X0_passDay_54 rfl ?_
        exact q_to (xs_r (xs_r (xs_r (xs_r (xs_h xs_n))))) (ih _ _ _ _ _ hF)
def F_X0_passDay (x0 : Nat) (x1 : Nat) (h : xH) : Option (Int32 × xH) := F_X0_passDay_b4 FU x0 x1 0 0 h
theorem R_X0_passDay {Γ : xG} {l : Launch} {d : Nat} {r : Int32} {h' : xH} (x0 : Nat) (x1 : Nat) (h : xH) (hdp : 1 ≤ d) (hF : F_X0_passDay x0 x1 h = some (r, h')) : Gm Γ l d 0 0 m_X0_passDay [.ref x0, .ref x1] h (fun a u => a = some (.int r) ∧ u = h') := by
  refine Gm.of pn_X0 (Nat.le_of_ble_eq_true rfl) ?_
  show Gd Γ l d m_X0_passDay 0 [.ref x0, .ref x1, xhole, xhole, xhole] [] h 0 0 _
  generalize hQ : (fun (a : Option Value) (u : xH) => a = some (.int r) ∧ u = h') = Q
  have hq : Q (some (.int r)) h' := by rw [← hQ]; exact ⟨rfl, rfl⟩
  clear hQ
  unfold F_X0_passDay at hF
  refine g_ic (0) d_X0_passDay_0 ic_0 ?_
  refine q_istoren [.ref x0, .ref x1, .int 0, xhole, xhole] d_X0_passDay_1 (by decide) rfl ?_
  refine g_ic (0) d_X0_passDay_2 ic_0 ?_
  refine q_istoren [.ref x0, .ref x1, .int 0, .int 0, xhole] d_X0_passDay_3 (by decide) rfl ?_
  exact q_to (xs_r (xs_r (xs_r (xs_r (xs_h xs_n))))) (R_X0_passDay_b4 hdp hq FU _ _ _ _ _ hF)
theorem d_X0_doOne_0 : decode cX0_doOne 0 = .ok (.lload_n 2, 1) := by decide +kernel
theorem d_X0_doOne_1 : decode cX0_doOne 1 = .ok (.ldc2_w 52, 3) := by decide +kernel
theorem d_X0_doOne_4 : decode cX0_doOne 4 = .ok (.lcmp, 1) := by decide +kernel
theorem d_X0_doOne_5 : decode cX0_doOne 5 = .ok (.ifCond .ne 11, 3) := by decide +kernel
theorem d_X0_doOne_8 : decode cX0_doOne 8 = .ok (.aload_n 0, 1) := by decide +kernel
theorem d_X0_doOne_9 : decode cX0_doOne 9 = .ok (.aload_n 1, 1) := by decide +kernel
theorem d_X0_doOne_10 : decode cX0_doOne 10 = .ok (.invokestatic 54, 3) := by decide +kernel
theorem d_X0_doOne_13 : decode cX0_doOne 13 = .ok (.pop, 1) := by decide +kernel
theorem d_X0_doOne_14 : decode cX0_doOne 14 = .ok (.iconst 0, 1) := by decide +kernel
theorem d_X0_doOne_15 : decode cX0_doOne 15 = .ok (.ireturn, 1) := by decide +kernel
theorem d_X0_doOne_16 : decode cX0_doOne 16 = .ok (.lload_n 2, 1) := by decide +kernel
theorem d_X0_doOne_17 : decode cX0_doOne 17 = .ok (.lconst 0, 1) := by decide +kernel
theorem d_X0_doOne_18 : decode cX0_doOne 18 = .ok (.lcmp, 1) := by decide +kernel
theorem d_X0_doOne_19 : decode cX0_doOne 19 = .ok (.ifCond .lt 11, 3) := by decide +kernel
theorem d_X0_doOne_22 : decode cX0_doOne 22 = .ok (.lload_n 2, 1) := by decide +kernel
theorem d_X0_doOne_23 : decode cX0_doOne 23 = .ok (.ldc2_w 58, 3) := by decide +kernel
theorem d_X0_doOne_26 : decode cX0_doOne 26 = .ok (.lcmp, 1) := by decide +kernel
theorem d_X0_doOne_27 : decode cX0_doOne 27 = .ok (.ifCond .lt 5, 3) := by decide +kernel
theorem d_X0_doOne_30 : decode cX0_doOne 30 = .ok (.iconst 1, 1) := by decide +kernel
theorem d_X0_doOne_31 : decode cX0_doOne 31 = .ok (.ireturn, 1) := by decide +kernel
theorem d_X0_doOne_32 : decode cX0_doOne 32 = .ok (.lload_n 2, 1) := by decide +kernel
theorem d_X0_doOne_33 : decode cX0_doOne 33 = .ok (.l2i, 1) := by decide +kernel
theorem d_X0_doOne_34 : decode cX0_doOne 34 = .ok (.istore 4, 2) := by decide +kernel
theorem d_X0_doOne_36 : decode cX0_doOne 36 = .ok (.iload 4, 2) := by decide +kernel
theorem d_X0_doOne_38 : decode cX0_doOne 38 = .ok (.bipush 100, 2) := by decide +kernel
theorem d_X0_doOne_40 : decode cX0_doOne 40 = .ok (.irem, 1) := by decide +kernel
theorem d_X0_doOne_41 : decode cX0_doOne 41 = .ok (.bipush 10, 2) := by decide +kernel
theorem d_X0_doOne_43 : decode cX0_doOne 43 = .ok (.idiv, 1) := by decide +kernel
theorem d_X0_doOne_44 : decode cX0_doOne 44 = .ok (.istore 5, 2) := by decide +kernel
theorem d_X0_doOne_46 : decode cX0_doOne 46 = .ok (.iload 4, 2) := by decide +kernel
theorem d_X0_doOne_48 : decode cX0_doOne 48 = .ok (.bipush 10, 2) := by decide +kernel
theorem d_X0_doOne_50 : decode cX0_doOne 50 = .ok (.irem, 1) := by decide +kernel
theorem d_X0_doOne_51 : decode cX0_doOne 51 = .ok (.istore 6, 2) := by decide +kernel
theorem d_X0_doOne_53 : decode cX0_doOne 53 = .ok (.iload 4, 2) := by decide +kernel
theorem d_X0_doOne_55 : decode cX0_doOne 55 = .ok (.bipush 100, 2) := by decide +kernel
theorem d_X0_doOne_57 : decode cX0_doOne 57 = .ok (.idiv, 1) := by decide +kernel
theorem d_X0_doOne_58 : decode cX0_doOne 58 = .ok (.lookupswitch 46 #[(0, 26), (1, 36)], 26) := by decide +kernel
theorem d_X0_doOne_84 : decode cX0_doOne 84 = .ok (.aload_n 0, 1) := by decide +kernel
theorem d_X0_doOne_85 : decode cX0_doOne 85 = .ok (.aload_n 1, 1) := by decide +kernel
theorem d_X0_doOne_86 : decode cX0_doOne 86 = .ok (.iload 5, 2) := by decide +kernel
theorem d_X0_doOne_88 : decode cX0_doOne 88 = .ok (.iload 6, 2) := by decide +kernel
theorem d_X0_doOne_90 : decode cX0_doOne 90 = .ok (.invokestatic 60, 3) := by decide +kernel
theorem d_X0_doOne_93 : decode cX0_doOne 93 = .ok (.ireturn, 1) := by decide +kernel
theorem d_X0_doOne_94 : decode cX0_doOne 94 = .ok (.aload_n 0, 1) := by decide +kernel
theorem d_X0_doOne_95 : decode cX0_doOne 95 = .ok (.aload_n 1, 1) := by decide +kernel
theorem d_X0_doOne_96 : decode cX0_doOne 96 = .ok (.iload 5, 2) := by decide +kernel
theorem d_X0_doOne_98 : decode cX0_doOne 98 = .ok (.iload 6, 2) := by decide +kernel
theorem d_X0_doOne_100 : decode cX0_doOne 100 = .ok (.invokestatic 64, 3) := by decide +kernel
theorem d_X0_doOne_103 : decode cX0_doOne 103 = .ok (.ireturn, 1) := by decide +kernel
theorem d_X0_doOne_104 : decode cX0_doOne 104 = .ok (.aload_n 0, 1) := by decide +kernel
theorem d_X0_doOne_105 : decode cX0_doOne 105 = .ok (.aload_n 1, 1) := by decide +kernel
theorem d_X0_doOne_106 : decode cX0_doOne 106 = .ok (.iload 5, 2) := by decide +kernel
theorem d_X0_doOne_108 : decode cX0_doOne 108 = .ok (.iload 6, 2) := by decide +kernel
theorem d_X0_doOne_110 : decode cX0_doOne 110 = .ok (.invokestatic 67, 3) := by decide +kernel
theorem d_X0_doOne_113 : decode cX0_doOne 113 = .ok (.ireturn, 1) := by decide +kernel
def F_X0_doOne (x0 : Nat) (x1 : Nat) (x2 : Int64) (h : xH) : Option (Int32 × xH) := if ¬ (lg_cmp x2 ((-1))) = 0 then if (lg_cmp x2 0) < 0 then some (1, h) else if (lg_cmp x2 300) < 0 then if (idv x2.toInt32 100) = 0 then (F_X0_move x0 x1 (idv (irm x2.toInt32 100) 10) (irm x2.toInt32 10) h).bind fun z90 => some (z90.1, z90.2) else if (idv x2.toInt32 100) = 1 then (F_X0_takeEar x0 x1 (idv (irm x2.toInt32 100) 10) (irm x2.toInt32 10) h).bind fun z100 => some (z100.1, z100.2) else (F_X0_takeBlank x0 x1 (idv (irm x2.toInt32 100) 10) (irm x2.toInt32 10) h).bind fun z110 => some (z110.1, z110.2) else some (1, h) else (F_X0_passDay x0 x1 h).bind fun z10 => some (0, z10.2)
theorem R_X0_doOne {Γ : xG} {l : Launch} {d : Nat} {r : Int32} {h' : xH} (x0 : Nat) (x1 : Nat) (x2 : Int64) (h : xH) (hdp : 2 ≤ d) (hF : F_X0_doOne x0 x1 x2 h = some (r, h')) : Gm Γ l d 0 0 m_X0_doOne [.ref x0, .ref x1, .long x2] h (fun a u => a = some (.int r) ∧ u = h') := by
  refine Gm.of pn_X0 (Nat.le_of_ble_eq_true rfl) ?_
  show Gd Γ l d m_X0_doOne 0 [.ref x0, .ref x1, .long x2, xhole, xhole, xhole, xhole] [] h 0 0 _
  generalize hQ : (fun (a : Option Value) (u : xH) => a = some (.int r) ∧ u = h') = Q
  have hq : Q (some (.int r)) h' := by rw [← hQ]; exact ⟨rfl, rfl⟩
  clear hQ
  unfold F_X0_doOne at hF
  refine g_lloadn d_X0_doOne_0 rfl ?_
  refine g_ldc2 d_X0_doOne_1 k_X0_52 ?_
  refine g_lcmp d_X0_doOne_4 ?_
  refine g_if_ne 16 d_X0_doOne_5 rfl (fun c5 => ?_) (fun c5 => ?_)
  · have hF := x_t hF c5
    refine g_lloadn d_X0_doOne_16 rfl ?_
    refine g_lc 0 d_X0_doOne_17 rfl ?_
    refine g_lcmp d_X0_doOne_18 ?_
    refine g_if_lt 30 d_X0_doOne_19 rfl (fun c19 => ?_) (fun c19 => ?_)
    · have hF := x_t hF c19
      refine g_ic (1) d_X0_doOne_30 ic_1 ?_
      obtain ⟨rfl, rfl⟩ := x_inj hF
      exact g_iret d_X0_doOne_31 rfl hq
    · have hF := x_f hF c19
      refine g_lloadn d_X0_doOne_22 rfl ?_
      refine g_ldc2 d_X0_doOne_23 k_X0_58 ?_
      refine g_lcmp d_X0_doOne_26 ?_
      refine g_if_lt 32 d_X0_doOne_27 rfl (fun c27 => ?_) (fun c27 => ?_)
      · have hF := x_t hF c27
        refine g_lloadn d_X0_doOne_32 rfl ?_
        refine g_l2i d_X0_doOne_33 ?_
        refine q_istore [.ref x0, .ref x1, .long x2, xhole, .int (x2.toInt32), xhole, xhole] d_X0_doOne_34 (by decide) rfl ?_
        refine g_iload d_X0_doOne_36 rfl ?_
        refine g_bi (100) d_X0_doOne_38 bi_100 ?_
        refine q_irem d_X0_doOne_40 (by decide) ?_
        refine g_bi (10) d_X0_doOne_41 bi_10 ?_
        refine q_idiv d_X0_doOne_43 (by decide) ?_
        refine q_istore [.ref x0, .ref x1, .long x2, xhole, .int (x2.toInt32), .int (idv (irm x2.toInt32 100) 10), xhole] d_X0_doOne_44 (by decide) rfl ?_
        refine g_iload d_X0_doOne_46 rfl ?_
        refine g_bi (10) d_X0_doOne_48 bi_10 ?_
        refine q_irem d_X0_doOne_50 (by decide) ?_
        refine q_istore [.ref x0, .ref x1, .long x2, xhole, .int (x2.toInt32), .int (idv (irm x2.toInt32 100) 10), .int (irm x2.toInt32 10)] d_X0_doOne_51 (by decide) rfl ?_
        refine g_iload d_X0_doOne_53 rfl ?_
        refine g_bi (100) d_X0_doOne_55 bi_100 ?_
        refine q_idiv d_X0_doOne_57 (by decide) ?_
        rcases Classical.em ((idv x2.toInt32 100) = 0) with c58_0 | c58_0
        · have hF := x_t hF c58_0
          refine q_lookup 84 d_X0_doOne_58 c58_0 (by decide) rfl rfl ?_
          refine g_aloadn d_X0_doOne_84 rfl ?_
          refine g_aloadn d_X0_doOne_85 rfl ?_
          refine g_iload d_X0_doOne_86 rfl ?_
          refine g_iload d_X0_doOne_88 rfl ?_
          obtain ⟨⟨r90, h90⟩, e90, hF⟩ := Option.bind_eq_some_iff.mp hF
          try dsimp only at hF
          refine q_callS [.ref x0, .ref x1, .int (idv (irm x2.toInt32 100) 10), .int (irm x2.toInt32 10)] [] rfl d_X0_doOne_90 s_X0_60 (by omega) rfl (Nat.le_of_ble_eq_true rfl) (R_X0_move _ _ _ _ _ (by omega) e90) ?_
          obtain ⟨rfl, rfl⟩ := x_inj hF
          exact g_iret d_X0_doOne_93 rfl hq
        have hF := x_f hF c58_0
        rcases Classical.em ((idv x2.toInt32 100) = 1) with c58_1 | c58_1
        · have hF := x_t hF c58_1
          refine q_lookup 94 d_X0_doOne_58 c58_1 (by decide) rfl rfl ?_
          refine g_aloadn d_X0_doOne_94 rfl ?_
          refine g_aloadn d_X0_doOne_95 rfl ?_
          refine g_iload d_X0_doOne_96 rfl ?_
          refine g_iload d_X0_doOne_98 rfl ?_
          obtain ⟨⟨r100, h100⟩, e100, hF⟩ := Option.bind_eq_some_iff.mp hF
          try dsimp only at hF
          refine q_callS [.ref x0, .ref x1, .int (idv (irm x2.toInt32 100) 10), .int (irm x2.toInt32 10)] [] rfl d_X0_doOne_100 s_X0_64 (by omega) rfl (Nat.le_of_ble_eq_true rfl) (R_X0_takeEar _ _ _ _ _ (by omega) e100) ?_
          obtain ⟨rfl, rfl⟩ := x_inj hF
          exact g_iret d_X0_doOne_103 rfl hq
        have hF := x_f hF c58_1
        refine g_lookup 104 d_X0_doOne_58 (by decide) (lk_2 (sw_ne c58_0 (k := 0) (by decide)) (sw_ne c58_1 (k := 1) (by decide))) rfl ?_
        refine g_aloadn d_X0_doOne_104 rfl ?_
        refine g_aloadn d_X0_doOne_105 rfl ?_
        refine g_iload d_X0_doOne_106 rfl ?_
        refine g_iload d_X0_doOne_108 rfl ?_
        obtain ⟨⟨r110, h110⟩, e110, hF⟩ := Option.bind_eq_some_iff.mp hF
        try dsimp only at hF
        refine q_callS [.ref x0, .ref x1, .int (idv (irm x2.toInt32 100) 10), .int (irm x2.toInt32 10)] [] rfl d_X0_doOne_110 s_X0_67 (by omega) rfl (Nat.le_of_ble_eq_true rfl) (R_X0_takeBlank _ _ _ _ _ (by omega) e110) ?_
        obtain ⟨rfl, rfl⟩ := x_inj hF
        exact g_iret d_X0_doOne_113 rfl hq
      · have hF := x_f hF c27
        refine g_ic (1) d_X0_doOne_30 ic_1 ?_
        obtain ⟨rfl, rfl⟩ := x_inj hF
        exact g_iret d_X0_doOne_31 rfl hq
  · have hF := x_f hF (not_not_intro c5)
    refine g_aloadn d_X0_doOne_8 rfl ?_
    refine g_aloadn d_X0_doOne_9 rfl ?_
    obtain ⟨⟨r10, h10⟩, e10, hF⟩ := Option.bind_eq_some_iff.mp hF
    try dsimp only at hF
    refine q_callS [.ref x0, .ref x1] [] rfl d_X0_doOne_10 s_X0_54 (by omega) rfl (Nat.le_of_ble_eq_true rfl) (R_X0_passDay _ _ _ (by omega) e10) ?_
    refine g_pop d_X0_doOne_13 rfl ?_
    refine g_ic (0) d_X0_doOne_14 ic_0 ?_
    obtain ⟨rfl, rfl⟩ := x_inj hF
    exact g_iret d_X0_doOne_15 rfl hq
theorem d_X0_doAll_0 : decode cX0_doAll 0 = .ok (.iconst 0, 1) := by decide +kernel
theorem d_X0_doAll_1 : decode cX0_doAll 1 = .ok (.istore_n 3, 1) := by decide +kernel
theorem d_X0_doAll_2 : decode cX0_doAll 2 = .ok (.iload_n 3, 1) := by decide +kernel
theorem d_X0_doAll_3 : decode cX0_doAll 3 = .ok (.aload_n 2, 1) := by decide +kernel
theorem d_X0_doAll_4 : decode cX0_doAll 4 = .ok (.getfield 70, 3) := by decide +kernel
theorem d_X0_doAll_7 : decode cX0_doAll 7 = .ok (.if_icmp .ge 25, 3) := by decide +kernel
theorem d_X0_doAll_10 : decode cX0_doAll 10 = .ok (.aload_n 0, 1) := by decide +kernel
theorem d_X0_doAll_11 : decode cX0_doAll 11 = .ok (.aload_n 1, 1) := by decide +kernel
theorem d_X0_doAll_12 : decode cX0_doAll 12 = .ok (.aload_n 2, 1) := by decide +kernel
theorem d_X0_doAll_13 : decode cX0_doAll 13 = .ok (.getfield 75, 3) := by decide +kernel
theorem d_X0_doAll_16 : decode cX0_doAll 16 = .ok (.iload_n 3, 1) := by decide +kernel
theorem d_X0_doAll_17 : decode cX0_doAll 17 = .ok (.laload, 1) := by decide +kernel
theorem d_X0_doAll_18 : decode cX0_doAll 18 = .ok (.invokestatic 79, 3) := by decide +kernel
theorem d_X0_doAll_21 : decode cX0_doAll 21 = .ok (.ifCond .eq 5, 3) := by decide +kernel
theorem d_X0_doAll_24 : decode cX0_doAll 24 = .ok (.iload_n 3, 1) := by decide +kernel
theorem d_X0_doAll_25 : decode cX0_doAll 25 = .ok (.ireturn, 1) := by decide +kernel
theorem d_X0_doAll_26 : decode cX0_doAll 26 = .ok (.iinc 3 1, 3) := by decide +kernel
theorem d_X0_doAll_29 : decode cX0_doAll 29 = .ok (.goto (-27), 3) := by decide +kernel
theorem d_X0_doAll_32 : decode cX0_doAll 32 = .ok (.aload_n 2, 1) := by decide +kernel
theorem d_X0_doAll_33 : decode cX0_doAll 33 = .ok (.getfield 70, 3) := by decide +kernel
theorem d_X0_doAll_36 : decode cX0_doAll 36 = .ok (.ireturn, 1) := by decide +kernel
def F_X0_doAll_b2 : Nat → Nat → Nat → Nat → Int32 → xH → Option (Int32 × xH)
  | 0, _, _, _, _, _ => none
  | n + 1, x0, x1, x2, x3, h => (fI h x2 7 1).bind fun v4 => if v4 ≤ x3 then (fI h x2 7 1).bind fun v33 => some (v33, h) else (fR h x2 7 0).bind fun v13 => (aJ h v13 x3).bind fun v17 => (F_X0_doOne x0 x1 v17 h).bind fun z18 => if z18.1 = 0 then F_X0_doAll_b2 n x0 x1 x2 (x3 + 1) z18.2 else some (x3, z18.2)
theorem R_X0_doAll_b2 {Γ : xG} {l : Launch} {d : Nat} {Q : Option Value → xH → Prop} {r : Int32} {h' : xH} (hdp : 3 ≤ d) (hq : Q (some (.int r)) h') : ∀ (n : Nat) (x0 : Nat) (x1 : Nat) (x2 : Nat) (x3 : Int32) (h : xH), F_X0_doAll_b2 n x0 x1 x2 x3 h = some (r, h') → Gd Γ l d m_X0_doAll 2 [.ref x0, .ref x1, .ref x2, .int x3] [] h 0 0 Q := by
  intro n
  induction n with
  | zero => intro x0 x1 x2 x3 h hF; cases hF
  | succ n ih =>
  intro x0 x1 x2 x3 h hF
  rw [F_X0_doAll_b2] at hF
  refine g_iloadn d_X0_doAll_2 rfl ?_
  refine g_aloadn d_X0_doAll_3 rfl ?_
  obtain ⟨v4, e4, hF⟩ := Option.bind_eq_some_iff.mp hF
  refine q_fI d_X0_doAll_4 f_X0_70 e4 ?_
  refine g_icmp_ge 32 d_X0_doAll_7 rfl (fun c7 => ?_) (fun c7 => ?_)
  · have hF := x_t hF c7
    refine g_aloadn d_X0_doAll_32 rfl ?_
    obtain ⟨v33, e33, hF⟩ := Option.bind_eq_some_iff.mp hF
    refine q_fI d_X0_doAll_33 f_X0_70 e33 ?_
    obtain ⟨rfl, rfl⟩ := x_inj hF
    exact g_iret d_X0_doAll_36 rfl hq
  · have hF := x_f hF c7
    refine g_aloadn d_X0_doAll_10 rfl ?_
    refine g_aloadn d_X0_doAll_11 rfl ?_
    refine g_aloadn d_X0_doAll_12 rfl ?_
    obtain ⟨v13, e13, hF⟩ := Option.bind_eq_some_iff.mp hF
    refine q_fR d_X0_doAll_13 f_X0_75 e13 ?_
    refine g_iloadn d_X0_doAll_16 rfl ?_
    obtain ⟨v17, e17, hF⟩ := Option.bind_eq_some_iff.mp hF
    refine q_aJ d_X0_doAll_17 e17 ?_
    obtain ⟨⟨r18, h18⟩, e18, hF⟩ := Option.bind_eq_some_iff.mp hF
    try dsimp only at hF
    refine q_callS [.ref x0, .ref x1, .long v17] [] rfl d_X0_doAll_18 s_X0_79 (by omega) rfl (Nat.le_of_ble_eq_true rfl) (R_X0_doOne _ _ _ _ (by omega) e18) ?_
    refine g_if_eq 26 d_X0_doAll_21 rfl (fun c21 => ?_) (fun c21 => ?_)
    · have hF := x_t hF c21
      refine q_iinc (1) [.ref x0, .ref x1, .ref x2, .int (x3 + 1)] d_X0_doAll_26 ic_1 rfl (by decide) rfl ?_
      refine g_goto 2 d_X0_doAll_29 rfl ?_
      exact q_to (xs_r (xs_r (xs_r (xs_r xs_n)))) (ih _ _ _ _ _ hF)
    · have hF := x_f hF c21
      refine g_iloadn d_X0_doAll_24 rfl ?_
      obtain ⟨rfl, rfl⟩ := x_inj hF
      exact g_iret d_X0_doAll_25 rfl hq
def F_X0_doAll (x0 : Nat) (x1 : Nat) (x2 : Nat) (h : xH) : Option (Int32 × xH) := F_X0_doAll_b2 FU x0 x1 x2 0 h
theorem R_X0_doAll {Γ : xG} {l : Launch} {d : Nat} {r : Int32} {h' : xH} (x0 : Nat) (x1 : Nat) (x2 : Nat) (h : xH) (hdp : 3 ≤ d) (hF : F_X0_doAll x0 x1 x2 h = some (r, h')) : Gm Γ l d 0 0 m_X0_doAll [.ref x0, .ref x1, .ref x2] h (fun a u => a = some (.int r) ∧ u = h') := by
  refine Gm.of pn_X0 (Nat.le_of_ble_eq_true rfl) ?_
  show Gd Γ l d m_X0_doAll 0 [.ref x0, .ref x1, .ref x2, xhole] [] h 0 0 _
  generalize hQ : (fun (a : Option Value) (u : xH) => a = some (.int r) ∧ u = h') = Q
  have hq : Q (some (.int r)) h' := by rw [← hQ]; exact ⟨rfl, rfl⟩
  clear hQ
  unfold F_X0_doAll at hF
  refine g_ic (0) d_X0_doAll_0 ic_0 ?_
  refine q_istoren [.ref x0, .ref x1, .ref x2, .int 0] d_X0_doAll_1 (by decide) rfl ?_
  exact q_to (xs_r (xs_r (xs_r (xs_r xs_n)))) (R_X0_doAll_b2 hdp hq FU _ _ _ _ _ hF)
theorem d_X0_nextSeed_0 : decode cX0_nextSeed 0 = .ok (.ldc 90, 2) := by decide +kernel
theorem d_X0_nextSeed_2 : decode cX0_nextSeed 2 = .ok (.iload_n 0, 1) := by decide +kernel
theorem d_X0_nextSeed_3 : decode cX0_nextSeed 3 = .ok (.imul, 1) := by decide +kernel
theorem d_X0_nextSeed_4 : decode cX0_nextSeed 4 = .ok (.sipush 12345, 3) := by decide +kernel
theorem d_X0_nextSeed_7 : decode cX0_nextSeed 7 = .ok (.iadd, 1) := by decide +kernel
theorem d_X0_nextSeed_8 : decode cX0_nextSeed 8 = .ok (.ireturn, 1) := by decide +kernel
def F_X0_nextSeed (x0 : Int32) (h : xH) : Option (Int32 × xH) := some ((((1103515245 : Int32)) * x0) + 12345, h)
theorem R_X0_nextSeed {Γ : xG} {l : Launch} {d : Nat} {r : Int32} {h' : xH} (x0 : Int32) (h : xH) (hdp : 0 ≤ d) (hF : F_X0_nextSeed x0 h = some (r, h')) : Gm Γ l d 0 0 m_X0_nextSeed [.int x0] h (fun a u => a = some (.int r) ∧ u = h') := by
  refine Gm.of pn_X0 (Nat.le_of_ble_eq_true rfl) ?_
  show Gd Γ l d m_X0_nextSeed 0 [.int x0] [] h 0 0 _
  generalize hQ : (fun (a : Option Value) (u : xH) => a = some (.int r) ∧ u = h') = Q
  have hq : Q (some (.int r)) h' := by rw [← hQ]; exact ⟨rfl, rfl⟩
  clear hQ
  unfold F_X0_nextSeed at hF
  refine g_ldc d_X0_nextSeed_0 k_X0_90 ?_
  refine g_iloadn d_X0_nextSeed_2 rfl ?_
  refine g_imul d_X0_nextSeed_3 ?_
  refine g_si (12345) d_X0_nextSeed_4 si_12345 ?_
  refine g_iadd d_X0_nextSeed_7 ?_
  obtain ⟨rfl, rfl⟩ := x_inj hF
  exact g_iret d_X0_nextSeed_8 rfl hq
theorem d_X0_kindOfDeed_0 : decode cX0_kindOfDeed 0 = .ok (.iload_n 0, 1) := by decide +kernel
theorem d_X0_kindOfDeed_1 : decode cX0_kindOfDeed 1 = .ok (.iconst 3, 1) := by decide +kernel
theorem d_X0_kindOfDeed_2 : decode cX0_kindOfDeed 2 = .ok (.if_icmp .ge 7, 3) := by decide +kernel
theorem d_X0_kindOfDeed_5 : decode cX0_kindOfDeed 5 = .ok (.iconst 0, 1) := by decide +kernel
theorem d_X0_kindOfDeed_6 : decode cX0_kindOfDeed 6 = .ok (.goto 9, 3) := by decide +kernel
theorem d_X0_kindOfDeed_9 : decode cX0_kindOfDeed 9 = .ok (.iload_n 0, 1) := by decide +kernel
theorem d_X0_kindOfDeed_10 : decode cX0_kindOfDeed 10 = .ok (.iconst 2, 1) := by decide +kernel
theorem d_X0_kindOfDeed_11 : decode cX0_kindOfDeed 11 = .ok (.isub, 1) := by decide +kernel
theorem d_X0_kindOfDeed_12 : decode cX0_kindOfDeed 12 = .ok (.bipush 100, 2) := by decide +kernel
theorem d_X0_kindOfDeed_14 : decode cX0_kindOfDeed 14 = .ok (.imul, 1) := by decide +kernel
theorem d_X0_kindOfDeed_15 : decode cX0_kindOfDeed 15 = .ok (.ireturn, 1) := by decide +kernel
def F_X0_kindOfDeed (x0 : Int32) (h : xH) : Option (Int32 × xH) := if ((3 : Int32)) ≤ x0 then some ((x0 - 2) * 100, h) else some (0, h)
theorem R_X0_kindOfDeed {Γ : xG} {l : Launch} {d : Nat} {r : Int32} {h' : xH} (x0 : Int32) (h : xH) (hdp : 0 ≤ d) (hF : F_X0_kindOfDeed x0 h = some (r, h')) : Gm Γ l d 0 0 m_X0_kindOfDeed [.int x0] h (fun a u => a = some (.int r) ∧ u = h') := by
  refine Gm.of pn_X0 (Nat.le_of_ble_eq_true rfl) ?_
  show Gd Γ l d m_X0_kindOfDeed 0 [.int x0] [] h 0 0 _
  generalize hQ : (fun (a : Option Value) (u : xH) => a = some (.int r) ∧ u = h') = Q
  have hq : Q (some (.int r)) h' := by rw [← hQ]; exact ⟨rfl, rfl⟩
  clear hQ
  unfold F_X0_kindOfDeed at hF
  refine g_iloadn d_X0_kindOfDeed_0 rfl ?_
  refine g_ic (3) d_X0_kindOfDeed_1 ic_3 ?_
  refine g_icmp_ge 9 d_X0_kindOfDeed_2 rfl (fun c2 => ?_) (fun c2 => ?_)
  · have hF := x_t hF c2
    refine g_iloadn d_X0_kindOfDeed_9 rfl ?_
    refine g_ic (2) d_X0_kindOfDeed_10 ic_2 ?_
    refine g_isub d_X0_kindOfDeed_11 ?_
    refine g_bi (100) d_X0_kindOfDeed_12 bi_100 ?_
    refine g_imul d_X0_kindOfDeed_14 ?_
    obtain ⟨rfl, rfl⟩ := x_inj hF
    exact g_iret d_X0_kindOfDeed_15 rfl hq
  · have hF := x_f hF c2
    refine g_ic (0) d_X0_kindOfDeed_5 ic_0 ?_
    refine g_goto 15 d_X0_kindOfDeed_6 rfl ?_
    obtain ⟨rfl, rfl⟩ := x_inj hF
    exact g_iret d_X0_kindOfDeed_15 rfl hq
theorem d_X0_doByDraws_0 : decode cX0_doByDraws 0 = .ok (.iload_n 2, 1) := by decide +kernel
theorem d_X0_doByDraws_1 : decode cX0_doByDraws 1 = .ok (.istore 4, 2) := by decide +kernel
theorem d_X0_doByDraws_3 : decode cX0_doByDraws 3 = .ok (.iconst 0, 1) := by decide +kernel
theorem d_X0_doByDraws_4 : decode cX0_doByDraws 4 = .ok (.istore 5, 2) := by decide +kernel
theorem d_X0_doByDraws_6 : decode cX0_doByDraws 6 = .ok (.iconst 0, 1) := by decide +kernel
theorem d_X0_doByDraws_7 : decode cX0_doByDraws 7 = .ok (.istore 6, 2) := by decide +kernel
theorem d_X0_doByDraws_9 : decode cX0_doByDraws 9 = .ok (.iload 6, 2) := by decide +kernel
theorem d_X0_doByDraws_11 : decode cX0_doByDraws 11 = .ok (.iload_n 3, 1) := by decide +kernel
theorem d_X0_doByDraws_12 : decode cX0_doByDraws 12 = .ok (.if_icmp .ge 104, 3) := by decide +kernel
theorem d_X0_doByDraws_15 : decode cX0_doByDraws 15 = .ok (.iload 4, 2) := by decide +kernel
theorem d_X0_doByDraws_17 : decode cX0_doByDraws 17 = .ok (.invokestatic 83, 3) := by decide +kernel
theorem d_X0_doByDraws_20 : decode cX0_doByDraws 20 = .ok (.istore 4, 2) := by decide +kernel
theorem d_X0_doByDraws_22 : decode cX0_doByDraws 22 = .ok (.iload 4, 2) := by decide +kernel
theorem d_X0_doByDraws_24 : decode cX0_doByDraws 24 = .ok (.bipush 16, 2) := by decide +kernel
theorem d_X0_doByDraws_26 : decode cX0_doByDraws 26 = .ok (.iushr, 1) := by decide +kernel
theorem d_X0_doByDraws_27 : decode cX0_doByDraws 27 = .ok (.iconst 5, 1) := by decide +kernel
theorem d_X0_doByDraws_28 : decode cX0_doByDraws 28 = .ok (.irem, 1) := by decide +kernel
theorem d_X0_doByDraws_29 : decode cX0_doByDraws 29 = .ok (.istore 7, 2) := by decide +kernel
theorem d_X0_doByDraws_31 : decode cX0_doByDraws 31 = .ok (.iconst (-1), 1) := by decide +kernel
theorem d_X0_doByDraws_32 : decode cX0_doByDraws 32 = .ok (.istore 8, 2) := by decide +kernel
theorem d_X0_doByDraws_34 : decode cX0_doByDraws 34 = .ok (.iload 7, 2) := by decide +kernel
theorem d_X0_doByDraws_36 : decode cX0_doByDraws 36 = .ok (.ifCond .eq 60, 3) := by decide +kernel
theorem d_X0_doByDraws_39 : decode cX0_doByDraws 39 = .ok (.iload 4, 2) := by decide +kernel
theorem d_X0_doByDraws_41 : decode cX0_doByDraws 41 = .ok (.invokestatic 83, 3) := by decide +kernel
theorem d_X0_doByDraws_44 : decode cX0_doByDraws 44 = .ok (.istore 4, 2) := by decide +kernel
theorem d_X0_doByDraws_46 : decode cX0_doByDraws 46 = .ok (.iload 7, 2) := by decide +kernel
theorem d_X0_doByDraws_48 : decode cX0_doByDraws 48 = .ok (.invokestatic 87, 3) := by decide +kernel
theorem d_X0_doByDraws_51 : decode cX0_doByDraws 51 = .ok (.iload 4, 2) := by decide +kernel
theorem d_X0_doByDraws_53 : decode cX0_doByDraws 53 = .ok (.bipush 16, 2) := by decide +kernel
theorem d_X0_doByDraws_55 : decode cX0_doByDraws 55 = .ok (.iushr, 1) := by decide +kernel
theorem d_X0_doByDraws_56 : decode cX0_doByDraws 56 = .ok (.bipush 6, 2) := by decide +kernel
theorem d_X0_doByDraws_58 : decode cX0_doByDraws 58 = .ok (.irem, 1) := by decide +kernel
theorem d_X0_doByDraws_59 : decode cX0_doByDraws 59 = .ok (.bipush 10, 2) := by decide +kernel
theorem d_X0_doByDraws_61 : decode cX0_doByDraws 61 = .ok (.imul, 1) := by decide +kernel
theorem d_X0_doByDraws_62 : decode cX0_doByDraws 62 = .ok (.iadd, 1) := by decide +kernel
theorem d_X0_doByDraws_63 : decode cX0_doByDraws 63 = .ok (.istore 8, 2) := by decide +kernel
theorem d_X0_doByDraws_65 : decode cX0_doByDraws 65 = .ok (.iload 4, 2) := by decide +kernel
theorem d_X0_doByDraws_67 : decode cX0_doByDraws 67 = .ok (.invokestatic 83, 3) := by decide +kernel
theorem d_X0_doByDraws_70 : decode cX0_doByDraws 70 = .ok (.istore 4, 2) := by decide +kernel
theorem d_X0_doByDraws_72 : decode cX0_doByDraws 72 = .ok (.iload 8, 2) := by decide +kernel
theorem d_X0_doByDraws_74 : decode cX0_doByDraws 74 = .ok (.iload 4, 2) := by decide +kernel
theorem d_X0_doByDraws_76 : decode cX0_doByDraws 76 = .ok (.bipush 16, 2) := by decide +kernel
theorem d_X0_doByDraws_78 : decode cX0_doByDraws 78 = .ok (.iushr, 1) := by decide +kernel
theorem d_X0_doByDraws_79 : decode cX0_doByDraws 79 = .ok (.iload 7, 2) := by decide +kernel
theorem d_X0_doByDraws_81 : decode cX0_doByDraws 81 = .ok (.iconst 3, 1) := by decide +kernel
theorem d_X0_doByDraws_82 : decode cX0_doByDraws 82 = .ok (.if_icmp .ge 8, 3) := by decide +kernel
theorem d_X0_doByDraws_85 : decode cX0_doByDraws 85 = .ok (.bipush 6, 2) := by decide +kernel
theorem d_X0_doByDraws_87 : decode cX0_doByDraws 87 = .ok (.goto 5, 3) := by decide +kernel
theorem d_X0_doByDraws_90 : decode cX0_doByDraws 90 = .ok (.bipush 10, 2) := by decide +kernel
theorem d_X0_doByDraws_92 : decode cX0_doByDraws 92 = .ok (.irem, 1) := by decide +kernel
theorem d_X0_doByDraws_93 : decode cX0_doByDraws 93 = .ok (.iadd, 1) := by decide +kernel
theorem d_X0_doByDraws_94 : decode cX0_doByDraws 94 = .ok (.istore 8, 2) := by decide +kernel
theorem d_X0_doByDraws_96 : decode cX0_doByDraws 96 = .ok (.aload_n 0, 1) := by decide +kernel
theorem d_X0_doByDraws_97 : decode cX0_doByDraws 97 = .ok (.aload_n 1, 1) := by decide +kernel
theorem d_X0_doByDraws_98 : decode cX0_doByDraws 98 = .ok (.iload 8, 2) := by decide +kernel
theorem d_X0_doByDraws_100 : decode cX0_doByDraws 100 = .ok (.i2l, 1) := by decide +kernel
theorem d_X0_doByDraws_101 : decode cX0_doByDraws 101 = .ok (.invokestatic 79, 3) := by decide +kernel
theorem d_X0_doByDraws_104 : decode cX0_doByDraws 104 = .ok (.ifCond .ne 6, 3) := by decide +kernel
theorem d_X0_doByDraws_107 : decode cX0_doByDraws 107 = .ok (.iinc 5 1, 3) := by decide +kernel
theorem d_X0_doByDraws_110 : decode cX0_doByDraws 110 = .ok (.iinc 6 1, 3) := by decide +kernel
theorem d_X0_doByDraws_113 : decode cX0_doByDraws 113 = .ok (.goto (-104), 3) := by decide +kernel
theorem d_X0_doByDraws_116 : decode cX0_doByDraws 116 = .ok (.iload 5, 2) := by decide +kernel
theorem d_X0_doByDraws_118 : decode cX0_doByDraws 118 = .ok (.ireturn, 1) := by decide +kernel
def F_X0_doByDraws_b96 (k9 : Nat → Nat → Int32 → Int32 → Int32 → Int32 → xH → Option (Int32 × xH)) (x0 : Nat) (x1 : Nat) (x3 : Int32) (x4 : Int32) (x5 : Int32) (x6 : Int32) (x8 : Int32) (h : xH) : Option (Int32 × xH) := (F_X0_doOne x0 x1 x8.toInt64 h).bind fun z101 => if ¬ z101.1 = 0 then k9 x0 x1 x3 x4 x5 (x6 + 1) z101.2 else k9 x0 x1 x3 x4 (x5 + 1) (x6 + 1) z101.2
theorem R_X0_doByDraws_b96 {Γ : xG} {l : Launch} {d : Nat} {Q : Option Value → xH → Prop} {r : Int32} {h' : xH} {k9 : Nat → Nat → Int32 → Int32 → Int32 → Int32 → xH → Option (Int32 × xH)} (K9 : ∀ (x0 : Nat) (x1 : Nat) (x3 : Int32) (x4 : Int32) (x5 : Int32) (x6 : Int32)  (h : xH), k9 x0 x1 x3 x4 x5 x6 h = some (r, h') → Gd Γ l d m_X0_doByDraws 9 [.ref x0, .ref x1, xhole, .int x3, .int x4, .int x5, .int x6, xhole, xhole] [] h 0 0 Q) (hdp : 3 ≤ d) (hq : Q (some (.int r)) h') : ∀ (x0 : Nat) (x1 : Nat) (x3 : Int32) (x4 : Int32) (x5 : Int32) (x6 : Int32) (x8 : Int32) (h : xH), F_X0_doByDraws_b96 k9 x0 x1 x3 x4 x5 x6 x8 h = some (r, h') → Gd Γ l d m_X0_doByDraws 96 [.ref x0, .ref x1, xhole, .int x3, .int x4, .int x5, .int x6, xhole, .int x8] [] h 0 0 Q := by
  intro x0 x1 x3 x4 x5 x6 x8 h hF
  unfold F_X0_doByDraws_b96 at hF
  refine g_aloadn d_X0_doByDraws_96 rfl ?_
  refine g_aloadn d_X0_doByDraws_97 rfl ?_
  refine g_iload d_X0_doByDraws_98 rfl ?_
  refine g_i2l d_X0_doByDraws_100 ?_
  obtain ⟨⟨r101, h101⟩, e101, hF⟩ := Option.bind_eq_some_iff.mp hF
  try dsimp only at hF
  refine q_callS [.ref x0, .ref x1, .long (x8.toInt64)] [] rfl d_X0_doByDraws_101 s_X0_79 (by omega) rfl (Nat.le_of_ble_eq_true rfl) (R_X0_doOne _ _ _ _ (by omega) e101) ?_
  refine g_if_ne 110 d_X0_doByDraws_104 rfl (fun c104 => ?_) (fun c104 => ?_)
  · have hF := x_t hF c104
    refine q_iinc (1) [.ref x0, .ref x1, xhole, .int x3, .int x4, .int x5, .int (x6 + 1), xhole, .int x8] d_X0_doByDraws_110 ic_1 rfl (by decide) rfl ?_
    refine g_goto 9 d_X0_doByDraws_113 rfl ?_
    exact q_to (xs_r (xs_r (xs_h (xs_r (xs_r (xs_r (xs_r (xs_h (xs_h xs_n))))))))) (K9 _ _ _ _ _ _ _ hF)
  · have hF := x_f hF (not_not_intro c104)
    refine q_iinc (1) [.ref x0, .ref x1, xhole, .int x3, .int x4, .int (x5 + 1), .int x6, xhole, .int x8] d_X0_doByDraws_107 ic_1 rfl (by decide) rfl ?_
    refine q_iinc (1) [.ref x0, .ref x1, xhole, .int x3, .int x4, .int (x5 + 1), .int (x6 + 1), xhole, .int x8] d_X0_doByDraws_110 ic_1 rfl (by decide) rfl ?_
    refine g_goto 9 d_X0_doByDraws_113 rfl ?_
    exact q_to (xs_r (xs_r (xs_h (xs_r (xs_r (xs_r (xs_r (xs_h (xs_h xs_n))))))))) (K9 _ _ _ _ _ _ _ hF)
def F_X0_doByDraws_b92 (k9 : Nat → Nat → Int32 → Int32 → Int32 → Int32 → xH → Option (Int32 × xH)) (x0 : Nat) (x1 : Nat) (x3 : Int32) (x4 : Int32) (x5 : Int32) (x6 : Int32) (s0 : Int32) (s1 : Int32) (s2 : Int32) (h : xH) : Option (Int32 × xH) := if s2 = 0 then none else F_X0_doByDraws_b96 k9 x0 x1 x3 x4 x5 x6 (s0 + (irm s1 s2)) h
theorem R_X0_doByDraws_b92 {Γ : xG} {l : Launch} {d : Nat} {Q : Option Value → xH → Prop} {r : Int32} {h' : xH} {k9 : Nat → Nat → Int32 → Int32 → Int32 → Int32 → xH → Option (Int32 × xH)} (K9 : ∀ (x0 : Nat) (x1 : Nat) (x3 : Int32) (x4 : Int32) (x5 : Int32) (x6 : Int32)  (h : xH), k9 x0 x1 x3 x4 x5 x6 h = some (r, h') → Gd Γ l d m_X0_doByDraws 9 [.ref x0, .ref x1, xhole, .int x3, .int x4, .int x5, .int x6, xhole, xhole] [] h 0 0 Q) (hdp : 3 ≤ d) (hq : Q (some (.int r)) h') : ∀ (x0 : Nat) (x1 : Nat) (x3 : Int32) (x4 : Int32) (x5 : Int32) (x6 : Int32) (s0 : Int32) (s1 : Int32) (s2 : Int32) (h : xH), F_X0_doByDraws_b92 k9 x0 x1 x3 x4 x5 x6 s0 s1 s2 h = some (r, h') → Gd Γ l d m_X0_doByDraws 92 [.ref x0, .ref x1, xhole, .int x3, .int x4, .int x5, .int x6, xhole, xhole] [.int s2, .int s1, .int s0] h 0 0 Q := by
  intro x0 x1 x3 x4 x5 x6 s0 s1 s2 h hF
  unfold F_X0_doByDraws_b92 at hF
  rcases x_nz hF with ⟨z92, hF⟩
  refine q_irem d_X0_doByDraws_92 z92 ?_
  refine g_iadd d_X0_doByDraws_93 ?_
  refine q_istore [.ref x0, .ref x1, xhole, .int x3, .int x4, .int x5, .int x6, xhole, .int (s0 + (irm s1 s2))] d_X0_doByDraws_94 (by decide) rfl ?_
  exact q_to (xs_r (xs_r (xs_h (xs_r (xs_r (xs_r (xs_r (xs_h (xs_r xs_n))))))))) (R_X0_doByDraws_b96 K9 hdp hq _ _ _ _ _ _ _ _ hF)
def F_X0_doByDraws_b9 : Nat → Nat → Nat → Int32 → Int32 → Int32 → Int32 → xH → Option (Int32 × xH)
  | 0, _, _, _, _, _, _, _ => none
  | n + 1, x0, x1, x3, x4, x5, x6, h => if x3 ≤ x6 then some (x5, h) else (F_X0_nextSeed x4 h).bind fun z17 => if (irm (ush z17.1 16) 5) = 0 then F_X0_doByDraws_b96 (F_X0_doByDraws_b9 n) x0 x1 x3 z17.1 x5 x6 ((-1)) z17.2 else (F_X0_nextSeed z17.1 z17.2).bind fun z41 => (F_X0_kindOfDeed (irm (ush z17.1 16) 5) z41.2).bind fun z48 => (F_X0_nextSeed z41.1 z48.2).bind fun z67 => if ((3 : Int32)) ≤ (irm (ush z17.1 16) 5) then F_X0_doByDraws_b92 (F_X0_doByDraws_b9 n) x0 x1 x3 z67.1 x5 x6 (z48.1 + ((irm (ush z41.1 16) 6) * 10)) (ush z67.1 16) 10 z67.2 else F_X0_doByDraws_b92 (F_X0_doByDraws_b9 n) x0 x1 x3 z67.1 x5 x6 (z48.1 + ((irm (ush z41.1 16) 6) * 10)) (ush z67.1 16) 6 z67.2
theorem R_X0_doByDraws_b9 {Γ : xG} {l : Launch} {d : Nat} {Q : Option Value → xH → Prop} {r : Int32} {h' : xH} (hdp : 3 ≤ d) (hq : Q (some (.int r)) h') : ∀ (n : Nat) (x0 : Nat) (x1 : Nat) (x3 : Int32) (x4 : Int32) (x5 : Int32) (x6 : Int32) (h : xH), F_X0_doByDraws_b9 n x0 x1 x3 x4 x5 x6 h = some (r, h') → Gd Γ l d m_X0_doByDraws 9 [.ref x0, .ref x1, xhole, .int x3, .int x4, .int x5, .int x6, xhole, xhole] [] h 0 0 Q := by
  intro n
  induction n with
  | zero => intro x0 x1 x3 x4 x5 x6 h hF; cases hF
  | succ n ih =>
  intro x0 x1 x3 x4 x5 x6 h hF
  rw [F_X0_doByDraws_b9] at hF
  refine g_iload d_X0_doByDraws_9 rfl ?_
  refine g_iloadn d_X0_doByDraws_11 rfl ?_
  refine g_icmp_ge 116 d_X0_doByDraws_12 rfl (fun c12 => ?_) (fun c12 => ?_)
  · have hF := x_t hF c12
    refine g_iload d_X0_doByDraws_116 rfl ?_
    obtain ⟨rfl, rfl⟩ := x_inj hF
    exact g_iret d_X0_doByDraws_118 rfl hq
  · have hF := x_f hF c12
    refine g_iload d_X0_doByDraws_15 rfl ?_
    obtain ⟨⟨r17, h17⟩, e17, hF⟩ := Option.bind_eq_some_iff.mp hF
    try dsimp only at hF
    refine q_callS [.int x4] [] rfl d_X0_doByDraws_17 s_X0_83 (by omega) rfl (Nat.le_of_ble_eq_true rfl) (R_X0_nextSeed _ _ (by omega) e17) ?_
    refine q_istore [.ref x0, .ref x1, xhole, .int x3, .int (r17), .int x5, .int x6, xhole, xhole] d_X0_doByDraws_20 (by decide) rfl ?_
    refine g_iload d_X0_doByDraws_22 rfl ?_
    refine g_bi (16) d_X0_doByDraws_24 bi_16 ?_
    refine q_iushr d_X0_doByDraws_26 ?_
    refine g_ic (5) d_X0_doByDraws_27 ic_5 ?_
    refine q_irem d_X0_doByDraws_28 (by decide) ?_
    refine q_istore [.ref x0, .ref x1, xhole, .int x3, .int (r17), .int x5, .int x6, .int (irm (ush r17 16) 5), xhole] d_X0_doByDraws_29 (by decide) rfl ?_
    refine g_ic (-1) d_X0_doByDraws_31 ic_m1 ?_
    refine q_istore [.ref x0, .ref x1, xhole, .int x3, .int (r17), .int x5, .int x6, .int (irm (ush r17 16) 5), .int ((-1))] d_X0_doByDraws_32 (by decide) rfl ?_
    refine g_iload d_X0_doByDraws_34 rfl ?_
    refine g_if_eq 96 d_X0_doByDraws_36 rfl (fun c36 => ?_) (fun c36 => ?_)
    · have hF := x_t hF c36
      exact q_to (xs_r (xs_r (xs_h (xs_r (xs_r (xs_r (xs_r (xs_h (xs_r xs_n))))))))) (R_X0_doByDraws_b96 ih hdp hq _ _ _ _ _ _ _ _ hF)
    · have hF := x_f hF c36
      refine g_iload d_X0_doByDraws_39 rfl ?_
      obtain ⟨⟨r41, h41⟩, e41, hF⟩ := Option.bind_eq_some_iff.mp hF
      try dsimp only at hF
      refine q_callS [.int (r17)] [] rfl d_X0_doByDraws_41 s_X0_83 (by omega) rfl (Nat.le_of_ble_eq_true rfl) (R_X0_nextSeed _ _ (by omega) e41) ?_
      refine q_istore [.ref x0, .ref x1, xhole, .int x3, .int (r41), .int x5, .int x6, .int (irm (ush r17 16) 5), .int ((-1))] d_X0_doByDraws_44 (by decide) rfl ?_
      refine g_iload d_X0_doByDraws_46 rfl ?_
      obtain ⟨⟨r48, h48⟩, e48, hF⟩ := Option.bind_eq_some_iff.mp hF
      try dsimp only at hF
      refine q_callS [.int (irm (ush r17 16) 5)] [] rfl d_X0_doByDraws_48 s_X0_87 (by omega) rfl (Nat.le_of_ble_eq_true rfl) (R_X0_kindOfDeed _ _ (by omega) e48) ?_
      refine g_iload d_X0_doByDraws_51 rfl ?_
      refine g_bi (16) d_X0_doByDraws_53 bi_16 ?_
      refine q_iushr d_X0_doByDraws_55 ?_
      refine g_bi (6) d_X0_doByDraws_56 bi_6 ?_
      refine q_irem d_X0_doByDraws_58 (by decide) ?_
      refine g_bi (10) d_X0_doByDraws_59 bi_10 ?_
      refine g_imul d_X0_doByDraws_61 ?_
      refine g_iadd d_X0_doByDraws_62 ?_
      refine q_istore [.ref x0, .ref x1, xhole, .int x3, .int (r41), .int x5, .int x6, .int (irm (ush r17 16) 5), .int (r48 + ((irm (ush r41 16) 6) * 10))] d_X0_doByDraws_63 (by decide) rfl ?_
      refine g_iload d_X0_doByDraws_65 rfl ?_
      obtain ⟨⟨r67, h67⟩, e67, hF⟩ := Option.bind_eq_some_iff.mp hF
      try dsimp only at hF
      refine q_callS [.int (r41)] [] rfl d_X0_doByDraws_67 s_X0_83 (by omega) rfl (Nat.le_of_ble_eq_true rfl) (R_X0_nextSeed _ _ (by omega) e67) ?_
      refine q_istore [.ref x0, .ref x1, xhole, .int x3, .int (r67), .int x5, .int x6, .int (irm (ush r17 16) 5), .int (r48 + ((irm (ush r41 16) 6) * 10))] d_X0_doByDraws_70 (by decide) rfl ?_
      refine g_iload d_X0_doByDraws_72 rfl ?_
      refine g_iload d_X0_doByDraws_74 rfl ?_
      refine g_bi (16) d_X0_doByDraws_76 bi_16 ?_
      refine q_iushr d_X0_doByDraws_78 ?_
      refine g_iload d_X0_doByDraws_79 rfl ?_
      refine g_ic (3) d_X0_doByDraws_81 ic_3 ?_
      refine g_icmp_ge 90 d_X0_doByDraws_82 rfl (fun c82 => ?_) (fun c82 => ?_)
      · have hF := x_t hF c82
        refine g_bi (10) d_X0_doByDraws_90 bi_10 ?_
        exact q_to (xs_r (xs_r (xs_h (xs_r (xs_r (xs_r (xs_r (xs_h (xs_h xs_n))))))))) (R_X0_doByDraws_b92 ih hdp hq _ _ _ _ _ _ _ _ _ _ hF)
      · have hF := x_f hF c82
        refine g_bi (6) d_X0_doByDraws_85 bi_6 ?_
        refine g_goto 92 d_X0_doByDraws_87 rfl ?_
        exact q_to (xs_r (xs_r (xs_h (xs_r (xs_r (xs_r (xs_r (xs_h (xs_h xs_n))))))))) (R_X0_doByDraws_b92 ih hdp hq _ _ _ _ _ _ _ _ _ _ hF)
def F_X0_doByDraws (x0 : Nat) (x1 : Nat) (x2 : Int32) (x3 : Int32) (h : xH) : Option (Int32 × xH) := F_X0_doByDraws_b9 FU x0 x1 x3 x2 0 0 h
theorem R_X0_doByDraws {Γ : xG} {l : Launch} {d : Nat} {r : Int32} {h' : xH} (x0 : Nat) (x1 : Nat) (x2 : Int32) (x3 : Int32) (h : xH) (hdp : 3 ≤ d) (hF : F_X0_doByDraws x0 x1 x2 x3 h = some (r, h')) : Gm Γ l d 0 0 m_X0_doByDraws [.ref x0, .ref x1, .int x2, .int x3] h (fun a u => a = some (.int r) ∧ u = h') := by
  refine Gm.of pn_X0 (Nat.le_of_ble_eq_true rfl) ?_
  show Gd Γ l d m_X0_doByDraws 0 [.ref x0, .ref x1, .int x2, .int x3, xhole, xhole, xhole, xhole, xhole] [] h 0 0 _
  generalize hQ : (fun (a : Option Value) (u : xH) => a = some (.int r) ∧ u = h') = Q
  have hq : Q (some (.int r)) h' := by rw [← hQ]; exact ⟨rfl, rfl⟩
  clear hQ
  unfold F_X0_doByDraws at hF
  refine g_iloadn d_X0_doByDraws_0 rfl ?_
  refine q_istore [.ref x0, .ref x1, .int x2, .int x3, .int x2, xhole, xhole, xhole, xhole] d_X0_doByDraws_1 (by decide) rfl ?_
  refine g_ic (0) d_X0_doByDraws_3 ic_0 ?_
  refine q_istore [.ref x0, .ref x1, .int x2, .int x3, .int x2, .int 0, xhole, xhole, xhole] d_X0_doByDraws_4 (by decide) rfl ?_
  refine g_ic (0) d_X0_doByDraws_6 ic_0 ?_
  refine q_istore [.ref x0, .ref x1, .int x2, .int x3, .int x2, .int 0, .int 0, xhole, xhole] d_X0_doByDraws_7 (by decide) rfl ?_
  exact q_to (xs_r (xs_r (xs_h (xs_r (xs_r (xs_r (xs_r (xs_h (xs_h xs_n))))))))) (R_X0_doByDraws_b9 hdp hq FU _ _ _ _ _ _ _ hF)
theorem d_X6_hasFound_0 : decode cX6_hasFound 0 = .ok (.aload_n 0, 1) := by decide +kernel
theorem d_X6_hasFound_1 : decode cX6_hasFound 1 = .ok (.getfield 21, 3) := by decide +kernel
theorem d_X6_hasFound_4 : decode cX6_hasFound 4 = .ok (.iload_n 1, 1) := by decide +kernel
theorem d_X6_hasFound_5 : decode cX6_hasFound 5 = .ok (.ishr, 1) := by decide +kernel
theorem d_X6_hasFound_6 : decode cX6_hasFound 6 = .ok (.iconst 1, 1) := by decide +kernel
theorem d_X6_hasFound_7 : decode cX6_hasFound 7 = .ok (.iand, 1) := by decide +kernel
theorem d_X6_hasFound_8 : decode cX6_hasFound 8 = .ok (.iconst 1, 1) := by decide +kernel
theorem d_X6_hasFound_9 : decode cX6_hasFound 9 = .ok (.if_icmp .ne 7, 3) := by decide +kernel
theorem d_X6_hasFound_12 : decode cX6_hasFound 12 = .ok (.iconst 1, 1) := by decide +kernel
theorem d_X6_hasFound_13 : decode cX6_hasFound 13 = .ok (.goto 4, 3) := by decide +kernel
theorem d_X6_hasFound_16 : decode cX6_hasFound 16 = .ok (.iconst 0, 1) := by decide +kernel
theorem d_X6_hasFound_17 : decode cX6_hasFound 17 = .ok (.ireturn, 1) := by decide +kernel
def F_X6_hasFound (x0 : Nat) (x1 : Int32) (h : xH) : Option (Int32 × xH) := (fI h x0 5 3).bind fun v1 => if ¬ ((v1 >>> (x1 &&& 31)) &&& 1) = ((1 : Int32)) then some (0, h) else some (1, h)
theorem R_X6_hasFound {Γ : xG} {l : Launch} {d : Nat} {r : Int32} {h' : xH} (x0 : Nat) (x1 : Int32) (h : xH) (hdp : 0 ≤ d) (hF : F_X6_hasFound x0 x1 h = some (r, h')) : Gm Γ l d 0 0 m_X6_hasFound [.ref x0, .int x1] h (fun a u => a = some (.int r) ∧ u = h') := by
  refine Gm.of pn_X6 (Nat.le_of_ble_eq_true rfl) ?_
  show Gd Γ l d m_X6_hasFound 0 [.ref x0, .int x1] [] h 0 0 _
  generalize hQ : (fun (a : Option Value) (u : xH) => a = some (.int r) ∧ u = h') = Q
  have hq : Q (some (.int r)) h' := by rw [← hQ]; exact ⟨rfl, rfl⟩
  clear hQ
  unfold F_X6_hasFound at hF
  refine g_aloadn d_X6_hasFound_0 rfl ?_
  obtain ⟨v1, e1, hF⟩ := Option.bind_eq_some_iff.mp hF
  refine q_fI d_X6_hasFound_1 f_X6_21 e1 ?_
  refine g_iloadn d_X6_hasFound_4 rfl ?_
  refine g_ishr d_X6_hasFound_5 ?_
  refine g_ic (1) d_X6_hasFound_6 ic_1 ?_
  refine g_iand d_X6_hasFound_7 ?_
  refine g_ic (1) d_X6_hasFound_8 ic_1 ?_
  refine g_icmp_ne 16 d_X6_hasFound_9 rfl (fun c9 => ?_) (fun c9 => ?_)
  · have hF := x_t hF c9
    refine g_ic (0) d_X6_hasFound_16 ic_0 ?_
    obtain ⟨rfl, rfl⟩ := x_inj hF
    exact g_zret d_X6_hasFound_17 rfl rfl hq
  · have hF := x_f hF (not_not_intro c9)
    refine g_ic (1) d_X6_hasFound_12 ic_1 ?_
    refine g_goto 17 d_X6_hasFound_13 rfl ?_
    obtain ⟨rfl, rfl⟩ := x_inj hF
    exact g_zret d_X6_hasFound_17 rfl rfl hq
theorem d_X10_withNeighbours_0 : decode cX10_withNeighbours 0 = .ok (.iload_n 1, 1) := by decide +kernel
theorem d_X10_withNeighbours_1 : decode cX10_withNeighbours 1 = .ok (.istore_n 2, 1) := by decide +kernel
theorem d_X10_withNeighbours_2 : decode cX10_withNeighbours 2 = .ok (.iconst 0, 1) := by decide +kernel
theorem d_X10_withNeighbours_3 : decode cX10_withNeighbours 3 = .ok (.istore_n 3, 1) := by decide +kernel
theorem d_X10_withNeighbours_4 : decode cX10_withNeighbours 4 = .ok (.iload_n 3, 1) := by decide +kernel
theorem d_X10_withNeighbours_5 : decode cX10_withNeighbours 5 = .ok (.aload_n 0, 1) := by decide +kernel
theorem d_X10_withNeighbours_6 : decode cX10_withNeighbours 6 = .ok (.getfield 21, 3) := by decide +kernel
theorem d_X10_withNeighbours_9 : decode cX10_withNeighbours 9 = .ok (.if_icmp .ge 27, 3) := by decide +kernel
theorem d_X10_withNeighbours_12 : decode cX10_withNeighbours 12 = .ok (.iload_n 1, 1) := by decide +kernel
theorem d_X10_withNeighbours_13 : decode cX10_withNeighbours 13 = .ok (.iload_n 3, 1) := by decide +kernel
theorem d_X10_withNeighbours_14 : decode cX10_withNeighbours 14 = .ok (.ishr, 1) := by decide +kernel
theorem d_X10_withNeighbours_15 : decode cX10_withNeighbours 15 = .ok (.iconst 1, 1) := by decide +kernel
theorem d_X10_withNeighbours_16 : decode cX10_withNeighbours 16 = .ok (.iand, 1) := by decide +kernel
theorem d_X10_withNeighbours_17 : decode cX10_withNeighbours 17 = .ok (.iconst 1, 1) := by decide +kernel
theorem d_X10_withNeighbours_18 : decode cX10_withNeighbours 18 = .ok (.if_icmp .ne 12, 3) := by decide +kernel
theorem d_X10_withNeighbours_21 : decode cX10_withNeighbours 21 = .ok (.iload_n 2, 1) := by decide +kernel
theorem d_X10_withNeighbours_22 : decode cX10_withNeighbours 22 = .ok (.aload_n 0, 1) := by decide +kernel
theorem d_X10_withNeighbours_23 : decode cX10_withNeighbours 23 = .ok (.getfield 40, 3) := by decide +kernel
theorem d_X10_withNeighbours_26 : decode cX10_withNeighbours 26 = .ok (.iload_n 3, 1) := by decide +kernel
theorem d_X10_withNeighbours_27 : decode cX10_withNeighbours 27 = .ok (.iaload, 1) := by decide +kernel
theorem d_X10_withNeighbours_28 : decode cX10_withNeighbours 28 = .ok (.ior, 1) := by decide +kernel
theorem d_X10_withNeighbours_29 : decode cX10_withNeighbours 29 = .ok (.istore_n 2, 1) := by decide +kernel
theorem d_X10_withNeighbours_30 : decode cX10_withNeighbours 30 = .ok (.iinc 3 1, 3) := by decide +kernel
theorem d_X10_withNeighbours_33 : decode cX10_withNeighbours 33 = .ok (.goto (-29), 3) := by decide +kernel
theorem d_X10_withNeighbours_36 : decode cX10_withNeighbours 36 = .ok (.iload_n 2, 1) := by decide +kernel
theorem d_X10_withNeighbours_37 : decode cX10_withNeighbours 37 = .ok (.ireturn, 1) := by decide +kernel
def F_X10_withNeighbours_b4 : Nat → Nat → Int32 → Int32 → Int32 → xH → Option (Int32 × xH)
  | 0, _, _, _, _, _ => none
  | n + 1, x0, x1, x2, x3, h => (fI h x0 9 3).bind fun v6 => if v6 ≤ x3 then some (x2, h) else if ¬ ((x1 >>> (x3 &&& 31)) &&& 1) = ((1 : Int32)) then F_X10_withNeighbours_b4 n x0 x1 x2 (x3 + 1) h else (fR h x0 9 9).bind fun v23 => (aI h v23 x3).bind fun v27 => F_X10_withNeighbours_b4 n x0 x1 (x2 ||| v27) (x3 + 1) h
theorem R_X10_withNeighbours_b4 {Γ : xG} {l : Launch} {d : Nat} {Q : Option Value → xH → Prop} {r : Int32} {h' : xH} (hdp : 0 ≤ d) (hq : Q (some (.int r)) h') : ∀ (n : Nat) (x0 : Nat) (x1 : Int32) (x2 : Int32) (x3 : Int32) (h : xH), F_X10_withNeighbours_b4 n x0 x1 x2 x3 h = some (r, h') → Gd Γ l d m_X10_withNeighbours 4 [.ref x0, .int x1, .int x2, .int x3] [] h 0 0 Q := by
  intro n
  induction n with
  | zero => intro x0 x1 x2 x3 h hF; cases hF
  | succ n ih =>
  intro x0 x1 x2 x3 h hF
  rw [F_X10_withNeighbours_b4] at hF
  refine g_iloadn d_X10_withNeighbours_4 rfl ?_
  refine g_aloadn d_X10_withNeighbours_5 rfl ?_
  obtain ⟨v6, e6, hF⟩ := Option.bind_eq_some_iff.mp hF
  refine q_fI d_X10_withNeighbours_6 f_X10_21 e6 ?_
  refine g_icmp_ge 36 d_X10_withNeighbours_9 rfl (fun c9 => ?_) (fun c9 => ?_)
  · have hF := x_t hF c9
    refine g_iloadn d_X10_withNeighbours_36 rfl ?_
    obtain ⟨rfl, rfl⟩ := x_inj hF
    exact g_iret d_X10_withNeighbours_37 rfl hq
  · have hF := x_f hF c9
    refine g_iloadn d_X10_withNeighbours_12 rfl ?_
    refine g_iloadn d_X10_withNeighbours_13 rfl ?_
    refine g_ishr d_X10_withNeighbours_14 ?_
    refine g_ic (1) d_X10_withNeighbours_15 ic_1 ?_
    refine g_iand d_X10_withNeighbours_16 ?_
    refine g_ic (1) d_X10_withNeighbours_17 ic_1 ?_
    refine g_icmp_ne 30 d_X10_withNeighbours_18 rfl (fun c18 => ?_) (fun c18 => ?_)
    · have hF := x_t hF c18
      refine q_iinc (1) [.ref x0, .int x1, .int x2, .int (x3 + 1)] d_X10_withNeighbours_30 ic_1 rfl (by decide) rfl ?_
      refine g_goto 4 d_X10_withNeighbours_33 rfl ?_
      exact q_to (xs_r (xs_r (xs_r (xs_r xs_n)))) (ih _ _ _ _ _ hF)
    · have hF := x_f hF (not_not_intro c18)
      refine g_iloadn d_X10_withNeighbours_21 rfl ?_
      refine g_aloadn d_X10_withNeighbours_22 rfl ?_
      obtain ⟨v23, e23, hF⟩ := Option.bind_eq_some_iff.mp hF
      refine q_fR d_X10_withNeighbours_23 f_X10_40 e23 ?_
      refine g_iloadn d_X10_withNeighbours_26 rfl ?_
      obtain ⟨v27, e27, hF⟩ := Option.bind_eq_some_iff.mp hF
      refine q_aI d_X10_withNeighbours_27 e27 ?_
      refine g_ior d_X10_withNeighbours_28 ?_
      refine q_istoren [.ref x0, .int x1, .int (x2 ||| v27), .int x3] d_X10_withNeighbours_29 (by decide) rfl ?_
      refine q_iinc (1) [.ref x0, .int x1, .int (x2 ||| v27), .int (x3 + 1)] d_X10_withNeighbours_30 ic_1 rfl (by decide) rfl ?_
      refine g_goto 4 d_X10_withNeighbours_33 rfl ?_
      exact q_to (xs_r (xs_r (xs_r (xs_r xs_n)))) (ih _ _ _ _ _ hF)
def F_X10_withNeighbours (x0 : Nat) (x1 : Int32) (h : xH) : Option (Int32 × xH) := F_X10_withNeighbours_b4 FU x0 x1 x1 0 h
theorem R_X10_withNeighbours {Γ : xG} {l : Launch} {d : Nat} {r : Int32} {h' : xH} (x0 : Nat) (x1 : Int32) (h : xH) (hdp : 0 ≤ d) (hF : F_X10_withNeighbours x0 x1 h = some (r, h')) : Gm Γ l d 0 0 m_X10_withNeighbours [.ref x0, .int x1] h (fun a u => a = some (.int r) ∧ u = h') := by
  refine Gm.of pn_X10 (Nat.le_of_ble_eq_true rfl) ?_
  show Gd Γ l d m_X10_withNeighbours 0 [.ref x0, .int x1, xhole, xhole] [] h 0 0 _
  generalize hQ : (fun (a : Option Value) (u : xH) => a = some (.int r) ∧ u = h') = Q
  have hq : Q (some (.int r)) h' := by rw [← hQ]; exact ⟨rfl, rfl⟩
  clear hQ
  unfold F_X10_withNeighbours at hF
  refine g_iloadn d_X10_withNeighbours_0 rfl ?_
  refine q_istoren [.ref x0, .int x1, .int x1, xhole] d_X10_withNeighbours_1 (by decide) rfl ?_
  refine g_ic (0) d_X10_withNeighbours_2 ic_0 ?_
  refine q_istoren [.ref x0, .int x1, .int x1, .int 0] d_X10_withNeighbours_3 (by decide) rfl ?_
  exact q_to (xs_r (xs_r (xs_r (xs_r xs_n)))) (R_X10_withNeighbours_b4 hdp hq FU _ _ _ _ _ hF)
theorem d_X10_placesSounding_0 : decode cX10_placesSounding 0 = .ok (.iconst 0, 1) := by decide +kernel
theorem d_X10_placesSounding_1 : decode cX10_placesSounding 1 = .ok (.istore_n 3, 1) := by decide +kernel
theorem d_X10_placesSounding_2 : decode cX10_placesSounding 2 = .ok (.iconst 0, 1) := by decide +kernel
theorem d_X10_placesSounding_3 : decode cX10_placesSounding 3 = .ok (.istore 4, 2) := by decide +kernel
theorem d_X10_placesSounding_5 : decode cX10_placesSounding 5 = .ok (.iload 4, 2) := by decide +kernel
theorem d_X10_placesSounding_7 : decode cX10_placesSounding 7 = .ok (.aload_n 0, 1) := by decide +kernel
theorem d_X10_placesSounding_8 : decode cX10_placesSounding 8 = .ok (.getfield 21, 3) := by decide +kernel
theorem d_X10_placesSounding_11 : decode cX10_placesSounding 11 = .ok (.if_icmp .ge 32, 3) := by decide +kernel
theorem d_X10_placesSounding_14 : decode cX10_placesSounding 14 = .ok (.iload_n 1, 1) := by decide +kernel
theorem d_X10_placesSounding_15 : decode cX10_placesSounding 15 = .ok (.iconst (-1), 1) := by decide +kernel
theorem d_X10_placesSounding_16 : decode cX10_placesSounding 16 = .ok (.if_icmp .eq 27, 3) := by decide +kernel
theorem d_X10_placesSounding_19 : decode cX10_placesSounding 19 = .ok (.aload_n 0, 1) := by decide +kernel
theorem d_X10_placesSounding_20 : decode cX10_placesSounding 20 = .ok (.iload 4, 2) := by decide +kernel
theorem d_X10_placesSounding_22 : decode cX10_placesSounding 22 = .ok (.iload_n 2, 1) := by decide +kernel
theorem d_X10_placesSounding_23 : decode cX10_placesSounding 23 = .ok (.invokevirtual 81, 3) := by decide +kernel
theorem d_X10_placesSounding_26 : decode cX10_placesSounding 26 = .ok (.iload_n 1, 1) := by decide +kernel
theorem d_X10_placesSounding_27 : decode cX10_placesSounding 27 = .ok (.if_icmp .ne 10, 3) := by decide +kernel
theorem d_X10_placesSounding_30 : decode cX10_placesSounding 30 = .ok (.iload_n 3, 1) := by decide +kernel
theorem d_X10_placesSounding_31 : decode cX10_placesSounding 31 = .ok (.iconst 1, 1) := by decide +kernel
theorem d_X10_placesSounding_32 : decode cX10_placesSounding 32 = .ok (.iload 4, 2) := by decide +kernel
theorem d_X10_placesSounding_34 : decode cX10_placesSounding 34 = .ok (.ishl, 1) := by decide +kernel
theorem d_X10_placesSounding_35 : decode cX10_placesSounding 35 = .ok (.ior, 1) := by decide +kernel
theorem d_X10_placesSounding_36 : decode cX10_placesSounding 36 = .ok (.istore_n 3, 1) := by decide +kernel
theorem d_X10_placesSounding_37 : decode cX10_placesSounding 37 = .ok (.iinc 4 1, 3) := by decide +kernel
theorem d_X10_placesSounding_40 : decode cX10_placesSounding 40 = .ok (.goto (-35), 3) := by decide +kernel
theorem d_X10_placesSounding_43 : decode cX10_placesSounding 43 = .ok (.iload_n 3, 1) := by decide +kernel
theorem d_X10_placesSounding_44 : decode cX10_placesSounding 44 = .ok (.ireturn, 1) := by decide +kernel
def F_X10_placesSounding_b5 : Nat → Nat → Int32 → Int32 → Int32 → Int32 → xH → Option (Int32 × xH)
  | 0, _, _, _, _, _, _ => none
  | n + 1, x0, x1, x2, x3, x4, h => (fI h x0 9 3).bind fun v8 => if v8 ≤ x4 then some (x3, h) else if x1 = (((-1) : Int32)) then some (x3, h) else (rc h x0 9).bind fun _ => (F_X10_soundOn x0 x4 x2 h).bind fun z23 => if ¬ z23.1 = x1 then F_X10_placesSounding_b5 n x0 x1 x2 x3 (x4 + 1) z23.2 else F_X10_placesSounding_b5 n x0 x1 x2 (x3 ||| (((1 : Int32)) <<< (x4 &&& 31))) (x4 + 1) z23.2
theorem R_X10_placesSounding_b5 {Γ : xG} {l : Launch} {d : Nat} {Q : Option Value → xH → Prop} {r : Int32} {h' : xH} (hdp : 1 ≤ d) (hq : Q (some (.int r)) h') : ∀ (n : Nat) (x0 : Nat) (x1 : Int32) (x2 : Int32) (x3 : Int32) (x4 : Int32) (h : xH), F_X10_placesSounding_b5 n x0 x1 x2 x3 x4 h = some (r, h') → Gd Γ l d m_X10_placesSounding 5 [.ref x0, .int x1, .int x2, .int x3, .int x4] [] h 0 0 Q := by
  intro n
  induction n with
  | zero => intro x0 x1 x2 x3 x4 h hF; cases hF
  | succ n ih =>
  intro x0 x1 x2 x3 x4 h hF
  rw [F_X10_placesSounding_b5] at hF
  refine g_iload d_X10_placesSounding_5 rfl ?_
  refine g_aloadn d_X10_placesSounding_7 rfl ?_
  obtain ⟨v8, e8, hF⟩ := Option.bind_eq_some_iff.mp hF
  refine q_fI d_X10_placesSounding_8 f_X10_21 e8 ?_
  refine g_icmp_ge 43 d_X10_placesSounding_11 rfl (fun c11 => ?_) (fun c11 => ?_)
  · have hF := x_t hF c11
    refine g_iloadn d_X10_placesSounding_43 rfl ?_
    obtain ⟨rfl, rfl⟩ := x_inj hF
    exact g_iret d_X10_placesSounding_44 rfl hq
  · have hF := x_f hF c11
    refine g_iloadn d_X10_placesSounding_14 rfl ?_
    refine g_ic (-1) d_X10_placesSounding_15 ic_m1 ?_
    refine g_icmp_eq 43 d_X10_placesSounding_16 rfl (fun c16 => ?_) (fun c16 => ?_)
    · have hF := x_t hF c16
      refine g_iloadn d_X10_placesSounding_43 rfl ?_
      obtain ⟨rfl, rfl⟩ := x_inj hF
      exact g_iret d_X10_placesSounding_44 rfl hq
    · have hF := x_f hF c16
      refine g_aloadn d_X10_placesSounding_19 rfl ?_
      refine g_iload d_X10_placesSounding_20 rfl ?_
      refine g_iloadn d_X10_placesSounding_22 rfl ?_
      obtain ⟨_, g23, hF⟩ := Option.bind_eq_some_iff.mp hF
      obtain ⟨⟨r23, h23⟩, e23, hF⟩ := Option.bind_eq_some_iff.mp hF
      try dsimp only at hF
      refine q_callV [.int x4, .int x2] [] rfl d_X10_placesSounding_23 v_X10_81 (by omega) rfl (Nat.le_of_ble_eq_true rfl) (rc_rc g23 (by decide) rfl) (R_X10_soundOn _ _ _ _ (by omega) e23) ?_
      refine g_iloadn d_X10_placesSounding_26 rfl ?_
      refine g_icmp_ne 37 d_X10_placesSounding_27 rfl (fun c27 => ?_) (fun c27 => ?_)
      · have hF := x_t hF c27
        refine q_iinc (1) [.ref x0, .int x1, .int x2, .int x3, .int (x4 + 1)] d_X10_placesSounding_37 ic_1 rfl (by decide) rfl ?_
        refine g_goto 5 d_X10_placesSounding_40 rfl ?_
        exact q_to (xs_r (xs_r (xs_r (xs_r (xs_r xs_n))))) (ih _ _ _ _ _ _ hF)
      · have hF := x_f hF (not_not_intro c27)
        refine g_iloadn d_X10_placesSounding_30 rfl ?_
        refine g_ic (1) d_X10_placesSounding_31 ic_1 ?_
        refine g_iload d_X10_placesSounding_32 rfl ?_
        refine g_ishl d_X10_placesSounding_34 ?_
        refine g_ior d_X10_placesSounding_35 ?_
        refine q_istoren [.ref x0, .int x1, .int x2, .int (x3 ||| (((1 : Int32)) <<< (x4 &&& 31))), .int x4] d_X10_placesSounding_36 (by decide) rfl ?_
        refine q_iinc (1) [.ref x0, .int x1, .int x2, .int (x3 ||| (((1 : Int32)) <<< (x4 &&& 31))), .int (x4 + 1)] d_X10_placesSounding_37 ic_1 rfl (by decide) rfl ?_
        refine g_goto 5 d_X10_placesSounding_40 rfl ?_
        exact q_to (xs_r (xs_r (xs_r (xs_r (xs_r xs_n))))) (ih _ _ _ _ _ _ hF)
def F_X10_placesSounding (x0 : Nat) (x1 : Int32) (x2 : Int32) (h : xH) : Option (Int32 × xH) := F_X10_placesSounding_b5 FU x0 x1 x2 0 0 h
theorem R_X10_placesSounding {Γ : xG} {l : Launch} {d : Nat} {r : Int32} {h' : xH} (x0 : Nat) (x1 : Int32) (x2 : Int32) (h : xH) (hdp : 1 ≤ d) (hF : F_X10_placesSounding x0 x1 x2 h = some (r, h')) : Gm Γ l d 0 0 m_X10_placesSounding [.ref x0, .int x1, .int x2] h (fun a u => a = some (.int r) ∧ u = h') := by
  refine Gm.of pn_X10 (Nat.le_of_ble_eq_true rfl) ?_
  show Gd Γ l d m_X10_placesSounding 0 [.ref x0, .int x1, .int x2, xhole, xhole] [] h 0 0 _
  generalize hQ : (fun (a : Option Value) (u : xH) => a = some (.int r) ∧ u = h') = Q
  have hq : Q (some (.int r)) h' := by rw [← hQ]; exact ⟨rfl, rfl⟩
  clear hQ
  unfold F_X10_placesSounding at hF
  refine g_ic (0) d_X10_placesSounding_0 ic_0 ?_
  refine q_istoren [.ref x0, .int x1, .int x2, .int 0, xhole] d_X10_placesSounding_1 (by decide) rfl ?_
  refine g_ic (0) d_X10_placesSounding_2 ic_0 ?_
  refine q_istore [.ref x0, .int x1, .int x2, .int 0, .int 0] d_X10_placesSounding_3 (by decide) rfl ?_
  exact q_to (xs_r (xs_r (xs_r (xs_r (xs_r xs_n))))) (R_X10_placesSounding_b5 hdp hq FU _ _ _ _ _ _ hF)
theorem d_X1_soonest_0 : decode cX1_soonest 0 = .ok (.aload_n 2, 1) := by decide +kernel
theorem d_X1_soonest_1 : decode cX1_soonest 1 = .ok (.iload_n 3, 1) := by decide +kernel
theorem d_X1_soonest_2 : decode cX1_soonest 2 = .ok (.invokevirtual 22, 3) := by decide +kernel
theorem d_X1_soonest_5 : decode cX1_soonest 5 = .ok (.ifCond .eq 5, 3) := by decide +kernel
theorem d_X1_soonest_8 : decode cX1_soonest 8 = .ok (.iconst 0, 1) := by decide +kernel
theorem d_X1_soonest_9 : decode cX1_soonest 9 = .ok (.ireturn, 1) := by decide +kernel
theorem d_X1_soonest_10 : decode cX1_soonest 10 = .ok (.aload_n 2, 1) := by decide +kernel
theorem d_X1_soonest_11 : decode cX1_soonest 11 = .ok (.getfield 28, 3) := by decide +kernel
theorem d_X1_soonest_14 : decode cX1_soonest 14 = .ok (.iload_n 3, 1) := by decide +kernel
theorem d_X1_soonest_15 : decode cX1_soonest 15 = .ok (.iaload, 1) := by decide +kernel
theorem d_X1_soonest_16 : decode cX1_soonest 16 = .ok (.istore 4, 2) := by decide +kernel
theorem d_X1_soonest_18 : decode cX1_soonest 18 = .ok (.iconst 1, 1) := by decide +kernel
theorem d_X1_soonest_19 : decode cX1_soonest 19 = .ok (.aload_n 2, 1) := by decide +kernel
theorem d_X1_soonest_20 : decode cX1_soonest 20 = .ok (.getfield 31, 3) := by decide +kernel
theorem d_X1_soonest_23 : decode cX1_soonest 23 = .ok (.iload_n 3, 1) := by decide +kernel
theorem d_X1_soonest_24 : decode cX1_soonest 24 = .ok (.iaload, 1) := by decide +kernel
theorem d_X1_soonest_25 : decode cX1_soonest 25 = .ok (.ishl, 1) := by decide +kernel
theorem d_X1_soonest_26 : decode cX1_soonest 26 = .ok (.istore 5, 2) := by decide +kernel
theorem d_X1_soonest_28 : decode cX1_soonest 28 = .ok (.iconst 0, 1) := by decide +kernel
theorem d_X1_soonest_29 : decode cX1_soonest 29 = .ok (.istore 6, 2) := by decide +kernel
theorem d_X1_soonest_31 : decode cX1_soonest 31 = .ok (.iload 6, 2) := by decide +kernel
theorem d_X1_soonest_33 : decode cX1_soonest 33 = .ok (.bipush 18, 2) := by decide +kernel
theorem d_X1_soonest_35 : decode cX1_soonest 35 = .ok (.if_icmp .ge 41, 3) := by decide +kernel
theorem d_X1_soonest_38 : decode cX1_soonest 38 = .ok (.aload_n 1, 1) := by decide +kernel
theorem d_X1_soonest_39 : decode cX1_soonest 39 = .ok (.iload 5, 2) := by decide +kernel
theorem d_X1_soonest_41 : decode cX1_soonest 41 = .ok (.invokevirtual 34, 3) := by decide +kernel
theorem d_X1_soonest_44 : decode cX1_soonest 44 = .ok (.istore 5, 2) := by decide +kernel
theorem d_X1_soonest_46 : decode cX1_soonest 46 = .ok (.iload 5, 2) := by decide +kernel
theorem d_X1_soonest_48 : decode cX1_soonest 48 = .ok (.aload_n 1, 1) := by decide +kernel
theorem d_X1_soonest_49 : decode cX1_soonest 49 = .ok (.iload 4, 2) := by decide +kernel
theorem d_X1_soonest_51 : decode cX1_soonest 51 = .ok (.aload_n 2, 1) := by decide +kernel
theorem d_X1_soonest_52 : decode cX1_soonest 52 = .ok (.getfield 40, 3) := by decide +kernel
theorem d_X1_soonest_55 : decode cX1_soonest 55 = .ok (.iload 6, 2) := by decide +kernel
theorem d_X1_soonest_57 : decode cX1_soonest 57 = .ok (.iadd, 1) := by decide +kernel
theorem d_X1_soonest_58 : decode cX1_soonest 58 = .ok (.invokevirtual 44, 3) := by decide +kernel
theorem d_X1_soonest_61 : decode cX1_soonest 61 = .ok (.iand, 1) := by decide +kernel
theorem d_X1_soonest_62 : decode cX1_soonest 62 = .ok (.ifCond .eq 8, 3) := by decide +kernel
theorem d_X1_soonest_65 : decode cX1_soonest 65 = .ok (.iload 6, 2) := by decide +kernel
theorem d_X1_soonest_67 : decode cX1_soonest 67 = .ok (.iconst 1, 1) := by decide +kernel
theorem d_X1_soonest_68 : decode cX1_soonest 68 = .ok (.iadd, 1) := by decide +kernel
theorem d_X1_soonest_69 : decode cX1_soonest 69 = .ok (.ireturn, 1) := by decide +kernel
theorem d_X1_soonest_70 : decode cX1_soonest 70 = .ok (.iinc 6 1, 3) := by decide +kernel
theorem d_X1_soonest_73 : decode cX1_soonest 73 = .ok (.goto (-42), 3) := by decide +kernel
theorem d_X1_soonest_76 : decode cX1_soonest 76 = .ok (.iconst (-1), 1) := by decide +kernel
theorem d_X1_soonest_77 : decode cX1_soonest 77 = .ok (.ireturn, 1) := by decide +kernel
def F_X1_soonest_b31 : Nat → Nat → Nat → Int32 → Int32 → Int32 → xH → Option (Int32 × xH)
  | 0, _, _, _, _, _, _ => none
  | n + 1, x1, x2, x4, x5, x6, h => if ((18 : Int32)) ≤ x6 then some ((-1), h) else (rc h x1 9).bind fun _ => (F_X10_withNeighbours x1 x5 h).bind fun z41 => (fI z41.2 x2 5 4).bind fun v52 => (rc z41.2 x1 9).bind fun _ => (F_X10_placesSounding x1 x4 (v52 + x6) z41.2).bind fun z58 => if (z41.1 &&& z58.1) = 0 then F_X1_soonest_b31 n x1 x2 x4 z41.1 (x6 + 1) z58.2 else some (x6 + 1, z58.2)
theorem R_X1_soonest_b31 {Γ : xG} {l : Launch} {d : Nat} {Q : Option Value → xH → Prop} {r : Int32} {h' : xH} (hdp : 2 ≤ d) (hq : Q (some (.int r)) h') : ∀ (n : Nat) (x1 : Nat) (x2 : Nat) (x4 : Int32) (x5 : Int32) (x6 : Int32) (h : xH), F_X1_soonest_b31 n x1 x2 x4 x5 x6 h = some (r, h') → Gd Γ l d m_X1_soonest 31 [xhole, .ref x1, .ref x2, xhole, .int x4, .int x5, .int x6] [] h 0 0 Q := by
  intro n
  induction n with
  | zero => intro x1 x2 x4 x5 x6 h hF; cases hF
  | succ n ih =>
  intro x1 x2 x4 x5 x6 h hF
  rw [F_X1_soonest_b31] at hF
  refine g_iload d_X1_soonest_31 rfl ?_
  refine g_bi (18) d_X1_soonest_33 bi_18 ?_
  refine g_icmp_ge 76 d_X1_soonest_35 rfl (fun c35 => ?_) (fun c35 => ?_)
  · have hF := x_t hF c35
    refine g_ic (-1) d_X1_soonest_76 ic_m1 ?_
    obtain ⟨rfl, rfl⟩ := x_inj hF
    exact g_iret d_X1_soonest_77 rfl hq
  · have hF := x_f hF c35
    refine g_aloadn d_X1_soonest_38 rfl ?_
    refine g_iload d_X1_soonest_39 rfl ?_
    obtain ⟨_, g41, hF⟩ := Option.bind_eq_some_iff.mp hF
    obtain ⟨⟨r41, h41⟩, e41, hF⟩ := Option.bind_eq_some_iff.mp hF
    try dsimp only at hF
    refine q_callV [.int x5] [] rfl d_X1_soonest_41 v_X1_34 (by omega) rfl (Nat.le_of_ble_eq_true rfl) (rc_rc g41 (by decide) rfl) (R_X10_withNeighbours _ _ _ (by omega) e41) ?_
    refine q_istore [xhole, .ref x1, .ref x2, xhole, .int x4, .int (r41), .int x6] d_X1_soonest_44 (by decide) rfl ?_
    refine g_iload d_X1_soonest_46 rfl ?_
    refine g_aloadn d_X1_soonest_48 rfl ?_
    refine g_iload d_X1_soonest_49 rfl ?_
    refine g_aloadn d_X1_soonest_51 rfl ?_
    obtain ⟨v52, e52, hF⟩ := Option.bind_eq_some_iff.mp hF
    refine q_fI d_X1_soonest_52 f_X1_40 e52 ?_
    refine g_iload d_X1_soonest_55 rfl ?_
    refine g_iadd d_X1_soonest_57 ?_
    obtain ⟨_, g58, hF⟩ := Option.bind_eq_some_iff.mp hF
    obtain ⟨⟨r58, h58⟩, e58, hF⟩ := Option.bind_eq_some_iff.mp hF
    try dsimp only at hF
    refine q_callV [.int x4, .int (v52 + x6)] [.int (r41)] rfl d_X1_soonest_58 v_X1_44 (by omega) rfl (Nat.le_of_ble_eq_true rfl) (rc_rc g58 (by decide) rfl) (R_X10_placesSounding _ _ _ _ (by omega) e58) ?_
    refine g_iand d_X1_soonest_61 ?_
    refine g_if_eq 70 d_X1_soonest_62 rfl (fun c62 => ?_) (fun c62 => ?_)
    · have hF := x_t hF c62
      refine q_iinc (1) [xhole, .ref x1, .ref x2, xhole, .int x4, .int (r41), .int (x6 + 1)] d_X1_soonest_70 ic_1 rfl (by decide) rfl ?_
      refine g_goto 31 d_X1_soonest_73 rfl ?_
      exact q_to (xs_h (xs_r (xs_r (xs_h (xs_r (xs_r (xs_r xs_n))))))) (ih _ _ _ _ _ _ hF)
    · have hF := x_f hF c62
      refine g_iload d_X1_soonest_65 rfl ?_
      refine g_ic (1) d_X1_soonest_67 ic_1 ?_
      refine g_iadd d_X1_soonest_68 ?_
      obtain ⟨rfl, rfl⟩ := x_inj hF
      exact g_iret d_X1_soonest_69 rfl hq
def F_X1_soonest (x0 : Nat) (x1 : Nat) (x2 : Nat) (x3 : Int32) (h : xH) : Option (Int32 × xH) := (rc h x2 5).bind fun _ => (F_X6_hasFound x2 x3 h).bind fun z2 => if z2.1 = 0 then (fR z2.2 x2 5 2).bind fun v11 => (aI z2.2 v11 x3).bind fun v15 => (fR z2.2 x2 5 0).bind fun v20 => (aI z2.2 v20 x3).bind fun v24 => F_X1_soonest_b31 FU x1 x2 v15 (((1 : Int32)) <<< (v24 &&& 31)) 0 z2.2 else some (0, z2.2)
theorem R_X1_soonest {Γ : xG} {l : Launch} {d : Nat} {r : Int32} {h' : xH} (x0 : Nat) (x1 : Nat) (x2 : Nat) (x3 : Int32) (h : xH) (hdp : 2 ≤ d) (hF : F_X1_soonest x0 x1 x2 x3 h = some (r, h')) : Gm Γ l d 0 0 m_X1_soonest [.ref x0, .ref x1, .ref x2, .int x3] h (fun a u => a = some (.int r) ∧ u = h') := by
  refine Gm.of pn_X1 (Nat.le_of_ble_eq_true rfl) ?_
  show Gd Γ l d m_X1_soonest 0 [.ref x0, .ref x1, .ref x2, .int x3, xhole, xhole, xhole] [] h 0 0 _
  generalize hQ : (fun (a : Option Value) (u : xH) => a = some (.int r) ∧ u = h') = Q
  have hq : Q (some (.int r)) h' := by rw [← hQ]; exact ⟨rfl, rfl⟩
  clear hQ
  unfold F_X1_soonest at hF
  refine g_aloadn d_X1_soonest_0 rfl ?_
  refine g_iloadn d_X1_soonest_1 rfl ?_
  obtain ⟨_, g2, hF⟩ := Option.bind_eq_some_iff.mp hF
  obtain ⟨⟨r2, h2⟩, e2, hF⟩ := Option.bind_eq_some_iff.mp hF
  try dsimp only at hF
  refine q_callV [.int x3] [] rfl d_X1_soonest_2 v_X1_22 (by omega) rfl (Nat.le_of_ble_eq_true rfl) (rc_rc g2 (by decide) rfl) (R_X6_hasFound _ _ _ (by omega) e2) ?_
  refine g_if_eq 10 d_X1_soonest_5 rfl (fun c5 => ?_) (fun c5 => ?_)
  · have hF := x_t hF c5
    refine g_aloadn d_X1_soonest_10 rfl ?_
    obtain ⟨v11, e11, hF⟩ := Option.bind_eq_some_iff.mp hF
    refine q_fR d_X1_soonest_11 f_X1_28 e11 ?_
    refine g_iloadn d_X1_soonest_14 rfl ?_
    obtain ⟨v15, e15, hF⟩ := Option.bind_eq_some_iff.mp hF
    refine q_aI d_X1_soonest_15 e15 ?_
    refine q_istore [.ref x0, .ref x1, .ref x2, .int x3, .int v15, xhole, xhole] d_X1_soonest_16 (by decide) rfl ?_
    refine g_ic (1) d_X1_soonest_18 ic_1 ?_
    refine g_aloadn d_X1_soonest_19 rfl ?_
    obtain ⟨v20, e20, hF⟩ := Option.bind_eq_some_iff.mp hF
    refine q_fR d_X1_soonest_20 f_X1_31 e20 ?_
    refine g_iloadn d_X1_soonest_23 rfl ?_
    obtain ⟨v24, e24, hF⟩ := Option.bind_eq_some_iff.mp hF
    refine q_aI d_X1_soonest_24 e24 ?_
    refine g_ishl d_X1_soonest_25 ?_
    refine q_istore [.ref x0, .ref x1, .ref x2, .int x3, .int v15, .int (((1 : Int32)) <<< (v24 &&& 31)), xhole] d_X1_soonest_26 (by decide) rfl ?_
    refine g_ic (0) d_X1_soonest_28 ic_0 ?_
    refine q_istore [.ref x0, .ref x1, .ref x2, .int x3, .int v15, .int (((1 : Int32)) <<< (v24 &&& 31)), .int 0] d_X1_soonest_29 (by decide) rfl ?_
    exact q_to (xs_h (xs_r (xs_r (xs_h (xs_r (xs_r (xs_r xs_n))))))) (R_X1_soonest_b31 hdp hq FU _ _ _ _ _ _ hF)
  · have hF := x_f hF c5
    refine g_ic (0) d_X1_soonest_8 ic_0 ?_
    obtain ⟨rfl, rfl⟩ := x_inj hF
    exact g_iret d_X1_soonest_9 rfl hq
theorem d_J6_numberOfTrailingZeros_0f7a4_0 : decode cJ6_numberOfTrailingZeros_0f7a4 0 = .ok (.iload_n 0, 1) := by decide +kernel
theorem d_J6_numberOfTrailingZeros_0f7a4_1 : decode cJ6_numberOfTrailingZeros_0f7a4 1 = .ok (.iconst (-1), 1) := by decide +kernel
theorem d_J6_numberOfTrailingZeros_0f7a4_2 : decode cJ6_numberOfTrailingZeros_0f7a4 2 = .ok (.ixor, 1) := by decide +kernel
theorem d_J6_numberOfTrailingZeros_0f7a4_3 : decode cJ6_numberOfTrailingZeros_0f7a4 3 = .ok (.iload_n 0, 1) := by decide +kernel
theorem d_J6_numberOfTrailingZeros_0f7a4_4 : decode cJ6_numberOfTrailingZeros_0f7a4 4 = .ok (.iconst 1, 1) := by decide +kernel
theorem d_J6_numberOfTrailingZeros_0f7a4_5 : decode cJ6_numberOfTrailingZeros_0f7a4 5 = .ok (.isub, 1) := by decide +kernel
theorem d_J6_numberOfTrailingZeros_0f7a4_6 : decode cJ6_numberOfTrailingZeros_0f7a4 6 = .ok (.iand, 1) := by decide +kernel
theorem d_J6_numberOfTrailingZeros_0f7a4_7 : decode cJ6_numberOfTrailingZeros_0f7a4 7 = .ok (.istore_n 0, 1) := by decide +kernel
theorem d_J6_numberOfTrailingZeros_0f7a4_8 : decode cJ6_numberOfTrailingZeros_0f7a4 8 = .ok (.iload_n 0, 1) := by decide +kernel
theorem d_J6_numberOfTrailingZeros_0f7a4_9 : decode cJ6_numberOfTrailingZeros_0f7a4 9 = .ok (.ifCond .gt 8, 3) := by decide +kernel
theorem d_J6_numberOfTrailingZeros_0f7a4_12 : decode cJ6_numberOfTrailingZeros_0f7a4 12 = .ok (.iload_n 0, 1) := by decide +kernel
theorem d_J6_numberOfTrailingZeros_0f7a4_13 : decode cJ6_numberOfTrailingZeros_0f7a4 13 = .ok (.bipush 32, 2) := by decide +kernel
theorem d_J6_numberOfTrailingZeros_0f7a4_15 : decode cJ6_numberOfTrailingZeros_0f7a4 15 = .ok (.iand, 1) := by decide +kernel
theorem d_J6_numberOfTrailingZeros_0f7a4_16 : decode cJ6_numberOfTrailingZeros_0f7a4 16 = .ok (.ireturn, 1) := by decide +kernel
theorem d_J6_numberOfTrailingZeros_0f7a4_17 : decode cJ6_numberOfTrailingZeros_0f7a4 17 = .ok (.iconst 1, 1) := by decide +kernel
theorem d_J6_numberOfTrailingZeros_0f7a4_18 : decode cJ6_numberOfTrailingZeros_0f7a4 18 = .ok (.istore_n 1, 1) := by decide +kernel
theorem d_J6_numberOfTrailingZeros_0f7a4_19 : decode cJ6_numberOfTrailingZeros_0f7a4 19 = .ok (.iload_n 0, 1) := by decide +kernel
theorem d_J6_numberOfTrailingZeros_0f7a4_20 : decode cJ6_numberOfTrailingZeros_0f7a4 20 = .ok (.ldc_w 264, 3) := by decide +kernel
theorem d_J6_numberOfTrailingZeros_0f7a4_23 : decode cJ6_numberOfTrailingZeros_0f7a4 23 = .ok (.if_icmp .le 11, 3) := by decide +kernel
theorem d_J6_numberOfTrailingZeros_0f7a4_26 : decode cJ6_numberOfTrailingZeros_0f7a4 26 = .ok (.iinc 1 16, 3) := by decide +kernel
theorem d_J6_numberOfTrailingZeros_0f7a4_29 : decode cJ6_numberOfTrailingZeros_0f7a4 29 = .ok (.iload_n 0, 1) := by decide +kernel
theorem d_J6_numberOfTrailingZeros_0f7a4_30 : decode cJ6_numberOfTrailingZeros_0f7a4 30 = .ok (.bipush 16, 2) := by decide +kernel
theorem d_J6_numberOfTrailingZeros_0f7a4_32 : decode cJ6_numberOfTrailingZeros_0f7a4 32 = .ok (.iushr, 1) := by decide +kernel
theorem d_J6_numberOfTrailingZeros_0f7a4_33 : decode cJ6_numberOfTrailingZeros_0f7a4 33 = .ok (.istore_n 0, 1) := by decide +kernel
theorem d_J6_numberOfTrailingZeros_0f7a4_34 : decode cJ6_numberOfTrailingZeros_0f7a4 34 = .ok (.iload_n 0, 1) := by decide +kernel
theorem d_J6_numberOfTrailingZeros_0f7a4_35 : decode cJ6_numberOfTrailingZeros_0f7a4 35 = .ok (.sipush 256, 3) := by decide +kernel
theorem d_J6_numberOfTrailingZeros_0f7a4_38 : decode cJ6_numberOfTrailingZeros_0f7a4 38 = .ok (.if_icmp .le 11, 3) := by decide +kernel
theorem d_J6_numberOfTrailingZeros_0f7a4_41 : decode cJ6_numberOfTrailingZeros_0f7a4 41 = .ok (.iinc 1 8, 3) := by decide +kernel
theorem d_J6_numberOfTrailingZeros_0f7a4_44 : decode cJ6_numberOfTrailingZeros_0f7a4 44 = .ok (.iload_n 0, 1) := by decide +kernel
theorem d_J6_numberOfTrailingZeros_0f7a4_45 : decode cJ6_numberOfTrailingZeros_0f7a4 45 = .ok (.bipush 8, 2) := by decide +kernel
theorem d_J6_numberOfTrailingZeros_0f7a4_47 : decode cJ6_numberOfTrailingZeros_0f7a4 47 = .ok (.iushr, 1) := by decide +kernel
theorem d_J6_numberOfTrailingZeros_0f7a4_48 : decode cJ6_numberOfTrailingZeros_0f7a4 48 = .ok (.istore_n 0, 1) := by decide +kernel
theorem d_J6_numberOfTrailingZeros_0f7a4_49 : decode cJ6_numberOfTrailingZeros_0f7a4 49 = .ok (.iload_n 0, 1) := by decide +kernel
theorem d_J6_numberOfTrailingZeros_0f7a4_50 : decode cJ6_numberOfTrailingZeros_0f7a4 50 = .ok (.bipush 16, 2) := by decide +kernel
theorem d_J6_numberOfTrailingZeros_0f7a4_52 : decode cJ6_numberOfTrailingZeros_0f7a4 52 = .ok (.if_icmp .le 10, 3) := by decide +kernel
theorem d_J6_numberOfTrailingZeros_0f7a4_55 : decode cJ6_numberOfTrailingZeros_0f7a4 55 = .ok (.iinc 1 4, 3) := by decide +kernel
theorem d_J6_numberOfTrailingZeros_0f7a4_58 : decode cJ6_numberOfTrailingZeros_0f7a4 58 = .ok (.iload_n 0, 1) := by decide +kernel
theorem d_J6_numberOfTrailingZeros_0f7a4_59 : decode cJ6_numberOfTrailingZeros_0f7a4 59 = .ok (.iconst 4, 1) := by decide +kernel
theorem d_J6_numberOfTrailingZeros_0f7a4_60 : decode cJ6_numberOfTrailingZeros_0f7a4 60 = .ok (.iushr, 1) := by decide +kernel
theorem d_J6_numberOfTrailingZeros_0f7a4_61 : decode cJ6_numberOfTrailingZeros_0f7a4 61 = .ok (.istore_n 0, 1) := by decide +kernel
theorem d_J6_numberOfTrailingZeros_0f7a4_62 : decode cJ6_numberOfTrailingZeros_0f7a4 62 = .ok (.iload_n 0, 1) := by decide +kernel
theorem d_J6_numberOfTrailingZeros_0f7a4_63 : decode cJ6_numberOfTrailingZeros_0f7a4 63 = .ok (.iconst 4, 1) := by decide +kernel
theorem d_J6_numberOfTrailingZeros_0f7a4_64 : decode cJ6_numberOfTrailingZeros_0f7a4 64 = .ok (.if_icmp .le 10, 3) := by decide +kernel
theorem d_J6_numberOfTrailingZeros_0f7a4_67 : decode cJ6_numberOfTrailingZeros_0f7a4 67 = .ok (.iinc 1 2, 3) := by decide +kernel
theorem d_J6_numberOfTrailingZeros_0f7a4_70 : decode cJ6_numberOfTrailingZeros_0f7a4 70 = .ok (.iload_n 0, 1) := by decide +kernel
theorem d_J6_numberOfTrailingZeros_0f7a4_71 : decode cJ6_numberOfTrailingZeros_0f7a4 71 = .ok (.iconst 2, 1) := by decide +kernel
theorem d_J6_numberOfTrailingZeros_0f7a4_72 : decode cJ6_numberOfTrailingZeros_0f7a4 72 = .ok (.iushr, 1) := by decide +kernel
theorem d_J6_numberOfTrailingZeros_0f7a4_73 : decode cJ6_numberOfTrailingZeros_0f7a4 73 = .ok (.istore_n 0, 1) := by decide +kernel
theorem d_J6_numberOfTrailingZeros_0f7a4_74 : decode cJ6_numberOfTrailingZeros_0f7a4 74 = .ok (.iload_n 1, 1) := by decide +kernel
theorem d_J6_numberOfTrailingZeros_0f7a4_75 : decode cJ6_numberOfTrailingZeros_0f7a4 75 = .ok (.iload_n 0, 1) := by decide +kernel
theorem d_J6_numberOfTrailingZeros_0f7a4_76 : decode cJ6_numberOfTrailingZeros_0f7a4 76 = .ok (.iconst 1, 1) := by decide +kernel
theorem d_J6_numberOfTrailingZeros_0f7a4_77 : decode cJ6_numberOfTrailingZeros_0f7a4 77 = .ok (.iushr, 1) := by decide +kernel
theorem d_J6_numberOfTrailingZeros_0f7a4_78 : decode cJ6_numberOfTrailingZeros_0f7a4 78 = .ok (.iadd, 1) := by decide +kernel
theorem d_J6_numberOfTrailingZeros_0f7a4_79 : decode cJ6_numberOfTrailingZeros_0f7a4 79 = .ok (.ireturn, 1) := by decide +kernel
def F_J6_numberOfTrailingZeros_0f7a4_b62 (x0 : Int32) (x1 : Int32) (h : xH) : Option (Int32 × xH) := if x0 ≤ ((4 : Int32)) then some (x1 + (ush x0 1), h) else some ((x1 + 2) + (ush (ush x0 2) 1), h)
theorem R_J6_numberOfTrailingZeros_0f7a4_b62 {Γ : xG} {l : Launch} {d : Nat} {Q : Option Value → xH → Prop} {r : Int32} {h' : xH} (hdp : 0 ≤ d) (hq : Q (some (.int r)) h') : ∀ (x0 : Int32) (x1 : Int32) (h : xH), F_J6_numberOfTrailingZeros_0f7a4_b62 x0 x1 h = some (r, h') → Gd Γ l d m_J6_numberOfTrailingZeros_0f7a4 62 [.int x0, .int x1] [] h 0 0 Q := by
  intro x0 x1 h hF
  unfold F_J6_numberOfTrailingZeros_0f7a4_b62 at hF
  refine g_iloadn d_J6_numberOfTrailingZeros_0f7a4_62 rfl ?_
  refine g_ic (4) d_J6_numberOfTrailingZeros_0f7a4_63 ic_4 ?_
  refine g_icmp_le 74 d_J6_numberOfTrailingZeros_0f7a4_64 rfl (fun c64 => ?_) (fun c64 => ?_)
  · have hF := x_t hF c64
    refine g_iloadn d_J6_numberOfTrailingZeros_0f7a4_74 rfl ?_
    refine g_iloadn d_J6_numberOfTrailingZeros_0f7a4_75 rfl ?_
    refine g_ic (1) d_J6_numberOfTrailingZeros_0f7a4_76 ic_1 ?_
    refine q_iushr d_J6_numberOfTrailingZeros_0f7a4_77 ?_
    refine g_iadd d_J6_numberOfTrailingZeros_0f7a4_78 ?_
    obtain ⟨rfl, rfl⟩ := x_inj hF
    exact g_iret d_J6_numberOfTrailingZeros_0f7a4_79 rfl hq
  · have hF := x_f hF c64
    refine q_iinc (2) [.int x0, .int (x1 + 2)] d_J6_numberOfTrailingZeros_0f7a4_67 ic_2 rfl (by decide) rfl ?_
    refine g_iloadn d_J6_numberOfTrailingZeros_0f7a4_70 rfl ?_
    refine g_ic (2) d_J6_numberOfTrailingZeros_0f7a4_71 ic_2 ?_
    refine q_iushr d_J6_numberOfTrailingZeros_0f7a4_72 ?_
    refine q_istoren [.int (ush x0 2), .int (x1 + 2)] d_J6_numberOfTrailingZeros_0f7a4_73 (by decide) rfl ?_
    refine g_iloadn d_J6_numberOfTrailingZeros_0f7a4_74 rfl ?_
    refine g_iloadn d_J6_numberOfTrailingZeros_0f7a4_75 rfl ?_
    refine g_ic (1) d_J6_numberOfTrailingZeros_0f7a4_76 ic_1 ?_
    refine q_iushr d_J6_numberOfTrailingZeros_0f7a4_77 ?_
    refine g_iadd d_J6_numberOfTrailingZeros_0f7a4_78 ?_
    obtain ⟨rfl, rfl⟩ := x_inj hF
    exact g_iret d_J6_numberOfTrailingZeros_0f7a4_79 rfl hq
def F_J6_numberOfTrailingZeros_0f7a4_b49 (x0 : Int32) (x1 : Int32) (h : xH) : Option (Int32 × xH) := if x0 ≤ ((16 : Int32)) then F_J6_numberOfTrailingZeros_0f7a4_b62 x0 x1 h else F_J6_numberOfTrailingZeros_0f7a4_b62 (ush x0 4) (x1 + 4) h
theorem R_J6_numberOfTrailingZeros_0f7a4_b49 {Γ : xG} {l : Launch} {d : Nat} {Q : Option Value → xH → Prop} {r : Int32} {h' : xH} (hdp : 0 ≤ d) (hq : Q (some (.int r)) h') : ∀ (x0 : Int32) (x1 : Int32) (h : xH), F_J6_numberOfTrailingZeros_0f7a4_b49 x0 x1 h = some (r, h') → Gd Γ l d m_J6_numberOfTrailingZeros_0f7a4 49 [.int x0, .int x1] [] h 0 0 Q := by
  intro x0 x1 h hF
  unfold F_J6_numberOfTrailingZeros_0f7a4_b49 at hF
  refine g_iloadn d_J6_numberOfTrailingZeros_0f7a4_49 rfl ?_
  refine g_bi (16) d_J6_numberOfTrailingZeros_0f7a4_50 bi_16 ?_
  refine g_icmp_le 62 d_J6_numberOfTrailingZeros_0f7a4_52 rfl (fun c52 => ?_) (fun c52 => ?_)
  · have hF := x_t hF c52
    exact q_to (xs_r (xs_r xs_n)) (R_J6_numberOfTrailingZeros_0f7a4_b62 hdp hq _ _ _ hF)
  · have hF := x_f hF c52
    refine q_iinc (4) [.int x0, .int (x1 + 4)] d_J6_numberOfTrailingZeros_0f7a4_55 ic_4 rfl (by decide) rfl ?_
    refine g_iloadn d_J6_numberOfTrailingZeros_0f7a4_58 rfl ?_
    refine g_ic (4) d_J6_numberOfTrailingZeros_0f7a4_59 ic_4 ?_
    refine q_iushr d_J6_numberOfTrailingZeros_0f7a4_60 ?_
    refine q_istoren [.int (ush x0 4), .int (x1 + 4)] d_J6_numberOfTrailingZeros_0f7a4_61 (by decide) rfl ?_
    exact q_to (xs_r (xs_r xs_n)) (R_J6_numberOfTrailingZeros_0f7a4_b62 hdp hq _ _ _ hF)
def F_J6_numberOfTrailingZeros_0f7a4_b34 (x0 : Int32) (x1 : Int32) (h : xH) : Option (Int32 × xH) := if x0 ≤ ((256 : Int32)) then F_J6_numberOfTrailingZeros_0f7a4_b49 x0 x1 h else F_J6_numberOfTrailingZeros_0f7a4_b49 (ush x0 8) (x1 + 8) h
theorem R_J6_numberOfTrailingZeros_0f7a4_b34 {Γ : xG} {l : Launch} {d : Nat} {Q : Option Value → xH → Prop} {r : Int32} {h' : xH} (hdp : 0 ≤ d) (hq : Q (some (.int r)) h') : ∀ (x0 : Int32) (x1 : Int32) (h : xH), F_J6_numberOfTrailingZeros_0f7a4_b34 x0 x1 h = some (r, h') → Gd Γ l d m_J6_numberOfTrailingZeros_0f7a4 34 [.int x0, .int x1] [] h 0 0 Q := by
  intro x0 x1 h hF
  unfold F_J6_numberOfTrailingZeros_0f7a4_b34 at hF
  refine g_iloadn d_J6_numberOfTrailingZeros_0f7a4_34 rfl ?_
  refine g_si (256) d_J6_numberOfTrailingZeros_0f7a4_35 si_256 ?_
  refine g_icmp_le 49 d_J6_numberOfTrailingZeros_0f7a4_38 rfl (fun c38 => ?_) (fun c38 => ?_)
  · have hF := x_t hF c38
    exact q_to (xs_r (xs_r xs_n)) (R_J6_numberOfTrailingZeros_0f7a4_b49 hdp hq _ _ _ hF)
  · have hF := x_f hF c38
    refine q_iinc (8) [.int x0, .int (x1 + 8)] d_J6_numberOfTrailingZeros_0f7a4_41 ic_8 rfl (by decide) rfl ?_
    refine g_iloadn d_J6_numberOfTrailingZeros_0f7a4_44 rfl ?_
    refine g_bi (8) d_J6_numberOfTrailingZeros_0f7a4_45 bi_8 ?_
    refine q_iushr d_J6_numberOfTrailingZeros_0f7a4_47 ?_
    refine q_istoren [.int (ush x0 8), .int (x1 + 8)] d_J6_numberOfTrailingZeros_0f7a4_48 (by decide) rfl ?_
    exact q_to (xs_r (xs_r xs_n)) (R_J6_numberOfTrailingZeros_0f7a4_b49 hdp hq _ _ _ hF)
def F_J6_numberOfTrailingZeros_0f7a4 (x0 : Int32) (h : xH) : Option (Int32 × xH) := if 0 < ((x0 ^^^ ((-1))) &&& (x0 - 1)) then if ((x0 ^^^ ((-1))) &&& (x0 - 1)) ≤ ((65536 : Int32)) then F_J6_numberOfTrailingZeros_0f7a4_b34 ((x0 ^^^ ((-1))) &&& (x0 - 1)) 1 h else F_J6_numberOfTrailingZeros_0f7a4_b34 (ush ((x0 ^^^ ((-1))) &&& (x0 - 1)) 16) (1 + 16) h else some (((x0 ^^^ ((-1))) &&& (x0 - 1)) &&& 32, h)
theorem R_J6_numberOfTrailingZeros_0f7a4 {Γ : xG} {l : Launch} {d : Nat} {r : Int32} {h' : xH} (x0 : Int32) (h : xH) (hdp : 0 ≤ d) (hF : F_J6_numberOfTrailingZeros_0f7a4 x0 h = some (r, h')) : Gm Γ l d 0 0 m_J6_numberOfTrailingZeros_0f7a4 [.int x0] h (fun a u => a = some (.int r) ∧ u = h') := by
  refine Gm.of pn_J6 (Nat.le_of_ble_eq_true rfl) ?_
  show Gd Γ l d m_J6_numberOfTrailingZeros_0f7a4 0 [.int x0, xhole] [] h 0 0 _
  generalize hQ : (fun (a : Option Value) (u : xH) => a = some (.int r) ∧ u = h') = Q
  have hq : Q (some (.int r)) h' := by rw [← hQ]; exact ⟨rfl, rfl⟩
  clear hQ
  unfold F_J6_numberOfTrailingZeros_0f7a4 at hF
  refine g_iloadn d_J6_numberOfTrailingZeros_0f7a4_0 rfl ?_
  refine g_ic (-1) d_J6_numberOfTrailingZeros_0f7a4_1 ic_m1 ?_
  refine g_ixor d_J6_numberOfTrailingZeros_0f7a4_2 ?_
  refine g_iloadn d_J6_numberOfTrailingZeros_0f7a4_3 rfl ?_
  refine g_ic (1) d_J6_numberOfTrailingZeros_0f7a4_4 ic_1 ?_
  refine g_isub d_J6_numberOfTrailingZeros_0f7a4_5 ?_
  refine g_iand d_J6_numberOfTrailingZeros_0f7a4_6 ?_
  refine q_istoren [.int ((x0 ^^^ ((-1))) &&& (x0 - 1)), xhole] d_J6_numberOfTrailingZeros_0f7a4_7 (by decide) rfl ?_
  refine g_iloadn d_J6_numberOfTrailingZeros_0f7a4_8 rfl ?_
  refine g_if_gt 17 d_J6_numberOfTrailingZeros_0f7a4_9 rfl (fun c9 => ?_) (fun c9 => ?_)
  · have hF := x_t hF c9
    refine g_ic (1) d_J6_numberOfTrailingZeros_0f7a4_17 ic_1 ?_
    refine q_istoren [.int ((x0 ^^^ ((-1))) &&& (x0 - 1)), .int 1] d_J6_numberOfTrailingZeros_0f7a4_18 (by decide) rfl ?_
    refine g_iloadn d_J6_numberOfTrailingZeros_0f7a4_19 rfl ?_
    refine g_ldcw d_J6_numberOfTrailingZeros_0f7a4_20 k_J6_264 ?_
    refine g_icmp_le 34 d_J6_numberOfTrailingZeros_0f7a4_23 rfl (fun c23 => ?_) (fun c23 => ?_)
    · have hF := x_t hF c23
      exact q_to (xs_r (xs_r xs_n)) (R_J6_numberOfTrailingZeros_0f7a4_b34 hdp hq _ _ _ hF)
    · have hF := x_f hF c23
      refine q_iinc (16) [.int ((x0 ^^^ ((-1))) &&& (x0 - 1)), .int (1 + 16)] d_J6_numberOfTrailingZeros_0f7a4_26 ic_16 rfl (by decide) rfl ?_
      refine g_iloadn d_J6_numberOfTrailingZeros_0f7a4_29 rfl ?_
      refine g_bi (16) d_J6_numberOfTrailingZeros_0f7a4_30 bi_16 ?_
      refine q_iushr d_J6_numberOfTrailingZeros_0f7a4_32 ?_
      refine q_istoren [.int (ush ((x0 ^^^ ((-1))) &&& (x0 - 1)) 16), .int (1 + 16)] d_J6_numberOfTrailingZeros_0f7a4_33 (by decide) rfl ?_
      exact q_to (xs_r (xs_r xs_n)) (R_J6_numberOfTrailingZeros_0f7a4_b34 hdp hq _ _ _ hF)
  · have hF := x_f hF c9
    refine g_iloadn d_J6_numberOfTrailingZeros_0f7a4_12 rfl ?_
    refine g_bi (32) d_J6_numberOfTrailingZeros_0f7a4_13 bi_32 ?_
    refine g_iand d_J6_numberOfTrailingZeros_0f7a4_15 ?_
    obtain ⟨rfl, rfl⟩ := x_inj hF
    exact g_iret d_J6_numberOfTrailingZeros_0f7a4_16 rfl hq
theorem d_X1_placeOnDay_0 : decode cX1_placeOnDay 0 = .ok (.aload_n 0, 1) := by decide +kernel
theorem d_X1_placeOnDay_1 : decode cX1_placeOnDay 1 = .ok (.aload_n 1, 1) := by decide +kernel
theorem d_X1_placeOnDay_2 : decode cX1_placeOnDay 2 = .ok (.aload_n 2, 1) := by decide +kernel
theorem d_X1_placeOnDay_3 : decode cX1_placeOnDay 3 = .ok (.iload_n 3, 1) := by decide +kernel
theorem d_X1_placeOnDay_4 : decode cX1_placeOnDay 4 = .ok (.invokevirtual 48, 3) := by decide +kernel
theorem d_X1_placeOnDay_7 : decode cX1_placeOnDay 7 = .ok (.istore 5, 2) := by decide +kernel
theorem d_X1_placeOnDay_9 : decode cX1_placeOnDay 9 = .ok (.iload 5, 2) := by decide +kernel
theorem d_X1_placeOnDay_11 : decode cX1_placeOnDay 11 = .ok (.bipush 18, 2) := by decide +kernel
theorem d_X1_placeOnDay_13 : decode cX1_placeOnDay 13 = .ok (.if_icmp .gt 10, 3) := by decide +kernel
theorem d_X1_placeOnDay_16 : decode cX1_placeOnDay 16 = .ok (.iload 4, 2) := by decide +kernel
theorem d_X1_placeOnDay_18 : decode cX1_placeOnDay 18 = .ok (.iload 5, 2) := by decide +kernel
theorem d_X1_placeOnDay_20 : decode cX1_placeOnDay 20 = .ok (.if_icmp .lt 5, 3) := by decide +kernel
theorem d_X1_placeOnDay_23 : decode cX1_placeOnDay 23 = .ok (.iconst (-1), 1) := by decide +kernel
theorem d_X1_placeOnDay_24 : decode cX1_placeOnDay 24 = .ok (.ireturn, 1) := by decide +kernel
theorem d_X1_placeOnDay_25 : decode cX1_placeOnDay 25 = .ok (.aload_n 1, 1) := by decide +kernel
theorem d_X1_placeOnDay_26 : decode cX1_placeOnDay 26 = .ok (.aload_n 2, 1) := by decide +kernel
theorem d_X1_placeOnDay_27 : decode cX1_placeOnDay 27 = .ok (.getfield 28, 3) := by decide +kernel
theorem d_X1_placeOnDay_30 : decode cX1_placeOnDay 30 = .ok (.iload_n 3, 1) := by decide +kernel
theorem d_X1_placeOnDay_31 : decode cX1_placeOnDay 31 = .ok (.iaload, 1) := by decide +kernel
theorem d_X1_placeOnDay_32 : decode cX1_placeOnDay 32 = .ok (.aload_n 2, 1) := by decide +kernel
theorem d_X1_placeOnDay_33 : decode cX1_placeOnDay 33 = .ok (.getfield 40, 3) := by decide +kernel
theorem d_X1_placeOnDay_36 : decode cX1_placeOnDay 36 = .ok (.iload 5, 2) := by decide +kernel
theorem d_X1_placeOnDay_38 : decode cX1_placeOnDay 38 = .ok (.iadd, 1) := by decide +kernel
theorem d_X1_placeOnDay_39 : decode cX1_placeOnDay 39 = .ok (.iconst 1, 1) := by decide +kernel
theorem d_X1_placeOnDay_40 : decode cX1_placeOnDay 40 = .ok (.isub, 1) := by decide +kernel
theorem d_X1_placeOnDay_41 : decode cX1_placeOnDay 41 = .ok (.invokevirtual 44, 3) := by decide +kernel
theorem d_X1_placeOnDay_44 : decode cX1_placeOnDay 44 = .ok (.istore 6, 2) := by decide +kernel
theorem d_X1_placeOnDay_46 : decode cX1_placeOnDay 46 = .ok (.iload 5, 2) := by decide +kernel
theorem d_X1_placeOnDay_48 : decode cX1_placeOnDay 48 = .ok (.iconst 1, 1) := by decide +kernel
theorem d_X1_placeOnDay_49 : decode cX1_placeOnDay 49 = .ok (.isub, 1) := by decide +kernel
theorem d_X1_placeOnDay_50 : decode cX1_placeOnDay 50 = .ok (.istore 7, 2) := by decide +kernel
theorem d_X1_placeOnDay_52 : decode cX1_placeOnDay 52 = .ok (.iload 7, 2) := by decide +kernel
theorem d_X1_placeOnDay_54 : decode cX1_placeOnDay 54 = .ok (.ifCond .lt 26, 3) := by decide +kernel
theorem d_X1_placeOnDay_57 : decode cX1_placeOnDay 57 = .ok (.aload_n 0, 1) := by decide +kernel
theorem d_X1_placeOnDay_58 : decode cX1_placeOnDay 58 = .ok (.getfield 11, 3) := by decide +kernel
theorem d_X1_placeOnDay_61 : decode cX1_placeOnDay 61 = .ok (.iload 7, 2) := by decide +kernel
theorem d_X1_placeOnDay_63 : decode cX1_placeOnDay 63 = .ok (.iload 6, 2) := by decide +kernel
theorem d_X1_placeOnDay_65 : decode cX1_placeOnDay 65 = .ok (.iastore, 1) := by decide +kernel
theorem d_X1_placeOnDay_66 : decode cX1_placeOnDay 66 = .ok (.aload_n 1, 1) := by decide +kernel
theorem d_X1_placeOnDay_67 : decode cX1_placeOnDay 67 = .ok (.iload 6, 2) := by decide +kernel
theorem d_X1_placeOnDay_69 : decode cX1_placeOnDay 69 = .ok (.invokevirtual 34, 3) := by decide +kernel
theorem d_X1_placeOnDay_72 : decode cX1_placeOnDay 72 = .ok (.istore 6, 2) := by decide +kernel
theorem d_X1_placeOnDay_74 : decode cX1_placeOnDay 74 = .ok (.iinc 7 (-1), 3) := by decide +kernel
theorem d_X1_placeOnDay_77 : decode cX1_placeOnDay 77 = .ok (.goto (-25), 3) := by decide +kernel
theorem d_X1_placeOnDay_80 : decode cX1_placeOnDay 80 = .ok (.aload_n 2, 1) := by decide +kernel
theorem d_X1_placeOnDay_81 : decode cX1_placeOnDay 81 = .ok (.getfield 31, 3) := by decide +kernel
theorem d_X1_placeOnDay_84 : decode cX1_placeOnDay 84 = .ok (.iload_n 3, 1) := by decide +kernel
theorem d_X1_placeOnDay_85 : decode cX1_placeOnDay 85 = .ok (.iaload, 1) := by decide +kernel
theorem d_X1_placeOnDay_86 : decode cX1_placeOnDay 86 = .ok (.istore 7, 2) := by decide +kernel
theorem d_X1_placeOnDay_88 : decode cX1_placeOnDay 88 = .ok (.iconst 0, 1) := by decide +kernel
theorem d_X1_placeOnDay_89 : decode cX1_placeOnDay 89 = .ok (.istore 8, 2) := by decide +kernel
theorem d_X1_placeOnDay_91 : decode cX1_placeOnDay 91 = .ok (.iload 8, 2) := by decide +kernel
theorem d_X1_placeOnDay_93 : decode cX1_placeOnDay 93 = .ok (.iload 4, 2) := by decide +kernel
theorem d_X1_placeOnDay_95 : decode cX1_placeOnDay 95 = .ok (.if_icmp .gt 41, 3) := by decide +kernel
theorem d_X1_placeOnDay_98 : decode cX1_placeOnDay 98 = .ok (.aload_n 0, 1) := by decide +kernel
theorem d_X1_placeOnDay_99 : decode cX1_placeOnDay 99 = .ok (.getfield 11, 3) := by decide +kernel
theorem d_X1_placeOnDay_102 : decode cX1_placeOnDay 102 = .ok (.iload 8, 2) := by decide +kernel
theorem d_X1_placeOnDay_104 : decode cX1_placeOnDay 104 = .ok (.iaload, 1) := by decide +kernel
theorem d_X1_placeOnDay_105 : decode cX1_placeOnDay 105 = .ok (.aload_n 1, 1) := by decide +kernel
theorem d_X1_placeOnDay_106 : decode cX1_placeOnDay 106 = .ok (.iconst 1, 1) := by decide +kernel
theorem d_X1_placeOnDay_107 : decode cX1_placeOnDay 107 = .ok (.iload 7, 2) := by decide +kernel
theorem d_X1_placeOnDay_109 : decode cX1_placeOnDay 109 = .ok (.ishl, 1) := by decide +kernel
theorem d_X1_placeOnDay_110 : decode cX1_placeOnDay 110 = .ok (.invokevirtual 34, 3) := by decide +kernel
theorem d_X1_placeOnDay_113 : decode cX1_placeOnDay 113 = .ok (.iand, 1) := by decide +kernel
theorem d_X1_placeOnDay_114 : decode cX1_placeOnDay 114 = .ok (.istore 9, 2) := by decide +kernel
theorem d_X1_placeOnDay_116 : decode cX1_placeOnDay 116 = .ok (.iload 9, 2) := by decide +kernel
theorem d_X1_placeOnDay_118 : decode cX1_placeOnDay 118 = .ok (.ifCond .ne 5, 3) := by decide +kernel
theorem d_X1_placeOnDay_121 : decode cX1_placeOnDay 121 = .ok (.iconst (-1), 1) := by decide +kernel
theorem d_X1_placeOnDay_122 : decode cX1_placeOnDay 122 = .ok (.ireturn, 1) := by decide +kernel
theorem d_X1_placeOnDay_123 : decode cX1_placeOnDay 123 = .ok (.iload 9, 2) := by decide +kernel
theorem d_X1_placeOnDay_125 : decode cX1_placeOnDay 125 = .ok (.invokestatic 52, 3) := by decide +kernel
theorem d_X1_placeOnDay_128 : decode cX1_placeOnDay 128 = .ok (.istore 7, 2) := by decide +kernel
theorem d_X1_placeOnDay_130 : decode cX1_placeOnDay 130 = .ok (.iinc 8 1, 3) := by decide +kernel
theorem d_X1_placeOnDay_133 : decode cX1_placeOnDay 133 = .ok (.goto (-42), 3) := by decide +kernel
theorem d_X1_placeOnDay_136 : decode cX1_placeOnDay 136 = .ok (.iload 7, 2) := by decide +kernel
theorem d_X1_placeOnDay_138 : decode cX1_placeOnDay 138 = .ok (.ireturn, 1) := by decide +kernel
def F_X1_placeOnDay_b91 : Nat → Nat → Nat → Int32 → Int32 → Int32 → xH → Option (Int32 × xH)
  | 0, _, _, _, _, _, _ => none
  | n + 1, x0, x1, x4, x7, x8, h => if x4 < x8 then some (x7, h) else (fR h x0 0 0).bind fun v99 => (aI h v99 x8).bind fun v104 => (rc h x1 9).bind fun _ => (F_X10_withNeighbours x1 (((1 : Int32)) <<< (x7 &&& 31)) h).bind fun z110 => if ¬ (v104 &&& z110.1) = 0 then (F_J6_numberOfTrailingZeros_0f7a4 (v104 &&& z110.1) z110.2).bind fun z125 => F_X1_placeOnDay_b91 n x0 x1 x4 z125.1 (x8 + 1) z125.2 else some ((-1), z110.2)
theorem R_X1_placeOnDay_b91 {Γ : xG} {l : Launch} {d : Nat} {Q : Option Value → xH → Prop} {r : Int32} {h' : xH} (hdp : 3 ≤ d) (hq : Q (some (.int r)) h') : ∀ (n : Nat) (x0 : Nat) (x1 : Nat) (x4 : Int32) (x7 : Int32) (x8 : Int32) (h : xH), F_X1_placeOnDay_b91 n x0 x1 x4 x7 x8 h = some (r, h') → Gd Γ l d m_X1_placeOnDay 91 [.ref x0, .ref x1, xhole, xhole, .int x4, xhole, xhole, .int x7, .int x8, xhole] [] h 0 0 Q := by
  intro n
  induction n with
  | zero => intro x0 x1 x4 x7 x8 h hF; cases hF
  | succ n ih =>
  intro x0 x1 x4 x7 x8 h hF
  rw [F_X1_placeOnDay_b91] at hF
  refine g_iload d_X1_placeOnDay_91 rfl ?_
  refine g_iload d_X1_placeOnDay_93 rfl ?_
  refine g_icmp_gt 136 d_X1_placeOnDay_95 rfl (fun c95 => ?_) (fun c95 => ?_)
  · have hF := x_t hF c95
    refine g_iload d_X1_placeOnDay_136 rfl ?_
    obtain ⟨rfl, rfl⟩ := x_inj hF
    exact g_iret d_X1_placeOnDay_138 rfl hq
  · have hF := x_f hF c95
    refine g_aloadn d_X1_placeOnDay_98 rfl ?_
    obtain ⟨v99, e99, hF⟩ := Option.bind_eq_some_iff.mp hF
    refine q_fR d_X1_placeOnDay_99 f_X1_11 e99 ?_
    refine g_iload d_X1_placeOnDay_102 rfl ?_
    obtain ⟨v104, e104, hF⟩ := Option.bind_eq_some_iff.mp hF
    refine q_aI d_X1_placeOnDay_104 e104 ?_
    refine g_aloadn d_X1_placeOnDay_105 rfl ?_
    refine g_ic (1) d_X1_placeOnDay_106 ic_1 ?_
    refine g_iload d_X1_placeOnDay_107 rfl ?_
    refine g_ishl d_X1_placeOnDay_109 ?_
    obtain ⟨_, g110, hF⟩ := Option.bind_eq_some_iff.mp hF
    obtain ⟨⟨r110, h110⟩, e110, hF⟩ := Option.bind_eq_some_iff.mp hF
    try dsimp only at hF
    refine q_callV [.int (((1 : Int32)) <<< (x7 &&& 31))] [.int v104] rfl d_X1_placeOnDay_110 v_X1_34 (by omega) rfl (Nat.le_of_ble_eq_true rfl) (rc_rc g110 (by decide) rfl) (R_X10_withNeighbours _ _ _ (by omega) e110) ?_
    refine g_iand d_X1_placeOnDay_113 ?_
    refine q_istore [.ref x0, .ref x1, xhole, xhole, .int x4, xhole, xhole, .int x7, .int x8, .int (v104 &&& r110)] d_X1_placeOnDay_114 (by decide) rfl ?_
    refine g_iload d_X1_placeOnDay_116 rfl ?_
    refine g_if_ne 123 d_X1_placeOnDay_118 rfl (fun c118 => ?_) (fun c118 => ?_)
    · have hF := x_t hF c118
      refine g_iload d_X1_placeOnDay_123 rfl ?_
      obtain ⟨⟨r125, h125⟩, e125, hF⟩ := Option.bind_eq_some_iff.mp hF
      try dsimp only at hF
      refine q_callS [.int (v104 &&& r110)] [] rfl d_X1_placeOnDay_125 s_X1_52 (by omega) rfl (Nat.le_of_ble_eq_true rfl) (R_J6_numberOfTrailingZeros_0f7a4 _ _ (by omega) e125) ?_
      refine q_istore [.ref x0, .ref x1, xhole, xhole, .int x4, xhole, xhole, .int (r125), .int x8, .int (v104 &&& r110)] d_X1_placeOnDay_128 (by decide) rfl ?_
      refine q_iinc (1) [.ref x0, .ref x1, xhole, xhole, .int x4, xhole, xhole, .int (r125), .int (x8 + 1), .int (v104 &&& r110)] d_X1_placeOnDay_130 ic_1 rfl (by decide) rfl ?_
      refine g_goto 91 d_X1_placeOnDay_133 rfl ?_
      exact q_to (xs_r (xs_r (xs_h (xs_h (xs_r (xs_h (xs_h (xs_r (xs_r (xs_h xs_n)))))))))) (ih _ _ _ _ _ _ hF)
    · have hF := x_f hF (not_not_intro c118)
      refine g_ic (-1) d_X1_placeOnDay_121 ic_m1 ?_
      obtain ⟨rfl, rfl⟩ := x_inj hF
      exact g_iret d_X1_placeOnDay_122 rfl hq
def F_X1_placeOnDay_b52 : Nat → Nat → Nat → Nat → Int32 → Int32 → Int32 → Int32 → xH → Option (Int32 × xH)
  | 0, _, _, _, _, _, _, _, _ => none
  | n + 1, x0, x1, x2, x3, x4, x6, x7, h => if x7 < 0 then (fR h x2 5 0).bind fun v81 => (aI h v81 x3).bind fun v85 => F_X1_placeOnDay_b91 FU x0 x1 x4 v85 0 h else (fR h x0 0 0).bind fun v58 => (sI h v58 x7 x6).bind fun h65 => (rc h65 x1 9).bind fun _ => (F_X10_withNeighbours x1 x6 h65).bind fun z69 => F_X1_placeOnDay_b52 n x0 x1 x2 x3 x4 z69.1 (x7 + (-1)) z69.2
theorem R_X1_placeOnDay_b52 {Γ : xG} {l : Launch} {d : Nat} {Q : Option Value → xH → Prop} {r : Int32} {h' : xH} (hdp : 3 ≤ d) (hq : Q (some (.int r)) h') : ∀ (n : Nat) (x0 : Nat) (x1 : Nat) (x2 : Nat) (x3 : Int32) (x4 : Int32) (x6 : Int32) (x7 : Int32) (h : xH), F_X1_placeOnDay_b52 n x0 x1 x2 x3 x4 x6 x7 h = some (r, h') → Gd Γ l d m_X1_placeOnDay 52 [.ref x0, .ref x1, .ref x2, .int x3, .int x4, xhole, .int x6, .int x7, xhole, xhole] [] h 0 0 Q := by
  intro n
  induction n with
  | zero => intro x0 x1 x2 x3 x4 x6 x7 h hF; cases hF
  | succ n ih =>
  intro x0 x1 x2 x3 x4 x6 x7 h hF
  rw [F_X1_placeOnDay_b52] at hF
  refine g_iload d_X1_placeOnDay_52 rfl ?_
  refine g_if_lt 80 d_X1_placeOnDay_54 rfl (fun c54 => ?_) (fun c54 => ?_)
  · have hF := x_t hF c54
    refine g_aloadn d_X1_placeOnDay_80 rfl ?_
    obtain ⟨v81, e81, hF⟩ := Option.bind_eq_some_iff.mp hF
    refine q_fR d_X1_placeOnDay_81 f_X1_31 e81 ?_
    refine g_iloadn d_X1_placeOnDay_84 rfl ?_
    obtain ⟨v85, e85, hF⟩ := Option.bind_eq_some_iff.mp hF
    refine q_aI d_X1_placeOnDay_85 e85 ?_
    refine q_istore [.ref x0, .ref x1, .ref x2, .int x3, .int x4, xhole, .int x6, .int v85, xhole, xhole] d_X1_placeOnDay_86 (by decide) rfl ?_
    refine g_ic (0) d_X1_placeOnDay_88 ic_0 ?_
    refine q_istore [.ref x0, .ref x1, .ref x2, .int x3, .int x4, xhole, .int x6, .int v85, .int 0, xhole] d_X1_placeOnDay_89 (by decide) rfl ?_
    exact q_to (xs_r (xs_r (xs_h (xs_h (xs_r (xs_h (xs_h (xs_r (xs_r (xs_h xs_n)))))))))) (R_X1_placeOnDay_b91 hdp hq FU _ _ _ _ _ _ hF)
  · have hF := x_f hF c54
    refine g_aloadn d_X1_placeOnDay_57 rfl ?_
    obtain ⟨v58, e58, hF⟩ := Option.bind_eq_some_iff.mp hF
    refine q_fR d_X1_placeOnDay_58 f_X1_11 e58 ?_
    refine g_iload d_X1_placeOnDay_61 rfl ?_
    refine g_iload d_X1_placeOnDay_63 rfl ?_
    obtain ⟨h65, e65, hF⟩ := Option.bind_eq_some_iff.mp hF
    refine q_sI d_X1_placeOnDay_65 e65 ?_
    refine g_aloadn d_X1_placeOnDay_66 rfl ?_
    refine g_iload d_X1_placeOnDay_67 rfl ?_
    obtain ⟨_, g69, hF⟩ := Option.bind_eq_some_iff.mp hF
    obtain ⟨⟨r69, h69⟩, e69, hF⟩ := Option.bind_eq_some_iff.mp hF
    try dsimp only at hF
    refine q_callV [.int x6] [] rfl d_X1_placeOnDay_69 v_X1_34 (by omega) rfl (Nat.le_of_ble_eq_true rfl) (rc_rc g69 (by decide) rfl) (R_X10_withNeighbours _ _ _ (by omega) e69) ?_
    refine q_istore [.ref x0, .ref x1, .ref x2, .int x3, .int x4, xhole, .int (r69), .int x7, xhole, xhole] d_X1_placeOnDay_72 (by decide) rfl ?_
    refine q_iinc (-1) [.ref x0, .ref x1, .ref x2, .int x3, .int x4, xhole, .int (r69), .int (x7 + (-1)), xhole, xhole] d_X1_placeOnDay_74 ic_m1 rfl (by decide) rfl ?_
    refine g_goto 52 d_X1_placeOnDay_77 rfl ?_
    exact q_to (xs_r (xs_r (xs_r (xs_r (xs_r (xs_h (xs_r (xs_r (xs_h (xs_h xs_n)))))))))) (ih _ _ _ _ _ _ _ _ hF)
def F_X1_placeOnDay (x0 : Nat) (x1 : Nat) (x2 : Nat) (x3 : Int32) (x4 : Int32) (h : xH) : Option (Int32 × xH) := (rc h x0 0).bind fun _ => (F_X1_soonest x0 x1 x2 x3 h).bind fun z4 => if ((18 : Int32)) < z4.1 then some ((-1), z4.2) else if x4 < z4.1 then (fR z4.2 x2 5 2).bind fun v27 => (aI z4.2 v27 x3).bind fun v31 => (fI z4.2 x2 5 4).bind fun v33 => (rc z4.2 x1 9).bind fun _ => (F_X10_placesSounding x1 v31 ((v33 + z4.1) - 1) z4.2).bind fun z41 => F_X1_placeOnDay_b52 FU x0 x1 x2 x3 x4 z41.1 (z4.1 - 1) z41.2 else some ((-1), z4.2)
theorem R_X1_placeOnDay {Γ : xG} {l : Launch} {d : Nat} {r : Int32} {h' : xH} (x0 : Nat) (x1 : Nat) (x2 : Nat) (x3 : Int32) (x4 : Int32) (h : xH) (hdp : 3 ≤ d) (hF : F_X1_placeOnDay x0 x1 x2 x3 x4 h = some (r, h')) : Gm Γ l d 0 0 m_X1_placeOnDay [.ref x0, .ref x1, .ref x2, .int x3, .int x4] h (fun a u => a = some (.int r) ∧ u = h') := by
  refine Gm.of pn_X1 (Nat.le_of_ble_eq_true rfl) ?_
  show Gd Γ l d m_X1_placeOnDay 0 [.ref x0, .ref x1, .ref x2, .int x3, .int x4, xhole, xhole, xhole, xhole, xhole] [] h 0 0 _
  generalize hQ : (fun (a : Option Value) (u : xH) => a = some (.int r) ∧ u = h') = Q
  have hq : Q (some (.int r)) h' := by rw [← hQ]; exact ⟨rfl, rfl⟩
  clear hQ
  unfold F_X1_placeOnDay at hF
  refine g_aloadn d_X1_placeOnDay_0 rfl ?_
  refine g_aloadn d_X1_placeOnDay_1 rfl ?_
  refine g_aloadn d_X1_placeOnDay_2 rfl ?_
  refine g_iloadn d_X1_placeOnDay_3 rfl ?_
  obtain ⟨_, g4, hF⟩ := Option.bind_eq_some_iff.mp hF
  obtain ⟨⟨r4, h4⟩, e4, hF⟩ := Option.bind_eq_some_iff.mp hF
  try dsimp only at hF
  refine q_callV [.ref x1, .ref x2, .int x3] [] rfl d_X1_placeOnDay_4 v_X1_48 (by omega) rfl (Nat.le_of_ble_eq_true rfl) (rc_rc g4 (by decide) rfl) (R_X1_soonest _ _ _ _ _ (by omega) e4) ?_
  refine q_istore [.ref x0, .ref x1, .ref x2, .int x3, .int x4, .int (r4), xhole, xhole, xhole, xhole] d_X1_placeOnDay_7 (by decide) rfl ?_
  refine g_iload d_X1_placeOnDay_9 rfl ?_
  refine g_bi (18) d_X1_placeOnDay_11 bi_18 ?_
  refine g_icmp_gt 23 d_X1_placeOnDay_13 rfl (fun c13 => ?_) (fun c13 => ?_)
  · have hF := x_t hF c13
    refine g_ic (-1) d_X1_placeOnDay_23 ic_m1 ?_
    obtain ⟨rfl, rfl⟩ := x_inj hF
    exact g_iret d_X1_placeOnDay_24 rfl hq
  · have hF := x_f hF c13
    refine g_iload d_X1_placeOnDay_16 rfl ?_
    refine g_iload d_X1_placeOnDay_18 rfl ?_
    refine g_icmp_lt 25 d_X1_placeOnDay_20 rfl (fun c20 => ?_) (fun c20 => ?_)
    · have hF := x_t hF c20
      refine g_aloadn d_X1_placeOnDay_25 rfl ?_
      refine g_aloadn d_X1_placeOnDay_26 rfl ?_
      obtain ⟨v27, e27, hF⟩ := Option.bind_eq_some_iff.mp hF
      refine q_fR d_X1_placeOnDay_27 f_X1_28 e27 ?_
      refine g_iloadn d_X1_placeOnDay_30 rfl ?_
      obtain ⟨v31, e31, hF⟩ := Option.bind_eq_some_iff.mp hF
      refine q_aI d_X1_placeOnDay_31 e31 ?_
      refine g_aloadn d_X1_placeOnDay_32 rfl ?_
      obtain ⟨v33, e33, hF⟩ := Option.bind_eq_some_iff.mp hF
      refine q_fI d_X1_placeOnDay_33 f_X1_40 e33 ?_
      refine g_iload d_X1_placeOnDay_36 rfl ?_
      refine g_iadd d_X1_placeOnDay_38 ?_
      refine g_ic (1) d_X1_placeOnDay_39 ic_1 ?_
      refine g_isub d_X1_placeOnDay_40 ?_
      obtain ⟨_, g41, hF⟩ := Option.bind_eq_some_iff.mp hF
      obtain ⟨⟨r41, h41⟩, e41, hF⟩ := Option.bind_eq_some_iff.mp hF
      try dsimp only at hF
      refine q_callV [.int v31, .int ((v33 + r4) - 1)] [] rfl d_X1_placeOnDay_41 v_X1_44 (by omega) rfl (Nat.le_of_ble_eq_true rfl) (rc_rc g41 (by decide) rfl) (R_X10_placesSounding _ _ _ _ (by omega) e41) ?_
      refine q_istore [.ref x0, .ref x1, .ref x2, .int x3, .int x4, .int (r4), .int (r41), xhole, xhole, xhole] d_X1_placeOnDay_44 (by decide) rfl ?_
      refine g_iload d_X1_placeOnDay_46 rfl ?_
      refine g_ic (1) d_X1_placeOnDay_48 ic_1 ?_
      refine g_isub d_X1_placeOnDay_49 ?_
      refine q_istore [.ref x0, .ref x1, .ref x2, .int x3, .int x4, .int (r4), .int (r41), .int (r4 - 1), xhole, xhole] d_X1_placeOnDay_50 (by decide) rfl ?_
      exact q_to (xs_r (xs_r (xs_r (xs_r (xs_r (xs_h (xs_r (xs_r (xs_h (xs_h xs_n)))))))))) (R_X1_placeOnDay_b52 hdp hq FU _ _ _ _ _ _ _ _ hF)
    · have hF := x_f hF c20
      refine g_ic (-1) d_X1_placeOnDay_23 ic_m1 ?_
      obtain ⟨rfl, rfl⟩ := x_inj hF
      exact g_iret d_X1_placeOnDay_24 rfl hq
theorem d_X1_placesWithin_0 : decode cX1_placesWithin 0 = .ok (.aload_n 2, 1) := by decide +kernel
theorem d_X1_placesWithin_1 : decode cX1_placesWithin 1 = .ok (.iload_n 3, 1) := by decide +kernel
theorem d_X1_placesWithin_2 : decode cX1_placesWithin 2 = .ok (.invokevirtual 22, 3) := by decide +kernel
theorem d_X1_placesWithin_5 : decode cX1_placesWithin 5 = .ok (.ifCond .eq 12, 3) := by decide +kernel
theorem d_X1_placesWithin_8 : decode cX1_placesWithin 8 = .ok (.iconst 1, 1) := by decide +kernel
theorem d_X1_placesWithin_9 : decode cX1_placesWithin 9 = .ok (.aload_n 1, 1) := by decide +kernel
theorem d_X1_placesWithin_10 : decode cX1_placesWithin 10 = .ok (.getfield 57, 3) := by decide +kernel
theorem d_X1_placesWithin_13 : decode cX1_placesWithin 13 = .ok (.ishl, 1) := by decide +kernel
theorem d_X1_placesWithin_14 : decode cX1_placesWithin 14 = .ok (.iconst 1, 1) := by decide +kernel
theorem d_X1_placesWithin_15 : decode cX1_placesWithin 15 = .ok (.isub, 1) := by decide +kernel
theorem d_X1_placesWithin_16 : decode cX1_placesWithin 16 = .ok (.ireturn, 1) := by decide +kernel
theorem d_X1_placesWithin_17 : decode cX1_placesWithin 17 = .ok (.iconst 0, 1) := by decide +kernel
theorem d_X1_placesWithin_18 : decode cX1_placesWithin 18 = .ok (.istore 5, 2) := by decide +kernel
theorem d_X1_placesWithin_20 : decode cX1_placesWithin 20 = .ok (.iload 4, 2) := by decide +kernel
theorem d_X1_placesWithin_22 : decode cX1_placesWithin 22 = .ok (.iconst 1, 1) := by decide +kernel
theorem d_X1_placesWithin_23 : decode cX1_placesWithin 23 = .ok (.isub, 1) := by decide +kernel
theorem d_X1_placesWithin_24 : decode cX1_placesWithin 24 = .ok (.istore 6, 2) := by decide +kernel
theorem d_X1_placesWithin_26 : decode cX1_placesWithin 26 = .ok (.iload 6, 2) := by decide +kernel
theorem d_X1_placesWithin_28 : decode cX1_placesWithin 28 = .ok (.ifCond .lt 39, 3) := by decide +kernel
theorem d_X1_placesWithin_31 : decode cX1_placesWithin 31 = .ok (.iload 5, 2) := by decide +kernel
theorem d_X1_placesWithin_33 : decode cX1_placesWithin 33 = .ok (.aload_n 1, 1) := by decide +kernel
theorem d_X1_placesWithin_34 : decode cX1_placesWithin 34 = .ok (.aload_n 2, 1) := by decide +kernel
theorem d_X1_placesWithin_35 : decode cX1_placesWithin 35 = .ok (.getfield 28, 3) := by decide +kernel
theorem d_X1_placesWithin_38 : decode cX1_placesWithin 38 = .ok (.iload_n 3, 1) := by decide +kernel
theorem d_X1_placesWithin_39 : decode cX1_placesWithin 39 = .ok (.iaload, 1) := by decide +kernel
theorem d_X1_placesWithin_40 : decode cX1_placesWithin 40 = .ok (.aload_n 2, 1) := by decide +kernel
theorem d_X1_placesWithin_41 : decode cX1_placesWithin 41 = .ok (.getfield 40, 3) := by decide +kernel
theorem d_X1_placesWithin_44 : decode cX1_placesWithin 44 = .ok (.iload 6, 2) := by decide +kernel
theorem d_X1_placesWithin_46 : decode cX1_placesWithin 46 = .ok (.iadd, 1) := by decide +kernel
theorem d_X1_placesWithin_47 : decode cX1_placesWithin 47 = .ok (.invokevirtual 44, 3) := by decide +kernel
theorem d_X1_placesWithin_50 : decode cX1_placesWithin 50 = .ok (.ior, 1) := by decide +kernel
theorem d_X1_placesWithin_51 : decode cX1_placesWithin 51 = .ok (.istore 5, 2) := by decide +kernel
theorem d_X1_placesWithin_53 : decode cX1_placesWithin 53 = .ok (.aload_n 1, 1) := by decide +kernel
theorem d_X1_placesWithin_54 : decode cX1_placesWithin 54 = .ok (.iload 5, 2) := by decide +kernel
theorem d_X1_placesWithin_56 : decode cX1_placesWithin 56 = .ok (.invokevirtual 34, 3) := by decide +kernel
theorem d_X1_placesWithin_59 : decode cX1_placesWithin 59 = .ok (.istore 5, 2) := by decide +kernel
theorem d_X1_placesWithin_61 : decode cX1_placesWithin 61 = .ok (.iinc 6 (-1), 3) := by decide +kernel
theorem d_X1_placesWithin_64 : decode cX1_placesWithin 64 = .ok (.goto (-38), 3) := by decide +kernel
theorem d_X1_placesWithin_67 : decode cX1_placesWithin 67 = .ok (.iload 5, 2) := by decide +kernel
theorem d_X1_placesWithin_69 : decode cX1_placesWithin 69 = .ok (.ireturn, 1) := by decide +kernel
def F_X1_placesWithin_b26 : Nat → Nat → Nat → Int32 → Int32 → Int32 → xH → Option (Int32 × xH)
  | 0, _, _, _, _, _, _ => none
  | n + 1, x1, x2, x3, x5, x6, h => if x6 < 0 then some (x5, h) else (fR h x2 5 2).bind fun v35 => (aI h v35 x3).bind fun v39 => (fI h x2 5 4).bind fun v41 => (rc h x1 9).bind fun _ => (F_X10_placesSounding x1 v39 (v41 + x6) h).bind fun z47 => (rc z47.2 x1 9).bind fun _ => (F_X10_withNeighbours x1 (x5 ||| z47.1) z47.2).bind fun z56 => F_X1_placesWithin_b26 n x1 x2 x3 z56.1 (x6 + (-1)) z56.2
theorem R_X1_placesWithin_b26 {Γ : xG} {l : Launch} {d : Nat} {Q : Option Value → xH → Prop} {r : Int32} {h' : xH} (hdp : 2 ≤ d) (hq : Q (some (.int r)) h') : ∀ (n : Nat) (x1 : Nat) (x2 : Nat) (x3 : Int32) (x5 : Int32) (x6 : Int32) (h : xH), F_X1_placesWithin_b26 n x1 x2 x3 x5 x6 h = some (r, h') → Gd Γ l d m_X1_placesWithin 26 [xhole, .ref x1, .ref x2, .int x3, xhole, .int x5, .int x6] [] h 0 0 Q := by
  intro n
  induction n with
  | zero => intro x1 x2 x3 x5 x6 h hF; cases hF
  | succ n ih =>
  intro x1 x2 x3 x5 x6 h hF
  rw [F_X1_placesWithin_b26] at hF
  refine g_iload d_X1_placesWithin_26 rfl ?_
  refine g_if_lt 67 d_X1_placesWithin_28 rfl (fun c28 => ?_) (fun c28 => ?_)
  · have hF := x_t hF c28
    refine g_iload d_X1_placesWithin_67 rfl ?_
    obtain ⟨rfl, rfl⟩ := x_inj hF
    exact g_iret d_X1_placesWithin_69 rfl hq
  · have hF := x_f hF c28
    refine g_iload d_X1_placesWithin_31 rfl ?_
    refine g_aloadn d_X1_placesWithin_33 rfl ?_
    refine g_aloadn d_X1_placesWithin_34 rfl ?_
    obtain ⟨v35, e35, hF⟩ := Option.bind_eq_some_iff.mp hF
    refine q_fR d_X1_placesWithin_35 f_X1_28 e35 ?_
    refine g_iloadn d_X1_placesWithin_38 rfl ?_
    obtain ⟨v39, e39, hF⟩ := Option.bind_eq_some_iff.mp hF
    refine q_aI d_X1_placesWithin_39 e39 ?_
    refine g_aloadn d_X1_placesWithin_40 rfl ?_
    obtain ⟨v41, e41, hF⟩ := Option.bind_eq_some_iff.mp hF
    refine q_fI d_X1_placesWithin_41 f_X1_40 e41 ?_
    refine g_iload d_X1_placesWithin_44 rfl ?_
    refine g_iadd d_X1_placesWithin_46 ?_
    obtain ⟨_, g47, hF⟩ := Option.bind_eq_some_iff.mp hF
    obtain ⟨⟨r47, h47⟩, e47, hF⟩ := Option.bind_eq_some_iff.mp hF
    try dsimp only at hF
    refine q_callV [.int v39, .int (v41 + x6)] [.int x5] rfl d_X1_placesWithin_47 v_X1_44 (by omega) rfl (Nat.le_of_ble_eq_true rfl) (rc_rc g47 (by decide) rfl) (R_X10_placesSounding _ _ _ _ (by omega) e47) ?_
    refine g_ior d_X1_placesWithin_50 ?_
    refine q_istore [xhole, .ref x1, .ref x2, .int x3, xhole, .int (x5 ||| r47), .int x6] d_X1_placesWithin_51 (by decide) rfl ?_
    refine g_aloadn d_X1_placesWithin_53 rfl ?_
    refine g_iload d_X1_placesWithin_54 rfl ?_
    obtain ⟨_, g56, hF⟩ := Option.bind_eq_some_iff.mp hF
    obtain ⟨⟨r56, h56⟩, e56, hF⟩ := Option.bind_eq_some_iff.mp hF
    try dsimp only at hF
    refine q_callV [.int (x5 ||| r47)] [] rfl d_X1_placesWithin_56 v_X1_34 (by omega) rfl (Nat.le_of_ble_eq_true rfl) (rc_rc g56 (by decide) rfl) (R_X10_withNeighbours _ _ _ (by omega) e56) ?_
    refine q_istore [xhole, .ref x1, .ref x2, .int x3, xhole, .int (r56), .int x6] d_X1_placesWithin_59 (by decide) rfl ?_
    refine q_iinc (-1) [xhole, .ref x1, .ref x2, .int x3, xhole, .int (r56), .int (x6 + (-1))] d_X1_placesWithin_61 ic_m1 rfl (by decide) rfl ?_
    refine g_goto 26 d_X1_placesWithin_64 rfl ?_
    exact q_to (xs_h (xs_r (xs_r (xs_r (xs_h (xs_r (xs_r xs_n))))))) (ih _ _ _ _ _ _ hF)
def F_X1_placesWithin (x0 : Nat) (x1 : Nat) (x2 : Nat) (x3 : Int32) (x4 : Int32) (h : xH) : Option (Int32 × xH) := (rc h x2 5).bind fun _ => (F_X6_hasFound x2 x3 h).bind fun z2 => if z2.1 = 0 then F_X1_placesWithin_b26 FU x1 x2 x3 0 (x4 - 1) z2.2 else (fI z2.2 x1 9 3).bind fun v10 => some ((((1 : Int32)) <<< (v10 &&& 31)) - 1, z2.2)
theorem R_X1_placesWithin {Γ : xG} {l : Launch} {d : Nat} {r : Int32} {h' : xH} (x0 : Nat) (x1 : Nat) (x2 : Nat) (x3 : Int32) (x4 : Int32) (h : xH) (hdp : 2 ≤ d) (hF : F_X1_placesWithin x0 x1 x2 x3 x4 h = some (r, h')) : Gm Γ l d 0 0 m_X1_placesWithin [.ref x0, .ref x1, .ref x2, .int x3, .int x4] h (fun a u => a = some (.int r) ∧ u = h') := by
  refine Gm.of pn_X1 (Nat.le_of_ble_eq_true rfl) ?_
  show Gd Γ l d m_X1_placesWithin 0 [.ref x0, .ref x1, .ref x2, .int x3, .int x4, xhole, xhole] [] h 0 0 _
  generalize hQ : (fun (a : Option Value) (u : xH) => a = some (.int r) ∧ u = h') = Q
  have hq : Q (some (.int r)) h' := by rw [← hQ]; exact ⟨rfl, rfl⟩
  clear hQ
  unfold F_X1_placesWithin at hF
  refine g_aloadn d_X1_placesWithin_0 rfl ?_
  refine g_iloadn d_X1_placesWithin_1 rfl ?_
  obtain ⟨_, g2, hF⟩ := Option.bind_eq_some_iff.mp hF
  obtain ⟨⟨r2, h2⟩, e2, hF⟩ := Option.bind_eq_some_iff.mp hF
  try dsimp only at hF
  refine q_callV [.int x3] [] rfl d_X1_placesWithin_2 v_X1_22 (by omega) rfl (Nat.le_of_ble_eq_true rfl) (rc_rc g2 (by decide) rfl) (R_X6_hasFound _ _ _ (by omega) e2) ?_
  refine g_if_eq 17 d_X1_placesWithin_5 rfl (fun c5 => ?_) (fun c5 => ?_)
  · have hF := x_t hF c5
    refine g_ic (0) d_X1_placesWithin_17 ic_0 ?_
    refine q_istore [.ref x0, .ref x1, .ref x2, .int x3, .int x4, .int 0, xhole] d_X1_placesWithin_18 (by decide) rfl ?_
    refine g_iload d_X1_placesWithin_20 rfl ?_
    refine g_ic (1) d_X1_placesWithin_22 ic_1 ?_
    refine g_isub d_X1_placesWithin_23 ?_
    refine q_istore [.ref x0, .ref x1, .ref x2, .int x3, .int x4, .int 0, .int (x4 - 1)] d_X1_placesWithin_24 (by decide) rfl ?_
    exact q_to (xs_h (xs_r (xs_r (xs_r (xs_h (xs_r (xs_r xs_n))))))) (R_X1_placesWithin_b26 hdp hq FU _ _ _ _ _ _ hF)
  · have hF := x_f hF c5
    refine g_ic (1) d_X1_placesWithin_8 ic_1 ?_
    refine g_aloadn d_X1_placesWithin_9 rfl ?_
    obtain ⟨v10, e10, hF⟩ := Option.bind_eq_some_iff.mp hF
    refine q_fI d_X1_placesWithin_10 f_X1_57 e10 ?_
    refine g_ishl d_X1_placesWithin_13 ?_
    refine g_ic (1) d_X1_placesWithin_14 ic_1 ?_
    refine g_isub d_X1_placesWithin_15 ?_
    obtain ⟨rfl, rfl⟩ := x_inj hF
    exact g_iret d_X1_placesWithin_16 rfl hq
theorem d_X1_partsInAll_0 : decode cX1_partsInAll 0 = .ok (.lconst 1, 1) := by decide +kernel
theorem d_X1_partsInAll_1 : decode cX1_partsInAll 1 = .ok (.lstore_n 1, 1) := by decide +kernel
theorem d_X1_partsInAll_2 : decode cX1_partsInAll 2 = .ok (.iconst 0, 1) := by decide +kernel
theorem d_X1_partsInAll_3 : decode cX1_partsInAll 3 = .ok (.istore_n 3, 1) := by decide +kernel
theorem d_X1_partsInAll_4 : decode cX1_partsInAll 4 = .ok (.iload_n 3, 1) := by decide +kernel
theorem d_X1_partsInAll_5 : decode cX1_partsInAll 5 = .ok (.iload_n 0, 1) := by decide +kernel
theorem d_X1_partsInAll_6 : decode cX1_partsInAll 6 = .ok (.if_icmp .ge 15, 3) := by decide +kernel
theorem d_X1_partsInAll_9 : decode cX1_partsInAll 9 = .ok (.lload_n 1, 1) := by decide +kernel
theorem d_X1_partsInAll_10 : decode cX1_partsInAll 10 = .ok (.ldc2_w 74, 3) := by decide +kernel
theorem d_X1_partsInAll_13 : decode cX1_partsInAll 13 = .ok (.lmul, 1) := by decide +kernel
theorem d_X1_partsInAll_14 : decode cX1_partsInAll 14 = .ok (.lstore_n 1, 1) := by decide +kernel
theorem d_X1_partsInAll_15 : decode cX1_partsInAll 15 = .ok (.iinc 3 1, 3) := by decide +kernel
theorem d_X1_partsInAll_18 : decode cX1_partsInAll 18 = .ok (.goto (-14), 3) := by decide +kernel
theorem d_X1_partsInAll_21 : decode cX1_partsInAll 21 = .ok (.lload_n 1, 1) := by decide +kernel
theorem d_X1_partsInAll_22 : decode cX1_partsInAll 22 = .ok (.lreturn, 1) := by decide +kernel
def F_X1_partsInAll_b4 : Nat → Int32 → Int64 → Int32 → xH → Option (Int64 × xH)
  | 0, _, _, _, _ => none
  | n + 1, x0, x1, x3, h => if x0 ≤ x3 then some (x1, h) else F_X1_partsInAll_b4 n x0 (x1 * 60) (x3 + 1) h
theorem R_X1_partsInAll_b4 {Γ : xG} {l : Launch} {d : Nat} {Q : Option Value → xH → Prop} {r : Int64} {h' : xH} (hdp : 0 ≤ d) (hq : Q (some (.long r)) h') : ∀ (n : Nat) (x0 : Int32) (x1 : Int64) (x3 : Int32) (h : xH), F_X1_partsInAll_b4 n x0 x1 x3 h = some (r, h') → Gd Γ l d m_X1_partsInAll 4 [.int x0, .long x1, xhole, .int x3] [] h 0 0 Q := by
  intro n
  induction n with
  | zero => intro x0 x1 x3 h hF; cases hF
  | succ n ih =>
  intro x0 x1 x3 h hF
  rw [F_X1_partsInAll_b4] at hF
  refine g_iloadn d_X1_partsInAll_4 rfl ?_
  refine g_iloadn d_X1_partsInAll_5 rfl ?_
  refine g_icmp_ge 21 d_X1_partsInAll_6 rfl (fun c6 => ?_) (fun c6 => ?_)
  · have hF := x_t hF c6
    refine g_lloadn d_X1_partsInAll_21 rfl ?_
    obtain ⟨rfl, rfl⟩ := x_inj hF
    exact g_lret d_X1_partsInAll_22 rfl hq
  · have hF := x_f hF c6
    refine g_lloadn d_X1_partsInAll_9 rfl ?_
    refine g_ldc2 d_X1_partsInAll_10 k_X1_74 ?_
    refine g_lmul d_X1_partsInAll_13 ?_
    refine q_lstoren [.int x0, .long (x1 * 60), xhole, .int x3] d_X1_partsInAll_14 (by decide) rfl ?_
    refine q_iinc (1) [.int x0, .long (x1 * 60), xhole, .int (x3 + 1)] d_X1_partsInAll_15 ic_1 rfl (by decide) rfl ?_
    refine g_goto 4 d_X1_partsInAll_18 rfl ?_
    exact q_to (xs_r (xs_r (xs_h (xs_r xs_n)))) (ih _ _ _ _ hF)
def F_X1_partsInAll (x0 : Int32) (h : xH) : Option (Int64 × xH) := F_X1_partsInAll_b4 FU x0 1 0 h
theorem R_X1_partsInAll {Γ : xG} {l : Launch} {d : Nat} {r : Int64} {h' : xH} (x0 : Int32) (h : xH) (hdp : 0 ≤ d) (hF : F_X1_partsInAll x0 h = some (r, h')) : Gm Γ l d 0 0 m_X1_partsInAll [.int x0] h (fun a u => a = some (.long r) ∧ u = h') := by
  refine Gm.of pn_X1 (Nat.le_of_ble_eq_true rfl) ?_
  show Gd Γ l d m_X1_partsInAll 0 [.int x0, xhole, xhole, xhole] [] h 0 0 _
  generalize hQ : (fun (a : Option Value) (u : xH) => a = some (.long r) ∧ u = h') = Q
  have hq : Q (some (.long r)) h' := by rw [← hQ]; exact ⟨rfl, rfl⟩
  clear hQ
  unfold F_X1_partsInAll at hF
  refine g_lc 1 d_X1_partsInAll_0 rfl ?_
  refine q_lstoren [.int x0, .long 1, xhole, xhole] d_X1_partsInAll_1 (by decide) rfl ?_
  refine g_ic (0) d_X1_partsInAll_2 ic_0 ?_
  refine q_istoren [.int x0, .long 1, xhole, .int 0] d_X1_partsInAll_3 (by decide) rfl ?_
  exact q_to (xs_r (xs_r (xs_h (xs_r xs_n)))) (R_X1_partsInAll_b4 hdp hq FU _ _ _ _ hF)
theorem d_J7_fill_d0a16_0 : decode cJ7_fill_d0a16 0 = .ok (.iconst 0, 1) := by decide +kernel
theorem d_J7_fill_d0a16_1 : decode cJ7_fill_d0a16 1 = .ok (.istore_n 3, 1) := by decide +kernel
theorem d_J7_fill_d0a16_2 : decode cJ7_fill_d0a16 2 = .ok (.aload_n 0, 1) := by decide +kernel
theorem d_J7_fill_d0a16_3 : decode cJ7_fill_d0a16 3 = .ok (.arraylength, 1) := by decide +kernel
theorem d_J7_fill_d0a16_4 : decode cJ7_fill_d0a16 4 = .ok (.istore 4, 2) := by decide +kernel
theorem d_J7_fill_d0a16_6 : decode cJ7_fill_d0a16 6 = .ok (.iload_n 3, 1) := by decide +kernel
theorem d_J7_fill_d0a16_7 : decode cJ7_fill_d0a16 7 = .ok (.iload 4, 2) := by decide +kernel
theorem d_J7_fill_d0a16_9 : decode cJ7_fill_d0a16 9 = .ok (.if_icmp .ge 13, 3) := by decide +kernel
theorem d_J7_fill_d0a16_12 : decode cJ7_fill_d0a16 12 = .ok (.aload_n 0, 1) := by decide +kernel
theorem d_J7_fill_d0a16_13 : decode cJ7_fill_d0a16 13 = .ok (.iload_n 3, 1) := by decide +kernel
theorem d_J7_fill_d0a16_14 : decode cJ7_fill_d0a16 14 = .ok (.lload_n 1, 1) := by decide +kernel
theorem d_J7_fill_d0a16_15 : decode cJ7_fill_d0a16 15 = .ok (.lastore, 1) := by decide +kernel
theorem d_J7_fill_d0a16_16 : decode cJ7_fill_d0a16 16 = .ok (.iinc 3 1, 3) := by decide +kernel
theorem d_J7_fill_d0a16_19 : decode cJ7_fill_d0a16 19 = .ok (.goto (-13), 3) := by decide +kernel
theorem d_J7_fill_d0a16_22 : decode cJ7_fill_d0a16 22 = .ok (.return_, 1) := by decide +kernel
def F_J7_fill_d0a16_b6 : Nat → Nat → Int64 → Int32 → Int32 → xH → Option (Unit × xH)
  | 0, _, _, _, _, _ => none
  | n + 1, x0, x1, x3, x4, h => if x4 ≤ x3 then some ((), h) else (sJ h x0 x3 x1).bind fun h15 => F_J7_fill_d0a16_b6 n x0 x1 (x3 + 1) x4 h15
theorem R_J7_fill_d0a16_b6 {Γ : xG} {l : Launch} {d : Nat} {Q : Option Value → xH → Prop} {r : Unit} {h' : xH} (hdp : 0 ≤ d) (hq : Q (none) h') : ∀ (n : Nat) (x0 : Nat) (x1 : Int64) (x3 : Int32) (x4 : Int32) (h : xH), F_J7_fill_d0a16_b6 n x0 x1 x3 x4 h = some (r, h') → Gd Γ l d m_J7_fill_d0a16 6 [.ref x0, .long x1, xhole, .int x3, .int x4] [] h 0 0 Q := by
  intro n
  induction n with
  | zero => intro x0 x1 x3 x4 h hF; cases hF
  | succ n ih =>
  intro x0 x1 x3 x4 h hF
  rw [F_J7_fill_d0a16_b6] at hF
  refine g_iloadn d_J7_fill_d0a16_6 rfl ?_
  refine g_iload d_J7_fill_d0a16_7 rfl ?_
  refine g_icmp_ge 22 d_J7_fill_d0a16_9 rfl (fun c9 => ?_) (fun c9 => ?_)
  · have hF := x_t hF c9
    obtain ⟨rfl, rfl⟩ := x_inj hF
    exact g_vret d_J7_fill_d0a16_22 rfl hq
  · have hF := x_f hF c9
    refine g_aloadn d_J7_fill_d0a16_12 rfl ?_
    refine g_iloadn d_J7_fill_d0a16_13 rfl ?_
    refine g_lloadn d_J7_fill_d0a16_14 rfl ?_
    obtain ⟨h15, e15, hF⟩ := Option.bind_eq_some_iff.mp hF
    refine q_sJ d_J7_fill_d0a16_15 e15 ?_
    refine q_iinc (1) [.ref x0, .long x1, xhole, .int (x3 + 1), .int x4] d_J7_fill_d0a16_16 ic_1 rfl (by decide) rfl ?_
    refine g_goto 6 d_J7_fill_d0a16_19 rfl ?_
    exact q_to (xs_r (xs_r (xs_h (xs_r (xs_r xs_n))))) (ih _ _ _ _ _ hF)
def F_J7_fill_d0a16 (x0 : Nat) (x1 : Int64) (h : xH) : Option (Unit × xH) := (al h x0).bind fun v3 => F_J7_fill_d0a16_b6 FU x0 x1 0 v3 h
theorem R_J7_fill_d0a16 {Γ : xG} {l : Launch} {d : Nat} {r : Unit} {h' : xH} (x0 : Nat) (x1 : Int64) (h : xH) (hdp : 0 ≤ d) (hF : F_J7_fill_d0a16 x0 x1 h = some (r, h')) : Gm Γ l d 0 0 m_J7_fill_d0a16 [.ref x0, .long x1] h (fun a u => a = none ∧ u = h') := by
  refine Gm.of pn_J7 (Nat.le_of_ble_eq_true rfl) ?_
  show Gd Γ l d m_J7_fill_d0a16 0 [.ref x0, .long x1, xhole, xhole, xhole] [] h 0 0 _
  generalize hQ : (fun (a : Option Value) (u : xH) => a = none ∧ u = h') = Q
  have hq : Q (none) h' := by rw [← hQ]; exact ⟨rfl, rfl⟩
  clear hQ
  unfold F_J7_fill_d0a16 at hF
  refine g_ic (0) d_J7_fill_d0a16_0 ic_0 ?_
  refine q_istoren [.ref x0, .long x1, xhole, .int 0, xhole] d_J7_fill_d0a16_1 (by decide) rfl ?_
  refine g_aloadn d_J7_fill_d0a16_2 rfl ?_
  obtain ⟨v3, e3, hF⟩ := Option.bind_eq_some_iff.mp hF
  refine q_al d_J7_fill_d0a16_3 e3 ?_
  refine q_istore [.ref x0, .long x1, xhole, .int 0, .int v3] d_J7_fill_d0a16_4 (by decide) rfl ?_
  exact q_to (xs_r (xs_r (xs_h (xs_r (xs_r xs_n))))) (R_J7_fill_d0a16_b6 hdp hq FU _ _ _ _ _ hF)
theorem d_J6_bitCount_0f7a4_0 : decode cJ6_bitCount_0f7a4 0 = .ok (.iload_n 0, 1) := by decide +kernel
theorem d_J6_bitCount_0f7a4_1 : decode cJ6_bitCount_0f7a4 1 = .ok (.iload_n 0, 1) := by decide +kernel
theorem d_J6_bitCount_0f7a4_2 : decode cJ6_bitCount_0f7a4 2 = .ok (.iconst 1, 1) := by decide +kernel
theorem d_J6_bitCount_0f7a4_3 : decode cJ6_bitCount_0f7a4 3 = .ok (.iushr, 1) := by decide +kernel
theorem d_J6_bitCount_0f7a4_4 : decode cJ6_bitCount_0f7a4 4 = .ok (.ldc_w 265, 3) := by decide +kernel
theorem d_J6_bitCount_0f7a4_7 : decode cJ6_bitCount_0f7a4 7 = .ok (.iand, 1) := by decide +kernel
theorem d_J6_bitCount_0f7a4_8 : decode cJ6_bitCount_0f7a4 8 = .ok (.isub, 1) := by decide +kernel
theorem d_J6_bitCount_0f7a4_9 : decode cJ6_bitCount_0f7a4 9 = .ok (.istore_n 0, 1) := by decide +kernel
theorem d_J6_bitCount_0f7a4_10 : decode cJ6_bitCount_0f7a4 10 = .ok (.iload_n 0, 1) := by decide +kernel
theorem d_J6_bitCount_0f7a4_11 : decode cJ6_bitCount_0f7a4 11 = .ok (.ldc_w 266, 3) := by decide +kernel
theorem d_J6_bitCount_0f7a4_14 : decode cJ6_bitCount_0f7a4 14 = .ok (.iand, 1) := by decide +kernel
theorem d_J6_bitCount_0f7a4_15 : decode cJ6_bitCount_0f7a4 15 = .ok (.iload_n 0, 1) := by decide +kernel
theorem d_J6_bitCount_0f7a4_16 : decode cJ6_bitCount_0f7a4 16 = .ok (.iconst 2, 1) := by decide +kernel
theorem d_J6_bitCount_0f7a4_17 : decode cJ6_bitCount_0f7a4 17 = .ok (.iushr, 1) := by decide +kernel
theorem d_J6_bitCount_0f7a4_18 : decode cJ6_bitCount_0f7a4 18 = .ok (.ldc_w 266, 3) := by decide +kernel
theorem d_J6_bitCount_0f7a4_21 : decode cJ6_bitCount_0f7a4 21 = .ok (.iand, 1) := by decide +kernel
theorem d_J6_bitCount_0f7a4_22 : decode cJ6_bitCount_0f7a4 22 = .ok (.iadd, 1) := by decide +kernel
theorem d_J6_bitCount_0f7a4_23 : decode cJ6_bitCount_0f7a4 23 = .ok (.istore_n 0, 1) := by decide +kernel
theorem d_J6_bitCount_0f7a4_24 : decode cJ6_bitCount_0f7a4 24 = .ok (.iload_n 0, 1) := by decide +kernel
theorem d_J6_bitCount_0f7a4_25 : decode cJ6_bitCount_0f7a4 25 = .ok (.iload_n 0, 1) := by decide +kernel
theorem d_J6_bitCount_0f7a4_26 : decode cJ6_bitCount_0f7a4 26 = .ok (.iconst 4, 1) := by decide +kernel
theorem d_J6_bitCount_0f7a4_27 : decode cJ6_bitCount_0f7a4 27 = .ok (.iushr, 1) := by decide +kernel
theorem d_J6_bitCount_0f7a4_28 : decode cJ6_bitCount_0f7a4 28 = .ok (.iadd, 1) := by decide +kernel
theorem d_J6_bitCount_0f7a4_29 : decode cJ6_bitCount_0f7a4 29 = .ok (.ldc_w 267, 3) := by decide +kernel
theorem d_J6_bitCount_0f7a4_32 : decode cJ6_bitCount_0f7a4 32 = .ok (.iand, 1) := by decide +kernel
theorem d_J6_bitCount_0f7a4_33 : decode cJ6_bitCount_0f7a4 33 = .ok (.istore_n 0, 1) := by decide +kernel
theorem d_J6_bitCount_0f7a4_34 : decode cJ6_bitCount_0f7a4 34 = .ok (.iload_n 0, 1) := by decide +kernel
theorem d_J6_bitCount_0f7a4_35 : decode cJ6_bitCount_0f7a4 35 = .ok (.iload_n 0, 1) := by decide +kernel
theorem d_J6_bitCount_0f7a4_36 : decode cJ6_bitCount_0f7a4 36 = .ok (.bipush 8, 2) := by decide +kernel
theorem d_J6_bitCount_0f7a4_38 : decode cJ6_bitCount_0f7a4 38 = .ok (.iushr, 1) := by decide +kernel
theorem d_J6_bitCount_0f7a4_39 : decode cJ6_bitCount_0f7a4 39 = .ok (.iadd, 1) := by decide +kernel
theorem d_J6_bitCount_0f7a4_40 : decode cJ6_bitCount_0f7a4 40 = .ok (.istore_n 0, 1) := by decide +kernel
theorem d_J6_bitCount_0f7a4_41 : decode cJ6_bitCount_0f7a4 41 = .ok (.iload_n 0, 1) := by decide +kernel
theorem d_J6_bitCount_0f7a4_42 : decode cJ6_bitCount_0f7a4 42 = .ok (.iload_n 0, 1) := by decide +kernel
theorem d_J6_bitCount_0f7a4_43 : decode cJ6_bitCount_0f7a4 43 = .ok (.bipush 16, 2) := by decide +kernel
theorem d_J6_bitCount_0f7a4_45 : decode cJ6_bitCount_0f7a4 45 = .ok (.iushr, 1) := by decide +kernel
theorem d_J6_bitCount_0f7a4_46 : decode cJ6_bitCount_0f7a4 46 = .ok (.iadd, 1) := by decide +kernel
theorem d_J6_bitCount_0f7a4_47 : decode cJ6_bitCount_0f7a4 47 = .ok (.istore_n 0, 1) := by decide +kernel
theorem d_J6_bitCount_0f7a4_48 : decode cJ6_bitCount_0f7a4 48 = .ok (.iload_n 0, 1) := by decide +kernel
theorem d_J6_bitCount_0f7a4_49 : decode cJ6_bitCount_0f7a4 49 = .ok (.bipush 63, 2) := by decide +kernel
theorem d_J6_bitCount_0f7a4_51 : decode cJ6_bitCount_0f7a4 51 = .ok (.iand, 1) := by decide +kernel
theorem d_J6_bitCount_0f7a4_52 : decode cJ6_bitCount_0f7a4 52 = .ok (.ireturn, 1) := by decide +kernel
def F_J6_bitCount_0f7a4 (x0 : Int32) (h : xH) : Option (Int32 × xH) := some ((((((((x0 - ((ush x0 1) &&& 1431655765)) &&& 858993459) + ((ush (x0 - ((ush x0 1) &&& 1431655765)) 2) &&& 858993459)) + (ush (((x0 - ((ush x0 1) &&& 1431655765)) &&& 858993459) + ((ush (x0 - ((ush x0 1) &&& 1431655765)) 2) &&& 858993459)) 4)) &&& 252645135) + (ush (((((x0 - ((ush x0 1) &&& 1431655765)) &&& 858993459) + ((ush (x0 - ((ush x0 1) &&& 1431655765)) 2) &&& 858993459)) + (ush (((x0 - ((ush x0 1) &&& 1431655765)) &&& 858993459) + ((ush (x0 - ((ush x0 1) &&& 1431655765)) 2) &&& 858993459)) 4)) &&& 252645135) 8)) + (ush ((((((x0 - ((ush x0 1) &&& 1431655765)) &&& 858993459) + ((ush (x0 - ((ush x0 1) &&& 1431655765)) 2) &&& 858993459)) + (ush (((x0 - ((ush x0 1) &&& 1431655765)) &&& 858993459) + ((ush (x0 - ((ush x0 1) &&& 1431655765)) 2) &&& 858993459)) 4)) &&& 252645135) + (ush (((((x0 - ((ush x0 1) &&& 1431655765)) &&& 858993459) + ((ush (x0 - ((ush x0 1) &&& 1431655765)) 2) &&& 858993459)) + (ush (((x0 - ((ush x0 1) &&& 1431655765)) &&& 858993459) + ((ush (x0 - ((ush x0 1) &&& 1431655765)) 2) &&& 858993459)) 4)) &&& 252645135) 8)) 16)) &&& 63, h)
theorem R_J6_bitCount_0f7a4 {Γ : xG} {l : Launch} {d : Nat} {r : Int32} {h' : xH} (x0 : Int32) (h : xH) (hdp : 0 ≤ d) (hF : F_J6_bitCount_0f7a4 x0 h = some (r, h')) : Gm Γ l d 0 0 m_J6_bitCount_0f7a4 [.int x0] h (fun a u => a = some (.int r) ∧ u = h') := by
  refine Gm.of pn_J6 (Nat.le_of_ble_eq_true rfl) ?_
  show Gd Γ l d m_J6_bitCount_0f7a4 0 [.int x0] [] h 0 0 _
  generalize hQ : (fun (a : Option Value) (u : xH) => a = some (.int r) ∧ u = h') = Q
  have hq : Q (some (.int r)) h' := by rw [← hQ]; exact ⟨rfl, rfl⟩
  clear hQ
  unfold F_J6_bitCount_0f7a4 at hF
  refine g_iloadn d_J6_bitCount_0f7a4_0 rfl ?_
  refine g_iloadn d_J6_bitCount_0f7a4_1 rfl ?_
  refine g_ic (1) d_J6_bitCount_0f7a4_2 ic_1 ?_
  refine q_iushr d_J6_bitCount_0f7a4_3 ?_
  refine g_ldcw d_J6_bitCount_0f7a4_4 k_J6_265 ?_
  refine g_iand d_J6_bitCount_0f7a4_7 ?_
  refine g_isub d_J6_bitCount_0f7a4_8 ?_
  refine q_istoren [.int (x0 - ((ush x0 1) &&& 1431655765))] d_J6_bitCount_0f7a4_9 (by decide) rfl ?_
  refine g_iloadn d_J6_bitCount_0f7a4_10 rfl ?_
  refine g_ldcw d_J6_bitCount_0f7a4_11 k_J6_266 ?_
  refine g_iand d_J6_bitCount_0f7a4_14 ?_
  refine g_iloadn d_J6_bitCount_0f7a4_15 rfl ?_
  refine g_ic (2) d_J6_bitCount_0f7a4_16 ic_2 ?_
  refine q_iushr d_J6_bitCount_0f7a4_17 ?_
  refine g_ldcw d_J6_bitCount_0f7a4_18 k_J6_266 ?_
  refine g_iand d_J6_bitCount_0f7a4_21 ?_
  refine g_iadd d_J6_bitCount_0f7a4_22 ?_
  refine q_istoren [.int (((x0 - ((ush x0 1) &&& 1431655765)) &&& 858993459) + ((ush (x0 - ((ush x0 1) &&& 1431655765)) 2) &&& 858993459))] d_J6_bitCount_0f7a4_23 (by decide) rfl ?_
  refine g_iloadn d_J6_bitCount_0f7a4_24 rfl ?_
  refine g_iloadn d_J6_bitCount_0f7a4_25 rfl ?_
  refine g_ic (4) d_J6_bitCount_0f7a4_26 ic_4 ?_
  refine q_iushr d_J6_bitCount_0f7a4_27 ?_
  refine g_iadd d_J6_bitCount_0f7a4_28 ?_
  refine g_ldcw d_J6_bitCount_0f7a4_29 k_J6_267 ?_
  refine g_iand d_J6_bitCount_0f7a4_32 ?_
  refine q_istoren [.int (((((x0 - ((ush x0 1) &&& 1431655765)) &&& 858993459) + ((ush (x0 - ((ush x0 1) &&& 1431655765)) 2) &&& 858993459)) + (ush (((x0 - ((ush x0 1) &&& 1431655765)) &&& 858993459) + ((ush (x0 - ((ush x0 1) &&& 1431655765)) 2) &&& 858993459)) 4)) &&& 252645135)] d_J6_bitCount_0f7a4_33 (by decide) rfl ?_
  refine g_iloadn d_J6_bitCount_0f7a4_34 rfl ?_
  refine g_iloadn d_J6_bitCount_0f7a4_35 rfl ?_
  refine g_bi (8) d_J6_bitCount_0f7a4_36 bi_8 ?_
  refine q_iushr d_J6_bitCount_0f7a4_38 ?_
  refine g_iadd d_J6_bitCount_0f7a4_39 ?_
  refine q_istoren [.int ((((((x0 - ((ush x0 1) &&& 1431655765)) &&& 858993459) + ((ush (x0 - ((ush x0 1) &&& 1431655765)) 2) &&& 858993459)) + (ush (((x0 - ((ush x0 1) &&& 1431655765)) &&& 858993459) + ((ush (x0 - ((ush x0 1) &&& 1431655765)) 2) &&& 858993459)) 4)) &&& 252645135) + (ush (((((x0 - ((ush x0 1) &&& 1431655765)) &&& 858993459) + ((ush (x0 - ((ush x0 1) &&& 1431655765)) 2) &&& 858993459)) + (ush (((x0 - ((ush x0 1) &&& 1431655765)) &&& 858993459) + ((ush (x0 - ((ush x0 1) &&& 1431655765)) 2) &&& 858993459)) 4)) &&& 252645135) 8))] d_J6_bitCount_0f7a4_40 (by decide) rfl ?_
  refine g_iloadn d_J6_bitCount_0f7a4_41 rfl ?_
  refine g_iloadn d_J6_bitCount_0f7a4_42 rfl ?_
  refine g_bi (16) d_J6_bitCount_0f7a4_43 bi_16 ?_
  refine q_iushr d_J6_bitCount_0f7a4_45 ?_
  refine g_iadd d_J6_bitCount_0f7a4_46 ?_
  refine q_istoren [.int (((((((x0 - ((ush x0 1) &&& 1431655765)) &&& 858993459) + ((ush (x0 - ((ush x0 1) &&& 1431655765)) 2) &&& 858993459)) + (ush (((x0 - ((ush x0 1) &&& 1431655765)) &&& 858993459) + ((ush (x0 - ((ush x0 1) &&& 1431655765)) 2) &&& 858993459)) 4)) &&& 252645135) + (ush (((((x0 - ((ush x0 1) &&& 1431655765)) &&& 858993459) + ((ush (x0 - ((ush x0 1) &&& 1431655765)) 2) &&& 858993459)) + (ush (((x0 - ((ush x0 1) &&& 1431655765)) &&& 858993459) + ((ush (x0 - ((ush x0 1) &&& 1431655765)) 2) &&& 858993459)) 4)) &&& 252645135) 8)) + (ush ((((((x0 - ((ush x0 1) &&& 1431655765)) &&& 858993459) + ((ush (x0 - ((ush x0 1) &&& 1431655765)) 2) &&& 858993459)) + (ush (((x0 - ((ush x0 1) &&& 1431655765)) &&& 858993459) + ((ush (x0 - ((ush x0 1) &&& 1431655765)) 2) &&& 858993459)) 4)) &&& 252645135) + (ush (((((x0 - ((ush x0 1) &&& 1431655765)) &&& 858993459) + ((ush (x0 - ((ush x0 1) &&& 1431655765)) 2) &&& 858993459)) + (ush (((x0 - ((ush x0 1) &&& 1431655765)) &&& 858993459) + ((ush (x0 - ((ush x0 1) &&& 1431655765)) 2) &&& 858993459)) 4)) &&& 252645135) 8)) 16))] d_J6_bitCount_0f7a4_47 (by decide) rfl ?_
  refine g_iloadn d_J6_bitCount_0f7a4_48 rfl ?_
  refine g_bi (63) d_J6_bitCount_0f7a4_49 bi_63 ?_
  refine g_iand d_J6_bitCount_0f7a4_51 ?_
  obtain ⟨rfl, rfl⟩ := x_inj hF
  exact g_iret d_J6_bitCount_0f7a4_52 rfl hq
theorem d_J9_max_7cf53_0 : decode cJ9_max_7cf53 0 = .ok (.iload_n 0, 1) := by decide +kernel
theorem d_J9_max_7cf53_1 : decode cJ9_max_7cf53 1 = .ok (.iload_n 1, 1) := by decide +kernel
theorem d_J9_max_7cf53_2 : decode cJ9_max_7cf53 2 = .ok (.if_icmp .lt 7, 3) := by decide +kernel
theorem d_J9_max_7cf53_5 : decode cJ9_max_7cf53 5 = .ok (.iload_n 0, 1) := by decide +kernel
theorem d_J9_max_7cf53_6 : decode cJ9_max_7cf53 6 = .ok (.goto 4, 3) := by decide +kernel
theorem d_J9_max_7cf53_9 : decode cJ9_max_7cf53 9 = .ok (.iload_n 1, 1) := by decide +kernel
theorem d_J9_max_7cf53_10 : decode cJ9_max_7cf53 10 = .ok (.ireturn, 1) := by decide +kernel
def F_J9_max_7cf53 (x0 : Int32) (x1 : Int32) (h : xH) : Option (Int32 × xH) := if x0 < x1 then some (x1, h) else some (x0, h)
theorem R_J9_max_7cf53 {Γ : xG} {l : Launch} {d : Nat} {r : Int32} {h' : xH} (x0 : Int32) (x1 : Int32) (h : xH) (hdp : 0 ≤ d) (hF : F_J9_max_7cf53 x0 x1 h = some (r, h')) : Gm Γ l d 0 0 m_J9_max_7cf53 [.int x0, .int x1] h (fun a u => a = some (.int r) ∧ u = h') := by
  refine Gm.ofF (by decide +kernel) (Nat.le_of_ble_eq_true rfl) ?_
  show Gd Γ l d m_J9_max_7cf53 0 [.int x0, .int x1] [] h 0 0 _
  generalize hQ : (fun (a : Option Value) (u : xH) => a = some (.int r) ∧ u = h') = Q
  have hq : Q (some (.int r)) h' := by rw [← hQ]; exact ⟨rfl, rfl⟩
  clear hQ
  unfold F_J9_max_7cf53 at hF
  refine g_iloadn d_J9_max_7cf53_0 rfl ?_
  refine g_iloadn d_J9_max_7cf53_1 rfl ?_
  refine g_icmp_lt 9 d_J9_max_7cf53_2 rfl (fun c2 => ?_) (fun c2 => ?_)
  · have hF := x_t hF c2
    refine g_iloadn d_J9_max_7cf53_9 rfl ?_
    obtain ⟨rfl, rfl⟩ := x_inj hF
    exact g_iret d_J9_max_7cf53_10 rfl hq
  · have hF := x_f hF c2
    refine g_iloadn d_J9_max_7cf53_5 rfl ?_
    refine g_goto 10 d_J9_max_7cf53_6 rfl ?_
    obtain ⟨rfl, rfl⟩ := x_inj hF
    exact g_iret d_J9_max_7cf53_10 rfl hq
theorem d_X1_moveAtRandom_0 : decode cX1_moveAtRandom 0 = .ok (.aload_n 0, 1) := by decide +kernel
theorem d_X1_moveAtRandom_1 : decode cX1_moveAtRandom 1 = .ok (.getfield 19, 3) := by decide +kernel
theorem d_X1_moveAtRandom_4 : decode cX1_moveAtRandom 4 = .ok (.lconst 0, 1) := by decide +kernel
theorem d_X1_moveAtRandom_5 : decode cX1_moveAtRandom 5 = .ok (.invokestatic 64, 3) := by decide +kernel
theorem d_X1_moveAtRandom_8 : decode cX1_moveAtRandom 8 = .ok (.iconst 0, 1) := by decide +kernel
theorem d_X1_moveAtRandom_9 : decode cX1_moveAtRandom 9 = .ok (.istore_n 2, 1) := by decide +kernel
theorem d_X1_moveAtRandom_10 : decode cX1_moveAtRandom 10 = .ok (.iload_n 2, 1) := by decide +kernel
theorem d_X1_moveAtRandom_11 : decode cX1_moveAtRandom 11 = .ok (.aload_n 1, 1) := by decide +kernel
theorem d_X1_moveAtRandom_12 : decode cX1_moveAtRandom 12 = .ok (.getfield 57, 3) := by decide +kernel
theorem d_X1_moveAtRandom_15 : decode cX1_moveAtRandom 15 = .ok (.if_icmp .ge 85, 3) := by decide +kernel
theorem d_X1_moveAtRandom_18 : decode cX1_moveAtRandom 18 = .ok (.aload_n 1, 1) := by decide +kernel
theorem d_X1_moveAtRandom_19 : decode cX1_moveAtRandom 19 = .ok (.getfield 76, 3) := by decide +kernel
theorem d_X1_moveAtRandom_22 : decode cX1_moveAtRandom 22 = .ok (.iload_n 2, 1) := by decide +kernel
theorem d_X1_moveAtRandom_23 : decode cX1_moveAtRandom 23 = .ok (.iaload, 1) := by decide +kernel
theorem d_X1_moveAtRandom_24 : decode cX1_moveAtRandom 24 = .ok (.iconst 1, 1) := by decide +kernel
theorem d_X1_moveAtRandom_25 : decode cX1_moveAtRandom 25 = .ok (.iload_n 2, 1) := by decide +kernel
theorem d_X1_moveAtRandom_26 : decode cX1_moveAtRandom 26 = .ok (.ishl, 1) := by decide +kernel
theorem d_X1_moveAtRandom_27 : decode cX1_moveAtRandom 27 = .ok (.ior, 1) := by decide +kernel
theorem d_X1_moveAtRandom_28 : decode cX1_moveAtRandom 28 = .ok (.istore_n 3, 1) := by decide +kernel
theorem d_X1_moveAtRandom_29 : decode cX1_moveAtRandom 29 = .ok (.aload_n 0, 1) := by decide +kernel
theorem d_X1_moveAtRandom_30 : decode cX1_moveAtRandom 30 = .ok (.getfield 15, 3) := by decide +kernel
theorem d_X1_moveAtRandom_33 : decode cX1_moveAtRandom 33 = .ok (.iload_n 2, 1) := by decide +kernel
theorem d_X1_moveAtRandom_34 : decode cX1_moveAtRandom 34 = .ok (.laload, 1) := by decide +kernel
theorem d_X1_moveAtRandom_35 : decode cX1_moveAtRandom 35 = .ok (.bipush 60, 2) := by decide +kernel
theorem d_X1_moveAtRandom_37 : decode cX1_moveAtRandom 37 = .ok (.iconst 1, 1) := by decide +kernel
theorem d_X1_moveAtRandom_38 : decode cX1_moveAtRandom 38 = .ok (.iload_n 3, 1) := by decide +kernel
theorem d_X1_moveAtRandom_39 : decode cX1_moveAtRandom 39 = .ok (.invokestatic 79, 3) := by decide +kernel
theorem d_X1_moveAtRandom_42 : decode cX1_moveAtRandom 42 = .ok (.invokestatic 82, 3) := by decide +kernel
theorem d_X1_moveAtRandom_45 : decode cX1_moveAtRandom 45 = .ok (.idiv, 1) := by decide +kernel
theorem d_X1_moveAtRandom_46 : decode cX1_moveAtRandom 46 = .ok (.i2l, 1) := by decide +kernel
theorem d_X1_moveAtRandom_47 : decode cX1_moveAtRandom 47 = .ok (.lmul, 1) := by decide +kernel
theorem d_X1_moveAtRandom_48 : decode cX1_moveAtRandom 48 = .ok (.lstore 4, 2) := by decide +kernel
theorem d_X1_moveAtRandom_50 : decode cX1_moveAtRandom 50 = .ok (.iconst 0, 1) := by decide +kernel
theorem d_X1_moveAtRandom_51 : decode cX1_moveAtRandom 51 = .ok (.istore 6, 2) := by decide +kernel
theorem d_X1_moveAtRandom_53 : decode cX1_moveAtRandom 53 = .ok (.iload 6, 2) := by decide +kernel
theorem d_X1_moveAtRandom_55 : decode cX1_moveAtRandom 55 = .ok (.aload_n 1, 1) := by decide +kernel
theorem d_X1_moveAtRandom_56 : decode cX1_moveAtRandom 56 = .ok (.getfield 57, 3) := by decide +kernel
theorem d_X1_moveAtRandom_59 : decode cX1_moveAtRandom 59 = .ok (.if_icmp .ge 35, 3) := by decide +kernel
theorem d_X1_moveAtRandom_62 : decode cX1_moveAtRandom 62 = .ok (.aload_n 0, 1) := by decide +kernel
theorem d_X1_moveAtRandom_63 : decode cX1_moveAtRandom 63 = .ok (.getfield 19, 3) := by decide +kernel
theorem d_X1_moveAtRandom_66 : decode cX1_moveAtRandom 66 = .ok (.iload 6, 2) := by decide +kernel
theorem d_X1_moveAtRandom_68 : decode cX1_moveAtRandom 68 = .ok (.dup2, 1) := by decide +kernel
theorem d_X1_moveAtRandom_69 : decode cX1_moveAtRandom 69 = .ok (.laload, 1) := by decide +kernel
theorem d_X1_moveAtRandom_70 : decode cX1_moveAtRandom 70 = .ok (.iload_n 3, 1) := by decide +kernel
theorem d_X1_moveAtRandom_71 : decode cX1_moveAtRandom 71 = .ok (.iload 6, 2) := by decide +kernel
theorem d_X1_moveAtRandom_73 : decode cX1_moveAtRandom 73 = .ok (.ishr, 1) := by decide +kernel
theorem d_X1_moveAtRandom_74 : decode cX1_moveAtRandom 74 = .ok (.iconst 1, 1) := by decide +kernel
theorem d_X1_moveAtRandom_75 : decode cX1_moveAtRandom 75 = .ok (.iand, 1) := by decide +kernel
theorem d_X1_moveAtRandom_76 : decode cX1_moveAtRandom 76 = .ok (.iconst 1, 1) := by decide +kernel
theorem d_X1_moveAtRandom_77 : decode cX1_moveAtRandom 77 = .ok (.if_icmp .ne 8, 3) := by decide +kernel
theorem d_X1_moveAtRandom_80 : decode cX1_moveAtRandom 80 = .ok (.lload 4, 2) := by decide +kernel
theorem d_X1_moveAtRandom_82 : decode cX1_moveAtRandom 82 = .ok (.goto 4, 3) := by decide +kernel
theorem d_X1_moveAtRandom_85 : decode cX1_moveAtRandom 85 = .ok (.lconst 0, 1) := by decide +kernel
theorem d_X1_moveAtRandom_86 : decode cX1_moveAtRandom 86 = .ok (.ladd, 1) := by decide +kernel
theorem d_X1_moveAtRandom_87 : decode cX1_moveAtRandom 87 = .ok (.lastore, 1) := by decide +kernel
theorem d_X1_moveAtRandom_88 : decode cX1_moveAtRandom 88 = .ok (.iinc 6 1, 3) := by decide +kernel
theorem d_X1_moveAtRandom_91 : decode cX1_moveAtRandom 91 = .ok (.goto (-38), 3) := by decide +kernel
theorem d_X1_moveAtRandom_94 : decode cX1_moveAtRandom 94 = .ok (.iinc 2 1, 3) := by decide +kernel
theorem d_X1_moveAtRandom_97 : decode cX1_moveAtRandom 97 = .ok (.goto (-87), 3) := by decide +kernel
theorem d_X1_moveAtRandom_100 : decode cX1_moveAtRandom 100 = .ok (.return_, 1) := by decide +kernel
def F_X1_moveAtRandom_b86 (k10 : Nat → Nat → Int32 → xH → Option (Unit × xH)) (k53 : Nat → Nat → Int32 → Int32 → Int64 → Int32 → xH → Option (Unit × xH)) (x0 : Nat) (x1 : Nat) (x2 : Int32) (x3 : Int32) (x4 : Int64) (x6 : Int32) (s0 : Nat) (s1 : Int32) (s2 : Int64) (s3 : Int64) (h : xH) : Option (Unit × xH) := (sJ h s0 s1 (s2 + s3)).bind fun h87 => k53 x0 x1 x2 x3 x4 (x6 + 1) h87
theorem R_X1_moveAtRandom_b86 {Γ : xG} {l : Launch} {d : Nat} {Q : Option Value → xH → Prop} {r : Unit} {h' : xH} {k10 : Nat → Nat → Int32 → xH → Option (Unit × xH)} {k53 : Nat → Nat → Int32 → Int32 → Int64 → Int32 → xH → Option (Unit × xH)} (K10 : ∀ (x0 : Nat) (x1 : Nat) (x2 : Int32)  (h : xH), k10 x0 x1 x2 h = some (r, h') → Gd Γ l d m_X1_moveAtRandom 10 [.ref x0, .ref x1, .int x2, xhole, xhole, xhole, xhole] [] h 0 0 Q) (K53 : ∀ (x0 : Nat) (x1 : Nat) (x2 : Int32) (x3 : Int32) (x4 : Int64) (x6 : Int32)  (h : xH), k53 x0 x1 x2 x3 x4 x6 h = some (r, h') → Gd Γ l d m_X1_moveAtRandom 53 [.ref x0, .ref x1, .int x2, .int x3, .long x4, xhole, .int x6] [] h 0 0 Q) (hdp : 1 ≤ d) (hq : Q (none) h') : ∀ (x0 : Nat) (x1 : Nat) (x2 : Int32) (x3 : Int32) (x4 : Int64) (x6 : Int32) (s0 : Nat) (s1 : Int32) (s2 : Int64) (s3 : Int64) (h : xH), F_X1_moveAtRandom_b86 k10 k53 x0 x1 x2 x3 x4 x6 s0 s1 s2 s3 h = some (r, h') → Gd Γ l d m_X1_moveAtRandom 86 [.ref x0, .ref x1, .int x2, .int x3, .long x4, xhole, .int x6] [.long s3, .long s2, .int s1, .ref s0] h 0 0 Q := by
  intro x0 x1 x2 x3 x4 x6 s0 s1 s2 s3 h hF
  unfold F_X1_moveAtRandom_b86 at hF
  refine g_ladd d_X1_moveAtRandom_86 ?_
  obtain ⟨h87, e87, hF⟩ := Option.bind_eq_some_iff.mp hF
  refine q_sJ d_X1_moveAtRandom_87 e87 ?_
  refine q_iinc (1) [.ref x0, .ref x1, .int x2, .int x3, .long x4, xhole, .int (x6 + 1)] d_X1_moveAtRandom_88 ic_1 rfl (by decide) rfl ?_
  refine g_goto 53 d_X1_moveAtRandom_91 rfl ?_
  exact q_to (xs_r (xs_r (xs_r (xs_r (xs_r (xs_h (xs_r xs_n))))))) (K53 _ _ _ _ _ _ _ hF)
def F_X1_moveAtRandom_b53 (k10 : Nat → Nat → Int32 → xH → Option (Unit × xH)) : Nat → Nat → Nat → Int32 → Int32 → Int64 → Int32 → xH → Option (Unit × xH)
  | 0, _, _, _, _, _, _, _ => none
  | n + 1, x0, x1, x2, x3, x4, x6, h => (fI h x1 9 3).bind fun v56 => if v56 ≤ x6 then k10 x0 x1 (x2 + 1) h else (fR h x0 0 2).bind fun v63 => (aJ h v63 x6).bind fun v69 => if ¬ ((x3 >>> (x6 &&& 31)) &&& 1) = ((1 : Int32)) then F_X1_moveAtRandom_b86 k10 (F_X1_moveAtRandom_b53 k10 n) x0 x1 x2 x3 x4 x6 v63 x6 v69 0 h else F_X1_moveAtRandom_b86 k10 (F_X1_moveAtRandom_b53 k10 n) x0 x1 x2 x3 x4 x6 v63 x6 v69 x4 h
theorem R_X1_moveAtRandom_b53 {Γ : xG} {l : Launch} {d : Nat} {Q : Option Value → xH → Prop} {r : Unit} {h' : xH} {k10 : Nat → Nat → Int32 → xH → Option (Unit × xH)} (K10 : ∀ (x0 : Nat) (x1 : Nat) (x2 : Int32)  (h : xH), k10 x0 x1 x2 h = some (r, h') → Gd Γ l d m_X1_moveAtRandom 10 [.ref x0, .ref x1, .int x2, xhole, xhole, xhole, xhole] [] h 0 0 Q) (hdp : 1 ≤ d) (hq : Q (none) h') : ∀ (n : Nat) (x0 : Nat) (x1 : Nat) (x2 : Int32) (x3 : Int32) (x4 : Int64) (x6 : Int32) (h : xH), F_X1_moveAtRandom_b53 k10 n x0 x1 x2 x3 x4 x6 h = some (r, h') → Gd Γ l d m_X1_moveAtRandom 53 [.ref x0, .ref x1, .int x2, .int x3, .long x4, xhole, .int x6] [] h 0 0 Q := by
  intro n
  induction n with
  | zero => intro x0 x1 x2 x3 x4 x6 h hF; cases hF
  | succ n ih =>
  intro x0 x1 x2 x3 x4 x6 h hF
  rw [F_X1_moveAtRandom_b53] at hF
  refine g_iload d_X1_moveAtRandom_53 rfl ?_
  refine g_aloadn d_X1_moveAtRandom_55 rfl ?_
  obtain ⟨v56, e56, hF⟩ := Option.bind_eq_some_iff.mp hF
  refine q_fI d_X1_moveAtRandom_56 f_X1_57 e56 ?_
  refine g_icmp_ge 94 d_X1_moveAtRandom_59 rfl (fun c59 => ?_) (fun c59 => ?_)
  · have hF := x_t hF c59
    refine q_iinc (1) [.ref x0, .ref x1, .int (x2 + 1), .int x3, .long x4, xhole, .int x6] d_X1_moveAtRandom_94 ic_1 rfl (by decide) rfl ?_
    refine g_goto 10 d_X1_moveAtRandom_97 rfl ?_
    exact q_to (xs_r (xs_r (xs_r (xs_h (xs_h (xs_h (xs_h xs_n))))))) (K10 _ _ _ _ hF)
  · have hF := x_f hF c59
    refine g_aloadn d_X1_moveAtRandom_62 rfl ?_
    obtain ⟨v63, e63, hF⟩ := Option.bind_eq_some_iff.mp hF
    refine q_fR d_X1_moveAtRandom_63 f_X1_19 e63 ?_
    refine g_iload d_X1_moveAtRandom_66 rfl ?_
    refine g_dup2 d_X1_moveAtRandom_68 rfl rfl ?_
    obtain ⟨v69, e69, hF⟩ := Option.bind_eq_some_iff.mp hF
    refine q_aJ d_X1_moveAtRandom_69 e69 ?_
    refine g_iloadn d_X1_moveAtRandom_70 rfl ?_
    refine g_iload d_X1_moveAtRandom_71 rfl ?_
    refine g_ishr d_X1_moveAtRandom_73 ?_
    refine g_ic (1) d_X1_moveAtRandom_74 ic_1 ?_
    refine g_iand d_X1_moveAtRandom_75 ?_
    refine g_ic (1) d_X1_moveAtRandom_76 ic_1 ?_
    refine g_icmp_ne 85 d_X1_moveAtRandom_77 rfl (fun c77 => ?_) (fun c77 => ?_)
    · have hF := x_t hF c77
      refine g_lc 0 d_X1_moveAtRandom_85 rfl ?_
      exact q_to (xs_r (xs_r (xs_r (xs_r (xs_r (xs_h (xs_r xs_n))))))) (R_X1_moveAtRandom_b86 K10 ih hdp hq _ _ _ _ _ _ _ _ _ _ _ hF)
    · have hF := x_f hF (not_not_intro c77)
      refine g_lload d_X1_moveAtRandom_80 rfl ?_
      refine g_goto 86 d_X1_moveAtRandom_82 rfl ?_
      exact q_to (xs_r (xs_r (xs_r (xs_r (xs_r (xs_h (xs_r xs_n))))))) (R_X1_moveAtRandom_b86 K10 ih hdp hq _ _ _ _ _ _ _ _ _ _ _ hF)
def F_X1_moveAtRandom_b10 : Nat → Nat → Nat → Int32 → xH → Option (Unit × xH)
  | 0, _, _, _, _ => none
  | n + 1, x0, x1, x2, h => (fI h x1 9 3).bind fun v12 => if v12 ≤ x2 then some ((), h) else (fR h x1 9 9).bind fun v19 => (aI h v19 x2).bind fun v23 => (fR h x0 0 1).bind fun v30 => (aJ h v30 x2).bind fun v34 => (F_J6_bitCount_0f7a4 (v23 ||| (((1 : Int32)) <<< (x2 &&& 31))) h).bind fun z39 => (F_J9_max_7cf53 1 z39.1 z39.2).bind fun z42 => if z42.1 = 0 then none else F_X1_moveAtRandom_b53 (F_X1_moveAtRandom_b10 n) FU x0 x1 x2 (v23 ||| (((1 : Int32)) <<< (x2 &&& 31))) (v34 * ((idv 60 z42.1).toInt64)) 0 z42.2
theorem R_X1_moveAtRandom_b10 {Γ : xG} {l : Launch} {d : Nat} {Q : Option Value → xH → Prop} {r : Unit} {h' : xH} (hdp : 1 ≤ d) (hq : Q (none) h') : ∀ (n : Nat) (x0 : Nat) (x1 : Nat) (x2 : Int32) (h : xH), F_X1_moveAtRandom_b10 n x0 x1 x2 h = some (r, h') → Gd Γ l d m_X1_moveAtRandom 10 [.ref x0, .ref x1, .int x2, xhole, xhole, xhole, xhole] [] h 0 0 Q := by
  intro n
  induction n with
  | zero => intro x0 x1 x2 h hF; cases hF
  | succ n ih =>
  intro x0 x1 x2 h hF
  rw [F_X1_moveAtRandom_b10] at hF
  refine g_iloadn d_X1_moveAtRandom_10 rfl ?_
  refine g_aloadn d_X1_moveAtRandom_11 rfl ?_
  obtain ⟨v12, e12, hF⟩ := Option.bind_eq_some_iff.mp hF
  refine q_fI d_X1_moveAtRandom_12 f_X1_57 e12 ?_
  refine g_icmp_ge 100 d_X1_moveAtRandom_15 rfl (fun c15 => ?_) (fun c15 => ?_)
  · have hF := x_t hF c15
    obtain ⟨rfl, rfl⟩ := x_inj hF
    exact g_vret d_X1_moveAtRandom_100 rfl hq
  · have hF := x_f hF c15
    refine g_aloadn d_X1_moveAtRandom_18 rfl ?_
    obtain ⟨v19, e19, hF⟩ := Option.bind_eq_some_iff.mp hF
    refine q_fR d_X1_moveAtRandom_19 f_X1_76 e19 ?_
    refine g_iloadn d_X1_moveAtRandom_22 rfl ?_
    obtain ⟨v23, e23, hF⟩ := Option.bind_eq_some_iff.mp hF
    refine q_aI d_X1_moveAtRandom_23 e23 ?_
    refine g_ic (1) d_X1_moveAtRandom_24 ic_1 ?_
    refine g_iloadn d_X1_moveAtRandom_25 rfl ?_
    refine g_ishl d_X1_moveAtRandom_26 ?_
    refine g_ior d_X1_moveAtRandom_27 ?_
    refine q_istoren [.ref x0, .ref x1, .int x2, .int (v23 ||| (((1 : Int32)) <<< (x2 &&& 31))), xhole, xhole, xhole] d_X1_moveAtRandom_28 (by decide) rfl ?_
    refine g_aloadn d_X1_moveAtRandom_29 rfl ?_
    obtain ⟨v30, e30, hF⟩ := Option.bind_eq_some_iff.mp hF
    refine q_fR d_X1_moveAtRandom_30 f_X1_15 e30 ?_
    refine g_iloadn d_X1_moveAtRandom_33 rfl ?_
    obtain ⟨v34, e34, hF⟩ := Option.bind_eq_some_iff.mp hF
    refine q_aJ d_X1_moveAtRandom_34 e34 ?_
    refine g_bi (60) d_X1_moveAtRandom_35 bi_60 ?_
    refine g_ic (1) d_X1_moveAtRandom_37 ic_1 ?_
    refine g_iloadn d_X1_moveAtRandom_38 rfl ?_
    obtain ⟨⟨r39, h39⟩, e39, hF⟩ := Option.bind_eq_some_iff.mp hF
    try dsimp only at hF
    refine q_callS [.int (v23 ||| (((1 : Int32)) <<< (x2 &&& 31)))] [.int 1, .int 60, .long v34] rfl d_X1_moveAtRandom_39 s_X1_79 (by omega) rfl (Nat.le_of_ble_eq_true rfl) (R_J6_bitCount_0f7a4 _ _ (by omega) e39) ?_
    obtain ⟨⟨r42, h42⟩, e42, hF⟩ := Option.bind_eq_some_iff.mp hF
    try dsimp only at hF
    refine q_callS [.int 1, .int (r39)] [.int 60, .long v34] rfl d_X1_moveAtRandom_42 s_X1_82 (by omega) rfl (Nat.le_of_ble_eq_true rfl) (R_J9_max_7cf53 _ _ _ (by omega) e42) ?_
    rcases x_nz hF with ⟨z45, hF⟩
    refine q_idiv d_X1_moveAtRandom_45 z45 ?_
    refine g_i2l d_X1_moveAtRandom_46 ?_
    refine g_lmul d_X1_moveAtRandom_47 ?_
    refine q_lstore [.ref x0, .ref x1, .int x2, .int (v23 ||| (((1 : Int32)) <<< (x2 &&& 31))), .long (v34 * ((idv 60 r42).toInt64)), xhole, xhole] d_X1_moveAtRandom_48 (by decide) rfl ?_
    refine g_ic (0) d_X1_moveAtRandom_50 ic_0 ?_
    refine q_istore [.ref x0, .ref x1, .int x2, .int (v23 ||| (((1 : Int32)) <<< (x2 &&& 31))), .long (v34 * ((idv 60 r42).toInt64)), xhole, .int 0] d_X1_moveAtRandom_51 (by decide) rfl ?_
    exact q_to (xs_r (xs_r (xs_r (xs_r (xs_r (xs_h (xs_r xs_n))))))) (R_X1_moveAtRandom_b53 ih hdp hq FU _ _ _ _ _ _ _ hF)
def F_X1_moveAtRandom (x0 : Nat) (x1 : Nat) (h : xH) : Option (Unit × xH) := (fR h x0 0 2).bind fun v1 => (F_J7_fill_d0a16 v1 0 h).bind fun z5 => F_X1_moveAtRandom_b10 FU x0 x1 0 z5.2
theorem R_X1_moveAtRandom {Γ : xG} {l : Launch} {d : Nat} {r : Unit} {h' : xH} (x0 : Nat) (x1 : Nat) (h : xH) (hdp : 1 ≤ d) (hF : F_X1_moveAtRandom x0 x1 h = some (r, h')) : Gm Γ l d 0 0 m_X1_moveAtRandom [.ref x0, .ref x1] h (fun a u => a = none ∧ u = h') := by
  refine Gm.of pn_X1 (Nat.le_of_ble_eq_true rfl) ?_
  show Gd Γ l d m_X1_moveAtRandom 0 [.ref x0, .ref x1, xhole, xhole, xhole, xhole, xhole] [] h 0 0 _
  generalize hQ : (fun (a : Option Value) (u : xH) => a = none ∧ u = h') = Q
  have hq : Q (none) h' := by rw [← hQ]; exact ⟨rfl, rfl⟩
  clear hQ
  unfold F_X1_moveAtRandom at hF
  refine g_aloadn d_X1_moveAtRandom_0 rfl ?_
  obtain ⟨v1, e1, hF⟩ := Option.bind_eq_some_iff.mp hF
  refine q_fR d_X1_moveAtRandom_1 f_X1_19 e1 ?_
  refine g_lc 0 d_X1_moveAtRandom_4 rfl ?_
  obtain ⟨⟨r5, h5⟩, e5, hF⟩ := Option.bind_eq_some_iff.mp hF
  try dsimp only at hF
  refine q_callS [.ref v1, .long 0] [] rfl d_X1_moveAtRandom_5 s_X1_64 (by omega) rfl (Nat.le_of_ble_eq_true rfl) (R_J7_fill_d0a16 _ _ _ (by omega) e5) ?_
  refine g_ic (0) d_X1_moveAtRandom_8 ic_0 ?_
  refine q_istoren [.ref x0, .ref x1, .int 0, xhole, xhole, xhole, xhole] d_X1_moveAtRandom_9 (by decide) rfl ?_
  exact q_to (xs_r (xs_r (xs_r (xs_h (xs_h (xs_h (xs_h xs_n))))))) (R_X1_moveAtRandom_b10 hdp hq FU _ _ _ _ hF)
theorem d_X1_partsFound_0 : decode cX1_partsFound 0 = .ok (.aload_n 2, 1) := by decide +kernel
theorem d_X1_partsFound_1 : decode cX1_partsFound 1 = .ok (.iload_n 3, 1) := by decide +kernel
theorem d_X1_partsFound_2 : decode cX1_partsFound 2 = .ok (.invokevirtual 22, 3) := by decide +kernel
theorem d_X1_partsFound_5 : decode cX1_partsFound 5 = .ok (.ifCond .eq 9, 3) := by decide +kernel
theorem d_X1_partsFound_8 : decode cX1_partsFound 8 = .ok (.iload 4, 2) := by decide +kernel
theorem d_X1_partsFound_10 : decode cX1_partsFound 10 = .ok (.invokestatic 60, 3) := by decide +kernel
theorem d_X1_partsFound_13 : decode cX1_partsFound 13 = .ok (.lreturn, 1) := by decide +kernel
theorem d_X1_partsFound_14 : decode cX1_partsFound 14 = .ok (.aload_n 0, 1) := by decide +kernel
theorem d_X1_partsFound_15 : decode cX1_partsFound 15 = .ok (.getfield 15, 3) := by decide +kernel
theorem d_X1_partsFound_18 : decode cX1_partsFound 18 = .ok (.lconst 0, 1) := by decide +kernel
theorem d_X1_partsFound_19 : decode cX1_partsFound 19 = .ok (.invokestatic 64, 3) := by decide +kernel
theorem d_X1_partsFound_22 : decode cX1_partsFound 22 = .ok (.aload_n 0, 1) := by decide +kernel
theorem d_X1_partsFound_23 : decode cX1_partsFound 23 = .ok (.getfield 15, 3) := by decide +kernel
theorem d_X1_partsFound_26 : decode cX1_partsFound 26 = .ok (.aload_n 2, 1) := by decide +kernel
theorem d_X1_partsFound_27 : decode cX1_partsFound 27 = .ok (.getfield 31, 3) := by decide +kernel
theorem d_X1_partsFound_30 : decode cX1_partsFound 30 = .ok (.iload_n 3, 1) := by decide +kernel
theorem d_X1_partsFound_31 : decode cX1_partsFound 31 = .ok (.iaload, 1) := by decide +kernel
theorem d_X1_partsFound_32 : decode cX1_partsFound 32 = .ok (.lconst 1, 1) := by decide +kernel
theorem d_X1_partsFound_33 : decode cX1_partsFound 33 = .ok (.lastore, 1) := by decide +kernel
theorem d_X1_partsFound_34 : decode cX1_partsFound 34 = .ok (.lconst 0, 1) := by decide +kernel
theorem d_X1_partsFound_35 : decode cX1_partsFound 35 = .ok (.lstore 5, 2) := by decide +kernel
theorem d_X1_partsFound_37 : decode cX1_partsFound 37 = .ok (.iconst 0, 1) := by decide +kernel
theorem d_X1_partsFound_38 : decode cX1_partsFound 38 = .ok (.istore 7, 2) := by decide +kernel
theorem d_X1_partsFound_40 : decode cX1_partsFound 40 = .ok (.iload 7, 2) := by decide +kernel
theorem d_X1_partsFound_42 : decode cX1_partsFound 42 = .ok (.iload 4, 2) := by decide +kernel
theorem d_X1_partsFound_44 : decode cX1_partsFound 44 = .ok (.if_icmp .ge 121, 3) := by decide +kernel
theorem d_X1_partsFound_47 : decode cX1_partsFound 47 = .ok (.aload_n 0, 1) := by decide +kernel
theorem d_X1_partsFound_48 : decode cX1_partsFound 48 = .ok (.aload_n 1, 1) := by decide +kernel
theorem d_X1_partsFound_49 : decode cX1_partsFound 49 = .ok (.invokevirtual 70, 3) := by decide +kernel
theorem d_X1_partsFound_52 : decode cX1_partsFound 52 = .ok (.aload_n 1, 1) := by decide +kernel
theorem d_X1_partsFound_53 : decode cX1_partsFound 53 = .ok (.aload_n 2, 1) := by decide +kernel
theorem d_X1_partsFound_54 : decode cX1_partsFound 54 = .ok (.getfield 28, 3) := by decide +kernel
theorem d_X1_partsFound_57 : decode cX1_partsFound 57 = .ok (.iload_n 3, 1) := by decide +kernel
theorem d_X1_partsFound_58 : decode cX1_partsFound 58 = .ok (.iaload, 1) := by decide +kernel
theorem d_X1_partsFound_59 : decode cX1_partsFound 59 = .ok (.aload_n 2, 1) := by decide +kernel
theorem d_X1_partsFound_60 : decode cX1_partsFound 60 = .ok (.getfield 40, 3) := by decide +kernel
theorem d_X1_partsFound_63 : decode cX1_partsFound 63 = .ok (.iload 7, 2) := by decide +kernel
theorem d_X1_partsFound_65 : decode cX1_partsFound 65 = .ok (.iadd, 1) := by decide +kernel
theorem d_X1_partsFound_66 : decode cX1_partsFound 66 = .ok (.invokevirtual 44, 3) := by decide +kernel
theorem d_X1_partsFound_69 : decode cX1_partsFound 69 = .ok (.istore 8, 2) := by decide +kernel
theorem d_X1_partsFound_71 : decode cX1_partsFound 71 = .ok (.lload 5, 2) := by decide +kernel
theorem d_X1_partsFound_73 : decode cX1_partsFound 73 = .ok (.ldc2_w 74, 3) := by decide +kernel
theorem d_X1_partsFound_76 : decode cX1_partsFound 76 = .ok (.lmul, 1) := by decide +kernel
theorem d_X1_partsFound_77 : decode cX1_partsFound 77 = .ok (.lstore 5, 2) := by decide +kernel
theorem d_X1_partsFound_79 : decode cX1_partsFound 79 = .ok (.iconst 0, 1) := by decide +kernel
theorem d_X1_partsFound_80 : decode cX1_partsFound 80 = .ok (.istore 9, 2) := by decide +kernel
theorem d_X1_partsFound_82 : decode cX1_partsFound 82 = .ok (.iload 9, 2) := by decide +kernel
theorem d_X1_partsFound_84 : decode cX1_partsFound 84 = .ok (.aload_n 1, 1) := by decide +kernel
theorem d_X1_partsFound_85 : decode cX1_partsFound 85 = .ok (.getfield 57, 3) := by decide +kernel
theorem d_X1_partsFound_88 : decode cX1_partsFound 88 = .ok (.if_icmp .ge 71, 3) := by decide +kernel
theorem d_X1_partsFound_91 : decode cX1_partsFound 91 = .ok (.iload 8, 2) := by decide +kernel
theorem d_X1_partsFound_93 : decode cX1_partsFound 93 = .ok (.iload 9, 2) := by decide +kernel
theorem d_X1_partsFound_95 : decode cX1_partsFound 95 = .ok (.ishr, 1) := by decide +kernel
theorem d_X1_partsFound_96 : decode cX1_partsFound 96 = .ok (.iconst 1, 1) := by decide +kernel
theorem d_X1_partsFound_97 : decode cX1_partsFound 97 = .ok (.iand, 1) := by decide +kernel
theorem d_X1_partsFound_98 : decode cX1_partsFound 98 = .ok (.iconst 1, 1) := by decide +kernel
theorem d_X1_partsFound_99 : decode cX1_partsFound 99 = .ok (.if_icmp .ne 7, 3) := by decide +kernel
theorem d_X1_partsFound_102 : decode cX1_partsFound 102 = .ok (.iconst 1, 1) := by decide +kernel
theorem d_X1_partsFound_103 : decode cX1_partsFound 103 = .ok (.goto 4, 3) := by decide +kernel
theorem d_X1_partsFound_106 : decode cX1_partsFound 106 = .ok (.iconst 0, 1) := by decide +kernel
theorem d_X1_partsFound_107 : decode cX1_partsFound 107 = .ok (.istore 10, 2) := by decide +kernel
theorem d_X1_partsFound_109 : decode cX1_partsFound 109 = .ok (.lload 5, 2) := by decide +kernel
theorem d_X1_partsFound_111 : decode cX1_partsFound 111 = .ok (.iload 10, 2) := by decide +kernel
theorem d_X1_partsFound_113 : decode cX1_partsFound 113 = .ok (.ifCond .eq 13, 3) := by decide +kernel
theorem d_X1_partsFound_116 : decode cX1_partsFound 116 = .ok (.aload_n 0, 1) := by decide +kernel
theorem d_X1_partsFound_117 : decode cX1_partsFound 117 = .ok (.getfield 19, 3) := by decide +kernel
theorem d_X1_partsFound_120 : decode cX1_partsFound 120 = .ok (.iload 9, 2) := by decide +kernel
theorem d_X1_partsFound_122 : decode cX1_partsFound 122 = .ok (.laload, 1) := by decide +kernel
theorem d_X1_partsFound_123 : decode cX1_partsFound 123 = .ok (.goto 4, 3) := by decide +kernel
theorem d_X1_partsFound_126 : decode cX1_partsFound 126 = .ok (.lconst 0, 1) := by decide +kernel
theorem d_X1_partsFound_127 : decode cX1_partsFound 127 = .ok (.ladd, 1) := by decide +kernel
theorem d_X1_partsFound_128 : decode cX1_partsFound 128 = .ok (.lstore 5, 2) := by decide +kernel
theorem d_X1_partsFound_130 : decode cX1_partsFound 130 = .ok (.aload_n 0, 1) := by decide +kernel
theorem d_X1_partsFound_131 : decode cX1_partsFound 131 = .ok (.getfield 15, 3) := by decide +kernel
theorem d_X1_partsFound_134 : decode cX1_partsFound 134 = .ok (.iload 9, 2) := by decide +kernel
theorem d_X1_partsFound_136 : decode cX1_partsFound 136 = .ok (.iload 10, 2) := by decide +kernel
theorem d_X1_partsFound_138 : decode cX1_partsFound 138 = .ok (.ifCond .eq 7, 3) := by decide +kernel
theorem d_X1_partsFound_141 : decode cX1_partsFound 141 = .ok (.lconst 0, 1) := by decide +kernel
theorem d_X1_partsFound_142 : decode cX1_partsFound 142 = .ok (.goto 10, 3) := by decide +kernel
theorem d_X1_partsFound_145 : decode cX1_partsFound 145 = .ok (.aload_n 0, 1) := by decide +kernel
theorem d_X1_partsFound_146 : decode cX1_partsFound 146 = .ok (.getfield 19, 3) := by decide +kernel
theorem d_X1_partsFound_149 : decode cX1_partsFound 149 = .ok (.iload 9, 2) := by decide +kernel
theorem d_X1_partsFound_151 : decode cX1_partsFound 151 = .ok (.laload, 1) := by decide +kernel
theorem d_X1_partsFound_152 : decode cX1_partsFound 152 = .ok (.lastore, 1) := by decide +kernel
theorem d_X1_partsFound_153 : decode cX1_partsFound 153 = .ok (.iinc 9 1, 3) := by decide +kernel
theorem d_X1_partsFound_156 : decode cX1_partsFound 156 = .ok (.goto (-74), 3) := by decide +kernel
theorem d_X1_partsFound_159 : decode cX1_partsFound 159 = .ok (.iinc 7 1, 3) := by decide +kernel
theorem d_X1_partsFound_162 : decode cX1_partsFound 162 = .ok (.goto (-122), 3) := by decide +kernel
theorem d_X1_partsFound_165 : decode cX1_partsFound 165 = .ok (.lload 5, 2) := by decide +kernel
theorem d_X1_partsFound_167 : decode cX1_partsFound 167 = .ok (.lreturn, 1) := by decide +kernel
def F_X1_partsFound_b127 (k40 : Nat → Nat → Nat → Int32 → Int32 → Int64 → Int32 → xH → Option (Int64 × xH)) (k82 : Nat → Nat → Nat → Int32 → Int32 → Int64 → Int32 → Int32 → Int32 → xH → Option (Int64 × xH)) (x0 : Nat) (x1 : Nat) (x2 : Nat) (x3 : Int32) (x4 : Int32) (x7 : Int32) (x8 : Int32) (x9 : Int32) (x10 : Int32) (s0 : Int64) (s1 : Int64) (h : xH) : Option (Int64 × xH) := (fR h x0 0 1).bind fun v131 => if x10 = 0 then (fR h x0 0 2).bind fun v146 => (aJ h v146 x9).bind fun v151 => (sJ h v131 x9 v151).bind fun h152 => k82 x0 x1 x2 x3 x4 (s0 + s1) x7 x8 (x9 + 1) h152 else (sJ h v131 x9 0).bind fun h152 => k82 x0 x1 x2 x3 x4 (s0 + s1) x7 x8 (x9 + 1) h152
theorem R_X1_partsFound_b127 {Γ : xG} {l : Launch} {d : Nat} {Q : Option Value → xH → Prop} {r : Int64} {h' : xH} {k40 : Nat → Nat → Nat → Int32 → Int32 → Int64 → Int32 → xH → Option (Int64 × xH)} {k82 : Nat → Nat → Nat → Int32 → Int32 → Int64 → Int32 → Int32 → Int32 → xH → Option (Int64 × xH)} (K40 : ∀ (x0 : Nat) (x1 : Nat) (x2 : Nat) (x3 : Int32) (x4 : Int32) (x5 : Int64) (x7 : Int32)  (h : xH), k40 x0 x1 x2 x3 x4 x5 x7 h = some (r, h') → Gd Γ l d m_X1_partsFound 40 [.ref x0, .ref x1, .ref x2, .int x3, .int x4, .long x5, xhole, .int x7, xhole, xhole, xhole] [] h 0 0 Q) (K82 : ∀ (x0 : Nat) (x1 : Nat) (x2 : Nat) (x3 : Int32) (x4 : Int32) (x5 : Int64) (x7 : Int32) (x8 : Int32) (x9 : Int32)  (h : xH), k82 x0 x1 x2 x3 x4 x5 x7 x8 x9 h = some (r, h') → Gd Γ l d m_X1_partsFound 82 [.ref x0, .ref x1, .ref x2, .int x3, .int x4, .long x5, xhole, .int x7, .int x8, .int x9, xhole] [] h 0 0 Q) (hdp : 2 ≤ d) (hq : Q (some (.long r)) h') : ∀ (x0 : Nat) (x1 : Nat) (x2 : Nat) (x3 : Int32) (x4 : Int32) (x7 : Int32) (x8 : Int32) (x9 : Int32) (x10 : Int32) (s0 : Int64) (s1 : Int64) (h : xH), F_X1_partsFound_b127 k40 k82 x0 x1 x2 x3 x4 x7 x8 x9 x10 s0 s1 h = some (r, h') → Gd Γ l d m_X1_partsFound 127 [.ref x0, .ref x1, .ref x2, .int x3, .int x4, xhole, xhole, .int x7, .int x8, .int x9, .int x10] [.long s1, .long s0] h 0 0 Q := by
  intro x0 x1 x2 x3 x4 x7 x8 x9 x10 s0 s1 h hF
  unfold F_X1_partsFound_b127 at hF
  refine g_ladd d_X1_partsFound_127 ?_
  refine q_lstore [.ref x0, .ref x1, .ref x2, .int x3, .int x4, .long (s0 + s1), xhole, .int x7, .int x8, .int x9, .int x10] d_X1_partsFound_128 (by decide) rfl ?_
  refine g_aloadn d_X1_partsFound_130 rfl ?_
  obtain ⟨v131, e131, hF⟩ := Option.bind_eq_some_iff.mp hF
  refine q_fR d_X1_partsFound_131 f_X1_15 e131 ?_
  refine g_iload d_X1_partsFound_134 rfl ?_
  refine g_iload d_X1_partsFound_136 rfl ?_
  refine g_if_eq 145 d_X1_partsFound_138 rfl (fun c138 => ?_) (fun c138 => ?_)
  · have hF := x_t hF c138
    refine g_aloadn d_X1_partsFound_145 rfl ?_
    obtain ⟨v146, e146, hF⟩ := Option.bind_eq_some_iff.mp hF
    refine q_fR d_X1_partsFound_146 f_X1_19 e146 ?_
    refine g_iload d_X1_partsFound_149 rfl ?_
    obtain ⟨v151, e151, hF⟩ := Option.bind_eq_some_iff.mp hF
    refine q_aJ d_X1_partsFound_151 e151 ?_
    obtain ⟨h152, e152, hF⟩ := Option.bind_eq_some_iff.mp hF
    refine q_sJ d_X1_partsFound_152 e152 ?_
    refine q_iinc (1) [.ref x0, .ref x1, .ref x2, .int x3, .int x4, .long (s0 + s1), xhole, .int x7, .int x8, .int (x9 + 1), .int x10] d_X1_partsFound_153 ic_1 rfl (by decide) rfl ?_
    refine g_goto 82 d_X1_partsFound_156 rfl ?_
    exact q_to (xs_r (xs_r (xs_r (xs_r (xs_r (xs_r (xs_h (xs_r (xs_r (xs_r (xs_h xs_n))))))))))) (K82 _ _ _ _ _ _ _ _ _ _ hF)
  · have hF := x_f hF c138
    refine g_lc 0 d_X1_partsFound_141 rfl ?_
    refine g_goto 152 d_X1_partsFound_142 rfl ?_
    obtain ⟨h152, e152, hF⟩ := Option.bind_eq_some_iff.mp hF
    refine q_sJ d_X1_partsFound_152 e152 ?_
    refine q_iinc (1) [.ref x0, .ref x1, .ref x2, .int x3, .int x4, .long (s0 + s1), xhole, .int x7, .int x8, .int (x9 + 1), .int x10] d_X1_partsFound_153 ic_1 rfl (by decide) rfl ?_
    refine g_goto 82 d_X1_partsFound_156 rfl ?_
    exact q_to (xs_r (xs_r (xs_r (xs_r (xs_r (xs_r (xs_h (xs_r (xs_r (xs_r (xs_h xs_n))))))))))) (K82 _ _ _ _ _ _ _ _ _ _ hF)
def F_X1_partsFound_b107 (k40 : Nat → Nat → Nat → Int32 → Int32 → Int64 → Int32 → xH → Option (Int64 × xH)) (k82 : Nat → Nat → Nat → Int32 → Int32 → Int64 → Int32 → Int32 → Int32 → xH → Option (Int64 × xH)) (x0 : Nat) (x1 : Nat) (x2 : Nat) (x3 : Int32) (x4 : Int32) (x5 : Int64) (x7 : Int32) (x8 : Int32) (x9 : Int32) (s0 : Int32) (h : xH) : Option (Int64 × xH) := if s0 = 0 then F_X1_partsFound_b127 k40 k82 x0 x1 x2 x3 x4 x7 x8 x9 s0 x5 0 h else (fR h x0 0 2).bind fun v117 => (aJ h v117 x9).bind fun v122 => F_X1_partsFound_b127 k40 k82 x0 x1 x2 x3 x4 x7 x8 x9 s0 x5 v122 h
theorem R_X1_partsFound_b107 {Γ : xG} {l : Launch} {d : Nat} {Q : Option Value → xH → Prop} {r : Int64} {h' : xH} {k40 : Nat → Nat → Nat → Int32 → Int32 → Int64 → Int32 → xH → Option (Int64 × xH)} {k82 : Nat → Nat → Nat → Int32 → Int32 → Int64 → Int32 → Int32 → Int32 → xH → Option (Int64 × xH)} (K40 : ∀ (x0 : Nat) (x1 : Nat) (x2 : Nat) (x3 : Int32) (x4 : Int32) (x5 : Int64) (x7 : Int32)  (h : xH), k40 x0 x1 x2 x3 x4 x5 x7 h = some (r, h') → Gd Γ l d m_X1_partsFound 40 [.ref x0, .ref x1, .ref x2, .int x3, .int x4, .long x5, xhole, .int x7, xhole, xhole, xhole] [] h 0 0 Q) (K82 : ∀ (x0 : Nat) (x1 : Nat) (x2 : Nat) (x3 : Int32) (x4 : Int32) (x5 : Int64) (x7 : Int32) (x8 : Int32) (x9 : Int32)  (h : xH), k82 x0 x1 x2 x3 x4 x5 x7 x8 x9 h = some (r, h') → Gd Γ l d m_X1_partsFound 82 [.ref x0, .ref x1, .ref x2, .int x3, .int x4, .long x5, xhole, .int x7, .int x8, .int x9, xhole] [] h 0 0 Q) (hdp : 2 ≤ d) (hq : Q (some (.long r)) h') : ∀ (x0 : Nat) (x1 : Nat) (x2 : Nat) (x3 : Int32) (x4 : Int32) (x5 : Int64) (x7 : Int32) (x8 : Int32) (x9 : Int32) (s0 : Int32) (h : xH), F_X1_partsFound_b107 k40 k82 x0 x1 x2 x3 x4 x5 x7 x8 x9 s0 h = some (r, h') → Gd Γ l d m_X1_partsFound 107 [.ref x0, .ref x1, .ref x2, .int x3, .int x4, .long x5, xhole, .int x7, .int x8, .int x9, xhole] [.int s0] h 0 0 Q := by
  intro x0 x1 x2 x3 x4 x5 x7 x8 x9 s0 h hF
  unfold F_X1_partsFound_b107 at hF
  refine q_istore [.ref x0, .ref x1, .ref x2, .int x3, .int x4, .long x5, xhole, .int x7, .int x8, .int x9, .int s0] d_X1_partsFound_107 (by decide) rfl ?_
  refine g_lload d_X1_partsFound_109 rfl ?_
  refine g_iload d_X1_partsFound_111 rfl ?_
  refine g_if_eq 126 d_X1_partsFound_113 rfl (fun c113 => ?_) (fun c113 => ?_)
  · have hF := x_t hF c113
    refine g_lc 0 d_X1_partsFound_126 rfl ?_
    exact q_to (xs_r (xs_r (xs_r (xs_r (xs_r (xs_h (xs_h (xs_r (xs_r (xs_r (xs_r xs_n))))))))))) (R_X1_partsFound_b127 K40 K82 hdp hq _ _ _ _ _ _ _ _ _ _ _ _ hF)
  · have hF := x_f hF c113
    refine g_aloadn d_X1_partsFound_116 rfl ?_
    obtain ⟨v117, e117, hF⟩ := Option.bind_eq_some_iff.mp hF
    refine q_fR d_X1_partsFound_117 f_X1_19 e117 ?_
    refine g_iload d_X1_partsFound_120 rfl ?_
    obtain ⟨v122, e122, hF⟩ := Option.bind_eq_some_iff.mp hF
    refine q_aJ d_X1_partsFound_122 e122 ?_
    refine g_goto 127 d_X1_partsFound_123 rfl ?_
    exact q_to (xs_r (xs_r (xs_r (xs_r (xs_r (xs_h (xs_h (xs_r (xs_r (xs_r (xs_r xs_n))))))))))) (R_X1_partsFound_b127 K40 K82 hdp hq _ _ _ _ _ _ _ _ _ _ _ _ hF)
def F_X1_partsFound_b82 (k40 : Nat → Nat → Nat → Int32 → Int32 → Int64 → Int32 → xH → Option (Int64 × xH)) : Nat → Nat → Nat → Nat → Int32 → Int32 → Int64 → Int32 → Int32 → Int32 → xH → Option (Int64 × xH)
  | 0, _, _, _, _, _, _, _, _, _, _ => none
  | n + 1, x0, x1, x2, x3, x4, x5, x7, x8, x9, h => (fI h x1 9 3).bind fun v85 => if v85 ≤ x9 then k40 x0 x1 x2 x3 x4 x5 (x7 + 1) h else if ¬ ((x8 >>> (x9 &&& 31)) &&& 1) = ((1 : Int32)) then F_X1_partsFound_b107 k40 (F_X1_partsFound_b82 k40 n) x0 x1 x2 x3 x4 x5 x7 x8 x9 0 h else F_X1_partsFound_b107 k40 (F_X1_partsFound_b82 k40 n) x0 x1 x2 x3 x4 x5 x7 x8 x9 1 h
theorem R_X1_partsFound_b82 {Γ : xG} {l : Launch} {d : Nat} {Q : Option Value → xH → Prop} {r : Int64} {h' : xH} {k40 : Nat → Nat → Nat → Int32 → Int32 → Int64 → Int32 → xH → Option (Int64 × xH)} (K40 : ∀ (x0 : Nat) (x1 : Nat) (x2 : Nat) (x3 : Int32) (x4 : Int32) (x5 : Int64) (x7 : Int32)  (h : xH), k40 x0 x1 x2 x3 x4 x5 x7 h = some (r, h') → Gd Γ l d m_X1_partsFound 40 [.ref x0, .ref x1, .ref x2, .int x3, .int x4, .long x5, xhole, .int x7, xhole, xhole, xhole] [] h 0 0 Q) (hdp : 2 ≤ d) (hq : Q (some (.long r)) h') : ∀ (n : Nat) (x0 : Nat) (x1 : Nat) (x2 : Nat) (x3 : Int32) (x4 : Int32) (x5 : Int64) (x7 : Int32) (x8 : Int32) (x9 : Int32) (h : xH), F_X1_partsFound_b82 k40 n x0 x1 x2 x3 x4 x5 x7 x8 x9 h = some (r, h') → Gd Γ l d m_X1_partsFound 82 [.ref x0, .ref x1, .ref x2, .int x3, .int x4, .long x5, xhole, .int x7, .int x8, .int x9, xhole] [] h 0 0 Q := by
  intro n
  induction n with
  | zero => intro x0 x1 x2 x3 x4 x5 x7 x8 x9 h hF; cases hF
  | succ n ih =>
  intro x0 x1 x2 x3 x4 x5 x7 x8 x9 h hF
  rw [F_X1_partsFound_b82] at hF
  refine g_iload d_X1_partsFound_82 rfl ?_
  refine g_aloadn d_X1_partsFound_84 rfl ?_
  obtain ⟨v85, e85, hF⟩ := Option.bind_eq_some_iff.mp hF
  refine q_fI d_X1_partsFound_85 f_X1_57 e85 ?_
  refine g_icmp_ge 159 d_X1_partsFound_88 rfl (fun c88 => ?_) (fun c88 => ?_)
  · have hF := x_t hF c88
    refine q_iinc (1) [.ref x0, .ref x1, .ref x2, .int x3, .int x4, .long x5, xhole, .int (x7 + 1), .int x8, .int x9, xhole] d_X1_partsFound_159 ic_1 rfl (by decide) rfl ?_
    refine g_goto 40 d_X1_partsFound_162 rfl ?_
    exact q_to (xs_r (xs_r (xs_r (xs_r (xs_r (xs_r (xs_h (xs_r (xs_h (xs_h (xs_h xs_n))))))))))) (K40 _ _ _ _ _ _ _ _ hF)
  · have hF := x_f hF c88
    refine g_iload d_X1_partsFound_91 rfl ?_
    refine g_iload d_X1_partsFound_93 rfl ?_
    refine g_ishr d_X1_partsFound_95 ?_
    refine g_ic (1) d_X1_partsFound_96 ic_1 ?_
    refine g_iand d_X1_partsFound_97 ?_
    refine g_ic (1) d_X1_partsFound_98 ic_1 ?_
    refine g_icmp_ne 106 d_X1_partsFound_99 rfl (fun c99 => ?_) (fun c99 => ?_)
    · have hF := x_t hF c99
      refine g_ic (0) d_X1_partsFound_106 ic_0 ?_
      exact q_to (xs_r (xs_r (xs_r (xs_r (xs_r (xs_r (xs_h (xs_r (xs_r (xs_r (xs_h xs_n))))))))))) (R_X1_partsFound_b107 K40 ih hdp hq _ _ _ _ _ _ _ _ _ _ _ hF)
    · have hF := x_f hF (not_not_intro c99)
      refine g_ic (1) d_X1_partsFound_102 ic_1 ?_
      refine g_goto 107 d_X1_partsFound_103 rfl ?_
      exact q_to (xs_r (xs_r (xs_r (xs_r (xs_r (xs_r (xs_h (xs_r (xs_r (xs_r (xs_h xs_n))))))))))) (R_X1_partsFound_b107 K40 ih hdp hq _ _ _ _ _ _ _ _ _ _ _ hF)
def F_X1_partsFound_b40 : Nat → Nat → Nat → Nat → Int32 → Int32 → Int64 → Int32 → xH → Option (Int64 × xH)
  | 0, _, _, _, _, _, _, _, _ => none
  | n + 1, x0, x1, x2, x3, x4, x5, x7, h => if x4 ≤ x7 then some (x5, h) else (rc h x0 0).bind fun _ => (F_X1_moveAtRandom x0 x1 h).bind fun z49 => (fR z49.2 x2 5 2).bind fun v54 => (aI z49.2 v54 x3).bind fun v58 => (fI z49.2 x2 5 4).bind fun v60 => (rc z49.2 x1 9).bind fun _ => (F_X10_placesSounding x1 v58 (v60 + x7) z49.2).bind fun z66 => F_X1_partsFound_b82 (F_X1_partsFound_b40 n) FU x0 x1 x2 x3 x4 (x5 * 60) x7 z66.1 0 z66.2
theorem R_X1_partsFound_b40 {Γ : xG} {l : Launch} {d : Nat} {Q : Option Value → xH → Prop} {r : Int64} {h' : xH} (hdp : 2 ≤ d) (hq : Q (some (.long r)) h') : ∀ (n : Nat) (x0 : Nat) (x1 : Nat) (x2 : Nat) (x3 : Int32) (x4 : Int32) (x5 : Int64) (x7 : Int32) (h : xH), F_X1_partsFound_b40 n x0 x1 x2 x3 x4 x5 x7 h = some (r, h') → Gd Γ l d m_X1_partsFound 40 [.ref x0, .ref x1, .ref x2, .int x3, .int x4, .long x5, xhole, .int x7, xhole, xhole, xhole] [] h 0 0 Q := by
  intro n
  induction n with
  | zero => intro x0 x1 x2 x3 x4 x5 x7 h hF; cases hF
  | succ n ih =>
  intro x0 x1 x2 x3 x4 x5 x7 h hF
  rw [F_X1_partsFound_b40] at hF
  refine g_iload d_X1_partsFound_40 rfl ?_
  refine g_iload d_X1_partsFound_42 rfl ?_
  refine g_icmp_ge 165 d_X1_partsFound_44 rfl (fun c44 => ?_) (fun c44 => ?_)
  · have hF := x_t hF c44
    refine g_lload d_X1_partsFound_165 rfl ?_
    obtain ⟨rfl, rfl⟩ := x_inj hF
    exact g_lret d_X1_partsFound_167 rfl hq
  · have hF := x_f hF c44
    refine g_aloadn d_X1_partsFound_47 rfl ?_
    refine g_aloadn d_X1_partsFound_48 rfl ?_
    obtain ⟨_, g49, hF⟩ := Option.bind_eq_some_iff.mp hF
    obtain ⟨⟨r49, h49⟩, e49, hF⟩ := Option.bind_eq_some_iff.mp hF
    try dsimp only at hF
    refine q_callV [.ref x1] [] rfl d_X1_partsFound_49 v_X1_70 (by omega) rfl (Nat.le_of_ble_eq_true rfl) (rc_rc g49 (by decide) rfl) (R_X1_moveAtRandom _ _ _ (by omega) e49) ?_
    refine g_aloadn d_X1_partsFound_52 rfl ?_
    refine g_aloadn d_X1_partsFound_53 rfl ?_
    obtain ⟨v54, e54, hF⟩ := Option.bind_eq_some_iff.mp hF
    refine q_fR d_X1_partsFound_54 f_X1_28 e54 ?_
    refine g_iloadn d_X1_partsFound_57 rfl ?_
    obtain ⟨v58, e58, hF⟩ := Option.bind_eq_some_iff.mp hF
    refine q_aI d_X1_partsFound_58 e58 ?_
    refine g_aloadn d_X1_partsFound_59 rfl ?_
    obtain ⟨v60, e60, hF⟩ := Option.bind_eq_some_iff.mp hF
    refine q_fI d_X1_partsFound_60 f_X1_40 e60 ?_
    refine g_iload d_X1_partsFound_63 rfl ?_
    refine g_iadd d_X1_partsFound_65 ?_
    obtain ⟨_, g66, hF⟩ := Option.bind_eq_some_iff.mp hF
    obtain ⟨⟨r66, h66⟩, e66, hF⟩ := Option.bind_eq_some_iff.mp hF
    try dsimp only at hF
    refine q_callV [.int v58, .int (v60 + x7)] [] rfl d_X1_partsFound_66 v_X1_44 (by omega) rfl (Nat.le_of_ble_eq_true rfl) (rc_rc g66 (by decide) rfl) (R_X10_placesSounding _ _ _ _ (by omega) e66) ?_
    refine q_istore [.ref x0, .ref x1, .ref x2, .int x3, .int x4, .long x5, xhole, .int x7, .int (r66), xhole, xhole] d_X1_partsFound_69 (by decide) rfl ?_
    refine g_lload d_X1_partsFound_71 rfl ?_
    refine g_ldc2 d_X1_partsFound_73 k_X1_74 ?_
    refine g_lmul d_X1_partsFound_76 ?_
    refine q_lstore [.ref x0, .ref x1, .ref x2, .int x3, .int x4, .long (x5 * 60), xhole, .int x7, .int (r66), xhole, xhole] d_X1_partsFound_77 (by decide) rfl ?_
    refine g_ic (0) d_X1_partsFound_79 ic_0 ?_
    refine q_istore [.ref x0, .ref x1, .ref x2, .int x3, .int x4, .long (x5 * 60), xhole, .int x7, .int (r66), .int 0, xhole] d_X1_partsFound_80 (by decide) rfl ?_
    exact q_to (xs_r (xs_r (xs_r (xs_r (xs_r (xs_r (xs_h (xs_r (xs_r (xs_r (xs_h xs_n))))))))))) (R_X1_partsFound_b82 ih hdp hq FU _ _ _ _ _ _ _ _ _ _ hF)
def F_X1_partsFound (x0 : Nat) (x1 : Nat) (x2 : Nat) (x3 : Int32) (x4 : Int32) (h : xH) : Option (Int64 × xH) := (rc h x2 5).bind fun _ => (F_X6_hasFound x2 x3 h).bind fun z2 => if z2.1 = 0 then (fR z2.2 x0 0 1).bind fun v15 => (F_J7_fill_d0a16 v15 0 z2.2).bind fun z19 => (fR z19.2 x0 0 1).bind fun v23 => (fR z19.2 x2 5 0).bind fun v27 => (aI z19.2 v27 x3).bind fun v31 => (sJ z19.2 v23 v31 1).bind fun h33 => F_X1_partsFound_b40 FU x0 x1 x2 x3 x4 0 0 h33 else (F_X1_partsInAll x4 z2.2).bind fun z10 => some (z10.1, z10.2)
theorem R_X1_partsFound {Γ : xG} {l : Launch} {d : Nat} {r : Int64} {h' : xH} (x0 : Nat) (x1 : Nat) (x2 : Nat) (x3 : Int32) (x4 : Int32) (h : xH) (hdp : 2 ≤ d) (hF : F_X1_partsFound x0 x1 x2 x3 x4 h = some (r, h')) : Gm Γ l d 0 0 m_X1_partsFound [.ref x0, .ref x1, .ref x2, .int x3, .int x4] h (fun a u => a = some (.long r) ∧ u = h') := by
  refine Gm.of pn_X1 (Nat.le_of_ble_eq_true rfl) ?_
  show Gd Γ l d m_X1_partsFound 0 [.ref x0, .ref x1, .ref x2, .int x3, .int x4, xhole, xhole, xhole, xhole, xhole, xhole] [] h 0 0 _
  generalize hQ : (fun (a : Option Value) (u : xH) => a = some (.long r) ∧ u = h') = Q
  have hq : Q (some (.long r)) h' := by rw [← hQ]; exact ⟨rfl, rfl⟩
  clear hQ
  unfold F_X1_partsFound at hF
  refine g_aloadn d_X1_partsFound_0 rfl ?_
  refine g_iloadn d_X1_partsFound_1 rfl ?_
  obtain ⟨_, g2, hF⟩ := Option.bind_eq_some_iff.mp hF
  obtain ⟨⟨r2, h2⟩, e2, hF⟩ := Option.bind_eq_some_iff.mp hF
  try dsimp only at hF
  refine q_callV [.int x3] [] rfl d_X1_partsFound_2 v_X1_22 (by omega) rfl (Nat.le_of_ble_eq_true rfl) (rc_rc g2 (by decide) rfl) (R_X6_hasFound _ _ _ (by omega) e2) ?_
  refine g_if_eq 14 d_X1_partsFound_5 rfl (fun c5 => ?_) (fun c5 => ?_)
  · have hF := x_t hF c5
    refine g_aloadn d_X1_partsFound_14 rfl ?_
    obtain ⟨v15, e15, hF⟩ := Option.bind_eq_some_iff.mp hF
    refine q_fR d_X1_partsFound_15 f_X1_15 e15 ?_
    refine g_lc 0 d_X1_partsFound_18 rfl ?_
    obtain ⟨⟨r19, h19⟩, e19, hF⟩ := Option.bind_eq_some_iff.mp hF
    try dsimp only at hF
    refine q_callS [.ref v15, .long 0] [] rfl d_X1_partsFound_19 s_X1_64 (by omega) rfl (Nat.le_of_ble_eq_true rfl) (R_J7_fill_d0a16 _ _ _ (by omega) e19) ?_
    refine g_aloadn d_X1_partsFound_22 rfl ?_
    obtain ⟨v23, e23, hF⟩ := Option.bind_eq_some_iff.mp hF
    refine q_fR d_X1_partsFound_23 f_X1_15 e23 ?_
    refine g_aloadn d_X1_partsFound_26 rfl ?_
    obtain ⟨v27, e27, hF⟩ := Option.bind_eq_some_iff.mp hF
    refine q_fR d_X1_partsFound_27 f_X1_31 e27 ?_
    refine g_iloadn d_X1_partsFound_30 rfl ?_
    obtain ⟨v31, e31, hF⟩ := Option.bind_eq_some_iff.mp hF
    refine q_aI d_X1_partsFound_31 e31 ?_
    refine g_lc 1 d_X1_partsFound_32 rfl ?_
    obtain ⟨h33, e33, hF⟩ := Option.bind_eq_some_iff.mp hF
    refine q_sJ d_X1_partsFound_33 e33 ?_
    refine g_lc 0 d_X1_partsFound_34 rfl ?_
    refine q_lstore [.ref x0, .ref x1, .ref x2, .int x3, .int x4, .long 0, xhole, xhole, xhole, xhole, xhole] d_X1_partsFound_35 (by decide) rfl ?_
    refine g_ic (0) d_X1_partsFound_37 ic_0 ?_
    refine q_istore [.ref x0, .ref x1, .ref x2, .int x3, .int x4, .long 0, xhole, .int 0, xhole, xhole, xhole] d_X1_partsFound_38 (by decide) rfl ?_
    exact q_to (xs_r (xs_r (xs_r (xs_r (xs_r (xs_r (xs_h (xs_r (xs_h (xs_h (xs_h xs_n))))))))))) (R_X1_partsFound_b40 hdp hq FU _ _ _ _ _ _ _ _ hF)
  · have hF := x_f hF c5
    refine g_iload d_X1_partsFound_8 rfl ?_
    obtain ⟨⟨r10, h10⟩, e10, hF⟩ := Option.bind_eq_some_iff.mp hF
    try dsimp only at hF
    refine q_callS [.int x4] [] rfl d_X1_partsFound_10 s_X1_60 (by omega) rfl (Nat.le_of_ble_eq_true rfl) (R_X1_partsInAll _ _ (by omega) e10) ?_
    obtain ⟨rfl, rfl⟩ := x_inj hF
    exact g_lret d_X1_partsFound_13 rfl hq
theorem d_X1_greatestShared_0 : decode cX1_greatestShared 0 = .ok (.lload_n 0, 1) := by decide +kernel
theorem d_X1_greatestShared_1 : decode cX1_greatestShared 1 = .ok (.lstore 4, 2) := by decide +kernel
theorem d_X1_greatestShared_3 : decode cX1_greatestShared 3 = .ok (.lload_n 2, 1) := by decide +kernel
theorem d_X1_greatestShared_4 : decode cX1_greatestShared 4 = .ok (.lstore 6, 2) := by decide +kernel
theorem d_X1_greatestShared_6 : decode cX1_greatestShared 6 = .ok (.iconst 0, 1) := by decide +kernel
theorem d_X1_greatestShared_7 : decode cX1_greatestShared 7 = .ok (.istore 8, 2) := by decide +kernel
theorem d_X1_greatestShared_9 : decode cX1_greatestShared 9 = .ok (.iload 8, 2) := by decide +kernel
theorem d_X1_greatestShared_11 : decode cX1_greatestShared 11 = .ok (.bipush 100, 2) := by decide +kernel
theorem d_X1_greatestShared_13 : decode cX1_greatestShared 13 = .ok (.if_icmp .ge 31, 3) := by decide +kernel
theorem d_X1_greatestShared_16 : decode cX1_greatestShared 16 = .ok (.lload 4, 2) := by decide +kernel
theorem d_X1_greatestShared_18 : decode cX1_greatestShared 18 = .ok (.lconst 0, 1) := by decide +kernel
theorem d_X1_greatestShared_19 : decode cX1_greatestShared 19 = .ok (.lcmp, 1) := by decide +kernel
theorem d_X1_greatestShared_20 : decode cX1_greatestShared 20 = .ok (.ifCond .eq 24, 3) := by decide +kernel
theorem d_X1_greatestShared_23 : decode cX1_greatestShared 23 = .ok (.lload 6, 2) := by decide +kernel
theorem d_X1_greatestShared_25 : decode cX1_greatestShared 25 = .ok (.lload 4, 2) := by decide +kernel
theorem d_X1_greatestShared_27 : decode cX1_greatestShared 27 = .ok (.lrem, 1) := by decide +kernel
theorem d_X1_greatestShared_28 : decode cX1_greatestShared 28 = .ok (.lstore 9, 2) := by decide +kernel
theorem d_X1_greatestShared_30 : decode cX1_greatestShared 30 = .ok (.lload 4, 2) := by decide +kernel
theorem d_X1_greatestShared_32 : decode cX1_greatestShared 32 = .ok (.lstore 6, 2) := by decide +kernel
theorem d_X1_greatestShared_34 : decode cX1_greatestShared 34 = .ok (.lload 9, 2) := by decide +kernel
theorem d_X1_greatestShared_36 : decode cX1_greatestShared 36 = .ok (.lstore 4, 2) := by decide +kernel
theorem d_X1_greatestShared_38 : decode cX1_greatestShared 38 = .ok (.iinc 8 1, 3) := by decide +kernel
theorem d_X1_greatestShared_41 : decode cX1_greatestShared 41 = .ok (.goto (-32), 3) := by decide +kernel
theorem d_X1_greatestShared_44 : decode cX1_greatestShared 44 = .ok (.lload 6, 2) := by decide +kernel
theorem d_X1_greatestShared_46 : decode cX1_greatestShared 46 = .ok (.lreturn, 1) := by decide +kernel
def F_X1_greatestShared_b9 : Nat → Int64 → Int64 → Int32 → xH → Option (Int64 × xH)
  | 0, _, _, _, _ => none
  | n + 1, x4, x6, x8, h => if ((100 : Int32)) ≤ x8 then some (x6, h) else if (lg_cmp x4 0) = 0 then some (x6, h) else if x4 = 0 then none else F_X1_greatestShared_b9 n (lrm x6 x4) x4 (x8 + 1) h
theorem R_X1_greatestShared_b9 {Γ : xG} {l : Launch} {d : Nat} {Q : Option Value → xH → Prop} {r : Int64} {h' : xH} (hdp : 0 ≤ d) (hq : Q (some (.long r)) h') : ∀ (n : Nat) (x4 : Int64) (x6 : Int64) (x8 : Int32) (h : xH), F_X1_greatestShared_b9 n x4 x6 x8 h = some (r, h') → Gd Γ l d m_X1_greatestShared 9 [xhole, xhole, xhole, xhole, .long x4, xhole, .long x6, xhole, .int x8, xhole, xhole] [] h 0 0 Q := by
  intro n
  induction n with
  | zero => intro x4 x6 x8 h hF; cases hF
  | succ n ih =>
  intro x4 x6 x8 h hF
  rw [F_X1_greatestShared_b9] at hF
  refine g_iload d_X1_greatestShared_9 rfl ?_
  refine g_bi (100) d_X1_greatestShared_11 bi_100 ?_
  refine g_icmp_ge 44 d_X1_greatestShared_13 rfl (fun c13 => ?_) (fun c13 => ?_)
  · have hF := x_t hF c13
    refine g_lload d_X1_greatestShared_44 rfl ?_
    obtain ⟨rfl, rfl⟩ := x_inj hF
    exact g_lret d_X1_greatestShared_46 rfl hq
  · have hF := x_f hF c13
    refine g_lload d_X1_greatestShared_16 rfl ?_
    refine g_lc 0 d_X1_greatestShared_18 rfl ?_
    refine g_lcmp d_X1_greatestShared_19 ?_
    refine g_if_eq 44 d_X1_greatestShared_20 rfl (fun c20 => ?_) (fun c20 => ?_)
    · have hF := x_t hF c20
      refine g_lload d_X1_greatestShared_44 rfl ?_
      obtain ⟨rfl, rfl⟩ := x_inj hF
      exact g_lret d_X1_greatestShared_46 rfl hq
    · have hF := x_f hF c20
      refine g_lload d_X1_greatestShared_23 rfl ?_
      refine g_lload d_X1_greatestShared_25 rfl ?_
      rcases x_nz hF with ⟨z27, hF⟩
      refine q_lrem d_X1_greatestShared_27 z27 ?_
      refine q_lstore [xhole, xhole, xhole, xhole, .long x4, xhole, .long x6, xhole, .int x8, .long (lrm x6 x4), xhole] d_X1_greatestShared_28 (by decide) rfl ?_
      refine g_lload d_X1_greatestShared_30 rfl ?_
      refine q_lstore [xhole, xhole, xhole, xhole, .long x4, xhole, .long x4, xhole, .int x8, .long (lrm x6 x4), xhole] d_X1_greatestShared_32 (by decide) rfl ?_
      refine g_lload d_X1_greatestShared_34 rfl ?_
      refine q_lstore [xhole, xhole, xhole, xhole, .long (lrm x6 x4), xhole, .long x4, xhole, .int x8, .long (lrm x6 x4), xhole] d_X1_greatestShared_36 (by decide) rfl ?_
      refine q_iinc (1) [xhole, xhole, xhole, xhole, .long (lrm x6 x4), xhole, .long x4, xhole, .int (x8 + 1), .long (lrm x6 x4), xhole] d_X1_greatestShared_38 ic_1 rfl (by decide) rfl ?_
      refine g_goto 9 d_X1_greatestShared_41 rfl ?_
      exact q_to (xs_h (xs_h (xs_h (xs_h (xs_r (xs_h (xs_r (xs_h (xs_r (xs_h (xs_h xs_n))))))))))) (ih _ _ _ _ hF)
def F_X1_greatestShared (x0 : Int64) (x2 : Int64) (h : xH) : Option (Int64 × xH) := F_X1_greatestShared_b9 FU x0 x2 0 h
theorem R_X1_greatestShared {Γ : xG} {l : Launch} {d : Nat} {r : Int64} {h' : xH} (x0 : Int64) (x2 : Int64) (h : xH) (hdp : 0 ≤ d) (hF : F_X1_greatestShared x0 x2 h = some (r, h')) : Gm Γ l d 0 0 m_X1_greatestShared [.long x0, .long x2] h (fun a u => a = some (.long r) ∧ u = h') := by
  refine Gm.of pn_X1 (Nat.le_of_ble_eq_true rfl) ?_
  show Gd Γ l d m_X1_greatestShared 0 [.long x0, xhole, .long x2, xhole, xhole, xhole, xhole, xhole, xhole, xhole, xhole] [] h 0 0 _
  generalize hQ : (fun (a : Option Value) (u : xH) => a = some (.long r) ∧ u = h') = Q
  have hq : Q (some (.long r)) h' := by rw [← hQ]; exact ⟨rfl, rfl⟩
  clear hQ
  unfold F_X1_greatestShared at hF
  refine g_lloadn d_X1_greatestShared_0 rfl ?_
  refine q_lstore [.long x0, xhole, .long x2, xhole, .long x0, xhole, xhole, xhole, xhole, xhole, xhole] d_X1_greatestShared_1 (by decide) rfl ?_
  refine g_lloadn d_X1_greatestShared_3 rfl ?_
  refine q_lstore [.long x0, xhole, .long x2, xhole, .long x0, xhole, .long x2, xhole, xhole, xhole, xhole] d_X1_greatestShared_4 (by decide) rfl ?_
  refine g_ic (0) d_X1_greatestShared_6 ic_0 ?_
  refine q_istore [.long x0, xhole, .long x2, xhole, .long x0, xhole, .long x2, xhole, .int 0, xhole, xhole] d_X1_greatestShared_7 (by decide) rfl ?_
  exact q_to (xs_h (xs_h (xs_h (xs_h (xs_r (xs_h (xs_r (xs_h (xs_r (xs_h (xs_h xs_n))))))))))) (R_X1_greatestShared_b9 hdp hq FU _ _ _ _ hF)
theorem d_X2_forget_0 : decode cX2_forget 0 = .ok (.aload_n 0, 1) := by decide +kernel
theorem d_X2_forget_1 : decode cX2_forget 1 = .ok (.iconst 0, 1) := by decide +kernel
theorem d_X2_forget_2 : decode cX2_forget 2 = .ok (.putfield 21, 3) := by decide +kernel
theorem d_X2_forget_5 : decode cX2_forget 5 = .ok (.return_, 1) := by decide +kernel
def F_X2_forget (x0 : Nat) (h : xH) : Option (Unit × xH) := (wI h x0 1 2 0).bind fun h2 => some ((), h2)
theorem R_X2_forget {Γ : xG} {l : Launch} {d : Nat} {r : Unit} {h' : xH} (x0 : Nat) (h : xH) (hdp : 0 ≤ d) (hF : F_X2_forget x0 h = some (r, h')) : Gm Γ l d 0 0 m_X2_forget [.ref x0] h (fun a u => a = none ∧ u = h') := by
  refine Gm.of pn_X2 (Nat.le_of_ble_eq_true rfl) ?_
  show Gd Γ l d m_X2_forget 0 [.ref x0] [] h 0 0 _
  generalize hQ : (fun (a : Option Value) (u : xH) => a = none ∧ u = h') = Q
  have hq : Q (none) h' := by rw [← hQ]; exact ⟨rfl, rfl⟩
  clear hQ
  unfold F_X2_forget at hF
  refine g_aloadn d_X2_forget_0 rfl ?_
  refine g_ic (0) d_X2_forget_1 ic_0 ?_
  obtain ⟨h2, e2, hF⟩ := Option.bind_eq_some_iff.mp hF
  refine q_wI d_X2_forget_2 (w_X2_21 _) e2 ?_
  obtain ⟨rfl, rfl⟩ := x_inj hF
  exact g_vret d_X2_forget_5 rfl hq
theorem d_X6_copyFrom_0 : decode cX6_copyFrom 0 = .ok (.aload_n 1, 1) := by decide +kernel
theorem d_X6_copyFrom_1 : decode cX6_copyFrom 1 = .ok (.getfield 9, 3) := by decide +kernel
theorem d_X6_copyFrom_4 : decode cX6_copyFrom 4 = .ok (.iconst 0, 1) := by decide +kernel
theorem d_X6_copyFrom_5 : decode cX6_copyFrom 5 = .ok (.aload_n 0, 1) := by decide +kernel
theorem d_X6_copyFrom_6 : decode cX6_copyFrom 6 = .ok (.getfield 9, 3) := by decide +kernel
theorem d_X6_copyFrom_9 : decode cX6_copyFrom 9 = .ok (.iconst 0, 1) := by decide +kernel
theorem d_X6_copyFrom_10 : decode cX6_copyFrom 10 = .ok (.bipush 6, 2) := by decide +kernel
theorem d_X6_copyFrom_12 : decode cX6_copyFrom 12 = .ok (.invokestatic 28, 3) := by decide +kernel
theorem d_X6_copyFrom_15 : decode cX6_copyFrom 15 = .ok (.aload_n 1, 1) := by decide +kernel
theorem d_X6_copyFrom_16 : decode cX6_copyFrom 16 = .ok (.getfield 15, 3) := by decide +kernel
theorem d_X6_copyFrom_19 : decode cX6_copyFrom 19 = .ok (.iconst 0, 1) := by decide +kernel
theorem d_X6_copyFrom_20 : decode cX6_copyFrom 20 = .ok (.aload_n 0, 1) := by decide +kernel
theorem d_X6_copyFrom_21 : decode cX6_copyFrom 21 = .ok (.getfield 15, 3) := by decide +kernel
theorem d_X6_copyFrom_24 : decode cX6_copyFrom 24 = .ok (.iconst 0, 1) := by decide +kernel
theorem d_X6_copyFrom_25 : decode cX6_copyFrom 25 = .ok (.bipush 6, 2) := by decide +kernel
theorem d_X6_copyFrom_27 : decode cX6_copyFrom 27 = .ok (.invokestatic 28, 3) := by decide +kernel
theorem d_X6_copyFrom_30 : decode cX6_copyFrom 30 = .ok (.aload_n 1, 1) := by decide +kernel
theorem d_X6_copyFrom_31 : decode cX6_copyFrom 31 = .ok (.getfield 18, 3) := by decide +kernel
theorem d_X6_copyFrom_34 : decode cX6_copyFrom 34 = .ok (.iconst 0, 1) := by decide +kernel
theorem d_X6_copyFrom_35 : decode cX6_copyFrom 35 = .ok (.aload_n 0, 1) := by decide +kernel
theorem d_X6_copyFrom_36 : decode cX6_copyFrom 36 = .ok (.getfield 18, 3) := by decide +kernel
theorem d_X6_copyFrom_39 : decode cX6_copyFrom 39 = .ok (.iconst 0, 1) := by decide +kernel
theorem d_X6_copyFrom_40 : decode cX6_copyFrom 40 = .ok (.bipush 6, 2) := by decide +kernel
theorem d_X6_copyFrom_42 : decode cX6_copyFrom 42 = .ok (.invokestatic 28, 3) := by decide +kernel
theorem d_X6_copyFrom_45 : decode cX6_copyFrom 45 = .ok (.aload_n 0, 1) := by decide +kernel
theorem d_X6_copyFrom_46 : decode cX6_copyFrom 46 = .ok (.aload_n 1, 1) := by decide +kernel
theorem d_X6_copyFrom_47 : decode cX6_copyFrom 47 = .ok (.getfield 21, 3) := by decide +kernel
theorem d_X6_copyFrom_50 : decode cX6_copyFrom 50 = .ok (.putfield 21, 3) := by decide +kernel
theorem d_X6_copyFrom_53 : decode cX6_copyFrom 53 = .ok (.aload_n 0, 1) := by decide +kernel
theorem d_X6_copyFrom_54 : decode cX6_copyFrom 54 = .ok (.aload_n 1, 1) := by decide +kernel
theorem d_X6_copyFrom_55 : decode cX6_copyFrom 55 = .ok (.getfield 25, 3) := by decide +kernel
theorem d_X6_copyFrom_58 : decode cX6_copyFrom 58 = .ok (.putfield 25, 3) := by decide +kernel
theorem d_X6_copyFrom_61 : decode cX6_copyFrom 61 = .ok (.return_, 1) := by decide +kernel
def F_X6_copyFrom (x0 : Nat) (x1 : Nat) (h : xH) : Option (Unit × xH) := (fR h x1 5 0).bind fun v1 => (fR h x0 5 0).bind fun v6 => (cpI h v1 0 v6 0 6).bind fun h12 => (fR h12 x1 5 1).bind fun v16 => (fR h12 x0 5 1).bind fun v21 => (cpI h12 v16 0 v21 0 6).bind fun h27 => (fR h27 x1 5 2).bind fun v31 => (fR h27 x0 5 2).bind fun v36 => (cpI h27 v31 0 v36 0 6).bind fun h42 => (fI h42 x1 5 3).bind fun v47 => (wI h42 x0 5 3 v47).bind fun h50 => (fI h50 x1 5 4).bind fun v55 => (wI h50 x0 5 4 v55).bind fun h58 => some ((), h58)
theorem R_X6_copyFrom {Γ : xG} {l : Launch} {d : Nat} {r : Unit} {h' : xH} (x0 : Nat) (x1 : Nat) (h : xH) (hdp : 1 ≤ d) (hF : F_X6_copyFrom x0 x1 h = some (r, h')) : Gm Γ l d 0 0 m_X6_copyFrom [.ref x0, .ref x1] h (fun a u => a = none ∧ u = h') := by
  refine Gm.of pn_X6 (Nat.le_of_ble_eq_true rfl) ?_
  show Gd Γ l d m_X6_copyFrom 0 [.ref x0, .ref x1] [] h 0 0 _
  generalize hQ : (fun (a : Option Value) (u : xH) => a = none ∧ u = h') = Q
  have hq : Q (none) h' := by rw [← hQ]; exact ⟨rfl, rfl⟩
  clear hQ
  unfold F_X6_copyFrom at hF
  refine g_aloadn d_X6_copyFrom_0 rfl ?_
  obtain ⟨v1, e1, hF⟩ := Option.bind_eq_some_iff.mp hF
  refine q_fR d_X6_copyFrom_1 f_X6_9 e1 ?_
  refine g_ic (0) d_X6_copyFrom_4 ic_0 ?_
  refine g_aloadn d_X6_copyFrom_5 rfl ?_
  obtain ⟨v6, e6, hF⟩ := Option.bind_eq_some_iff.mp hF
  refine q_fR d_X6_copyFrom_6 f_X6_9 e6 ?_
  refine g_ic (0) d_X6_copyFrom_9 ic_0 ?_
  refine g_bi (6) d_X6_copyFrom_10 bi_6 ?_
  obtain ⟨h12, e12, hF⟩ := Option.bind_eq_some_iff.mp hF
  refine q_cpI d_X6_copyFrom_12 ay_X6_28 (by omega) (Nat.le_of_ble_eq_true rfl) e12 ?_
  refine g_aloadn d_X6_copyFrom_15 rfl ?_
  obtain ⟨v16, e16, hF⟩ := Option.bind_eq_some_iff.mp hF
  refine q_fR d_X6_copyFrom_16 f_X6_15 e16 ?_
  refine g_ic (0) d_X6_copyFrom_19 ic_0 ?_
  refine g_aloadn d_X6_copyFrom_20 rfl ?_
  obtain ⟨v21, e21, hF⟩ := Option.bind_eq_some_iff.mp hF
  refine q_fR d_X6_copyFrom_21 f_X6_15 e21 ?_
  refine g_ic (0) d_X6_copyFrom_24 ic_0 ?_
  refine g_bi (6) d_X6_copyFrom_25 bi_6 ?_
  obtain ⟨h27, e27, hF⟩ := Option.bind_eq_some_iff.mp hF
  refine q_cpI d_X6_copyFrom_27 ay_X6_28 (by omega) (Nat.le_of_ble_eq_true rfl) e27 ?_
  refine g_aloadn d_X6_copyFrom_30 rfl ?_
  obtain ⟨v31, e31, hF⟩ := Option.bind_eq_some_iff.mp hF
  refine q_fR d_X6_copyFrom_31 f_X6_18 e31 ?_
  refine g_ic (0) d_X6_copyFrom_34 ic_0 ?_
  refine g_aloadn d_X6_copyFrom_35 rfl ?_
  obtain ⟨v36, e36, hF⟩ := Option.bind_eq_some_iff.mp hF
  refine q_fR d_X6_copyFrom_36 f_X6_18 e36 ?_
  refine g_ic (0) d_X6_copyFrom_39 ic_0 ?_
  refine g_bi (6) d_X6_copyFrom_40 bi_6 ?_
  obtain ⟨h42, e42, hF⟩ := Option.bind_eq_some_iff.mp hF
  refine q_cpI d_X6_copyFrom_42 ay_X6_28 (by omega) (Nat.le_of_ble_eq_true rfl) e42 ?_
  refine g_aloadn d_X6_copyFrom_45 rfl ?_
  refine g_aloadn d_X6_copyFrom_46 rfl ?_
  obtain ⟨v47, e47, hF⟩ := Option.bind_eq_some_iff.mp hF
  refine q_fI d_X6_copyFrom_47 f_X6_21 e47 ?_
  obtain ⟨h50, e50, hF⟩ := Option.bind_eq_some_iff.mp hF
  refine q_wI d_X6_copyFrom_50 (w_X6_21 _) e50 ?_
  refine g_aloadn d_X6_copyFrom_53 rfl ?_
  refine g_aloadn d_X6_copyFrom_54 rfl ?_
  obtain ⟨v55, e55, hF⟩ := Option.bind_eq_some_iff.mp hF
  refine q_fI d_X6_copyFrom_55 f_X6_25 e55 ?_
  obtain ⟨h58, e58, hF⟩ := Option.bind_eq_some_iff.mp hF
  refine q_wI d_X6_copyFrom_58 (w_X6_25 _) e58 ?_
  obtain ⟨rfl, rfl⟩ := x_inj hF
  exact g_vret d_X6_copyFrom_61 rfl hq
