/-! ===== methods as functions, 1: written by a program out of the listings ===== -/
theorem d_J9_min_7cf53_0 : decode cJ9_min_7cf53 0 = .ok (.iload_n 0, 1) := by decide +kernel
theorem d_J9_min_7cf53_1 : decode cJ9_min_7cf53 1 = .ok (.iload_n 1, 1) := by decide +kernel
theorem d_J9_min_7cf53_2 : decode cJ9_min_7cf53 2 = .ok (.if_icmp .gt 7, 3) := by decide +kernel
theorem d_J9_min_7cf53_5 : decode cJ9_min_7cf53 5 = .ok (.iload_n 0, 1) := by decide +kernel
theorem d_J9_min_7cf53_6 : decode cJ9_min_7cf53 6 = .ok (.goto 4, 3) := by decide +kernel
theorem d_J9_min_7cf53_9 : decode cJ9_min_7cf53 9 = .ok (.iload_n 1, 1) := by decide +kernel
theorem d_J9_min_7cf53_10 : decode cJ9_min_7cf53 10 = .ok (.ireturn, 1) := by decide +kernel
def F_J9_min_7cf53 (x0 : Int32) (x1 : Int32) (h : xH) : Option (Int32 × xH) := if x1 < x0 then some (x1, h) else some (x0, h)
theorem R_J9_min_7cf53 {Γ : xG} {l : Launch} {d : Nat} {r : Int32} {h' : xH} (x0 : Int32) (x1 : Int32) (h : xH) (hdp : 0 ≤ d) (hF : F_J9_min_7cf53 x0 x1 h = some (r, h')) : Gm Γ l d 0 0 m_J9_min_7cf53 [.int x0, .int x1] h (fun a u => a = some (.int r) ∧ u = h') := by
  refine Gm.ofF (by decide +kernel) (Nat.le_of_ble_eq_true rfl) ?_
  show Gd Γ l d m_J9_min_7cf53 0 [.int x0, .int x1] [] h 0 0 _
  generalize hQ : (fun (a : Option Value) (u : xH) => a = some (.int r) ∧ u = h') = Q
  have hq : Q (some (.int r)) h' := by rw [← hQ]; exact ⟨rfl, rfl⟩
  clear hQ
  unfold F_J9_min_7cf53 at hF
  refine g_iloadn d_J9_min_7cf53_0 rfl ?_
  refine g_iloadn d_J9_min_7cf53_1 rfl ?_
  refine g_icmp_gt 9 d_J9_min_7cf53_2 rfl (fun c2 => ?_) (fun c2 => ?_)
  · have hF := x_t hF c2
    refine g_iloadn d_J9_min_7cf53_9 rfl ?_
    obtain ⟨rfl, rfl⟩ := x_inj hF
    exact g_iret d_J9_min_7cf53_10 rfl hq
  · have hF := x_f hF c2
    refine g_iloadn d_J9_min_7cf53_5 rfl ?_
    refine g_goto 10 d_J9_min_7cf53_6 rfl ?_
    obtain ⟨rfl, rfl⟩ := x_inj hF
    exact g_iret d_J9_min_7cf53_10 rfl hq
theorem d_X2_remember_0 : decode cX2_remember 0 = .ok (.aload_n 0, 1) := by decide +kernel
theorem d_X2_remember_1 : decode cX2_remember 1 = .ok (.getfield 11, 3) := by decide +kernel
theorem d_X2_remember_4 : decode cX2_remember 4 = .ok (.aload_n 0, 1) := by decide +kernel
theorem d_X2_remember_5 : decode cX2_remember 5 = .ok (.getfield 17, 3) := by decide +kernel
theorem d_X2_remember_8 : decode cX2_remember 8 = .ok (.aaload, 1) := by decide +kernel
theorem d_X2_remember_9 : decode cX2_remember 9 = .ok (.aload_n 1, 1) := by decide +kernel
theorem d_X2_remember_10 : decode cX2_remember 10 = .ok (.invokevirtual 25, 3) := by decide +kernel
theorem d_X2_remember_13 : decode cX2_remember 13 = .ok (.aload_n 0, 1) := by decide +kernel
theorem d_X2_remember_14 : decode cX2_remember 14 = .ok (.aload_n 0, 1) := by decide +kernel
theorem d_X2_remember_15 : decode cX2_remember 15 = .ok (.getfield 17, 3) := by decide +kernel
theorem d_X2_remember_18 : decode cX2_remember 18 = .ok (.iconst 1, 1) := by decide +kernel
theorem d_X2_remember_19 : decode cX2_remember 19 = .ok (.iadd, 1) := by decide +kernel
theorem d_X2_remember_20 : decode cX2_remember 20 = .ok (.bipush 10, 2) := by decide +kernel
theorem d_X2_remember_22 : decode cX2_remember 22 = .ok (.irem, 1) := by decide +kernel
theorem d_X2_remember_23 : decode cX2_remember 23 = .ok (.putfield 17, 3) := by decide +kernel
theorem d_X2_remember_26 : decode cX2_remember 26 = .ok (.aload_n 0, 1) := by decide +kernel
theorem d_X2_remember_27 : decode cX2_remember 27 = .ok (.aload_n 0, 1) := by decide +kernel
theorem d_X2_remember_28 : decode cX2_remember 28 = .ok (.getfield 21, 3) := by decide +kernel
theorem d_X2_remember_31 : decode cX2_remember 31 = .ok (.iconst 1, 1) := by decide +kernel
theorem d_X2_remember_32 : decode cX2_remember 32 = .ok (.iadd, 1) := by decide +kernel
theorem d_X2_remember_33 : decode cX2_remember 33 = .ok (.bipush 10, 2) := by decide +kernel
theorem d_X2_remember_35 : decode cX2_remember 35 = .ok (.invokestatic 29, 3) := by decide +kernel
theorem d_X2_remember_38 : decode cX2_remember 38 = .ok (.putfield 21, 3) := by decide +kernel
theorem d_X2_remember_41 : decode cX2_remember 41 = .ok (.return_, 1) := by decide +kernel
def F_X2_remember (x0 : Nat) (x1 : Nat) (h : xH) : Option (Unit × xH) := (fR h x0 1 0).bind fun v1 => (fI h x0 1 1).bind fun v5 => (aR h v1 v5).bind fun v8 => (rc h v8 5).bind fun _ => (F_X6_copyFrom v8 x1 h).bind fun z10 => (fI z10.2 x0 1 1).bind fun v15 => (wI z10.2 x0 1 1 (irm (v15 + 1) 10)).bind fun h23 => (fI h23 x0 1 2).bind fun v28 => (F_J9_min_7cf53 (v28 + 1) 10 h23).bind fun z35 => (wI z35.2 x0 1 2 z35.1).bind fun h38 => some ((), h38)
theorem R_X2_remember {Γ : xG} {l : Launch} {d : Nat} {r : Unit} {h' : xH} (x0 : Nat) (x1 : Nat) (h : xH) (hdp : 2 ≤ d) (hF : F_X2_remember x0 x1 h = some (r, h')) : Gm Γ l d 0 0 m_X2_remember [.ref x0, .ref x1] h (fun a u => a = none ∧ u = h') := by
  refine Gm.of pn_X2 (Nat.le_of_ble_eq_true rfl) ?_
  show Gd Γ l d m_X2_remember 0 [.ref x0, .ref x1] [] h 0 0 _
  generalize hQ : (fun (a : Option Value) (u : xH) => a = none ∧ u = h') = Q
  have hq : Q (none) h' := by rw [← hQ]; exact ⟨rfl, rfl⟩
  clear hQ
  unfold F_X2_remember at hF
  refine g_aloadn d_X2_remember_0 rfl ?_
  obtain ⟨v1, e1, hF⟩ := Option.bind_eq_some_iff.mp hF
  refine q_fR d_X2_remember_1 f_X2_11 e1 ?_
  refine g_aloadn d_X2_remember_4 rfl ?_
  obtain ⟨v5, e5, hF⟩ := Option.bind_eq_some_iff.mp hF
  refine q_fI d_X2_remember_5 f_X2_17 e5 ?_
  obtain ⟨v8, e8, hF⟩ := Option.bind_eq_some_iff.mp hF
  refine q_aR d_X2_remember_8 e8 ?_
  refine g_aloadn d_X2_remember_9 rfl ?_
  obtain ⟨_, g10, hF⟩ := Option.bind_eq_some_iff.mp hF
  obtain ⟨⟨r10, h10⟩, e10, hF⟩ := Option.bind_eq_some_iff.mp hF
  try dsimp only at hF
  refine q_callV [.ref x1] [] rfl d_X2_remember_10 v_X2_25 (by omega) rfl (Nat.le_of_ble_eq_true rfl) (rc_rc g10 (by decide) rfl) (R_X6_copyFrom _ _ _ (by omega) e10) ?_
  refine g_aloadn d_X2_remember_13 rfl ?_
  refine g_aloadn d_X2_remember_14 rfl ?_
  obtain ⟨v15, e15, hF⟩ := Option.bind_eq_some_iff.mp hF
  refine q_fI d_X2_remember_15 f_X2_17 e15 ?_
  refine g_ic (1) d_X2_remember_18 ic_1 ?_
  refine g_iadd d_X2_remember_19 ?_
  refine g_bi (10) d_X2_remember_20 bi_10 ?_
  refine q_irem d_X2_remember_22 (by decide) ?_
  obtain ⟨h23, e23, hF⟩ := Option.bind_eq_some_iff.mp hF
  refine q_wI d_X2_remember_23 (w_X2_17 _) e23 ?_
  refine g_aloadn d_X2_remember_26 rfl ?_
  refine g_aloadn d_X2_remember_27 rfl ?_
  obtain ⟨v28, e28, hF⟩ := Option.bind_eq_some_iff.mp hF
  refine q_fI d_X2_remember_28 f_X2_21 e28 ?_
  refine g_ic (1) d_X2_remember_31 ic_1 ?_
  refine g_iadd d_X2_remember_32 ?_
  refine g_bi (10) d_X2_remember_33 bi_10 ?_
  obtain ⟨⟨r35, h35⟩, e35, hF⟩ := Option.bind_eq_some_iff.mp hF
  try dsimp only at hF
  refine q_callS [.int (v28 + 1), .int 10] [.ref x0] rfl d_X2_remember_35 s_X2_29 (by omega) rfl (Nat.le_of_ble_eq_true rfl) (R_J9_min_7cf53 _ _ _ (by omega) e35) ?_
  obtain ⟨h38, e38, hF⟩ := Option.bind_eq_some_iff.mp hF
  refine q_wI d_X2_remember_38 (w_X2_21 _) e38 ?_
  obtain ⟨rfl, rfl⟩ := x_inj hF
  exact g_vret d_X2_remember_41 rfl hq
theorem d_J9_floorMod_7cf53_0 : decode cJ9_floorMod_7cf53 0 = .ok (.iload_n 0, 1) := by decide +kernel
theorem d_J9_floorMod_7cf53_1 : decode cJ9_floorMod_7cf53 1 = .ok (.iload_n 1, 1) := by decide +kernel
theorem d_J9_floorMod_7cf53_2 : decode cJ9_floorMod_7cf53 2 = .ok (.irem, 1) := by decide +kernel
theorem d_J9_floorMod_7cf53_3 : decode cJ9_floorMod_7cf53 3 = .ok (.istore_n 2, 1) := by decide +kernel
theorem d_J9_floorMod_7cf53_4 : decode cJ9_floorMod_7cf53 4 = .ok (.iload_n 0, 1) := by decide +kernel
theorem d_J9_floorMod_7cf53_5 : decode cJ9_floorMod_7cf53 5 = .ok (.iload_n 1, 1) := by decide +kernel
theorem d_J9_floorMod_7cf53_6 : decode cJ9_floorMod_7cf53 6 = .ok (.ixor, 1) := by decide +kernel
theorem d_J9_floorMod_7cf53_7 : decode cJ9_floorMod_7cf53 7 = .ok (.ifCond .ge 11, 3) := by decide +kernel
theorem d_J9_floorMod_7cf53_10 : decode cJ9_floorMod_7cf53 10 = .ok (.iload_n 2, 1) := by decide +kernel
theorem d_J9_floorMod_7cf53_11 : decode cJ9_floorMod_7cf53 11 = .ok (.ifCond .eq 7, 3) := by decide +kernel
theorem d_J9_floorMod_7cf53_14 : decode cJ9_floorMod_7cf53 14 = .ok (.iload_n 2, 1) := by decide +kernel
theorem d_J9_floorMod_7cf53_15 : decode cJ9_floorMod_7cf53 15 = .ok (.iload_n 1, 1) := by decide +kernel
theorem d_J9_floorMod_7cf53_16 : decode cJ9_floorMod_7cf53 16 = .ok (.iadd, 1) := by decide +kernel
theorem d_J9_floorMod_7cf53_17 : decode cJ9_floorMod_7cf53 17 = .ok (.ireturn, 1) := by decide +kernel
theorem d_J9_floorMod_7cf53_18 : decode cJ9_floorMod_7cf53 18 = .ok (.iload_n 2, 1) := by decide +kernel
theorem d_J9_floorMod_7cf53_19 : decode cJ9_floorMod_7cf53 19 = .ok (.ireturn, 1) := by decide +kernel
def F_J9_floorMod_7cf53 (x0 : Int32) (x1 : Int32) (h : xH) : Option (Int32 × xH) := if x1 = 0 then none else if 0 ≤ (x0 ^^^ x1) then some (irm x0 x1, h) else if (irm x0 x1) = 0 then some (irm x0 x1, h) else some ((irm x0 x1) + x1, h)
theorem R_J9_floorMod_7cf53 {Γ : xG} {l : Launch} {d : Nat} {r : Int32} {h' : xH} (x0 : Int32) (x1 : Int32) (h : xH) (hdp : 0 ≤ d) (hF : F_J9_floorMod_7cf53 x0 x1 h = some (r, h')) : Gm Γ l d 0 0 m_J9_floorMod_7cf53 [.int x0, .int x1] h (fun a u => a = some (.int r) ∧ u = h') := by
  refine Gm.ofF (by decide +kernel) (Nat.le_of_ble_eq_true rfl) ?_
  show Gd Γ l d m_J9_floorMod_7cf53 0 [.int x0, .int x1, xhole] [] h 0 0 _
  generalize hQ : (fun (a : Option Value) (u : xH) => a = some (.int r) ∧ u = h') = Q
  have hq : Q (some (.int r)) h' := by rw [← hQ]; exact ⟨rfl, rfl⟩
  clear hQ
  unfold F_J9_floorMod_7cf53 at hF
  refine g_iloadn d_J9_floorMod_7cf53_0 rfl ?_
  refine g_iloadn d_J9_floorMod_7cf53_1 rfl ?_
  rcases x_nz hF with ⟨z2, hF⟩
  refine q_irem d_J9_floorMod_7cf53_2 z2 ?_
  refine q_istoren [.int x0, .int x1, .int (irm x0 x1)] d_J9_floorMod_7cf53_3 (by decide) rfl ?_
  refine g_iloadn d_J9_floorMod_7cf53_4 rfl ?_
  refine g_iloadn d_J9_floorMod_7cf53_5 rfl ?_
  refine g_ixor d_J9_floorMod_7cf53_6 ?_
  refine g_if_ge 18 d_J9_floorMod_7cf53_7 rfl (fun c7 => ?_) (fun c7 => ?_)
  · have hF := x_t hF c7
    refine g_iloadn d_J9_floorMod_7cf53_18 rfl ?_
    obtain ⟨rfl, rfl⟩ := x_inj hF
    exact g_iret d_J9_floorMod_7cf53_19 rfl hq
  · have hF := x_f hF c7
    refine g_iloadn d_J9_floorMod_7cf53_10 rfl ?_
    refine g_if_eq 18 d_J9_floorMod_7cf53_11 rfl (fun c11 => ?_) (fun c11 => ?_)
    · have hF := x_t hF c11
      refine g_iloadn d_J9_floorMod_7cf53_18 rfl ?_
      obtain ⟨rfl, rfl⟩ := x_inj hF
      exact g_iret d_J9_floorMod_7cf53_19 rfl hq
    · have hF := x_f hF c11
      refine g_iloadn d_J9_floorMod_7cf53_14 rfl ?_
      refine g_iloadn d_J9_floorMod_7cf53_15 rfl ?_
      refine g_iadd d_J9_floorMod_7cf53_16 ?_
      obtain ⟨rfl, rfl⟩ := x_inj hF
      exact g_iret d_J9_floorMod_7cf53_17 rfl hq
theorem d_X2_bringBack_0 : decode cX2_bringBack 0 = .ok (.aload_n 0, 1) := by decide +kernel
theorem d_X2_bringBack_1 : decode cX2_bringBack 1 = .ok (.aload_n 0, 1) := by decide +kernel
theorem d_X2_bringBack_2 : decode cX2_bringBack 2 = .ok (.getfield 17, 3) := by decide +kernel
theorem d_X2_bringBack_5 : decode cX2_bringBack 5 = .ok (.iload_n 1, 1) := by decide +kernel
theorem d_X2_bringBack_6 : decode cX2_bringBack 6 = .ok (.isub, 1) := by decide +kernel
theorem d_X2_bringBack_7 : decode cX2_bringBack 7 = .ok (.bipush 10, 2) := by decide +kernel
theorem d_X2_bringBack_9 : decode cX2_bringBack 9 = .ok (.invokestatic 35, 3) := by decide +kernel
theorem d_X2_bringBack_12 : decode cX2_bringBack 12 = .ok (.putfield 17, 3) := by decide +kernel
theorem d_X2_bringBack_15 : decode cX2_bringBack 15 = .ok (.aload_n 0, 1) := by decide +kernel
theorem d_X2_bringBack_16 : decode cX2_bringBack 16 = .ok (.dup, 1) := by decide +kernel
theorem d_X2_bringBack_17 : decode cX2_bringBack 17 = .ok (.getfield 21, 3) := by decide +kernel
theorem d_X2_bringBack_20 : decode cX2_bringBack 20 = .ok (.iload_n 1, 1) := by decide +kernel
theorem d_X2_bringBack_21 : decode cX2_bringBack 21 = .ok (.isub, 1) := by decide +kernel
theorem d_X2_bringBack_22 : decode cX2_bringBack 22 = .ok (.putfield 21, 3) := by decide +kernel
theorem d_X2_bringBack_25 : decode cX2_bringBack 25 = .ok (.aload_n 2, 1) := by decide +kernel
theorem d_X2_bringBack_26 : decode cX2_bringBack 26 = .ok (.aload_n 0, 1) := by decide +kernel
theorem d_X2_bringBack_27 : decode cX2_bringBack 27 = .ok (.getfield 11, 3) := by decide +kernel
theorem d_X2_bringBack_30 : decode cX2_bringBack 30 = .ok (.aload_n 0, 1) := by decide +kernel
theorem d_X2_bringBack_31 : decode cX2_bringBack 31 = .ok (.getfield 17, 3) := by decide +kernel
theorem d_X2_bringBack_34 : decode cX2_bringBack 34 = .ok (.aaload, 1) := by decide +kernel
theorem d_X2_bringBack_35 : decode cX2_bringBack 35 = .ok (.invokevirtual 25, 3) := by decide +kernel
theorem d_X2_bringBack_38 : decode cX2_bringBack 38 = .ok (.return_, 1) := by decide +kernel
def F_X2_bringBack (x0 : Nat) (x1 : Int32) (x2 : Nat) (h : xH) : Option (Unit × xH) := (fI h x0 1 1).bind fun v2 => (F_J9_floorMod_7cf53 (v2 - x1) 10 h).bind fun z9 => (wI z9.2 x0 1 1 z9.1).bind fun h12 => (fI h12 x0 1 2).bind fun v17 => (wI h12 x0 1 2 (v17 - x1)).bind fun h22 => (fR h22 x0 1 0).bind fun v27 => (fI h22 x0 1 1).bind fun v31 => (aR h22 v27 v31).bind fun v34 => (rc h22 x2 5).bind fun _ => (F_X6_copyFrom x2 v34 h22).bind fun z35 => some ((), z35.2)
theorem R_X2_bringBack {Γ : xG} {l : Launch} {d : Nat} {r : Unit} {h' : xH} (x0 : Nat) (x1 : Int32) (x2 : Nat) (h : xH) (hdp : 2 ≤ d) (hF : F_X2_bringBack x0 x1 x2 h = some (r, h')) : Gm Γ l d 0 0 m_X2_bringBack [.ref x0, .int x1, .ref x2] h (fun a u => a = none ∧ u = h') := by
  refine Gm.of pn_X2 (Nat.le_of_ble_eq_true rfl) ?_
  show Gd Γ l d m_X2_bringBack 0 [.ref x0, .int x1, .ref x2] [] h 0 0 _
  generalize hQ : (fun (a : Option Value) (u : xH) => a = none ∧ u = h') = Q
  have hq : Q (none) h' := by rw [← hQ]; exact ⟨rfl, rfl⟩
  clear hQ
  unfold F_X2_bringBack at hF
  refine g_aloadn d_X2_bringBack_0 rfl ?_
  refine g_aloadn d_X2_bringBack_1 rfl ?_
  obtain ⟨v2, e2, hF⟩ := Option.bind_eq_some_iff.mp hF
  refine q_fI d_X2_bringBack_2 f_X2_17 e2 ?_
  refine g_iloadn d_X2_bringBack_5 rfl ?_
  refine g_isub d_X2_bringBack_6 ?_
  refine g_bi (10) d_X2_bringBack_7 bi_10 ?_
  obtain ⟨⟨r9, h9⟩, e9, hF⟩ := Option.bind_eq_some_iff.mp hF
  try dsimp only at hF
  refine q_callS [.int (v2 - x1), .int 10] [.ref x0] rfl d_X2_bringBack_9 s_X2_35 (by omega) rfl (Nat.le_of_ble_eq_true rfl) (R_J9_floorMod_7cf53 _ _ _ (by omega) e9) ?_
  obtain ⟨h12, e12, hF⟩ := Option.bind_eq_some_iff.mp hF
  refine q_wI d_X2_bringBack_12 (w_X2_17 _) e12 ?_
  refine g_aloadn d_X2_bringBack_15 rfl ?_
  refine g_dup d_X2_bringBack_16 rfl ?_
  obtain ⟨v17, e17, hF⟩ := Option.bind_eq_some_iff.mp hF
  refine q_fI d_X2_bringBack_17 f_X2_21 e17 ?_
  refine g_iloadn d_X2_bringBack_20 rfl ?_
  refine g_isub d_X2_bringBack_21 ?_
  obtain ⟨h22, e22, hF⟩ := Option.bind_eq_some_iff.mp hF
  refine q_wI d_X2_bringBack_22 (w_X2_21 _) e22 ?_
  refine g_aloadn d_X2_bringBack_25 rfl ?_
  refine g_aloadn d_X2_bringBack_26 rfl ?_
  obtain ⟨v27, e27, hF⟩ := Option.bind_eq_some_iff.mp hF
  refine q_fR d_X2_bringBack_27 f_X2_11 e27 ?_
  refine g_aloadn d_X2_bringBack_30 rfl ?_
  obtain ⟨v31, e31, hF⟩ := Option.bind_eq_some_iff.mp hF
  refine q_fI d_X2_bringBack_31 f_X2_17 e31 ?_
  obtain ⟨v34, e34, hF⟩ := Option.bind_eq_some_iff.mp hF
  refine q_aR d_X2_bringBack_34 e34 ?_
  obtain ⟨_, g35, hF⟩ := Option.bind_eq_some_iff.mp hF
  obtain ⟨⟨r35, h35⟩, e35, hF⟩ := Option.bind_eq_some_iff.mp hF
  try dsimp only at hF
  refine q_callV [.ref v34] [] rfl d_X2_bringBack_35 v_X2_25 (by omega) rfl (Nat.le_of_ble_eq_true rfl) (rc_rc g35 (by decide) rfl) (R_X6_copyFrom _ _ _ (by omega) e35) ?_
  obtain ⟨rfl, rfl⟩ := x_inj hF
  exact g_vret d_X2_bringBack_38 rfl hq
theorem d_X3_wordValue_0 : decode cX3_wordValue 0 = .ok (.iload_n 1, 1) := by decide +kernel
theorem d_X3_wordValue_1 : decode cX3_wordValue 1 = .ok (.ifCond .lt 8, 3) := by decide +kernel
theorem d_X3_wordValue_4 : decode cX3_wordValue 4 = .ok (.iload_n 1, 1) := by decide +kernel
theorem d_X3_wordValue_5 : decode cX3_wordValue 5 = .ok (.iconst 5, 1) := by decide +kernel
theorem d_X3_wordValue_6 : decode cX3_wordValue 6 = .ok (.if_icmp .lt 7, 3) := by decide +kernel
theorem d_X3_wordValue_9 : decode cX3_wordValue 9 = .ok (.iconst 0, 1) := by decide +kernel
theorem d_X3_wordValue_10 : decode cX3_wordValue 10 = .ok (.goto 9, 3) := by decide +kernel
theorem d_X3_wordValue_13 : decode cX3_wordValue 13 = .ok (.aload_n 0, 1) := by decide +kernel
theorem d_X3_wordValue_14 : decode cX3_wordValue 14 = .ok (.getfield 9, 3) := by decide +kernel
theorem d_X3_wordValue_17 : decode cX3_wordValue 17 = .ok (.iload_n 1, 1) := by decide +kernel
theorem d_X3_wordValue_18 : decode cX3_wordValue 18 = .ok (.iaload, 1) := by decide +kernel
theorem d_X3_wordValue_19 : decode cX3_wordValue 19 = .ok (.ireturn, 1) := by decide +kernel
def F_X3_wordValue (x0 : Nat) (x1 : Int32) (h : xH) : Option (Int32 × xH) := if x1 < 0 then some (0, h) else if x1 < ((5 : Int32)) then (fR h x0 2 1).bind fun v14 => (aI h v14 x1).bind fun v18 => some (v18, h) else some (0, h)
theorem R_X3_wordValue {Γ : xG} {l : Launch} {d : Nat} {r : Int32} {h' : xH} (x0 : Nat) (x1 : Int32) (h : xH) (hdp : 0 ≤ d) (hF : F_X3_wordValue x0 x1 h = some (r, h')) : Gm Γ l d 0 0 m_X3_wordValue [.ref x0, .int x1] h (fun a u => a = some (.int r) ∧ u = h') := by
  refine Gm.of pn_X3 (Nat.le_of_ble_eq_true rfl) ?_
  show Gd Γ l d m_X3_wordValue 0 [.ref x0, .int x1] [] h 0 0 _
  generalize hQ : (fun (a : Option Value) (u : xH) => a = some (.int r) ∧ u = h') = Q
  have hq : Q (some (.int r)) h' := by rw [← hQ]; exact ⟨rfl, rfl⟩
  clear hQ
  unfold F_X3_wordValue at hF
  refine g_iloadn d_X3_wordValue_0 rfl ?_
  refine g_if_lt 9 d_X3_wordValue_1 rfl (fun c1 => ?_) (fun c1 => ?_)
  · have hF := x_t hF c1
    refine g_ic (0) d_X3_wordValue_9 ic_0 ?_
    refine g_goto 19 d_X3_wordValue_10 rfl ?_
    obtain ⟨rfl, rfl⟩ := x_inj hF
    exact g_iret d_X3_wordValue_19 rfl hq
  · have hF := x_f hF c1
    refine g_iloadn d_X3_wordValue_4 rfl ?_
    refine g_ic (5) d_X3_wordValue_5 ic_5 ?_
    refine g_icmp_lt 13 d_X3_wordValue_6 rfl (fun c6 => ?_) (fun c6 => ?_)
    · have hF := x_t hF c6
      refine g_aloadn d_X3_wordValue_13 rfl ?_
      obtain ⟨v14, e14, hF⟩ := Option.bind_eq_some_iff.mp hF
      refine q_fR d_X3_wordValue_14 f_X3_9 e14 ?_
      refine g_iloadn d_X3_wordValue_17 rfl ?_
      obtain ⟨v18, e18, hF⟩ := Option.bind_eq_some_iff.mp hF
      refine q_aI d_X3_wordValue_18 e18 ?_
      obtain ⟨rfl, rfl⟩ := x_inj hF
      exact g_iret d_X3_wordValue_19 rfl hq
    · have hF := x_f hF c6
      refine g_ic (0) d_X3_wordValue_9 ic_0 ?_
      refine g_goto 19 d_X3_wordValue_10 rfl ?_
      obtain ⟨rfl, rfl⟩ := x_inj hF
      exact g_iret d_X3_wordValue_19 rfl hq
theorem d_J9_min_f86c9_0 : decode cJ9_min_f86c9 0 = .ok (.lload_n 0, 1) := by decide +kernel
theorem d_J9_min_f86c9_1 : decode cJ9_min_f86c9 1 = .ok (.lload_n 2, 1) := by decide +kernel
theorem d_J9_min_f86c9_2 : decode cJ9_min_f86c9 2 = .ok (.lcmp, 1) := by decide +kernel
theorem d_J9_min_f86c9_3 : decode cJ9_min_f86c9 3 = .ok (.ifCond .gt 7, 3) := by decide +kernel
theorem d_J9_min_f86c9_6 : decode cJ9_min_f86c9 6 = .ok (.lload_n 0, 1) := by decide +kernel
theorem d_J9_min_f86c9_7 : decode cJ9_min_f86c9 7 = .ok (.goto 4, 3) := by decide +kernel
theorem d_J9_min_f86c9_10 : decode cJ9_min_f86c9 10 = .ok (.lload_n 2, 1) := by decide +kernel
theorem d_J9_min_f86c9_11 : decode cJ9_min_f86c9 11 = .ok (.lreturn, 1) := by decide +kernel
def F_J9_min_f86c9 (x0 : Int64) (x2 : Int64) (h : xH) : Option (Int64 × xH) := if 0 < (lg_cmp x0 x2) then some (x2, h) else some (x0, h)
theorem R_J9_min_f86c9 {Γ : xG} {l : Launch} {d : Nat} {r : Int64} {h' : xH} (x0 : Int64) (x2 : Int64) (h : xH) (hdp : 0 ≤ d) (hF : F_J9_min_f86c9 x0 x2 h = some (r, h')) : Gm Γ l d 0 0 m_J9_min_f86c9 [.long x0, .long x2] h (fun a u => a = some (.long r) ∧ u = h') := by
  refine Gm.ofF (by decide +kernel) (Nat.le_of_ble_eq_true rfl) ?_
  show Gd Γ l d m_J9_min_f86c9 0 [.long x0, xhole, .long x2, xhole] [] h 0 0 _
  generalize hQ : (fun (a : Option Value) (u : xH) => a = some (.long r) ∧ u = h') = Q
  have hq : Q (some (.long r)) h' := by rw [← hQ]; exact ⟨rfl, rfl⟩
  clear hQ
  unfold F_J9_min_f86c9 at hF
  refine g_lloadn d_J9_min_f86c9_0 rfl ?_
  refine g_lloadn d_J9_min_f86c9_1 rfl ?_
  refine g_lcmp d_J9_min_f86c9_2 ?_
  refine g_if_gt 10 d_J9_min_f86c9_3 rfl (fun c3 => ?_) (fun c3 => ?_)
  · have hF := x_t hF c3
    refine g_lloadn d_J9_min_f86c9_10 rfl ?_
    obtain ⟨rfl, rfl⟩ := x_inj hF
    exact g_lret d_J9_min_f86c9_11 rfl hq
  · have hF := x_f hF c3
    refine g_lloadn d_J9_min_f86c9_6 rfl ?_
    refine g_goto 11 d_J9_min_f86c9_7 rfl ?_
    obtain ⟨rfl, rfl⟩ := x_inj hF
    exact g_lret d_J9_min_f86c9_11 rfl hq
theorem d_J9_max_f86c9_0 : decode cJ9_max_f86c9 0 = .ok (.lload_n 0, 1) := by decide +kernel
theorem d_J9_max_f86c9_1 : decode cJ9_max_f86c9 1 = .ok (.lload_n 2, 1) := by decide +kernel
theorem d_J9_max_f86c9_2 : decode cJ9_max_f86c9 2 = .ok (.lcmp, 1) := by decide +kernel
theorem d_J9_max_f86c9_3 : decode cJ9_max_f86c9 3 = .ok (.ifCond .lt 7, 3) := by decide +kernel
theorem d_J9_max_f86c9_6 : decode cJ9_max_f86c9 6 = .ok (.lload_n 0, 1) := by decide +kernel
theorem d_J9_max_f86c9_7 : decode cJ9_max_f86c9 7 = .ok (.goto 4, 3) := by decide +kernel
theorem d_J9_max_f86c9_10 : decode cJ9_max_f86c9 10 = .ok (.lload_n 2, 1) := by decide +kernel
theorem d_J9_max_f86c9_11 : decode cJ9_max_f86c9 11 = .ok (.lreturn, 1) := by decide +kernel
def F_J9_max_f86c9 (x0 : Int64) (x2 : Int64) (h : xH) : Option (Int64 × xH) := if (lg_cmp x0 x2) < 0 then some (x2, h) else some (x0, h)
theorem R_J9_max_f86c9 {Γ : xG} {l : Launch} {d : Nat} {r : Int64} {h' : xH} (x0 : Int64) (x2 : Int64) (h : xH) (hdp : 0 ≤ d) (hF : F_J9_max_f86c9 x0 x2 h = some (r, h')) : Gm Γ l d 0 0 m_J9_max_f86c9 [.long x0, .long x2] h (fun a u => a = some (.long r) ∧ u = h') := by
  refine Gm.ofF (by decide +kernel) (Nat.le_of_ble_eq_true rfl) ?_
  show Gd Γ l d m_J9_max_f86c9 0 [.long x0, xhole, .long x2, xhole] [] h 0 0 _
  generalize hQ : (fun (a : Option Value) (u : xH) => a = some (.long r) ∧ u = h') = Q
  have hq : Q (some (.long r)) h' := by rw [← hQ]; exact ⟨rfl, rfl⟩
  clear hQ
  unfold F_J9_max_f86c9 at hF
  refine g_lloadn d_J9_max_f86c9_0 rfl ?_
  refine g_lloadn d_J9_max_f86c9_1 rfl ?_
  refine g_lcmp d_J9_max_f86c9_2 ?_
  refine g_if_lt 10 d_J9_max_f86c9_3 rfl (fun c3 => ?_) (fun c3 => ?_)
  · have hF := x_t hF c3
    refine g_lloadn d_J9_max_f86c9_10 rfl ?_
    obtain ⟨rfl, rfl⟩ := x_inj hF
    exact g_lret d_J9_max_f86c9_11 rfl hq
  · have hF := x_f hF c3
    refine g_lloadn d_J9_max_f86c9_6 rfl ?_
    refine g_goto 11 d_J9_max_f86c9_7 rfl ?_
    obtain ⟨rfl, rfl⟩ := x_inj hF
    exact g_lret d_J9_max_f86c9_11 rfl hq
theorem d_X3_kept_0 : decode cX3_kept 0 = .ok (.ldc2_w 31, 3) := by decide +kernel
theorem d_X3_kept_3 : decode cX3_kept 3 = .ok (.ldc2_w 33, 3) := by decide +kernel
theorem d_X3_kept_6 : decode cX3_kept 6 = .ok (.lload_n 0, 1) := by decide +kernel
theorem d_X3_kept_7 : decode cX3_kept 7 = .ok (.invokestatic 35, 3) := by decide +kernel
theorem d_X3_kept_10 : decode cX3_kept 10 = .ok (.invokestatic 41, 3) := by decide +kernel
theorem d_X3_kept_13 : decode cX3_kept 13 = .ok (.l2i, 1) := by decide +kernel
theorem d_X3_kept_14 : decode cX3_kept 14 = .ok (.ireturn, 1) := by decide +kernel
def F_X3_kept (x0 : Int64) (h : xH) : Option (Int32 × xH) := (F_J9_min_f86c9 1000000 x0 h).bind fun z7 => (F_J9_max_f86c9 ((-1000000)) z7.1 z7.2).bind fun z10 => some (z10.1.toInt32, z10.2)
theorem R_X3_kept {Γ : xG} {l : Launch} {d : Nat} {r : Int32} {h' : xH} (x0 : Int64) (h : xH) (hdp : 1 ≤ d) (hF : F_X3_kept x0 h = some (r, h')) : Gm Γ l d 0 0 m_X3_kept [.long x0] h (fun a u => a = some (.int r) ∧ u = h') := by
  refine Gm.of pn_X3 (Nat.le_of_ble_eq_true rfl) ?_
  show Gd Γ l d m_X3_kept 0 [.long x0, xhole] [] h 0 0 _
  generalize hQ : (fun (a : Option Value) (u : xH) => a = some (.int r) ∧ u = h') = Q
  have hq : Q (some (.int r)) h' := by rw [← hQ]; exact ⟨rfl, rfl⟩
  clear hQ
  unfold F_X3_kept at hF
  refine g_ldc2 d_X3_kept_0 k_X3_31 ?_
  refine g_ldc2 d_X3_kept_3 k_X3_33 ?_
  refine g_lloadn d_X3_kept_6 rfl ?_
  obtain ⟨⟨r7, h7⟩, e7, hF⟩ := Option.bind_eq_some_iff.mp hF
  try dsimp only at hF
  refine q_callS [.long 1000000, .long x0] [.long ((-1000000))] rfl d_X3_kept_7 s_X3_35 (by omega) rfl (Nat.le_of_ble_eq_true rfl) (R_J9_min_f86c9 _ _ _ (by omega) e7) ?_
  obtain ⟨⟨r10, h10⟩, e10, hF⟩ := Option.bind_eq_some_iff.mp hF
  try dsimp only at hF
  refine q_callS [.long ((-1000000)), .long (r7)] [] rfl d_X3_kept_10 s_X3_41 (by omega) rfl (Nat.le_of_ble_eq_true rfl) (R_J9_max_f86c9 _ _ _ (by omega) e10) ?_
  refine g_l2i d_X3_kept_13 ?_
  obtain ⟨rfl, rfl⟩ := x_inj hF
  exact g_iret d_X3_kept_14 rfl hq
theorem d_X3_joined_0 : decode cX3_joined 0 = .ok (.iload_n 0, 1) := by decide +kernel
theorem d_X3_joined_1 : decode cX3_joined 1 = .ok (.tableswitch 102 2001 2007 #[43, 47, 51, 62, 73, 84, 93], 43) := by decide +kernel
theorem d_X3_joined_44 : decode cX3_joined 44 = .ok (.iload_n 1, 1) := by decide +kernel
theorem d_X3_joined_45 : decode cX3_joined 45 = .ok (.iload_n 2, 1) := by decide +kernel
theorem d_X3_joined_46 : decode cX3_joined 46 = .ok (.iand, 1) := by decide +kernel
theorem d_X3_joined_47 : decode cX3_joined 47 = .ok (.ireturn, 1) := by decide +kernel
theorem d_X3_joined_48 : decode cX3_joined 48 = .ok (.iload_n 1, 1) := by decide +kernel
theorem d_X3_joined_49 : decode cX3_joined 49 = .ok (.iload_n 2, 1) := by decide +kernel
theorem d_X3_joined_50 : decode cX3_joined 50 = .ok (.ior, 1) := by decide +kernel
theorem d_X3_joined_51 : decode cX3_joined 51 = .ok (.ireturn, 1) := by decide +kernel
theorem d_X3_joined_52 : decode cX3_joined 52 = .ok (.iload_n 1, 1) := by decide +kernel
theorem d_X3_joined_53 : decode cX3_joined 53 = .ok (.iload_n 2, 1) := by decide +kernel
theorem d_X3_joined_54 : decode cX3_joined 54 = .ok (.if_icmp .ne 7, 3) := by decide +kernel
theorem d_X3_joined_57 : decode cX3_joined 57 = .ok (.iconst 1, 1) := by decide +kernel
theorem d_X3_joined_58 : decode cX3_joined 58 = .ok (.goto 4, 3) := by decide +kernel
theorem d_X3_joined_61 : decode cX3_joined 61 = .ok (.iconst 0, 1) := by decide +kernel
theorem d_X3_joined_62 : decode cX3_joined 62 = .ok (.ireturn, 1) := by decide +kernel
theorem d_X3_joined_63 : decode cX3_joined 63 = .ok (.iload_n 1, 1) := by decide +kernel
theorem d_X3_joined_64 : decode cX3_joined 64 = .ok (.iload_n 2, 1) := by decide +kernel
theorem d_X3_joined_65 : decode cX3_joined 65 = .ok (.if_icmp .ge 7, 3) := by decide +kernel
theorem d_X3_joined_68 : decode cX3_joined 68 = .ok (.iconst 1, 1) := by decide +kernel
theorem d_X3_joined_69 : decode cX3_joined 69 = .ok (.goto 4, 3) := by decide +kernel
theorem d_X3_joined_72 : decode cX3_joined 72 = .ok (.iconst 0, 1) := by decide +kernel
theorem d_X3_joined_73 : decode cX3_joined 73 = .ok (.ireturn, 1) := by decide +kernel
theorem d_X3_joined_74 : decode cX3_joined 74 = .ok (.iload_n 1, 1) := by decide +kernel
theorem d_X3_joined_75 : decode cX3_joined 75 = .ok (.iload_n 2, 1) := by decide +kernel
theorem d_X3_joined_76 : decode cX3_joined 76 = .ok (.if_icmp .le 7, 3) := by decide +kernel
theorem d_X3_joined_79 : decode cX3_joined 79 = .ok (.iconst 1, 1) := by decide +kernel
theorem d_X3_joined_80 : decode cX3_joined 80 = .ok (.goto 4, 3) := by decide +kernel
theorem d_X3_joined_83 : decode cX3_joined 83 = .ok (.iconst 0, 1) := by decide +kernel
theorem d_X3_joined_84 : decode cX3_joined 84 = .ok (.ireturn, 1) := by decide +kernel
theorem d_X3_joined_85 : decode cX3_joined 85 = .ok (.iload_n 1, 1) := by decide +kernel
theorem d_X3_joined_86 : decode cX3_joined 86 = .ok (.i2l, 1) := by decide +kernel
theorem d_X3_joined_87 : decode cX3_joined 87 = .ok (.iload_n 2, 1) := by decide +kernel
theorem d_X3_joined_88 : decode cX3_joined 88 = .ok (.i2l, 1) := by decide +kernel
theorem d_X3_joined_89 : decode cX3_joined 89 = .ok (.ladd, 1) := by decide +kernel
theorem d_X3_joined_90 : decode cX3_joined 90 = .ok (.invokestatic 27, 3) := by decide +kernel
theorem d_X3_joined_93 : decode cX3_joined 93 = .ok (.ireturn, 1) := by decide +kernel
theorem d_X3_joined_94 : decode cX3_joined 94 = .ok (.iload_n 1, 1) := by decide +kernel
theorem d_X3_joined_95 : decode cX3_joined 95 = .ok (.i2l, 1) := by decide +kernel
theorem d_X3_joined_96 : decode cX3_joined 96 = .ok (.iload_n 2, 1) := by decide +kernel
theorem d_X3_joined_97 : decode cX3_joined 97 = .ok (.i2l, 1) := by decide +kernel
theorem d_X3_joined_98 : decode cX3_joined 98 = .ok (.lsub, 1) := by decide +kernel
theorem d_X3_joined_99 : decode cX3_joined 99 = .ok (.invokestatic 27, 3) := by decide +kernel
theorem d_X3_joined_102 : decode cX3_joined 102 = .ok (.ireturn, 1) := by decide +kernel
theorem d_X3_joined_103 : decode cX3_joined 103 = .ok (.iload_n 1, 1) := by decide +kernel
theorem d_X3_joined_104 : decode cX3_joined 104 = .ok (.i2l, 1) := by decide +kernel
theorem d_X3_joined_105 : decode cX3_joined 105 = .ok (.iload_n 2, 1) := by decide +kernel
theorem d_X3_joined_106 : decode cX3_joined 106 = .ok (.i2l, 1) := by decide +kernel
theorem d_X3_joined_107 : decode cX3_joined 107 = .ok (.lmul, 1) := by decide +kernel
theorem d_X3_joined_108 : decode cX3_joined 108 = .ok (.invokestatic 27, 3) := by decide +kernel
theorem d_X3_joined_111 : decode cX3_joined 111 = .ok (.ireturn, 1) := by decide +kernel
def F_X3_joined (x0 : Int32) (x1 : Int32) (x2 : Int32) (h : xH) : Option (Int32 × xH) := if x0 = 2001 then some (x1 &&& x2, h) else if x0 = 2002 then some (x1 ||| x2, h) else if x0 = 2003 then if ¬ x1 = x2 then some (0, h) else some (1, h) else if x0 = 2004 then if x2 ≤ x1 then some (0, h) else some (1, h) else if x0 = 2005 then if x1 ≤ x2 then some (0, h) else some (1, h) else if x0 = 2006 then (F_X3_kept (x1.toInt64 + x2.toInt64) h).bind fun z90 => some (z90.1, z90.2) else if x0 = 2007 then (F_X3_kept (x1.toInt64 - x2.toInt64) h).bind fun z99 => some (z99.1, z99.2) else (F_X3_kept (x1.toInt64 * x2.toInt64) h).bind fun z108 => some (z108.1, z108.2)
theorem R_X3_joined {Γ : xG} {l : Launch} {d : Nat} {r : Int32} {h' : xH} (x0 : Int32) (x1 : Int32) (x2 : Int32) (h : xH) (hdp : 2 ≤ d) (hF : F_X3_joined x0 x1 x2 h = some (r, h')) : Gm Γ l d 0 0 m_X3_joined [.int x0, .int x1, .int x2] h (fun a u => a = some (.int r) ∧ u = h') := by
  refine Gm.of pn_X3 (Nat.le_of_ble_eq_true rfl) ?_
  show Gd Γ l d m_X3_joined 0 [.int x0, .int x1, .int x2] [] h 0 0 _
  generalize hQ : (fun (a : Option Value) (u : xH) => a = some (.int r) ∧ u = h') = Q
  have hq : Q (some (.int r)) h' := by rw [← hQ]; exact ⟨rfl, rfl⟩
  clear hQ
  unfold F_X3_joined at hF
  refine g_iloadn d_X3_joined_0 rfl ?_
  rcases Classical.em (x0 = 2001) with c1_0 | c1_0
  · have hF := x_t hF c1_0
    refine q_tabIn 44 d_X3_joined_1 c1_0 (by decide) (by decide) rfl rfl ?_
    refine g_iloadn d_X3_joined_44 rfl ?_
    refine g_iloadn d_X3_joined_45 rfl ?_
    refine g_iand d_X3_joined_46 ?_
    obtain ⟨rfl, rfl⟩ := x_inj hF
    exact g_iret d_X3_joined_47 rfl hq
  have hF := x_f hF c1_0
  rcases Classical.em (x0 = 2002) with c1_1 | c1_1
  · have hF := x_t hF c1_1
    refine q_tabIn 48 d_X3_joined_1 c1_1 (by decide) (by decide) rfl rfl ?_
    refine g_iloadn d_X3_joined_48 rfl ?_
    refine g_iloadn d_X3_joined_49 rfl ?_
    refine g_ior d_X3_joined_50 ?_
    obtain ⟨rfl, rfl⟩ := x_inj hF
    exact g_iret d_X3_joined_51 rfl hq
  have hF := x_f hF c1_1
  rcases Classical.em (x0 = 2003) with c1_2 | c1_2
  · have hF := x_t hF c1_2
    refine q_tabIn 52 d_X3_joined_1 c1_2 (by decide) (by decide) rfl rfl ?_
    refine g_iloadn d_X3_joined_52 rfl ?_
    refine g_iloadn d_X3_joined_53 rfl ?_
    refine g_icmp_ne 61 d_X3_joined_54 rfl (fun c54 => ?_) (fun c54 => ?_)
    · have hF := x_t hF c54
      refine g_ic (0) d_X3_joined_61 ic_0 ?_
      obtain ⟨rfl, rfl⟩ := x_inj hF
      exact g_iret d_X3_joined_62 rfl hq
    · have hF := x_f hF (not_not_intro c54)
      refine g_ic (1) d_X3_joined_57 ic_1 ?_
      refine g_goto 62 d_X3_joined_58 rfl ?_
      obtain ⟨rfl, rfl⟩ := x_inj hF
      exact g_iret d_X3_joined_62 rfl hq
  have hF := x_f hF c1_2
  rcases Classical.em (x0 = 2004) with c1_3 | c1_3
  · have hF := x_t hF c1_3
    refine q_tabIn 63 d_X3_joined_1 c1_3 (by decide) (by decide) rfl rfl ?_
    refine g_iloadn d_X3_joined_63 rfl ?_
    refine g_iloadn d_X3_joined_64 rfl ?_
    refine g_icmp_ge 72 d_X3_joined_65 rfl (fun c65 => ?_) (fun c65 => ?_)
    · have hF := x_t hF c65
      refine g_ic (0) d_X3_joined_72 ic_0 ?_
      obtain ⟨rfl, rfl⟩ := x_inj hF
      exact g_iret d_X3_joined_73 rfl hq
    · have hF := x_f hF c65
      refine g_ic (1) d_X3_joined_68 ic_1 ?_
      refine g_goto 73 d_X3_joined_69 rfl ?_
      obtain ⟨rfl, rfl⟩ := x_inj hF
      exact g_iret d_X3_joined_73 rfl hq
  have hF := x_f hF c1_3
  rcases Classical.em (x0 = 2005) with c1_4 | c1_4
  · have hF := x_t hF c1_4
    refine q_tabIn 74 d_X3_joined_1 c1_4 (by decide) (by decide) rfl rfl ?_
    refine g_iloadn d_X3_joined_74 rfl ?_
    refine g_iloadn d_X3_joined_75 rfl ?_
    refine g_icmp_le 83 d_X3_joined_76 rfl (fun c76 => ?_) (fun c76 => ?_)
    · have hF := x_t hF c76
      refine g_ic (0) d_X3_joined_83 ic_0 ?_
      obtain ⟨rfl, rfl⟩ := x_inj hF
      exact g_iret d_X3_joined_84 rfl hq
    · have hF := x_f hF c76
      refine g_ic (1) d_X3_joined_79 ic_1 ?_
      refine g_goto 84 d_X3_joined_80 rfl ?_
      obtain ⟨rfl, rfl⟩ := x_inj hF
      exact g_iret d_X3_joined_84 rfl hq
  have hF := x_f hF c1_4
  rcases Classical.em (x0 = 2006) with c1_5 | c1_5
  · have hF := x_t hF c1_5
    refine q_tabIn 85 d_X3_joined_1 c1_5 (by decide) (by decide) rfl rfl ?_
    refine g_iloadn d_X3_joined_85 rfl ?_
    refine g_i2l d_X3_joined_86 ?_
    refine g_iloadn d_X3_joined_87 rfl ?_
    refine g_i2l d_X3_joined_88 ?_
    refine g_ladd d_X3_joined_89 ?_
    obtain ⟨⟨r90, h90⟩, e90, hF⟩ := Option.bind_eq_some_iff.mp hF
    try dsimp only at hF
    refine q_callS [.long (x1.toInt64 + x2.toInt64)] [] rfl d_X3_joined_90 s_X3_27 (by omega) rfl (Nat.le_of_ble_eq_true rfl) (R_X3_kept _ _ (by omega) e90) ?_
    obtain ⟨rfl, rfl⟩ := x_inj hF
    exact g_iret d_X3_joined_93 rfl hq
  have hF := x_f hF c1_5
  rcases Classical.em (x0 = 2007) with c1_6 | c1_6
  · have hF := x_t hF c1_6
    refine q_tabIn 94 d_X3_joined_1 c1_6 (by decide) (by decide) rfl rfl ?_
    refine g_iloadn d_X3_joined_94 rfl ?_
    refine g_i2l d_X3_joined_95 ?_
    refine g_iloadn d_X3_joined_96 rfl ?_
    refine g_i2l d_X3_joined_97 ?_
    refine g_lsub d_X3_joined_98 ?_
    obtain ⟨⟨r99, h99⟩, e99, hF⟩ := Option.bind_eq_some_iff.mp hF
    try dsimp only at hF
    refine q_callS [.long (x1.toInt64 - x2.toInt64)] [] rfl d_X3_joined_99 s_X3_27 (by omega) rfl (Nat.le_of_ble_eq_true rfl) (R_X3_kept _ _ (by omega) e99) ?_
    obtain ⟨rfl, rfl⟩ := x_inj hF
    exact g_iret d_X3_joined_102 rfl hq
  have hF := x_f hF c1_6
  refine g_tabOut 103 d_X3_joined_1 (by have a0 := sw_ne c1_0 (k := 2001) (by decide); have a1 := sw_ne c1_1 (k := 2002) (by decide); have a2 := sw_ne c1_2 (k := 2003) (by decide); have a3 := sw_ne c1_3 (k := 2004) (by decide); have a4 := sw_ne c1_4 (k := 2005) (by decide); have a5 := sw_ne c1_5 (k := 2006) (by decide); have a6 := sw_ne c1_6 (k := 2007) (by decide); omega) rfl ?_
  refine g_iloadn d_X3_joined_103 rfl ?_
  refine g_i2l d_X3_joined_104 ?_
  refine g_iloadn d_X3_joined_105 rfl ?_
  refine g_i2l d_X3_joined_106 ?_
  refine g_lmul d_X3_joined_107 ?_
  obtain ⟨⟨r108, h108⟩, e108, hF⟩ := Option.bind_eq_some_iff.mp hF
  try dsimp only at hF
  refine q_callS [.long (x1.toInt64 * x2.toInt64)] [] rfl d_X3_joined_108 s_X3_27 (by omega) rfl (Nat.le_of_ble_eq_true rfl) (R_X3_kept _ _ (by omega) e108) ?_
  obtain ⟨rfl, rfl⟩ := x_inj hF
  exact g_iret d_X3_joined_111 rfl hq
theorem d_X3_holds_0 : decode cX3_holds 0 = .ok (.aload_n 0, 1) := by decide +kernel
theorem d_X3_holds_1 : decode cX3_holds 1 = .ok (.getfield 9, 3) := by decide +kernel
theorem d_X3_holds_4 : decode cX3_holds 4 = .ok (.iconst 0, 1) := by decide +kernel
theorem d_X3_holds_5 : decode cX3_holds 5 = .ok (.iload_n 1, 1) := by decide +kernel
theorem d_X3_holds_6 : decode cX3_holds 6 = .ok (.iastore, 1) := by decide +kernel
theorem d_X3_holds_7 : decode cX3_holds 7 = .ok (.aload_n 0, 1) := by decide +kernel
theorem d_X3_holds_8 : decode cX3_holds 8 = .ok (.getfield 9, 3) := by decide +kernel
theorem d_X3_holds_11 : decode cX3_holds 11 = .ok (.iconst 1, 1) := by decide +kernel
theorem d_X3_holds_12 : decode cX3_holds 12 = .ok (.iload_n 2, 1) := by decide +kernel
theorem d_X3_holds_13 : decode cX3_holds 13 = .ok (.iastore, 1) := by decide +kernel
theorem d_X3_holds_14 : decode cX3_holds 14 = .ok (.aload_n 0, 1) := by decide +kernel
theorem d_X3_holds_15 : decode cX3_holds 15 = .ok (.getfield 9, 3) := by decide +kernel
theorem d_X3_holds_18 : decode cX3_holds 18 = .ok (.iconst 2, 1) := by decide +kernel
theorem d_X3_holds_19 : decode cX3_holds 19 = .ok (.iload_n 3, 1) := by decide +kernel
theorem d_X3_holds_20 : decode cX3_holds 20 = .ok (.iastore, 1) := by decide +kernel
theorem d_X3_holds_21 : decode cX3_holds 21 = .ok (.aload_n 0, 1) := by decide +kernel
theorem d_X3_holds_22 : decode cX3_holds 22 = .ok (.getfield 9, 3) := by decide +kernel
theorem d_X3_holds_25 : decode cX3_holds 25 = .ok (.iconst 3, 1) := by decide +kernel
theorem d_X3_holds_26 : decode cX3_holds 26 = .ok (.iload 4, 2) := by decide +kernel
theorem d_X3_holds_28 : decode cX3_holds 28 = .ok (.iastore, 1) := by decide +kernel
theorem d_X3_holds_29 : decode cX3_holds 29 = .ok (.aload_n 0, 1) := by decide +kernel
theorem d_X3_holds_30 : decode cX3_holds 30 = .ok (.getfield 9, 3) := by decide +kernel
theorem d_X3_holds_33 : decode cX3_holds 33 = .ok (.iconst 4, 1) := by decide +kernel
theorem d_X3_holds_34 : decode cX3_holds 34 = .ok (.iload 5, 2) := by decide +kernel
theorem d_X3_holds_36 : decode cX3_holds 36 = .ok (.iastore, 1) := by decide +kernel
theorem d_X3_holds_37 : decode cX3_holds 37 = .ok (.iconst 0, 1) := by decide +kernel
theorem d_X3_holds_38 : decode cX3_holds 38 = .ok (.istore 6, 2) := by decide +kernel
theorem d_X3_holds_40 : decode cX3_holds 40 = .ok (.aload_n 0, 1) := by decide +kernel
theorem d_X3_holds_41 : decode cX3_holds 41 = .ok (.getfield 16, 3) := by decide +kernel
theorem d_X3_holds_44 : decode cX3_holds 44 = .ok (.astore 7, 2) := by decide +kernel
theorem d_X3_holds_46 : decode cX3_holds 46 = .ok (.aload 7, 2) := by decide +kernel
theorem d_X3_holds_48 : decode cX3_holds 48 = .ok (.arraylength, 1) := by decide +kernel
theorem d_X3_holds_49 : decode cX3_holds 49 = .ok (.istore 8, 2) := by decide +kernel
theorem d_X3_holds_51 : decode cX3_holds 51 = .ok (.iconst 0, 1) := by decide +kernel
theorem d_X3_holds_52 : decode cX3_holds 52 = .ok (.istore 9, 2) := by decide +kernel
theorem d_X3_holds_54 : decode cX3_holds 54 = .ok (.iload 9, 2) := by decide +kernel
theorem d_X3_holds_56 : decode cX3_holds 56 = .ok (.iload 8, 2) := by decide +kernel
theorem d_X3_holds_58 : decode cX3_holds 58 = .ok (.if_icmp .ge 150, 3) := by decide +kernel
theorem d_X3_holds_61 : decode cX3_holds 61 = .ok (.aload 7, 2) := by decide +kernel
theorem d_X3_holds_63 : decode cX3_holds 63 = .ok (.iload 9, 2) := by decide +kernel
theorem d_X3_holds_65 : decode cX3_holds 65 = .ok (.iaload, 1) := by decide +kernel
theorem d_X3_holds_66 : decode cX3_holds 66 = .ok (.istore 10, 2) := by decide +kernel
theorem d_X3_holds_68 : decode cX3_holds 68 = .ok (.iload 10, 2) := by decide +kernel
theorem d_X3_holds_70 : decode cX3_holds 70 = .ok (.sipush 2000, 3) := by decide +kernel
theorem d_X3_holds_73 : decode cX3_holds 73 = .ok (.if_icmp .ge 46, 3) := by decide +kernel
theorem d_X3_holds_76 : decode cX3_holds 76 = .ok (.iload 6, 2) := by decide +kernel
theorem d_X3_holds_78 : decode cX3_holds 78 = .ok (.bipush 24, 2) := by decide +kernel
theorem d_X3_holds_80 : decode cX3_holds 80 = .ok (.if_icmp .ge 39, 3) := by decide +kernel
theorem d_X3_holds_83 : decode cX3_holds 83 = .ok (.aload_n 0, 1) := by decide +kernel
theorem d_X3_holds_84 : decode cX3_holds 84 = .ok (.getfield 13, 3) := by decide +kernel
theorem d_X3_holds_87 : decode cX3_holds 87 = .ok (.iload 6, 2) := by decide +kernel
theorem d_X3_holds_89 : decode cX3_holds 89 = .ok (.iload 10, 2) := by decide +kernel
theorem d_X3_holds_91 : decode cX3_holds 91 = .ok (.sipush 1000, 3) := by decide +kernel
theorem d_X3_holds_94 : decode cX3_holds 94 = .ok (.if_icmp .ge 8, 3) := by decide +kernel
theorem d_X3_holds_97 : decode cX3_holds 97 = .ok (.iload 10, 2) := by decide +kernel
theorem d_X3_holds_99 : decode cX3_holds 99 = .ok (.goto 13, 3) := by decide +kernel
theorem d_X3_holds_102 : decode cX3_holds 102 = .ok (.aload_n 0, 1) := by decide +kernel
theorem d_X3_holds_103 : decode cX3_holds 103 = .ok (.iload 10, 2) := by decide +kernel
theorem d_X3_holds_105 : decode cX3_holds 105 = .ok (.sipush 1000, 3) := by decide +kernel
theorem d_X3_holds_108 : decode cX3_holds 108 = .ok (.isub, 1) := by decide +kernel
theorem d_X3_holds_109 : decode cX3_holds 109 = .ok (.invokevirtual 19, 3) := by decide +kernel
theorem d_X3_holds_112 : decode cX3_holds 112 = .ok (.iastore, 1) := by decide +kernel
theorem d_X3_holds_113 : decode cX3_holds 113 = .ok (.iinc 6 1, 3) := by decide +kernel
theorem d_X3_holds_116 : decode cX3_holds 116 = .ok (.goto 86, 3) := by decide +kernel
theorem d_X3_holds_119 : decode cX3_holds 119 = .ok (.iload 10, 2) := by decide +kernel
theorem d_X3_holds_121 : decode cX3_holds 121 = .ok (.sipush 2000, 3) := by decide +kernel
theorem d_X3_holds_124 : decode cX3_holds 124 = .ok (.if_icmp .ne 31, 3) := by decide +kernel
theorem d_X3_holds_127 : decode cX3_holds 127 = .ok (.iload 6, 2) := by decide +kernel
theorem d_X3_holds_129 : decode cX3_holds 129 = .ok (.ifCond .le 26, 3) := by decide +kernel
theorem d_X3_holds_132 : decode cX3_holds 132 = .ok (.aload_n 0, 1) := by decide +kernel
theorem d_X3_holds_133 : decode cX3_holds 133 = .ok (.getfield 13, 3) := by decide +kernel
theorem d_X3_holds_136 : decode cX3_holds 136 = .ok (.iload 6, 2) := by decide +kernel
theorem d_X3_holds_138 : decode cX3_holds 138 = .ok (.iconst 1, 1) := by decide +kernel
theorem d_X3_holds_139 : decode cX3_holds 139 = .ok (.isub, 1) := by decide +kernel
theorem d_X3_holds_140 : decode cX3_holds 140 = .ok (.iconst 1, 1) := by decide +kernel
theorem d_X3_holds_141 : decode cX3_holds 141 = .ok (.aload_n 0, 1) := by decide +kernel
theorem d_X3_holds_142 : decode cX3_holds 142 = .ok (.getfield 13, 3) := by decide +kernel
theorem d_X3_holds_145 : decode cX3_holds 145 = .ok (.iload 6, 2) := by decide +kernel
theorem d_X3_holds_147 : decode cX3_holds 147 = .ok (.iconst 1, 1) := by decide +kernel
theorem d_X3_holds_148 : decode cX3_holds 148 = .ok (.isub, 1) := by decide +kernel
theorem d_X3_holds_149 : decode cX3_holds 149 = .ok (.iaload, 1) := by decide +kernel
theorem d_X3_holds_150 : decode cX3_holds 150 = .ok (.isub, 1) := by decide +kernel
theorem d_X3_holds_151 : decode cX3_holds 151 = .ok (.iastore, 1) := by decide +kernel
theorem d_X3_holds_152 : decode cX3_holds 152 = .ok (.goto 50, 3) := by decide +kernel
theorem d_X3_holds_155 : decode cX3_holds 155 = .ok (.iload 10, 2) := by decide +kernel
theorem d_X3_holds_157 : decode cX3_holds 157 = .ok (.sipush 2000, 3) := by decide +kernel
theorem d_X3_holds_160 : decode cX3_holds 160 = .ok (.if_icmp .le 42, 3) := by decide +kernel
theorem d_X3_holds_163 : decode cX3_holds 163 = .ok (.iload 6, 2) := by decide +kernel
theorem d_X3_holds_165 : decode cX3_holds 165 = .ok (.iconst 1, 1) := by decide +kernel
theorem d_X3_holds_166 : decode cX3_holds 166 = .ok (.if_icmp .le 36, 3) := by decide +kernel
theorem d_X3_holds_169 : decode cX3_holds 169 = .ok (.iinc 6 (-1), 3) := by decide +kernel
theorem d_X3_holds_172 : decode cX3_holds 172 = .ok (.aload_n 0, 1) := by decide +kernel
theorem d_X3_holds_173 : decode cX3_holds 173 = .ok (.getfield 13, 3) := by decide +kernel
theorem d_X3_holds_176 : decode cX3_holds 176 = .ok (.iload 6, 2) := by decide +kernel
theorem d_X3_holds_178 : decode cX3_holds 178 = .ok (.iconst 1, 1) := by decide +kernel
theorem d_X3_holds_179 : decode cX3_holds 179 = .ok (.isub, 1) := by decide +kernel
theorem d_X3_holds_180 : decode cX3_holds 180 = .ok (.iload 10, 2) := by decide +kernel
theorem d_X3_holds_182 : decode cX3_holds 182 = .ok (.aload_n 0, 1) := by decide +kernel
theorem d_X3_holds_183 : decode cX3_holds 183 = .ok (.getfield 13, 3) := by decide +kernel
theorem d_X3_holds_186 : decode cX3_holds 186 = .ok (.iload 6, 2) := by decide +kernel
theorem d_X3_holds_188 : decode cX3_holds 188 = .ok (.iconst 1, 1) := by decide +kernel
theorem d_X3_holds_189 : decode cX3_holds 189 = .ok (.isub, 1) := by decide +kernel
theorem d_X3_holds_190 : decode cX3_holds 190 = .ok (.iaload, 1) := by decide +kernel
theorem d_X3_holds_191 : decode cX3_holds 191 = .ok (.aload_n 0, 1) := by decide +kernel
theorem d_X3_holds_192 : decode cX3_holds 192 = .ok (.getfield 13, 3) := by decide +kernel
theorem d_X3_holds_195 : decode cX3_holds 195 = .ok (.iload 6, 2) := by decide +kernel
theorem d_X3_holds_197 : decode cX3_holds 197 = .ok (.iaload, 1) := by decide +kernel
theorem d_X3_holds_198 : decode cX3_holds 198 = .ok (.invokestatic 23, 3) := by decide +kernel
theorem d_X3_holds_201 : decode cX3_holds 201 = .ok (.iastore, 1) := by decide +kernel
theorem d_X3_holds_202 : decode cX3_holds 202 = .ok (.iinc 9 1, 3) := by decide +kernel
theorem d_X3_holds_205 : decode cX3_holds 205 = .ok (.goto (-151), 3) := by decide +kernel
theorem d_X3_holds_208 : decode cX3_holds 208 = .ok (.iload 6, 2) := by decide +kernel
theorem d_X3_holds_210 : decode cX3_holds 210 = .ok (.ifCond .le 19, 3) := by decide +kernel
theorem d_X3_holds_213 : decode cX3_holds 213 = .ok (.aload_n 0, 1) := by decide +kernel
theorem d_X3_holds_214 : decode cX3_holds 214 = .ok (.getfield 13, 3) := by decide +kernel
theorem d_X3_holds_217 : decode cX3_holds 217 = .ok (.iload 6, 2) := by decide +kernel
theorem d_X3_holds_219 : decode cX3_holds 219 = .ok (.iconst 1, 1) := by decide +kernel
theorem d_X3_holds_220 : decode cX3_holds 220 = .ok (.isub, 1) := by decide +kernel
theorem d_X3_holds_221 : decode cX3_holds 221 = .ok (.iaload, 1) := by decide +kernel
theorem d_X3_holds_222 : decode cX3_holds 222 = .ok (.ifCond .eq 7, 3) := by decide +kernel
theorem d_X3_holds_225 : decode cX3_holds 225 = .ok (.iconst 1, 1) := by decide +kernel
theorem d_X3_holds_226 : decode cX3_holds 226 = .ok (.goto 4, 3) := by decide +kernel
theorem d_X3_holds_229 : decode cX3_holds 229 = .ok (.iconst 0, 1) := by decide +kernel
theorem d_X3_holds_230 : decode cX3_holds 230 = .ok (.ireturn, 1) := by decide +kernel
def F_X3_holds_b155 (k54 : Nat → Int32 → Nat → Int32 → Int32 → xH → Option (Int32 × xH)) (x0 : Nat) (x6 : Int32) (x7 : Nat) (x8 : Int32) (x9 : Int32) (x10 : Int32) (h : xH) : Option (Int32 × xH) := if x10 ≤ ((2000 : Int32)) then k54 x0 x6 x7 x8 (x9 + 1) h else if x6 ≤ ((1 : Int32)) then k54 x0 x6 x7 x8 (x9 + 1) h else (fR h x0 2 2).bind fun v173 => (fR h x0 2 2).bind fun v183 => (aI h v183 ((x6 + (-1)) - 1)).bind fun v190 => (fR h x0 2 2).bind fun v192 => (aI h v192 (x6 + (-1))).bind fun v197 => (F_X3_joined x10 v190 v197 h).bind fun z198 => (sI z198.2 v173 ((x6 + (-1)) - 1) z198.1).bind fun h201 => k54 x0 (x6 + (-1)) x7 x8 (x9 + 1) h201
theorem R_X3_holds_b155 {Γ : xG} {l : Launch} {d : Nat} {Q : Option Value → xH → Prop} {r : Int32} {h' : xH} {k54 : Nat → Int32 → Nat → Int32 → Int32 → xH → Option (Int32 × xH)} (K54 : ∀ (x0 : Nat) (x6 : Int32) (x7 : Nat) (x8 : Int32) (x9 : Int32)  (h : xH), k54 x0 x6 x7 x8 x9 h = some (r, h') → Gd Γ l d m_X3_holds 54 [.ref x0, xhole, xhole, xhole, xhole, xhole, .int x6, .ref x7, .int x8, .int x9, xhole] [] h 0 0 Q) (hdp : 3 ≤ d) (hq : Q (some (.int r)) h') : ∀ (x0 : Nat) (x6 : Int32) (x7 : Nat) (x8 : Int32) (x9 : Int32) (x10 : Int32) (h : xH), F_X3_holds_b155 k54 x0 x6 x7 x8 x9 x10 h = some (r, h') → Gd Γ l d m_X3_holds 155 [.ref x0, xhole, xhole, xhole, xhole, xhole, .int x6, .ref x7, .int x8, .int x9, .int x10] [] h 0 0 Q := by
  intro x0 x6 x7 x8 x9 x10 h hF
  unfold F_X3_holds_b155 at hF
  refine g_iload d_X3_holds_155 rfl ?_
  refine g_si (2000) d_X3_holds_157 si_2000 ?_
  refine g_icmp_le 202 d_X3_holds_160 rfl (fun c160 => ?_) (fun c160 => ?_)
  · have hF := x_t hF c160
    refine q_iinc (1) [.ref x0, xhole, xhole, xhole, xhole, xhole, .int x6, .ref x7, .int x8, .int (x9 + 1), .int x10] d_X3_holds_202 ic_1 rfl (by decide) rfl ?_
    refine g_goto 54 d_X3_holds_205 rfl ?_
    exact q_to (xs_r (xs_h (xs_h (xs_h (xs_h (xs_h (xs_r (xs_r (xs_r (xs_r (xs_h xs_n))))))))))) (K54 _ _ _ _ _ _ hF)
  · have hF := x_f hF c160
    refine g_iload d_X3_holds_163 rfl ?_
    refine g_ic (1) d_X3_holds_165 ic_1 ?_
    refine g_icmp_le 202 d_X3_holds_166 rfl (fun c166 => ?_) (fun c166 => ?_)
    · have hF := x_t hF c166
      refine q_iinc (1) [.ref x0, xhole, xhole, xhole, xhole, xhole, .int x6, .ref x7, .int x8, .int (x9 + 1), .int x10] d_X3_holds_202 ic_1 rfl (by decide) rfl ?_
      refine g_goto 54 d_X3_holds_205 rfl ?_
      exact q_to (xs_r (xs_h (xs_h (xs_h (xs_h (xs_h (xs_r (xs_r (xs_r (xs_r (xs_h xs_n))))))))))) (K54 _ _ _ _ _ _ hF)
    · have hF := x_f hF c166
      refine q_iinc (-1) [.ref x0, xhole, xhole, xhole, xhole, xhole, .int (x6 + (-1)), .ref x7, .int x8, .int x9, .int x10] d_X3_holds_169 ic_m1 rfl (by decide) rfl ?_
      refine g_aloadn d_X3_holds_172 rfl ?_
      obtain ⟨v173, e173, hF⟩ := Option.bind_eq_some_iff.mp hF
      refine q_fR d_X3_holds_173 f_X3_13 e173 ?_
      refine g_iload d_X3_holds_176 rfl ?_
      refine g_ic (1) d_X3_holds_178 ic_1 ?_
      refine g_isub d_X3_holds_179 ?_
      refine g_iload d_X3_holds_180 rfl ?_
      refine g_aloadn d_X3_holds_182 rfl ?_
      obtain ⟨v183, e183, hF⟩ := Option.bind_eq_some_iff.mp hF
      refine q_fR d_X3_holds_183 f_X3_13 e183 ?_
      refine g_iload d_X3_holds_186 rfl ?_
      refine g_ic (1) d_X3_holds_188 ic_1 ?_
      refine g_isub d_X3_holds_189 ?_
      obtain ⟨v190, e190, hF⟩ := Option.bind_eq_some_iff.mp hF
      refine q_aI d_X3_holds_190 e190 ?_
      refine g_aloadn d_X3_holds_191 rfl ?_
      obtain ⟨v192, e192, hF⟩ := Option.bind_eq_some_iff.mp hF
      refine q_fR d_X3_holds_192 f_X3_13 e192 ?_
      refine g_iload d_X3_holds_195 rfl ?_
      obtain ⟨v197, e197, hF⟩ := Option.bind_eq_some_iff.mp hF
      refine q_aI d_X3_holds_197 e197 ?_
      obtain ⟨⟨r198, h198⟩, e198, hF⟩ := Option.bind_eq_some_iff.mp hF
      try dsimp only at hF
      refine q_callS [.int x10, .int v190, .int v197] [.int ((x6 + (-1)) - 1), .ref v173] rfl d_X3_holds_198 s_X3_23 (by omega) rfl (Nat.le_of_ble_eq_true rfl) (R_X3_joined _ _ _ _ (by omega) e198) ?_
      obtain ⟨h201, e201, hF⟩ := Option.bind_eq_some_iff.mp hF
      refine q_sI d_X3_holds_201 e201 ?_
      refine q_iinc (1) [.ref x0, xhole, xhole, xhole, xhole, xhole, .int (x6 + (-1)), .ref x7, .int x8, .int (x9 + 1), .int x10] d_X3_holds_202 ic_1 rfl (by decide) rfl ?_
      refine g_goto 54 d_X3_holds_205 rfl ?_
      exact q_to (xs_r (xs_h (xs_h (xs_h (xs_h (xs_h (xs_r (xs_r (xs_r (xs_r (xs_h xs_n))))))))))) (K54 _ _ _ _ _ _ hF)
def F_X3_holds_b119 (k54 : Nat → Int32 → Nat → Int32 → Int32 → xH → Option (Int32 × xH)) (x0 : Nat) (x6 : Int32) (x7 : Nat) (x8 : Int32) (x9 : Int32) (x10 : Int32) (h : xH) : Option (Int32 × xH) := if ¬ x10 = ((2000 : Int32)) then F_X3_holds_b155 k54 x0 x6 x7 x8 x9 x10 h else if x6 ≤ 0 then F_X3_holds_b155 k54 x0 x6 x7 x8 x9 x10 h else (fR h x0 2 2).bind fun v133 => (fR h x0 2 2).bind fun v142 => (aI h v142 (x6 - 1)).bind fun v149 => (sI h v133 (x6 - 1) (((1 : Int32)) - v149)).bind fun h151 => k54 x0 x6 x7 x8 (x9 + 1) h151
theorem R_X3_holds_b119 {Γ : xG} {l : Launch} {d : Nat} {Q : Option Value → xH → Prop} {r : Int32} {h' : xH} {k54 : Nat → Int32 → Nat → Int32 → Int32 → xH → Option (Int32 × xH)} (K54 : ∀ (x0 : Nat) (x6 : Int32) (x7 : Nat) (x8 : Int32) (x9 : Int32)  (h : xH), k54 x0 x6 x7 x8 x9 h = some (r, h') → Gd Γ l d m_X3_holds 54 [.ref x0, xhole, xhole, xhole, xhole, xhole, .int x6, .ref x7, .int x8, .int x9, xhole] [] h 0 0 Q) (hdp : 3 ≤ d) (hq : Q (some (.int r)) h') : ∀ (x0 : Nat) (x6 : Int32) (x7 : Nat) (x8 : Int32) (x9 : Int32) (x10 : Int32) (h : xH), F_X3_holds_b119 k54 x0 x6 x7 x8 x9 x10 h = some (r, h') → Gd Γ l d m_X3_holds 119 [.ref x0, xhole, xhole, xhole, xhole, xhole, .int x6, .ref x7, .int x8, .int x9, .int x10] [] h 0 0 Q := by
  intro x0 x6 x7 x8 x9 x10 h hF
  unfold F_X3_holds_b119 at hF
  refine g_iload d_X3_holds_119 rfl ?_
  refine g_si (2000) d_X3_holds_121 si_2000 ?_
  refine g_icmp_ne 155 d_X3_holds_124 rfl (fun c124 => ?_) (fun c124 => ?_)
  · have hF := x_t hF c124
    exact q_to (xs_r (xs_h (xs_h (xs_h (xs_h (xs_h (xs_r (xs_r (xs_r (xs_r (xs_r xs_n))))))))))) (R_X3_holds_b155 K54 hdp hq _ _ _ _ _ _ _ hF)
  · have hF := x_f hF (not_not_intro c124)
    refine g_iload d_X3_holds_127 rfl ?_
    refine g_if_le 155 d_X3_holds_129 rfl (fun c129 => ?_) (fun c129 => ?_)
    · have hF := x_t hF c129
      exact q_to (xs_r (xs_h (xs_h (xs_h (xs_h (xs_h (xs_r (xs_r (xs_r (xs_r (xs_r xs_n))))))))))) (R_X3_holds_b155 K54 hdp hq _ _ _ _ _ _ _ hF)
    · have hF := x_f hF c129
      refine g_aloadn d_X3_holds_132 rfl ?_
      obtain ⟨v133, e133, hF⟩ := Option.bind_eq_some_iff.mp hF
      refine q_fR d_X3_holds_133 f_X3_13 e133 ?_
      refine g_iload d_X3_holds_136 rfl ?_
      refine g_ic (1) d_X3_holds_138 ic_1 ?_
      refine g_isub d_X3_holds_139 ?_
      refine g_ic (1) d_X3_holds_140 ic_1 ?_
      refine g_aloadn d_X3_holds_141 rfl ?_
      obtain ⟨v142, e142, hF⟩ := Option.bind_eq_some_iff.mp hF
      refine q_fR d_X3_holds_142 f_X3_13 e142 ?_
      refine g_iload d_X3_holds_145 rfl ?_
      refine g_ic (1) d_X3_holds_147 ic_1 ?_
      refine g_isub d_X3_holds_148 ?_
      obtain ⟨v149, e149, hF⟩ := Option.bind_eq_some_iff.mp hF
      refine q_aI d_X3_holds_149 e149 ?_
      refine g_isub d_X3_holds_150 ?_
      obtain ⟨h151, e151, hF⟩ := Option.bind_eq_some_iff.mp hF
      refine q_sI d_X3_holds_151 e151 ?_
      refine g_goto 202 d_X3_holds_152 rfl ?_
      refine q_iinc (1) [.ref x0, xhole, xhole, xhole, xhole, xhole, .int x6, .ref x7, .int x8, .int (x9 + 1), .int x10] d_X3_holds_202 ic_1 rfl (by decide) rfl ?_
      refine g_goto 54 d_X3_holds_205 rfl ?_
      exact q_to (xs_r (xs_h (xs_h (xs_h (xs_h (xs_h (xs_r (xs_r (xs_r (xs_r (xs_h xs_n))))))))))) (K54 _ _ _ _ _ _ hF)
def F_X3_holds_b54 : Nat → Nat → Int32 → Nat → Int32 → Int32 → xH → Option (Int32 × xH)
  | 0, _, _, _, _, _, _ => none
  | n + 1, x0, x6, x7, x8, x9, h => if x8 ≤ x9 then if x6 ≤ 0 then some (0, h) else (fR h x0 2 2).bind fun v214 => (aI h v214 (x6 - 1)).bind fun v221 => if v221 = 0 then some (0, h) else some (1, h) else (aI h x7 x9).bind fun v65 => if ((2000 : Int32)) ≤ v65 then F_X3_holds_b119 (F_X3_holds_b54 n) x0 x6 x7 x8 x9 v65 h else if ((24 : Int32)) ≤ x6 then F_X3_holds_b119 (F_X3_holds_b54 n) x0 x6 x7 x8 x9 v65 h else (fR h x0 2 2).bind fun v84 => if ((1000 : Int32)) ≤ v65 then (rc h x0 2).bind fun _ => (F_X3_wordValue x0 (v65 - 1000) h).bind fun z109 => (sI z109.2 v84 x6 z109.1).bind fun h112 => F_X3_holds_b54 n x0 (x6 + 1) x7 x8 (x9 + 1) h112 else (sI h v84 x6 v65).bind fun h112 => F_X3_holds_b54 n x0 (x6 + 1) x7 x8 (x9 + 1) h112
theorem R_X3_holds_b54 {Γ : xG} {l : Launch} {d : Nat} {Q : Option Value → xH → Prop} {r : Int32} {h' : xH} (hdp : 3 ≤ d) (hq : Q (some (.int r)) h') : ∀ (n : Nat) (x0 : Nat) (x6 : Int32) (x7 : Nat) (x8 : Int32) (x9 : Int32) (h : xH), F_X3_holds_b54 n x0 x6 x7 x8 x9 h = some (r, h') → Gd Γ l d m_X3_holds 54 [.ref x0, xhole, xhole, xhole, xhole, xhole, .int x6, .ref x7, .int x8, .int x9, xhole] [] h 0 0 Q := by
  intro n
  induction n with
  | zero => intro x0 x6 x7 x8 x9 h hF; cases hF
  | succ n ih =>
  intro x0 x6 x7 x8 x9 h hF
  rw [F_X3_holds_b54] at hF
  refine g_iload d_X3_holds_54 rfl ?_
  refine g_iload d_X3_holds_56 rfl ?_
  refine g_icmp_ge 208 d_X3_holds_58 rfl (fun c58 => ?_) (fun c58 => ?_)
  · have hF := x_t hF c58
    refine g_iload d_X3_holds_208 rfl ?_
    refine g_if_le 229 d_X3_holds_210 rfl (fun c210 => ?_) (fun c210 => ?_)
    · have hF := x_t hF c210
      refine g_ic (0) d_X3_holds_229 ic_0 ?_
      obtain ⟨rfl, rfl⟩ := x_inj hF
      exact g_zret d_X3_holds_230 rfl rfl hq
    · have hF := x_f hF c210
      refine g_aloadn d_X3_holds_213 rfl ?_
      obtain ⟨v214, e214, hF⟩ := Option.bind_eq_some_iff.mp hF
      refine q_fR d_X3_holds_214 f_X3_13 e214 ?_
      refine g_iload d_X3_holds_217 rfl ?_
      refine g_ic (1) d_X3_holds_219 ic_1 ?_
      refine g_isub d_X3_holds_220 ?_
      obtain ⟨v221, e221, hF⟩ := Option.bind_eq_some_iff.mp hF
      refine q_aI d_X3_holds_221 e221 ?_
      refine g_if_eq 229 d_X3_holds_222 rfl (fun c222 => ?_) (fun c222 => ?_)
      · have hF := x_t hF c222
        refine g_ic (0) d_X3_holds_229 ic_0 ?_
        obtain ⟨rfl, rfl⟩ := x_inj hF
        exact g_zret d_X3_holds_230 rfl rfl hq
      · have hF := x_f hF c222
        refine g_ic (1) d_X3_holds_225 ic_1 ?_
        refine g_goto 230 d_X3_holds_226 rfl ?_
        obtain ⟨rfl, rfl⟩ := x_inj hF
        exact g_zret d_X3_holds_230 rfl rfl hq
  · have hF := x_f hF c58
    refine g_aload d_X3_holds_61 rfl ?_
    refine g_iload d_X3_holds_63 rfl ?_
    obtain ⟨v65, e65, hF⟩ := Option.bind_eq_some_iff.mp hF
    refine q_aI d_X3_holds_65 e65 ?_
    refine q_istore [.ref x0, xhole, xhole, xhole, xhole, xhole, .int x6, .ref x7, .int x8, .int x9, .int v65] d_X3_holds_66 (by decide) rfl ?_
    refine g_iload d_X3_holds_68 rfl ?_
    refine g_si (2000) d_X3_holds_70 si_2000 ?_
    refine g_icmp_ge 119 d_X3_holds_73 rfl (fun c73 => ?_) (fun c73 => ?_)
    · have hF := x_t hF c73
      exact q_to (xs_r (xs_h (xs_h (xs_h (xs_h (xs_h (xs_r (xs_r (xs_r (xs_r (xs_r xs_n))))))))))) (R_X3_holds_b119 ih hdp hq _ _ _ _ _ _ _ hF)
    · have hF := x_f hF c73
      refine g_iload d_X3_holds_76 rfl ?_
      refine g_bi (24) d_X3_holds_78 bi_24 ?_
      refine g_icmp_ge 119 d_X3_holds_80 rfl (fun c80 => ?_) (fun c80 => ?_)
      · have hF := x_t hF c80
        exact q_to (xs_r (xs_h (xs_h (xs_h (xs_h (xs_h (xs_r (xs_r (xs_r (xs_r (xs_r xs_n))))))))))) (R_X3_holds_b119 ih hdp hq _ _ _ _ _ _ _ hF)
      · have hF := x_f hF c80
        refine g_aloadn d_X3_holds_83 rfl ?_
        obtain ⟨v84, e84, hF⟩ := Option.bind_eq_some_iff.mp hF
        refine q_fR d_X3_holds_84 f_X3_13 e84 ?_
        refine g_iload d_X3_holds_87 rfl ?_
        refine g_iload d_X3_holds_89 rfl ?_
        refine g_si (1000) d_X3_holds_91 si_1000 ?_
        refine g_icmp_ge 102 d_X3_holds_94 rfl (fun c94 => ?_) (fun c94 => ?_)
        · have hF := x_t hF c94
          refine g_aloadn d_X3_holds_102 rfl ?_
          refine g_iload d_X3_holds_103 rfl ?_
          refine g_si (1000) d_X3_holds_105 si_1000 ?_
          refine g_isub d_X3_holds_108 ?_
          obtain ⟨_, g109, hF⟩ := Option.bind_eq_some_iff.mp hF
          obtain ⟨⟨r109, h109⟩, e109, hF⟩ := Option.bind_eq_some_iff.mp hF
          try dsimp only at hF
          refine q_callV [.int (v65 - 1000)] [.int x6, .ref v84] rfl d_X3_holds_109 v_X3_19 (by omega) rfl (Nat.le_of_ble_eq_true rfl) (rc_rc g109 (by decide) rfl) (R_X3_wordValue _ _ _ (by omega) e109) ?_
          obtain ⟨h112, e112, hF⟩ := Option.bind_eq_some_iff.mp hF
          refine q_sI d_X3_holds_112 e112 ?_
          refine q_iinc (1) [.ref x0, xhole, xhole, xhole, xhole, xhole, .int (x6 + 1), .ref x7, .int x8, .int x9, .int v65] d_X3_holds_113 ic_1 rfl (by decide) rfl ?_
          refine g_goto 202 d_X3_holds_116 rfl ?_
          refine q_iinc (1) [.ref x0, xhole, xhole, xhole, xhole, xhole, .int (x6 + 1), .ref x7, .int x8, .int (x9 + 1), .int v65] d_X3_holds_202 ic_1 rfl (by decide) rfl ?_
          refine g_goto 54 d_X3_holds_205 rfl ?_
          exact q_to (xs_r (xs_h (xs_h (xs_h (xs_h (xs_h (xs_r (xs_r (xs_r (xs_r (xs_h xs_n))))))))))) (ih _ _ _ _ _ _ hF)
        · have hF := x_f hF c94
          refine g_iload d_X3_holds_97 rfl ?_
          refine g_goto 112 d_X3_holds_99 rfl ?_
          obtain ⟨h112, e112, hF⟩ := Option.bind_eq_some_iff.mp hF
          refine q_sI d_X3_holds_112 e112 ?_
          refine q_iinc (1) [.ref x0, xhole, xhole, xhole, xhole, xhole, .int (x6 + 1), .ref x7, .int x8, .int x9, .int v65] d_X3_holds_113 ic_1 rfl (by decide) rfl ?_
          refine g_goto 202 d_X3_holds_116 rfl ?_
          refine q_iinc (1) [.ref x0, xhole, xhole, xhole, xhole, xhole, .int (x6 + 1), .ref x7, .int x8, .int (x9 + 1), .int v65] d_X3_holds_202 ic_1 rfl (by decide) rfl ?_
          refine g_goto 54 d_X3_holds_205 rfl ?_
          exact q_to (xs_r (xs_h (xs_h (xs_h (xs_h (xs_h (xs_r (xs_r (xs_r (xs_r (xs_h xs_n))))))))))) (ih _ _ _ _ _ _ hF)
def F_X3_holds (x0 : Nat) (x1 : Int32) (x2 : Int32) (x3 : Int32) (x4 : Int32) (x5 : Int32) (h : xH) : Option (Int32 × xH) := (fR h x0 2 1).bind fun v1 => (sI h v1 0 x1).bind fun h6 => (fR h6 x0 2 1).bind fun v8 => (sI h6 v8 1 x2).bind fun h13 => (fR h13 x0 2 1).bind fun v15 => (sI h13 v15 2 x3).bind fun h20 => (fR h20 x0 2 1).bind fun v22 => (sI h20 v22 3 x4).bind fun h28 => (fR h28 x0 2 1).bind fun v30 => (sI h28 v30 4 x5).bind fun h36 => (fR h36 x0 2 0).bind fun v41 => (al h36 v41).bind fun v48 => F_X3_holds_b54 FU x0 0 v41 v48 0 h36
theorem R_X3_holds {Γ : xG} {l : Launch} {d : Nat} {r : Int32} {h' : xH} (x0 : Nat) (x1 : Int32) (x2 : Int32) (x3 : Int32) (x4 : Int32) (x5 : Int32) (h : xH) (hdp : 3 ≤ d) (hF : F_X3_holds x0 x1 x2 x3 x4 x5 h = some (r, h')) : Gm Γ l d 0 0 m_X3_holds [.ref x0, .int x1, .int x2, .int x3, .int x4, .int x5] h (fun a u => a = some (.int r) ∧ u = h') := by
  refine Gm.of pn_X3 (Nat.le_of_ble_eq_true rfl) ?_
  show Gd Γ l d m_X3_holds 0 [.ref x0, .int x1, .int x2, .int x3, .int x4, .int x5, xhole, xhole, xhole, xhole, xhole] [] h 0 0 _
  generalize hQ : (fun (a : Option Value) (u : xH) => a = some (.int r) ∧ u = h') = Q
  have hq : Q (some (.int r)) h' := by rw [← hQ]; exact ⟨rfl, rfl⟩
  clear hQ
  unfold F_X3_holds at hF
  refine g_aloadn d_X3_holds_0 rfl ?_
  obtain ⟨v1, e1, hF⟩ := Option.bind_eq_some_iff.mp hF
  refine q_fR d_X3_holds_1 f_X3_9 e1 ?_
  refine g_ic (0) d_X3_holds_4 ic_0 ?_
  refine g_iloadn d_X3_holds_5 rfl ?_
  obtain ⟨h6, e6, hF⟩ := Option.bind_eq_some_iff.mp hF
  refine q_sI d_X3_holds_6 e6 ?_
  refine g_aloadn d_X3_holds_7 rfl ?_
  obtain ⟨v8, e8, hF⟩ := Option.bind_eq_some_iff.mp hF
  refine q_fR d_X3_holds_8 f_X3_9 e8 ?_
  refine g_ic (1) d_X3_holds_11 ic_1 ?_
  refine g_iloadn d_X3_holds_12 rfl ?_
  obtain ⟨h13, e13, hF⟩ := Option.bind_eq_some_iff.mp hF
  refine q_sI d_X3_holds_13 e13 ?_
  refine g_aloadn d_X3_holds_14 rfl ?_
  obtain ⟨v15, e15, hF⟩ := Option.bind_eq_some_iff.mp hF
  refine q_fR d_X3_holds_15 f_X3_9 e15 ?_
  refine g_ic (2) d_X3_holds_18 ic_2 ?_
  refine g_iloadn d_X3_holds_19 rfl ?_
  obtain ⟨h20, e20, hF⟩ := Option.bind_eq_some_iff.mp hF
  refine q_sI d_X3_holds_20 e20 ?_
  refine g_aloadn d_X3_holds_21 rfl ?_
  obtain ⟨v22, e22, hF⟩ := Option.bind_eq_some_iff.mp hF
  refine q_fR d_X3_holds_22 f_X3_9 e22 ?_
  refine g_ic (3) d_X3_holds_25 ic_3 ?_
  refine g_iload d_X3_holds_26 rfl ?_
  obtain ⟨h28, e28, hF⟩ := Option.bind_eq_some_iff.mp hF
  refine q_sI d_X3_holds_28 e28 ?_
  refine g_aloadn d_X3_holds_29 rfl ?_
  obtain ⟨v30, e30, hF⟩ := Option.bind_eq_some_iff.mp hF
  refine q_fR d_X3_holds_30 f_X3_9 e30 ?_
  refine g_ic (4) d_X3_holds_33 ic_4 ?_
  refine g_iload d_X3_holds_34 rfl ?_
  obtain ⟨h36, e36, hF⟩ := Option.bind_eq_some_iff.mp hF
  refine q_sI d_X3_holds_36 e36 ?_
  refine g_ic (0) d_X3_holds_37 ic_0 ?_
  refine q_istore [.ref x0, .int x1, .int x2, .int x3, .int x4, .int x5, .int 0, xhole, xhole, xhole, xhole] d_X3_holds_38 (by decide) rfl ?_
  refine g_aloadn d_X3_holds_40 rfl ?_
  obtain ⟨v41, e41, hF⟩ := Option.bind_eq_some_iff.mp hF
  refine q_fR d_X3_holds_41 f_X3_16 e41 ?_
  refine q_astore [.ref x0, .int x1, .int x2, .int x3, .int x4, .int x5, .int 0, .ref v41, xhole, xhole, xhole] d_X3_holds_44 (by decide) rfl ?_
  refine g_aload d_X3_holds_46 rfl ?_
  obtain ⟨v48, e48, hF⟩ := Option.bind_eq_some_iff.mp hF
  refine q_al d_X3_holds_48 e48 ?_
  refine q_istore [.ref x0, .int x1, .int x2, .int x3, .int x4, .int x5, .int 0, .ref v41, .int v48, xhole, xhole] d_X3_holds_49 (by decide) rfl ?_
  refine g_ic (0) d_X3_holds_51 ic_0 ?_
  refine q_istore [.ref x0, .int x1, .int x2, .int x3, .int x4, .int x5, .int 0, .ref v41, .int v48, .int 0, xhole] d_X3_holds_52 (by decide) rfl ?_
  exact q_to (xs_r (xs_h (xs_h (xs_h (xs_h (xs_h (xs_r (xs_r (xs_r (xs_r (xs_h xs_n))))))))))) (R_X3_holds_b54 hdp hq FU _ _ _ _ _ _ hF)
theorem d_X4_addBytes_0 : decode cX4_addBytes 0 = .ok (.bipush 24, 2) := by decide +kernel
theorem d_X4_addBytes_2 : decode cX4_addBytes 2 = .ok (.istore_n 2, 1) := by decide +kernel
theorem d_X4_addBytes_3 : decode cX4_addBytes 3 = .ok (.iload_n 2, 1) := by decide +kernel
theorem d_X4_addBytes_4 : decode cX4_addBytes 4 = .ok (.ifCond .lt 46, 3) := by decide +kernel
theorem d_X4_addBytes_7 : decode cX4_addBytes 7 = .ok (.aload_n 0, 1) := by decide +kernel
theorem d_X4_addBytes_8 : decode cX4_addBytes 8 = .ok (.getfield 15, 3) := by decide +kernel
theorem d_X4_addBytes_11 : decode cX4_addBytes 11 = .ok (.sipush 900, 3) := by decide +kernel
theorem d_X4_addBytes_14 : decode cX4_addBytes 14 = .ok (.if_icmp .ge 36, 3) := by decide +kernel
theorem d_X4_addBytes_17 : decode cX4_addBytes 17 = .ok (.aload_n 0, 1) := by decide +kernel
theorem d_X4_addBytes_18 : decode cX4_addBytes 18 = .ok (.getfield 9, 3) := by decide +kernel
theorem d_X4_addBytes_21 : decode cX4_addBytes 21 = .ok (.aload_n 0, 1) := by decide +kernel
theorem d_X4_addBytes_22 : decode cX4_addBytes 22 = .ok (.getfield 15, 3) := by decide +kernel
theorem d_X4_addBytes_25 : decode cX4_addBytes 25 = .ok (.iload_n 1, 1) := by decide +kernel
theorem d_X4_addBytes_26 : decode cX4_addBytes 26 = .ok (.iload_n 2, 1) := by decide +kernel
theorem d_X4_addBytes_27 : decode cX4_addBytes 27 = .ok (.iushr, 1) := by decide +kernel
theorem d_X4_addBytes_28 : decode cX4_addBytes 28 = .ok (.sipush 255, 3) := by decide +kernel
theorem d_X4_addBytes_31 : decode cX4_addBytes 31 = .ok (.iand, 1) := by decide +kernel
theorem d_X4_addBytes_32 : decode cX4_addBytes 32 = .ok (.i2c, 1) := by decide +kernel
theorem d_X4_addBytes_33 : decode cX4_addBytes 33 = .ok (.castore, 1) := by decide +kernel
theorem d_X4_addBytes_34 : decode cX4_addBytes 34 = .ok (.aload_n 0, 1) := by decide +kernel
theorem d_X4_addBytes_35 : decode cX4_addBytes 35 = .ok (.dup, 1) := by decide +kernel
theorem d_X4_addBytes_36 : decode cX4_addBytes 36 = .ok (.getfield 15, 3) := by decide +kernel
theorem d_X4_addBytes_39 : decode cX4_addBytes 39 = .ok (.iconst 1, 1) := by decide +kernel
theorem d_X4_addBytes_40 : decode cX4_addBytes 40 = .ok (.iadd, 1) := by decide +kernel
theorem d_X4_addBytes_41 : decode cX4_addBytes 41 = .ok (.putfield 15, 3) := by decide +kernel
theorem d_X4_addBytes_44 : decode cX4_addBytes 44 = .ok (.iinc 2 (-8), 3) := by decide +kernel
theorem d_X4_addBytes_47 : decode cX4_addBytes 47 = .ok (.goto (-44), 3) := by decide +kernel
theorem d_X4_addBytes_50 : decode cX4_addBytes 50 = .ok (.return_, 1) := by decide +kernel
def F_X4_addBytes_b3 : Nat → Nat → Int32 → Int32 → xH → Option (Unit × xH)
  | 0, _, _, _, _ => none
  | n + 1, x0, x1, x2, h => if x2 < 0 then some ((), h) else (fI h x0 3 1).bind fun v8 => if ((900 : Int32)) ≤ v8 then some ((), h) else (fR h x0 3 0).bind fun v18 => (fI h x0 3 1).bind fun v22 => (sC h v18 v22 ((((ush x1 x2) &&& 255).toUInt32 % 65536).toInt32)).bind fun h33 => (fI h33 x0 3 1).bind fun v36 => (wI h33 x0 3 1 (v36 + 1)).bind fun h41 => F_X4_addBytes_b3 n x0 x1 (x2 + (-8)) h41
theorem R_X4_addBytes_b3 {Γ : xG} {l : Launch} {d : Nat} {Q : Option Value → xH → Prop} {r : Unit} {h' : xH} (hdp : 0 ≤ d) (hq : Q (none) h') : ∀ (n : Nat) (x0 : Nat) (x1 : Int32) (x2 : Int32) (h : xH), F_X4_addBytes_b3 n x0 x1 x2 h = some (r, h') → Gd Γ l d m_X4_addBytes 3 [.ref x0, .int x1, .int x2] [] h 0 0 Q := by
  intro n
  induction n with
  | zero => intro x0 x1 x2 h hF; cases hF
  | succ n ih =>
  intro x0 x1 x2 h hF
  rw [F_X4_addBytes_b3] at hF
  refine g_iloadn d_X4_addBytes_3 rfl ?_
  refine g_if_lt 50 d_X4_addBytes_4 rfl (fun c4 => ?_) (fun c4 => ?_)
  · have hF := x_t hF c4
    obtain ⟨rfl, rfl⟩ := x_inj hF
    exact g_vret d_X4_addBytes_50 rfl hq
  · have hF := x_f hF c4
    refine g_aloadn d_X4_addBytes_7 rfl ?_
    obtain ⟨v8, e8, hF⟩ := Option.bind_eq_some_iff.mp hF
    refine q_fI d_X4_addBytes_8 f_X4_15 e8 ?_
    refine g_si (900) d_X4_addBytes_11 si_900 ?_
    refine g_icmp_ge 50 d_X4_addBytes_14 rfl (fun c14 => ?_) (fun c14 => ?_)
    · have hF := x_t hF c14
      obtain ⟨rfl, rfl⟩ := x_inj hF
      exact g_vret d_X4_addBytes_50 rfl hq
    · have hF := x_f hF c14
      refine g_aloadn d_X4_addBytes_17 rfl ?_
      obtain ⟨v18, e18, hF⟩ := Option.bind_eq_some_iff.mp hF
      refine q_fR d_X4_addBytes_18 f_X4_9 e18 ?_
      refine g_aloadn d_X4_addBytes_21 rfl ?_
      obtain ⟨v22, e22, hF⟩ := Option.bind_eq_some_iff.mp hF
      refine q_fI d_X4_addBytes_22 f_X4_15 e22 ?_
      refine g_iloadn d_X4_addBytes_25 rfl ?_
      refine g_iloadn d_X4_addBytes_26 rfl ?_
      refine q_iushr d_X4_addBytes_27 ?_
      refine g_si (255) d_X4_addBytes_28 si_255 ?_
      refine g_iand d_X4_addBytes_31 ?_
      refine g_i2c d_X4_addBytes_32 ?_
      obtain ⟨h33, e33, hF⟩ := Option.bind_eq_some_iff.mp hF
      refine q_sC d_X4_addBytes_33 e33 ?_
      refine g_aloadn d_X4_addBytes_34 rfl ?_
      refine g_dup d_X4_addBytes_35 rfl ?_
      obtain ⟨v36, e36, hF⟩ := Option.bind_eq_some_iff.mp hF
      refine q_fI d_X4_addBytes_36 f_X4_15 e36 ?_
      refine g_ic (1) d_X4_addBytes_39 ic_1 ?_
      refine g_iadd d_X4_addBytes_40 ?_
      obtain ⟨h41, e41, hF⟩ := Option.bind_eq_some_iff.mp hF
      refine q_wI d_X4_addBytes_41 (w_X4_15 _) e41 ?_
      refine q_iinc (-8) [.ref x0, .int x1, .int (x2 + (-8))] d_X4_addBytes_44 ic_m8 rfl (by decide) rfl ?_
      refine g_goto 3 d_X4_addBytes_47 rfl ?_
      exact q_to (xs_r (xs_r (xs_r xs_n))) (ih _ _ _ _ hF)
def F_X4_addBytes (x0 : Nat) (x1 : Int32) (h : xH) : Option (Unit × xH) := F_X4_addBytes_b3 FU x0 x1 24 h
theorem R_X4_addBytes {Γ : xG} {l : Launch} {d : Nat} {r : Unit} {h' : xH} (x0 : Nat) (x1 : Int32) (h : xH) (hdp : 0 ≤ d) (hF : F_X4_addBytes x0 x1 h = some (r, h')) : Gm Γ l d 0 0 m_X4_addBytes [.ref x0, .int x1] h (fun a u => a = none ∧ u = h') := by
  refine Gm.of pn_X4 (Nat.le_of_ble_eq_true rfl) ?_
  show Gd Γ l d m_X4_addBytes 0 [.ref x0, .int x1, xhole] [] h 0 0 _
  generalize hQ : (fun (a : Option Value) (u : xH) => a = none ∧ u = h') = Q
  have hq : Q (none) h' := by rw [← hQ]; exact ⟨rfl, rfl⟩
  clear hQ
  unfold F_X4_addBytes at hF
  refine g_bi (24) d_X4_addBytes_0 bi_24 ?_
  refine q_istoren [.ref x0, .int x1, .int 24] d_X4_addBytes_2 (by decide) rfl ?_
  exact q_to (xs_r (xs_r (xs_r xs_n))) (R_X4_addBytes_b3 hdp hq FU _ _ _ _ hF)
theorem d_X4_fail_0 : decode cX4_fail 0 = .ok (.aload_n 0, 1) := by decide +kernel
theorem d_X4_fail_1 : decode cX4_fail 1 = .ok (.getfield 52, 3) := by decide +kernel
theorem d_X4_fail_4 : decode cX4_fail 4 = .ok (.ifCond .ne 16, 3) := by decide +kernel
theorem d_X4_fail_7 : decode cX4_fail 7 = .ok (.aload_n 0, 1) := by decide +kernel
theorem d_X4_fail_8 : decode cX4_fail 8 = .ok (.iload_n 1, 1) := by decide +kernel
theorem d_X4_fail_9 : decode cX4_fail 9 = .ok (.putfield 52, 3) := by decide +kernel
theorem d_X4_fail_12 : decode cX4_fail 12 = .ok (.aload_n 0, 1) := by decide +kernel
theorem d_X4_fail_13 : decode cX4_fail 13 = .ok (.aload_n 0, 1) := by decide +kernel
theorem d_X4_fail_14 : decode cX4_fail 14 = .ok (.getfield 29, 3) := by decide +kernel
theorem d_X4_fail_17 : decode cX4_fail 17 = .ok (.putfield 55, 3) := by decide +kernel
theorem d_X4_fail_20 : decode cX4_fail 20 = .ok (.return_, 1) := by decide +kernel
def F_X4_fail (x0 : Nat) (x1 : Int32) (h : xH) : Option (Unit × xH) := (fI h x0 3 11).bind fun v1 => if ¬ v1 = 0 then some ((), h) else (wI h x0 3 11 x1).bind fun h9 => (fI h9 x0 3 5).bind fun v14 => (wI h9 x0 3 12 v14).bind fun h17 => some ((), h17)
theorem R_X4_fail {Γ : xG} {l : Launch} {d : Nat} {r : Unit} {h' : xH} (x0 : Nat) (x1 : Int32) (h : xH) (hdp : 0 ≤ d) (hF : F_X4_fail x0 x1 h = some (r, h')) : Gm Γ l d 0 0 m_X4_fail [.ref x0, .int x1] h (fun a u => a = none ∧ u = h') := by
  refine Gm.of pn_X4 (Nat.le_of_ble_eq_true rfl) ?_
  show Gd Γ l d m_X4_fail 0 [.ref x0, .int x1] [] h 0 0 _
  generalize hQ : (fun (a : Option Value) (u : xH) => a = none ∧ u = h') = Q
  have hq : Q (none) h' := by rw [← hQ]; exact ⟨rfl, rfl⟩
  clear hQ
  unfold F_X4_fail at hF
  refine g_aloadn d_X4_fail_0 rfl ?_
  obtain ⟨v1, e1, hF⟩ := Option.bind_eq_some_iff.mp hF
  refine q_fI d_X4_fail_1 f_X4_52 e1 ?_
  refine g_if_ne 20 d_X4_fail_4 rfl (fun c4 => ?_) (fun c4 => ?_)
  · have hF := x_t hF c4
    obtain ⟨rfl, rfl⟩ := x_inj hF
    exact g_vret d_X4_fail_20 rfl hq
  · have hF := x_f hF (not_not_intro c4)
    refine g_aloadn d_X4_fail_7 rfl ?_
    refine g_iloadn d_X4_fail_8 rfl ?_
    obtain ⟨h9, e9, hF⟩ := Option.bind_eq_some_iff.mp hF
    refine q_wI d_X4_fail_9 (w_X4_52 _) e9 ?_
    refine g_aloadn d_X4_fail_12 rfl ?_
    refine g_aloadn d_X4_fail_13 rfl ?_
    obtain ⟨v14, e14, hF⟩ := Option.bind_eq_some_iff.mp hF
    refine q_fI d_X4_fail_14 f_X4_29 e14 ?_
    obtain ⟨h17, e17, hF⟩ := Option.bind_eq_some_iff.mp hF
    refine q_wI d_X4_fail_17 (w_X4_55 _) e17 ?_
    obtain ⟨rfl, rfl⟩ := x_inj hF
    exact g_vret d_X4_fail_20 rfl hq
theorem d_X4_isLetter_0 : decode cX4_isLetter 0 = .ok (.aload_n 0, 1) := by decide +kernel
theorem d_X4_isLetter_1 : decode cX4_isLetter 1 = .ok (.getfield 9, 3) := by decide +kernel
theorem d_X4_isLetter_4 : decode cX4_isLetter 4 = .ok (.iload_n 1, 1) := by decide +kernel
theorem d_X4_isLetter_5 : decode cX4_isLetter 5 = .ok (.caload, 1) := by decide +kernel
theorem d_X4_isLetter_6 : decode cX4_isLetter 6 = .ok (.bipush 97, 2) := by decide +kernel
theorem d_X4_isLetter_8 : decode cX4_isLetter 8 = .ok (.if_icmp .lt 18, 3) := by decide +kernel
theorem d_X4_isLetter_11 : decode cX4_isLetter 11 = .ok (.aload_n 0, 1) := by decide +kernel
theorem d_X4_isLetter_12 : decode cX4_isLetter 12 = .ok (.getfield 9, 3) := by decide +kernel
theorem d_X4_isLetter_15 : decode cX4_isLetter 15 = .ok (.iload_n 1, 1) := by decide +kernel
theorem d_X4_isLetter_16 : decode cX4_isLetter 16 = .ok (.caload, 1) := by decide +kernel
theorem d_X4_isLetter_17 : decode cX4_isLetter 17 = .ok (.bipush 122, 2) := by decide +kernel
theorem d_X4_isLetter_19 : decode cX4_isLetter 19 = .ok (.if_icmp .gt 7, 3) := by decide +kernel
theorem d_X4_isLetter_22 : decode cX4_isLetter 22 = .ok (.iconst 1, 1) := by decide +kernel
theorem d_X4_isLetter_23 : decode cX4_isLetter 23 = .ok (.goto 4, 3) := by decide +kernel
theorem d_X4_isLetter_26 : decode cX4_isLetter 26 = .ok (.iconst 0, 1) := by decide +kernel
theorem d_X4_isLetter_27 : decode cX4_isLetter 27 = .ok (.ireturn, 1) := by decide +kernel
def F_X4_isLetter (x0 : Nat) (x1 : Int32) (h : xH) : Option (Int32 × xH) := (fR h x0 3 0).bind fun v1 => (aC h v1 x1).bind fun v5 => if v5 < ((97 : Int32)) then some (0, h) else (fR h x0 3 0).bind fun v12 => (aC h v12 x1).bind fun v16 => if ((122 : Int32)) < v16 then some (0, h) else some (1, h)
theorem R_X4_isLetter {Γ : xG} {l : Launch} {d : Nat} {r : Int32} {h' : xH} (x0 : Nat) (x1 : Int32) (h : xH) (hdp : 0 ≤ d) (hF : F_X4_isLetter x0 x1 h = some (r, h')) : Gm Γ l d 0 0 m_X4_isLetter [.ref x0, .int x1] h (fun a u => a = some (.int r) ∧ u = h') := by
  refine Gm.of pn_X4 (Nat.le_of_ble_eq_true rfl) ?_
  show Gd Γ l d m_X4_isLetter 0 [.ref x0, .int x1] [] h 0 0 _
  generalize hQ : (fun (a : Option Value) (u : xH) => a = some (.int r) ∧ u = h') = Q
  have hq : Q (some (.int r)) h' := by rw [← hQ]; exact ⟨rfl, rfl⟩
  clear hQ
  unfold F_X4_isLetter at hF
  refine g_aloadn d_X4_isLetter_0 rfl ?_
  obtain ⟨v1, e1, hF⟩ := Option.bind_eq_some_iff.mp hF
  refine q_fR d_X4_isLetter_1 f_X4_9 e1 ?_
  refine g_iloadn d_X4_isLetter_4 rfl ?_
  obtain ⟨v5, e5, hF⟩ := Option.bind_eq_some_iff.mp hF
  refine q_aC d_X4_isLetter_5 e5 ?_
  refine g_bi (97) d_X4_isLetter_6 bi_97 ?_
  refine g_icmp_lt 26 d_X4_isLetter_8 rfl (fun c8 => ?_) (fun c8 => ?_)
  · have hF := x_t hF c8
    refine g_ic (0) d_X4_isLetter_26 ic_0 ?_
    obtain ⟨rfl, rfl⟩ := x_inj hF
    exact g_zret d_X4_isLetter_27 rfl rfl hq
  · have hF := x_f hF c8
    refine g_aloadn d_X4_isLetter_11 rfl ?_
    obtain ⟨v12, e12, hF⟩ := Option.bind_eq_some_iff.mp hF
    refine q_fR d_X4_isLetter_12 f_X4_9 e12 ?_
    refine g_iloadn d_X4_isLetter_15 rfl ?_
    obtain ⟨v16, e16, hF⟩ := Option.bind_eq_some_iff.mp hF
    refine q_aC d_X4_isLetter_16 e16 ?_
    refine g_bi (122) d_X4_isLetter_17 bi_122 ?_
    refine g_icmp_gt 26 d_X4_isLetter_19 rfl (fun c19 => ?_) (fun c19 => ?_)
    · have hF := x_t hF c19
      refine g_ic (0) d_X4_isLetter_26 ic_0 ?_
      obtain ⟨rfl, rfl⟩ := x_inj hF
      exact g_zret d_X4_isLetter_27 rfl rfl hq
    · have hF := x_f hF c19
      refine g_ic (1) d_X4_isLetter_22 ic_1 ?_
      refine g_goto 27 d_X4_isLetter_23 rfl ?_
      obtain ⟨rfl, rfl⟩ := x_inj hF
      exact g_zret d_X4_isLetter_27 rfl rfl hq
theorem d_X4_isDigit_0 : decode cX4_isDigit 0 = .ok (.aload_n 0, 1) := by decide +kernel
theorem d_X4_isDigit_1 : decode cX4_isDigit 1 = .ok (.getfield 9, 3) := by decide +kernel
theorem d_X4_isDigit_4 : decode cX4_isDigit 4 = .ok (.iload_n 1, 1) := by decide +kernel
theorem d_X4_isDigit_5 : decode cX4_isDigit 5 = .ok (.caload, 1) := by decide +kernel
theorem d_X4_isDigit_6 : decode cX4_isDigit 6 = .ok (.bipush 48, 2) := by decide +kernel
theorem d_X4_isDigit_8 : decode cX4_isDigit 8 = .ok (.if_icmp .lt 18, 3) := by decide +kernel
theorem d_X4_isDigit_11 : decode cX4_isDigit 11 = .ok (.aload_n 0, 1) := by decide +kernel
theorem d_X4_isDigit_12 : decode cX4_isDigit 12 = .ok (.getfield 9, 3) := by decide +kernel
theorem d_X4_isDigit_15 : decode cX4_isDigit 15 = .ok (.iload_n 1, 1) := by decide +kernel
theorem d_X4_isDigit_16 : decode cX4_isDigit 16 = .ok (.caload, 1) := by decide +kernel
theorem d_X4_isDigit_17 : decode cX4_isDigit 17 = .ok (.bipush 57, 2) := by decide +kernel
theorem d_X4_isDigit_19 : decode cX4_isDigit 19 = .ok (.if_icmp .gt 7, 3) := by decide +kernel
theorem d_X4_isDigit_22 : decode cX4_isDigit 22 = .ok (.iconst 1, 1) := by decide +kernel
theorem d_X4_isDigit_23 : decode cX4_isDigit 23 = .ok (.goto 4, 3) := by decide +kernel
theorem d_X4_isDigit_26 : decode cX4_isDigit 26 = .ok (.iconst 0, 1) := by decide +kernel
theorem d_X4_isDigit_27 : decode cX4_isDigit 27 = .ok (.ireturn, 1) := by decide +kernel
def F_X4_isDigit (x0 : Nat) (x1 : Int32) (h : xH) : Option (Int32 × xH) := (fR h x0 3 0).bind fun v1 => (aC h v1 x1).bind fun v5 => if v5 < ((48 : Int32)) then some (0, h) else (fR h x0 3 0).bind fun v12 => (aC h v12 x1).bind fun v16 => if ((57 : Int32)) < v16 then some (0, h) else some (1, h)
theorem R_X4_isDigit {Γ : xG} {l : Launch} {d : Nat} {r : Int32} {h' : xH} (x0 : Nat) (x1 : Int32) (h : xH) (hdp : 0 ≤ d) (hF : F_X4_isDigit x0 x1 h = some (r, h')) : Gm Γ l d 0 0 m_X4_isDigit [.ref x0, .int x1] h (fun a u => a = some (.int r) ∧ u = h') := by
  refine Gm.of pn_X4 (Nat.le_of_ble_eq_true rfl) ?_
  show Gd Γ l d m_X4_isDigit 0 [.ref x0, .int x1] [] h 0 0 _
  generalize hQ : (fun (a : Option Value) (u : xH) => a = some (.int r) ∧ u = h') = Q
  have hq : Q (some (.int r)) h' := by rw [← hQ]; exact ⟨rfl, rfl⟩
  clear hQ
  unfold F_X4_isDigit at hF
  refine g_aloadn d_X4_isDigit_0 rfl ?_
  obtain ⟨v1, e1, hF⟩ := Option.bind_eq_some_iff.mp hF
  refine q_fR d_X4_isDigit_1 f_X4_9 e1 ?_
  refine g_iloadn d_X4_isDigit_4 rfl ?_
  obtain ⟨v5, e5, hF⟩ := Option.bind_eq_some_iff.mp hF
  refine q_aC d_X4_isDigit_5 e5 ?_
  refine g_bi (48) d_X4_isDigit_6 bi_48 ?_
  refine g_icmp_lt 26 d_X4_isDigit_8 rfl (fun c8 => ?_) (fun c8 => ?_)
  · have hF := x_t hF c8
    refine g_ic (0) d_X4_isDigit_26 ic_0 ?_
    obtain ⟨rfl, rfl⟩ := x_inj hF
    exact g_zret d_X4_isDigit_27 rfl rfl hq
  · have hF := x_f hF c8
    refine g_aloadn d_X4_isDigit_11 rfl ?_
    obtain ⟨v12, e12, hF⟩ := Option.bind_eq_some_iff.mp hF
    refine q_fR d_X4_isDigit_12 f_X4_9 e12 ?_
    refine g_iloadn d_X4_isDigit_15 rfl ?_
    obtain ⟨v16, e16, hF⟩ := Option.bind_eq_some_iff.mp hF
    refine q_aC d_X4_isDigit_16 e16 ?_
    refine g_bi (57) d_X4_isDigit_17 bi_57 ?_
    refine g_icmp_gt 26 d_X4_isDigit_19 rfl (fun c19 => ?_) (fun c19 => ?_)
    · have hF := x_t hF c19
      refine g_ic (0) d_X4_isDigit_26 ic_0 ?_
      obtain ⟨rfl, rfl⟩ := x_inj hF
      exact g_zret d_X4_isDigit_27 rfl rfl hq
    · have hF := x_f hF c19
      refine g_ic (1) d_X4_isDigit_22 ic_1 ?_
      refine g_goto 27 d_X4_isDigit_23 rfl ?_
      obtain ⟨rfl, rfl⟩ := x_inj hF
      exact g_zret d_X4_isDigit_27 rfl rfl hq
theorem d_J0_isLatin1_aae02_0 : decode cJ0_isLatin1_aae02 0 = .ok (.getstatic 38, 3) := by decide +kernel
theorem d_J0_isLatin1_aae02_3 : decode cJ0_isLatin1_aae02 3 = .ok (.ifCond .eq 14, 3) := by decide +kernel
theorem d_J0_isLatin1_aae02_6 : decode cJ0_isLatin1_aae02 6 = .ok (.aload_n 0, 1) := by decide +kernel
theorem d_J0_isLatin1_aae02_7 : decode cJ0_isLatin1_aae02 7 = .ok (.getfield 15, 3) := by decide +kernel
theorem d_J0_isLatin1_aae02_10 : decode cJ0_isLatin1_aae02 10 = .ok (.ifCond .ne 7, 3) := by decide +kernel
theorem d_J0_isLatin1_aae02_13 : decode cJ0_isLatin1_aae02 13 = .ok (.iconst 1, 1) := by decide +kernel
theorem d_J0_isLatin1_aae02_14 : decode cJ0_isLatin1_aae02 14 = .ok (.goto 4, 3) := by decide +kernel
theorem d_J0_isLatin1_aae02_17 : decode cJ0_isLatin1_aae02 17 = .ok (.iconst 0, 1) := by decide +kernel
theorem d_J0_isLatin1_aae02_18 : decode cJ0_isLatin1_aae02 18 = .ok (.ireturn, 1) := by decide +kernel
def F_J0_isLatin1_aae02 (x0 : Nat) (h : xH) : Option (Int32 × xH) := if ((1 : Int32)) = 0 then some (0, h) else (fSC h x0).bind fun v7 => if ¬ v7 = 0 then some (0, h) else some (1, h)
theorem R_J0_isLatin1_aae02 {Γ : xG} {l : Launch} {d : Nat} {r : Int32} {h' : xH} (x0 : Nat) (h : xH) (hdp : 0 ≤ d) (hF : F_J0_isLatin1_aae02 x0 h = some (r, h')) : Gm Γ l d 0 0 m_J0_isLatin1_aae02 [.ref x0] h (fun a u => a = some (.int r) ∧ u = h') := by
  refine Gm.of pn_J0 (Nat.le_of_ble_eq_true rfl) ?_
  show Gd Γ l d m_J0_isLatin1_aae02 0 [.ref x0] [] h 0 0 _
  generalize hQ : (fun (a : Option Value) (u : xH) => a = some (.int r) ∧ u = h') = Q
  have hq : Q (some (.int r)) h' := by rw [← hQ]; exact ⟨rfl, rfl⟩
  clear hQ
  unfold F_J0_isLatin1_aae02 at hF
  refine g_getsC d_J0_isLatin1_aae02_0 fq_J0_38 ?_
  refine g_if_eq 17 d_J0_isLatin1_aae02_3 rfl (fun c3 => ?_) (fun c3 => ?_)
  · have hF := x_t hF c3
    refine g_ic (0) d_J0_isLatin1_aae02_17 ic_0 ?_
    obtain ⟨rfl, rfl⟩ := x_inj hF
    exact g_zret d_J0_isLatin1_aae02_18 rfl rfl hq
  · have hF := x_f hF c3
    refine g_aloadn d_J0_isLatin1_aae02_6 rfl ?_
    obtain ⟨v7, e7, hF⟩ := Option.bind_eq_some_iff.mp hF
    refine q_fSC d_J0_isLatin1_aae02_7 fq_J0_15 e7 ?_
    refine g_if_ne 17 d_J0_isLatin1_aae02_10 rfl (fun c10 => ?_) (fun c10 => ?_)
    · have hF := x_t hF c10
      refine g_ic (0) d_J0_isLatin1_aae02_17 ic_0 ?_
      obtain ⟨rfl, rfl⟩ := x_inj hF
      exact g_zret d_J0_isLatin1_aae02_18 rfl rfl hq
    · have hF := x_f hF (not_not_intro c10)
      refine g_ic (1) d_J0_isLatin1_aae02_13 ic_1 ?_
      refine g_goto 18 d_J0_isLatin1_aae02_14 rfl ?_
      obtain ⟨rfl, rfl⟩ := x_inj hF
      exact g_zret d_J0_isLatin1_aae02_18 rfl rfl hq
theorem d_J0_coder_7d493_0 : decode cJ0_coder_7d493 0 = .ok (.getstatic 38, 3) := by decide +kernel
theorem d_J0_coder_7d493_3 : decode cJ0_coder_7d493 3 = .ok (.ifCond .eq 10, 3) := by decide +kernel
theorem d_J0_coder_7d493_6 : decode cJ0_coder_7d493 6 = .ok (.aload_n 0, 1) := by decide +kernel
theorem d_J0_coder_7d493_7 : decode cJ0_coder_7d493 7 = .ok (.getfield 15, 3) := by decide +kernel
theorem d_J0_coder_7d493_10 : decode cJ0_coder_7d493 10 = .ok (.goto 4, 3) := by decide +kernel
theorem d_J0_coder_7d493_13 : decode cJ0_coder_7d493 13 = .ok (.iconst 1, 1) := by decide +kernel
theorem d_J0_coder_7d493_14 : decode cJ0_coder_7d493 14 = .ok (.ireturn, 1) := by decide +kernel
def F_J0_coder_7d493 (x0 : Nat) (h : xH) : Option (Int32 × xH) := if ((1 : Int32)) = 0 then rz .byte 1 h else (fSC h x0).bind fun v7 => rz .byte v7 h
theorem R_J0_coder_7d493 {Γ : xG} {l : Launch} {d : Nat} {r : Int32} {h' : xH} (x0 : Nat) (h : xH) (hdp : 0 ≤ d) (hF : F_J0_coder_7d493 x0 h = some (r, h')) : Gm Γ l d 0 0 m_J0_coder_7d493 [.ref x0] h (fun a u => a = some (.int r) ∧ u = h') := by
  refine Gm.of pn_J0 (Nat.le_of_ble_eq_true rfl) ?_
  show Gd Γ l d m_J0_coder_7d493 0 [.ref x0] [] h 0 0 _
  generalize hQ : (fun (a : Option Value) (u : xH) => a = some (.int r) ∧ u = h') = Q
  have hq : Q (some (.int r)) h' := by rw [← hQ]; exact ⟨rfl, rfl⟩
  clear hQ
  unfold F_J0_coder_7d493 at hF
  refine g_getsC d_J0_coder_7d493_0 fq_J0_38 ?_
  refine g_if_eq 13 d_J0_coder_7d493_3 rfl (fun c3 => ?_) (fun c3 => ?_)
  · have hF := x_t hF c3
    refine g_ic (1) d_J0_coder_7d493_13 ic_1 ?_
    exact q_rz d_J0_coder_7d493_14 rfl (Or.inr (Or.inr rfl)) hF hq
  · have hF := x_f hF c3
    refine g_aloadn d_J0_coder_7d493_6 rfl ?_
    obtain ⟨v7, e7, hF⟩ := Option.bind_eq_some_iff.mp hF
    refine q_fSC d_J0_coder_7d493_7 fq_J0_15 e7 ?_
    refine g_goto 14 d_J0_coder_7d493_10 rfl ?_
    exact q_rz d_J0_coder_7d493_14 rfl (Or.inr (Or.inr rfl)) hF hq
theorem d_J0_length_8abf5_0 : decode cJ0_length_8abf5 0 = .ok (.aload_n 0, 1) := by decide +kernel
theorem d_J0_length_8abf5_1 : decode cJ0_length_8abf5 1 = .ok (.getfield 9, 3) := by decide +kernel
theorem d_J0_length_8abf5_4 : decode cJ0_length_8abf5 4 = .ok (.arraylength, 1) := by decide +kernel
theorem d_J0_length_8abf5_5 : decode cJ0_length_8abf5 5 = .ok (.aload_n 0, 1) := by decide +kernel
theorem d_J0_length_8abf5_6 : decode cJ0_length_8abf5 6 = .ok (.invokevirtual 335, 3) := by decide +kernel
theorem d_J0_length_8abf5_9 : decode cJ0_length_8abf5 9 = .ok (.ishr, 1) := by decide +kernel
theorem d_J0_length_8abf5_10 : decode cJ0_length_8abf5 10 = .ok (.ireturn, 1) := by decide +kernel
def F_J0_length_8abf5 (x0 : Nat) (h : xH) : Option (Int32 × xH) := (fSV h x0).bind fun v1 => (al h v1).bind fun v4 => (rcS h x0).bind fun _ => (F_J0_coder_7d493 x0 h).bind fun z6 => some (v4 >>> (z6.1 &&& 31), z6.2)
theorem R_J0_length_8abf5 {Γ : xG} {l : Launch} {d : Nat} {r : Int32} {h' : xH} (x0 : Nat) (h : xH) (hdp : 1 ≤ d) (hF : F_J0_length_8abf5 x0 h = some (r, h')) : Gm Γ l d 0 0 m_J0_length_8abf5 [.ref x0] h (fun a u => a = some (.int r) ∧ u = h') := by
  refine Gm.of pn_J0 (Nat.le_of_ble_eq_true rfl) ?_
  show Gd Γ l d m_J0_length_8abf5 0 [.ref x0] [] h 0 0 _
  generalize hQ : (fun (a : Option Value) (u : xH) => a = some (.int r) ∧ u = h') = Q
  have hq : Q (some (.int r)) h' := by rw [← hQ]; exact ⟨rfl, rfl⟩
  clear hQ
  unfold F_J0_length_8abf5 at hF
  refine g_aloadn d_J0_length_8abf5_0 rfl ?_
  obtain ⟨v1, e1, hF⟩ := Option.bind_eq_some_iff.mp hF
  refine q_fSV d_J0_length_8abf5_1 fq_J0_9 e1 ?_
  obtain ⟨v4, e4, hF⟩ := Option.bind_eq_some_iff.mp hF
  refine q_al d_J0_length_8abf5_4 e4 ?_
  refine g_aloadn d_J0_length_8abf5_5 rfl ?_
  obtain ⟨_, g6, hF⟩ := Option.bind_eq_some_iff.mp hF
  obtain ⟨⟨r6, h6⟩, e6, hF⟩ := Option.bind_eq_some_iff.mp hF
  try dsimp only at hF
  refine q_callV [] [.int v4] rfl d_J0_length_8abf5_6 v_J0_335 (by omega) rfl (Nat.le_of_ble_eq_true rfl) (rcS_rc g6) (R_J0_coder_7d493 _ _ (by omega) e6) ?_
  refine g_ishr d_J0_length_8abf5_9 ?_
  obtain ⟨rfl, rfl⟩ := x_inj hF
  exact g_iret d_J0_length_8abf5_10 rfl hq
theorem d_J1_canEncode_9a6ad_0 : decode cJ1_canEncode_9a6ad 0 = .ok (.iload_n 0, 1) := by decide +kernel
theorem d_J1_canEncode_9a6ad_1 : decode cJ1_canEncode_9a6ad 1 = .ok (.ifCond .lt 14, 3) := by decide +kernel
theorem d_J1_canEncode_9a6ad_4 : decode cJ1_canEncode_9a6ad 4 = .ok (.iload_n 0, 1) := by decide +kernel
theorem d_J1_canEncode_9a6ad_5 : decode cJ1_canEncode_9a6ad 5 = .ok (.sipush 255, 3) := by decide +kernel
theorem d_J1_canEncode_9a6ad_8 : decode cJ1_canEncode_9a6ad 8 = .ok (.if_icmp .gt 7, 3) := by decide +kernel
theorem d_J1_canEncode_9a6ad_11 : decode cJ1_canEncode_9a6ad 11 = .ok (.iconst 1, 1) := by decide +kernel
theorem d_J1_canEncode_9a6ad_12 : decode cJ1_canEncode_9a6ad 12 = .ok (.goto 4, 3) := by decide +kernel
theorem d_J1_canEncode_9a6ad_15 : decode cJ1_canEncode_9a6ad 15 = .ok (.iconst 0, 1) := by decide +kernel
theorem d_J1_canEncode_9a6ad_16 : decode cJ1_canEncode_9a6ad 16 = .ok (.ireturn, 1) := by decide +kernel
def F_J1_canEncode_9a6ad (x0 : Int32) (h : xH) : Option (Int32 × xH) := if x0 < 0 then some (0, h) else if ((255 : Int32)) < x0 then some (0, h) else some (1, h)
theorem R_J1_canEncode_9a6ad {Γ : xG} {l : Launch} {d : Nat} {r : Int32} {h' : xH} (x0 : Int32) (h : xH) (hdp : 0 ≤ d) (hF : F_J1_canEncode_9a6ad x0 h = some (r, h')) : Gm Γ l d 0 0 m_J1_canEncode_9a6ad [.int x0] h (fun a u => a = some (.int r) ∧ u = h') := by
  refine Gm.of pn_J1 (Nat.le_of_ble_eq_true rfl) ?_
  show Gd Γ l d m_J1_canEncode_9a6ad 0 [.int x0] [] h 0 0 _
  generalize hQ : (fun (a : Option Value) (u : xH) => a = some (.int r) ∧ u = h') = Q
  have hq : Q (some (.int r)) h' := by rw [← hQ]; exact ⟨rfl, rfl⟩
  clear hQ
  unfold F_J1_canEncode_9a6ad at hF
  refine g_iloadn d_J1_canEncode_9a6ad_0 rfl ?_
  refine g_if_lt 15 d_J1_canEncode_9a6ad_1 rfl (fun c1 => ?_) (fun c1 => ?_)
  · have hF := x_t hF c1
    refine g_ic (0) d_J1_canEncode_9a6ad_15 ic_0 ?_
    obtain ⟨rfl, rfl⟩ := x_inj hF
    exact g_zret d_J1_canEncode_9a6ad_16 rfl rfl hq
  · have hF := x_f hF c1
    refine g_iloadn d_J1_canEncode_9a6ad_4 rfl ?_
    refine g_si (255) d_J1_canEncode_9a6ad_5 si_255 ?_
    refine g_icmp_gt 15 d_J1_canEncode_9a6ad_8 rfl (fun c8 => ?_) (fun c8 => ?_)
    · have hF := x_t hF c8
      refine g_ic (0) d_J1_canEncode_9a6ad_15 ic_0 ?_
      obtain ⟨rfl, rfl⟩ := x_inj hF
      exact g_zret d_J1_canEncode_9a6ad_16 rfl rfl hq
    · have hF := x_f hF c8
      refine g_ic (1) d_J1_canEncode_9a6ad_11 ic_1 ?_
      refine g_goto 16 d_J1_canEncode_9a6ad_12 rfl ?_
      obtain ⟨rfl, rfl⟩ := x_inj hF
      exact g_zret d_J1_canEncode_9a6ad_16 rfl rfl hq
theorem d_J1_indexOfChar_4cfef_0 : decode cJ1_indexOfChar_4cfef 0 = .ok (.iload_n 1, 1) := by decide +kernel
theorem d_J1_indexOfChar_4cfef_1 : decode cJ1_indexOfChar_4cfef 1 = .ok (.i2b, 1) := by decide +kernel
theorem d_J1_indexOfChar_4cfef_2 : decode cJ1_indexOfChar_4cfef 2 = .ok (.istore 4, 2) := by decide +kernel
theorem d_J1_indexOfChar_4cfef_4 : decode cJ1_indexOfChar_4cfef 4 = .ok (.iload_n 2, 1) := by decide +kernel
theorem d_J1_indexOfChar_4cfef_5 : decode cJ1_indexOfChar_4cfef 5 = .ok (.istore 5, 2) := by decide +kernel
theorem d_J1_indexOfChar_4cfef_7 : decode cJ1_indexOfChar_4cfef 7 = .ok (.iload 5, 2) := by decide +kernel
theorem d_J1_indexOfChar_4cfef_9 : decode cJ1_indexOfChar_4cfef 9 = .ok (.iload_n 3, 1) := by decide +kernel
theorem d_J1_indexOfChar_4cfef_10 : decode cJ1_indexOfChar_4cfef 10 = .ok (.if_icmp .ge 21, 3) := by decide +kernel
theorem d_J1_indexOfChar_4cfef_13 : decode cJ1_indexOfChar_4cfef 13 = .ok (.aload_n 0, 1) := by decide +kernel
theorem d_J1_indexOfChar_4cfef_14 : decode cJ1_indexOfChar_4cfef 14 = .ok (.iload 5, 2) := by decide +kernel
theorem d_J1_indexOfChar_4cfef_16 : decode cJ1_indexOfChar_4cfef 16 = .ok (.baload, 1) := by decide +kernel
theorem d_J1_indexOfChar_4cfef_17 : decode cJ1_indexOfChar_4cfef 17 = .ok (.iload 4, 2) := by decide +kernel
theorem d_J1_indexOfChar_4cfef_19 : decode cJ1_indexOfChar_4cfef 19 = .ok (.if_icmp .ne 6, 3) := by decide +kernel
theorem d_J1_indexOfChar_4cfef_22 : decode cJ1_indexOfChar_4cfef 22 = .ok (.iload 5, 2) := by decide +kernel
theorem d_J1_indexOfChar_4cfef_24 : decode cJ1_indexOfChar_4cfef 24 = .ok (.ireturn, 1) := by decide +kernel
theorem d_J1_indexOfChar_4cfef_25 : decode cJ1_indexOfChar_4cfef 25 = .ok (.iinc 5 1, 3) := by decide +kernel
theorem d_J1_indexOfChar_4cfef_28 : decode cJ1_indexOfChar_4cfef 28 = .ok (.goto (-21), 3) := by decide +kernel
theorem d_J1_indexOfChar_4cfef_31 : decode cJ1_indexOfChar_4cfef 31 = .ok (.iconst (-1), 1) := by decide +kernel
theorem d_J1_indexOfChar_4cfef_32 : decode cJ1_indexOfChar_4cfef 32 = .ok (.ireturn, 1) := by decide +kernel
def F_J1_indexOfChar_4cfef_b7 : Nat → Nat → Int32 → Int32 → Int32 → xH → Option (Int32 × xH)
  | 0, _, _, _, _, _ => none
  | n + 1, x0, x3, x4, x5, h => if x3 ≤ x5 then some ((-1), h) else (aB h x0 x5).bind fun v16 => if ¬ v16 = x4 then F_J1_indexOfChar_4cfef_b7 n x0 x3 x4 (x5 + 1) h else some (x5, h)
theorem R_J1_indexOfChar_4cfef_b7 {Γ : xG} {l : Launch} {d : Nat} {Q : Option Value → xH → Prop} {r : Int32} {h' : xH} (hdp : 0 ≤ d) (hq : Q (some (.int r)) h') : ∀ (n : Nat) (x0 : Nat) (x3 : Int32) (x4 : Int32) (x5 : Int32) (h : xH), F_J1_indexOfChar_4cfef_b7 n x0 x3 x4 x5 h = some (r, h') → Gd Γ l d m_J1_indexOfChar_4cfef 7 [.ref x0, xhole, xhole, .int x3, .int x4, .int x5] [] h 0 0 Q := by
  intro n
  induction n with
  | zero => intro x0 x3 x4 x5 h hF; cases hF
  | succ n ih =>
  intro x0 x3 x4 x5 h hF
  rw [F_J1_indexOfChar_4cfef_b7] at hF
  refine g_iload d_J1_indexOfChar_4cfef_7 rfl ?_
  refine g_iloadn d_J1_indexOfChar_4cfef_9 rfl ?_
  refine g_icmp_ge 31 d_J1_indexOfChar_4cfef_10 rfl (fun c10 => ?_) (fun c10 => ?_)
  · have hF := x_t hF c10
    refine g_ic (-1) d_J1_indexOfChar_4cfef_31 ic_m1 ?_
    obtain ⟨rfl, rfl⟩ := x_inj hF
    exact g_iret d_J1_indexOfChar_4cfef_32 rfl hq
  · have hF := x_f hF c10
    refine g_aloadn d_J1_indexOfChar_4cfef_13 rfl ?_
    refine g_iload d_J1_indexOfChar_4cfef_14 rfl ?_
    obtain ⟨v16, e16, hF⟩ := Option.bind_eq_some_iff.mp hF
    refine q_aB d_J1_indexOfChar_4cfef_16 e16 ?_
    refine g_iload d_J1_indexOfChar_4cfef_17 rfl ?_
    refine g_icmp_ne 25 d_J1_indexOfChar_4cfef_19 rfl (fun c19 => ?_) (fun c19 => ?_)
    · have hF := x_t hF c19
      refine q_iinc (1) [.ref x0, xhole, xhole, .int x3, .int x4, .int (x5 + 1)] d_J1_indexOfChar_4cfef_25 ic_1 rfl (by decide) rfl ?_
      refine g_goto 7 d_J1_indexOfChar_4cfef_28 rfl ?_
      exact q_to (xs_r (xs_h (xs_h (xs_r (xs_r (xs_r xs_n)))))) (ih _ _ _ _ _ hF)
    · have hF := x_f hF (not_not_intro c19)
      refine g_iload d_J1_indexOfChar_4cfef_22 rfl ?_
      obtain ⟨rfl, rfl⟩ := x_inj hF
      exact g_iret d_J1_indexOfChar_4cfef_24 rfl hq
def F_J1_indexOfChar_4cfef (x0 : Nat) (x1 : Int32) (x2 : Int32) (x3 : Int32) (h : xH) : Option (Int32 × xH) := F_J1_indexOfChar_4cfef_b7 FU x0 x3 x1.toInt8.toInt32 x2 h
theorem R_J1_indexOfChar_4cfef {Γ : xG} {l : Launch} {d : Nat} {r : Int32} {h' : xH} (x0 : Nat) (x1 : Int32) (x2 : Int32) (x3 : Int32) (h : xH) (hdp : 0 ≤ d) (hF : F_J1_indexOfChar_4cfef x0 x1 x2 x3 h = some (r, h')) : Gm Γ l d 0 0 m_J1_indexOfChar_4cfef [.ref x0, .int x1, .int x2, .int x3] h (fun a u => a = some (.int r) ∧ u = h') := by
  refine Gm.of pn_J1 (Nat.le_of_ble_eq_true rfl) ?_
  show Gd Γ l d m_J1_indexOfChar_4cfef 0 [.ref x0, .int x1, .int x2, .int x3, xhole, xhole] [] h 0 0 _
  generalize hQ : (fun (a : Option Value) (u : xH) => a = some (.int r) ∧ u = h') = Q
  have hq : Q (some (.int r)) h' := by rw [← hQ]; exact ⟨rfl, rfl⟩
  clear hQ
  unfold F_J1_indexOfChar_4cfef at hF
  refine g_iloadn d_J1_indexOfChar_4cfef_0 rfl ?_
  refine g_i2b d_J1_indexOfChar_4cfef_1 ?_
  refine q_istore [.ref x0, .int x1, .int x2, .int x3, .int (x1.toInt8.toInt32), xhole] d_J1_indexOfChar_4cfef_2 (by decide) rfl ?_
  refine g_iloadn d_J1_indexOfChar_4cfef_4 rfl ?_
  refine q_istore [.ref x0, .int x1, .int x2, .int x3, .int (x1.toInt8.toInt32), .int x2] d_J1_indexOfChar_4cfef_5 (by decide) rfl ?_
  exact q_to (xs_r (xs_h (xs_h (xs_r (xs_r (xs_r xs_n)))))) (R_J1_indexOfChar_4cfef_b7 hdp hq FU _ _ _ _ _ hF)
theorem d_J1_indexOf_4cfef_0 : decode cJ1_indexOf_4cfef 0 = .ok (.iload_n 1, 1) := by decide +kernel
theorem d_J1_indexOf_4cfef_1 : decode cJ1_indexOf_4cfef 1 = .ok (.invokestatic 88, 3) := by decide +kernel
theorem d_J1_indexOf_4cfef_4 : decode cJ1_indexOf_4cfef 4 = .ok (.ifCond .ne 5, 3) := by decide +kernel
theorem d_J1_indexOf_4cfef_7 : decode cJ1_indexOf_4cfef 7 = .ok (.iconst (-1), 1) := by decide +kernel
theorem d_J1_indexOf_4cfef_8 : decode cJ1_indexOf_4cfef 8 = .ok (.ireturn, 1) := by decide +kernel
theorem d_J1_indexOf_4cfef_9 : decode cJ1_indexOf_4cfef 9 = .ok (.iload_n 2, 1) := by decide +kernel
theorem d_J1_indexOf_4cfef_10 : decode cJ1_indexOf_4cfef 10 = .ok (.iconst 0, 1) := by decide +kernel
theorem d_J1_indexOf_4cfef_11 : decode cJ1_indexOf_4cfef 11 = .ok (.invokestatic 92, 3) := by decide +kernel
theorem d_J1_indexOf_4cfef_14 : decode cJ1_indexOf_4cfef 14 = .ok (.istore_n 2, 1) := by decide +kernel
theorem d_J1_indexOf_4cfef_15 : decode cJ1_indexOf_4cfef 15 = .ok (.iload_n 3, 1) := by decide +kernel
theorem d_J1_indexOf_4cfef_16 : decode cJ1_indexOf_4cfef 16 = .ok (.aload_n 0, 1) := by decide +kernel
theorem d_J1_indexOf_4cfef_17 : decode cJ1_indexOf_4cfef 17 = .ok (.arraylength, 1) := by decide +kernel
theorem d_J1_indexOf_4cfef_18 : decode cJ1_indexOf_4cfef 18 = .ok (.invokestatic 38, 3) := by decide +kernel
theorem d_J1_indexOf_4cfef_21 : decode cJ1_indexOf_4cfef 21 = .ok (.istore_n 3, 1) := by decide +kernel
theorem d_J1_indexOf_4cfef_22 : decode cJ1_indexOf_4cfef 22 = .ok (.iload_n 2, 1) := by decide +kernel
theorem d_J1_indexOf_4cfef_23 : decode cJ1_indexOf_4cfef 23 = .ok (.iload_n 3, 1) := by decide +kernel
theorem d_J1_indexOf_4cfef_24 : decode cJ1_indexOf_4cfef 24 = .ok (.if_icmp .lt 5, 3) := by decide +kernel
theorem d_J1_indexOf_4cfef_27 : decode cJ1_indexOf_4cfef 27 = .ok (.iconst (-1), 1) := by decide +kernel
theorem d_J1_indexOf_4cfef_28 : decode cJ1_indexOf_4cfef 28 = .ok (.ireturn, 1) := by decide +kernel
theorem d_J1_indexOf_4cfef_29 : decode cJ1_indexOf_4cfef 29 = .ok (.aload_n 0, 1) := by decide +kernel
theorem d_J1_indexOf_4cfef_30 : decode cJ1_indexOf_4cfef 30 = .ok (.iload_n 1, 1) := by decide +kernel
theorem d_J1_indexOf_4cfef_31 : decode cJ1_indexOf_4cfef 31 = .ok (.iload_n 2, 1) := by decide +kernel
theorem d_J1_indexOf_4cfef_32 : decode cJ1_indexOf_4cfef 32 = .ok (.iload_n 3, 1) := by decide +kernel
theorem d_J1_indexOf_4cfef_33 : decode cJ1_indexOf_4cfef 33 = .ok (.invokestatic 95, 3) := by decide +kernel
theorem d_J1_indexOf_4cfef_36 : decode cJ1_indexOf_4cfef 36 = .ok (.ireturn, 1) := by decide +kernel
def F_J1_indexOf_4cfef (x0 : Nat) (x1 : Int32) (x2 : Int32) (x3 : Int32) (h : xH) : Option (Int32 × xH) := (F_J1_canEncode_9a6ad x1 h).bind fun z1 => if ¬ z1.1 = 0 then (F_J9_max_7cf53 x2 0 z1.2).bind fun z11 => (al z11.2 x0).bind fun v17 => (F_J9_min_7cf53 x3 v17 z11.2).bind fun z18 => if z11.1 < z18.1 then (F_J1_indexOfChar_4cfef x0 x1 z11.1 z18.1 z18.2).bind fun z33 => some (z33.1, z33.2) else some ((-1), z18.2) else some ((-1), z1.2)
theorem R_J1_indexOf_4cfef {Γ : xG} {l : Launch} {d : Nat} {r : Int32} {h' : xH} (x0 : Nat) (x1 : Int32) (x2 : Int32) (x3 : Int32) (h : xH) (hdp : 1 ≤ d) (hF : F_J1_indexOf_4cfef x0 x1 x2 x3 h = some (r, h')) : Gm Γ l d 0 0 m_J1_indexOf_4cfef [.ref x0, .int x1, .int x2, .int x3] h (fun a u => a = some (.int r) ∧ u = h') := by
  refine Gm.of pn_J1 (Nat.le_of_ble_eq_true rfl) ?_
  show Gd Γ l d m_J1_indexOf_4cfef 0 [.ref x0, .int x1, .int x2, .int x3] [] h 0 0 _
  generalize hQ : (fun (a : Option Value) (u : xH) => a = some (.int r) ∧ u = h') = Q
  have hq : Q (some (.int r)) h' := by rw [← hQ]; exact ⟨rfl, rfl⟩
  clear hQ
  unfold F_J1_indexOf_4cfef at hF
  refine g_iloadn d_J1_indexOf_4cfef_0 rfl ?_
  obtain ⟨⟨r1, h1⟩, e1, hF⟩ := Option.bind_eq_some_iff.mp hF
  try dsimp only at hF
  refine q_callS [.int x1] [] rfl d_J1_indexOf_4cfef_1 s_J1_88 (by omega) rfl (Nat.le_of_ble_eq_true rfl) (R_J1_canEncode_9a6ad _ _ (by omega) e1) ?_
  refine g_if_ne 9 d_J1_indexOf_4cfef_4 rfl (fun c4 => ?_) (fun c4 => ?_)
  · have hF := x_t hF c4
    refine g_iloadn d_J1_indexOf_4cfef_9 rfl ?_
    refine g_ic (0) d_J1_indexOf_4cfef_10 ic_0 ?_
    obtain ⟨⟨r11, h11⟩, e11, hF⟩ := Option.bind_eq_some_iff.mp hF
    try dsimp only at hF
    refine q_callS [.int x2, .int 0] [] rfl d_J1_indexOf_4cfef_11 s_J1_92 (by omega) rfl (Nat.le_of_ble_eq_true rfl) (R_J9_max_7cf53 _ _ _ (by omega) e11) ?_
    refine q_istoren [.ref x0, .int x1, .int (r11), .int x3] d_J1_indexOf_4cfef_14 (by decide) rfl ?_
    refine g_iloadn d_J1_indexOf_4cfef_15 rfl ?_
    refine g_aloadn d_J1_indexOf_4cfef_16 rfl ?_
    obtain ⟨v17, e17, hF⟩ := Option.bind_eq_some_iff.mp hF
    refine q_al d_J1_indexOf_4cfef_17 e17 ?_
    obtain ⟨⟨r18, h18⟩, e18, hF⟩ := Option.bind_eq_some_iff.mp hF
    try dsimp only at hF
    refine q_callS [.int x3, .int v17] [] rfl d_J1_indexOf_4cfef_18 s_J1_38 (by omega) rfl (Nat.le_of_ble_eq_true rfl) (R_J9_min_7cf53 _ _ _ (by omega) e18) ?_
    refine q_istoren [.ref x0, .int x1, .int (r11), .int (r18)] d_J1_indexOf_4cfef_21 (by decide) rfl ?_
    refine g_iloadn d_J1_indexOf_4cfef_22 rfl ?_
    refine g_iloadn d_J1_indexOf_4cfef_23 rfl ?_
    refine g_icmp_lt 29 d_J1_indexOf_4cfef_24 rfl (fun c24 => ?_) (fun c24 => ?_)
    · have hF := x_t hF c24
      refine g_aloadn d_J1_indexOf_4cfef_29 rfl ?_
      refine g_iloadn d_J1_indexOf_4cfef_30 rfl ?_
      refine g_iloadn d_J1_indexOf_4cfef_31 rfl ?_
      refine g_iloadn d_J1_indexOf_4cfef_32 rfl ?_
      obtain ⟨⟨r33, h33⟩, e33, hF⟩ := Option.bind_eq_some_iff.mp hF
      try dsimp only at hF
      refine q_callS [.ref x0, .int x1, .int (r11), .int (r18)] [] rfl d_J1_indexOf_4cfef_33 s_J1_95 (by omega) rfl (Nat.le_of_ble_eq_true rfl) (R_J1_indexOfChar_4cfef _ _ _ _ _ (by omega) e33) ?_
      obtain ⟨rfl, rfl⟩ := x_inj hF
      exact g_iret d_J1_indexOf_4cfef_36 rfl hq
    · have hF := x_f hF c24
      refine g_ic (-1) d_J1_indexOf_4cfef_27 ic_m1 ?_
      obtain ⟨rfl, rfl⟩ := x_inj hF
      exact g_iret d_J1_indexOf_4cfef_28 rfl hq
  · have hF := x_f hF (not_not_intro c4)
    refine g_ic (-1) d_J1_indexOf_4cfef_7 ic_m1 ?_
    obtain ⟨rfl, rfl⟩ := x_inj hF
    exact g_iret d_J1_indexOf_4cfef_8 rfl hq
theorem d_J2_length_9d52b_0 : decode cJ2_length_9d52b 0 = .ok (.aload_n 0, 1) := by decide +kernel
theorem d_J2_length_9d52b_1 : decode cJ2_length_9d52b 1 = .ok (.arraylength, 1) := by decide +kernel
theorem d_J2_length_9d52b_2 : decode cJ2_length_9d52b 2 = .ok (.iconst 1, 1) := by decide +kernel
theorem d_J2_length_9d52b_3 : decode cJ2_length_9d52b 3 = .ok (.ishr, 1) := by decide +kernel
theorem d_J2_length_9d52b_4 : decode cJ2_length_9d52b 4 = .ok (.ireturn, 1) := by decide +kernel
def F_J2_length_9d52b (x0 : Nat) (h : xH) : Option (Int32 × xH) := (al h x0).bind fun v1 => some (v1 >>> (1 &&& 31), h)
theorem R_J2_length_9d52b {Γ : xG} {l : Launch} {d : Nat} {r : Int32} {h' : xH} (x0 : Nat) (h : xH) (hdp : 0 ≤ d) (hF : F_J2_length_9d52b x0 h = some (r, h')) : Gm Γ l d 0 0 m_J2_length_9d52b [.ref x0] h (fun a u => a = some (.int r) ∧ u = h') := by
  refine Gm.of pn_J2 (Nat.le_of_ble_eq_true rfl) ?_
  show Gd Γ l d m_J2_length_9d52b 0 [.ref x0] [] h 0 0 _
  generalize hQ : (fun (a : Option Value) (u : xH) => a = some (.int r) ∧ u = h') = Q
  have hq : Q (some (.int r)) h' := by rw [← hQ]; exact ⟨rfl, rfl⟩
  clear hQ
  unfold F_J2_length_9d52b at hF
  refine g_aloadn d_J2_length_9d52b_0 rfl ?_
  obtain ⟨v1, e1, hF⟩ := Option.bind_eq_some_iff.mp hF
  refine q_al d_J2_length_9d52b_1 e1 ?_
  refine g_ic (1) d_J2_length_9d52b_2 ic_1 ?_
  refine g_ishr d_J2_length_9d52b_3 ?_
  obtain ⟨rfl, rfl⟩ := x_inj hF
  exact g_iret d_J2_length_9d52b_4 rfl hq
theorem d_J3_checkFromToIndex_8c36e_0 : decode cJ3_checkFromToIndex_8c36e 0 = .ok (.iload_n 0, 1) := by decide +kernel
theorem d_J3_checkFromToIndex_8c36e_1 : decode cJ3_checkFromToIndex_8c36e 1 = .ok (.ifCond .lt 13, 3) := by decide +kernel
theorem d_J3_checkFromToIndex_8c36e_4 : decode cJ3_checkFromToIndex_8c36e 4 = .ok (.iload_n 0, 1) := by decide +kernel
theorem d_J3_checkFromToIndex_8c36e_5 : decode cJ3_checkFromToIndex_8c36e 5 = .ok (.iload_n 1, 1) := by decide +kernel
theorem d_J3_checkFromToIndex_8c36e_6 : decode cJ3_checkFromToIndex_8c36e 6 = .ok (.if_icmp .gt 8, 3) := by decide +kernel
theorem d_J3_checkFromToIndex_8c36e_9 : decode cJ3_checkFromToIndex_8c36e 9 = .ok (.iload_n 1, 1) := by decide +kernel
theorem d_J3_checkFromToIndex_8c36e_10 : decode cJ3_checkFromToIndex_8c36e 10 = .ok (.iload_n 2, 1) := by decide +kernel
theorem d_J3_checkFromToIndex_8c36e_11 : decode cJ3_checkFromToIndex_8c36e 11 = .ok (.if_icmp .le 11, 3) := by decide +kernel
theorem d_J3_checkFromToIndex_8c36e_14 : decode cJ3_checkFromToIndex_8c36e 14 = .ok (.aload_n 3, 1) := by decide +kernel
theorem d_J3_checkFromToIndex_8c36e_15 : decode cJ3_checkFromToIndex_8c36e 15 = .ok (.iload_n 0, 1) := by decide +kernel
theorem d_J3_checkFromToIndex_8c36e_16 : decode cJ3_checkFromToIndex_8c36e 16 = .ok (.iload_n 1, 1) := by decide +kernel
theorem d_J3_checkFromToIndex_8c36e_17 : decode cJ3_checkFromToIndex_8c36e 17 = .ok (.iload_n 2, 1) := by decide +kernel
theorem d_J3_checkFromToIndex_8c36e_22 : decode cJ3_checkFromToIndex_8c36e 22 = .ok (.iload_n 0, 1) := by decide +kernel
theorem d_J3_checkFromToIndex_8c36e_23 : decode cJ3_checkFromToIndex_8c36e 23 = .ok (.ireturn, 1) := by decide +kernel
def F_J3_checkFromToIndex_8c36e (x0 : Int32) (x1 : Int32) (x2 : Int32) (x3 : Nat) (h : xH) : Option (Int32 × xH) := if x0 < 0 then none else if x1 < x0 then none else if x1 ≤ x2 then some (x0, h) else none
theorem R_J3_checkFromToIndex_8c36e {Γ : xG} {l : Launch} {d : Nat} {r : Int32} {h' : xH} (x0 : Int32) (x1 : Int32) (x2 : Int32) (x3 : Nat) (h : xH) (hdp : 0 ≤ d) (hF : F_J3_checkFromToIndex_8c36e x0 x1 x2 x3 h = some (r, h')) : Gm Γ l d 0 0 m_J3_checkFromToIndex_8c36e [.int x0, .int x1, .int x2, .ref x3] h (fun a u => a = some (.int r) ∧ u = h') := by
  refine Gm.of pn_J3 (Nat.le_of_ble_eq_true rfl) ?_
  show Gd Γ l d m_J3_checkFromToIndex_8c36e 0 [.int x0, .int x1, .int x2, .ref x3] [] h 0 0 _
  generalize hQ : (fun (a : Option Value) (u : xH) => a = some (.int r) ∧ u = h') = Q
  have hq : Q (some (.int r)) h' := by rw [← hQ]; exact ⟨rfl, rfl⟩
  clear hQ
  unfold F_J3_checkFromToIndex_8c36e at hF
  refine g_iloadn d_J3_checkFromToIndex_8c36e_0 rfl ?_
  refine g_if_lt 14 d_J3_checkFromToIndex_8c36e_1 rfl (fun c1 => ?_) (fun c1 => ?_)
  · have hF := x_t hF c1
    refine g_aloadn d_J3_checkFromToIndex_8c36e_14 rfl ?_
    refine g_iloadn d_J3_checkFromToIndex_8c36e_15 rfl ?_
    refine g_iloadn d_J3_checkFromToIndex_8c36e_16 rfl ?_
    refine g_iloadn d_J3_checkFromToIndex_8c36e_17 rfl ?_
    cases hF
  · have hF := x_f hF c1
    refine g_iloadn d_J3_checkFromToIndex_8c36e_4 rfl ?_
    refine g_iloadn d_J3_checkFromToIndex_8c36e_5 rfl ?_
    refine g_icmp_gt 14 d_J3_checkFromToIndex_8c36e_6 rfl (fun c6 => ?_) (fun c6 => ?_)
    · have hF := x_t hF c6
      refine g_aloadn d_J3_checkFromToIndex_8c36e_14 rfl ?_
      refine g_iloadn d_J3_checkFromToIndex_8c36e_15 rfl ?_
      refine g_iloadn d_J3_checkFromToIndex_8c36e_16 rfl ?_
      refine g_iloadn d_J3_checkFromToIndex_8c36e_17 rfl ?_
      cases hF
    · have hF := x_f hF c6
      refine g_iloadn d_J3_checkFromToIndex_8c36e_9 rfl ?_
      refine g_iloadn d_J3_checkFromToIndex_8c36e_10 rfl ?_
      refine g_icmp_le 22 d_J3_checkFromToIndex_8c36e_11 rfl (fun c11 => ?_) (fun c11 => ?_)
      · have hF := x_t hF c11
        refine g_iloadn d_J3_checkFromToIndex_8c36e_22 rfl ?_
        obtain ⟨rfl, rfl⟩ := x_inj hF
        exact g_iret d_J3_checkFromToIndex_8c36e_23 rfl hq
      · have hF := x_f hF c11
        refine g_aloadn d_J3_checkFromToIndex_8c36e_14 rfl ?_
        refine g_iloadn d_J3_checkFromToIndex_8c36e_15 rfl ?_
        refine g_iloadn d_J3_checkFromToIndex_8c36e_16 rfl ?_
        refine g_iloadn d_J3_checkFromToIndex_8c36e_17 rfl ?_
        cases hF
theorem d_J0_checkBoundsBeginEnd_23922_0 : decode cJ0_checkBoundsBeginEnd_23922 0 = .ok (.iload_n 0, 1) := by decide +kernel
theorem d_J0_checkBoundsBeginEnd_23922_1 : decode cJ0_checkBoundsBeginEnd_23922 1 = .ok (.iload_n 1, 1) := by decide +kernel
theorem d_J0_checkBoundsBeginEnd_23922_2 : decode cJ0_checkBoundsBeginEnd_23922 2 = .ok (.iload_n 2, 1) := by decide +kernel
def F_J0_checkBoundsBeginEnd_23922 (x0 : Int32) (x1 : Int32) (x2 : Int32) (h : xH) : Option (Unit × xH) := none
theorem R_J0_checkBoundsBeginEnd_23922 {Γ : xG} {l : Launch} {d : Nat} {r : Unit} {h' : xH} (x0 : Int32) (x1 : Int32) (x2 : Int32) (h : xH) (hdp : 1 ≤ d) (hF : F_J0_checkBoundsBeginEnd_23922 x0 x1 x2 h = some (r, h')) : Gm Γ l d 0 0 m_J0_checkBoundsBeginEnd_23922 [.int x0, .int x1, .int x2] h (fun a u => a = none ∧ u = h') := by
  refine Gm.of pn_J0 (Nat.le_of_ble_eq_true rfl) ?_
  show Gd Γ l d m_J0_checkBoundsBeginEnd_23922 0 [.int x0, .int x1, .int x2] [] h 0 0 _
  generalize hQ : (fun (a : Option Value) (u : xH) => a = none ∧ u = h') = Q
  have hq : Q (none) h' := by rw [← hQ]; exact ⟨rfl, rfl⟩
  clear hQ
  unfold F_J0_checkBoundsBeginEnd_23922 at hF
  refine g_iloadn d_J0_checkBoundsBeginEnd_23922_0 rfl ?_
  refine g_iloadn d_J0_checkBoundsBeginEnd_23922_1 rfl ?_
  refine g_iloadn d_J0_checkBoundsBeginEnd_23922_2 rfl ?_
  cases hF
theorem d_J2_checkBoundsBeginEnd_d044e_0 : decode cJ2_checkBoundsBeginEnd_d044e 0 = .ok (.iload_n 0, 1) := by decide +kernel
theorem d_J2_checkBoundsBeginEnd_d044e_1 : decode cJ2_checkBoundsBeginEnd_d044e 1 = .ok (.iload_n 1, 1) := by decide +kernel
theorem d_J2_checkBoundsBeginEnd_d044e_2 : decode cJ2_checkBoundsBeginEnd_d044e 2 = .ok (.aload_n 2, 1) := by decide +kernel
theorem d_J2_checkBoundsBeginEnd_d044e_3 : decode cJ2_checkBoundsBeginEnd_d044e 3 = .ok (.invokestatic 48, 3) := by decide +kernel
theorem d_J2_checkBoundsBeginEnd_d044e_6 : decode cJ2_checkBoundsBeginEnd_d044e 6 = .ok (.invokestatic 241, 3) := by decide +kernel
theorem d_J2_checkBoundsBeginEnd_d044e_9 : decode cJ2_checkBoundsBeginEnd_d044e 9 = .ok (.return_, 1) := by decide +kernel
def F_J2_checkBoundsBeginEnd_d044e (x0 : Int32) (x1 : Int32) (x2 : Nat) (h : xH) : Option (Unit × xH) := (F_J2_length_9d52b x2 h).bind fun z3 => (F_J0_checkBoundsBeginEnd_23922 x0 x1 z3.1 z3.2).bind fun z6 => some ((), z6.2)
theorem R_J2_checkBoundsBeginEnd_d044e {Γ : xG} {l : Launch} {d : Nat} {r : Unit} {h' : xH} (x0 : Int32) (x1 : Int32) (x2 : Nat) (h : xH) (hdp : 2 ≤ d) (hF : F_J2_checkBoundsBeginEnd_d044e x0 x1 x2 h = some (r, h')) : Gm Γ l d 0 0 m_J2_checkBoundsBeginEnd_d044e [.int x0, .int x1, .ref x2] h (fun a u => a = none ∧ u = h') := by
  refine Gm.of pn_J2 (Nat.le_of_ble_eq_true rfl) ?_
  show Gd Γ l d m_J2_checkBoundsBeginEnd_d044e 0 [.int x0, .int x1, .ref x2] [] h 0 0 _
  generalize hQ : (fun (a : Option Value) (u : xH) => a = none ∧ u = h') = Q
  have hq : Q (none) h' := by rw [← hQ]; exact ⟨rfl, rfl⟩
  clear hQ
  unfold F_J2_checkBoundsBeginEnd_d044e at hF
  refine g_iloadn d_J2_checkBoundsBeginEnd_d044e_0 rfl ?_
  refine g_iloadn d_J2_checkBoundsBeginEnd_d044e_1 rfl ?_
  refine g_aloadn d_J2_checkBoundsBeginEnd_d044e_2 rfl ?_
  obtain ⟨⟨r3, h3⟩, e3, hF⟩ := Option.bind_eq_some_iff.mp hF
  try dsimp only at hF
  refine q_callS [.ref x2] [.int x1, .int x0] rfl d_J2_checkBoundsBeginEnd_d044e_3 s_J2_48 (by omega) rfl (Nat.le_of_ble_eq_true rfl) (R_J2_length_9d52b _ _ (by omega) e3) ?_
  obtain ⟨⟨r6, h6⟩, e6, hF⟩ := Option.bind_eq_some_iff.mp hF
  try dsimp only at hF
  refine q_callS [.int x0, .int x1, .int (r3)] [] rfl d_J2_checkBoundsBeginEnd_d044e_6 s_J2_241 (by omega) rfl (Nat.le_of_ble_eq_true rfl) (R_J0_checkBoundsBeginEnd_23922 _ _ _ _ (by omega) e6) ?_
  obtain ⟨rfl, rfl⟩ := x_inj hF
  exact g_vret d_J2_checkBoundsBeginEnd_d044e_9 rfl hq
def F_J2_getChar_3b067 (x0 : Nat) (x1 : Int32) (h : xH) : Option (Int32 × xH) := none
theorem R_J2_getChar_3b067 {Γ : xG} {l : Launch} {d : Nat} {r : Int32} {h' : xH} (x0 : Nat) (x1 : Int32) (h : xH) (hdp : 1 ≤ d) (hF : F_J2_getChar_3b067 x0 x1 h = some (r, h')) : Gm Γ l d 0 0 m_J2_getChar_3b067 [.ref x0, .int x1] h (fun a u => a = some (.int r) ∧ u = h') := by
  refine Gm.of pn_J2 (Nat.le_of_ble_eq_true rfl) ?_
  show Gd Γ l d m_J2_getChar_3b067 0 [.ref x0, .int x1] [] h 0 0 _
  generalize hQ : (fun (a : Option Value) (u : xH) => a = some (.int r) ∧ u = h') = Q
  have hq : Q (some (.int r)) h' := by rw [← hQ]; exact ⟨rfl, rfl⟩
  clear hQ
  unfold F_J2_getChar_3b067 at hF
  cases hF
theorem d_J2_indexOfCharUnsafe_4cfef_0 : decode cJ2_indexOfCharUnsafe_4cfef 0 = .ok (.iload_n 2, 1) := by decide +kernel
theorem d_J2_indexOfCharUnsafe_4cfef_1 : decode cJ2_indexOfCharUnsafe_4cfef 1 = .ok (.istore 4, 2) := by decide +kernel
theorem d_J2_indexOfCharUnsafe_4cfef_3 : decode cJ2_indexOfCharUnsafe_4cfef 3 = .ok (.iload 4, 2) := by decide +kernel
theorem d_J2_indexOfCharUnsafe_4cfef_5 : decode cJ2_indexOfCharUnsafe_4cfef 5 = .ok (.iload_n 3, 1) := by decide +kernel
theorem d_J2_indexOfCharUnsafe_4cfef_6 : decode cJ2_indexOfCharUnsafe_4cfef 6 = .ok (.if_icmp .ge 22, 3) := by decide +kernel
theorem d_J2_indexOfCharUnsafe_4cfef_9 : decode cJ2_indexOfCharUnsafe_4cfef 9 = .ok (.aload_n 0, 1) := by decide +kernel
theorem d_J2_indexOfCharUnsafe_4cfef_10 : decode cJ2_indexOfCharUnsafe_4cfef 10 = .ok (.iload 4, 2) := by decide +kernel
theorem d_J2_indexOfCharUnsafe_4cfef_12 : decode cJ2_indexOfCharUnsafe_4cfef 12 = .ok (.invokestatic 71, 3) := by decide +kernel
theorem d_J2_indexOfCharUnsafe_4cfef_15 : decode cJ2_indexOfCharUnsafe_4cfef 15 = .ok (.iload_n 1, 1) := by decide +kernel
theorem d_J2_indexOfCharUnsafe_4cfef_16 : decode cJ2_indexOfCharUnsafe_4cfef 16 = .ok (.if_icmp .ne 6, 3) := by decide +kernel
theorem d_J2_indexOfCharUnsafe_4cfef_19 : decode cJ2_indexOfCharUnsafe_4cfef 19 = .ok (.iload 4, 2) := by decide +kernel
theorem d_J2_indexOfCharUnsafe_4cfef_21 : decode cJ2_indexOfCharUnsafe_4cfef 21 = .ok (.ireturn, 1) := by decide +kernel
theorem d_J2_indexOfCharUnsafe_4cfef_22 : decode cJ2_indexOfCharUnsafe_4cfef 22 = .ok (.iinc 4 1, 3) := by decide +kernel
theorem d_J2_indexOfCharUnsafe_4cfef_25 : decode cJ2_indexOfCharUnsafe_4cfef 25 = .ok (.goto (-22), 3) := by decide +kernel
theorem d_J2_indexOfCharUnsafe_4cfef_28 : decode cJ2_indexOfCharUnsafe_4cfef 28 = .ok (.iconst (-1), 1) := by decide +kernel
theorem d_J2_indexOfCharUnsafe_4cfef_29 : decode cJ2_indexOfCharUnsafe_4cfef 29 = .ok (.ireturn, 1) := by decide +kernel
def F_J2_indexOfCharUnsafe_4cfef_b3 : Nat → Nat → Int32 → Int32 → Int32 → xH → Option (Int32 × xH)
  | 0, _, _, _, _, _ => none
  | n + 1, x0, x1, x3, x4, h => if x3 ≤ x4 then some ((-1), h) else (F_J2_getChar_3b067 x0 x4 h).bind fun z12 => if ¬ z12.1 = x1 then F_J2_indexOfCharUnsafe_4cfef_b3 n x0 x1 x3 (x4 + 1) z12.2 else some (x4, z12.2)
theorem R_J2_indexOfCharUnsafe_4cfef_b3 {Γ : xG} {l : Launch} {d : Nat} {Q : Option Value → xH → Prop} {r : Int32} {h' : xH} (hdp : 2 ≤ d) (hq : Q (some (.int r)) h') : ∀ (n : Nat) (x0 : Nat) (x1 : Int32) (x3 : Int32) (x4 : Int32) (h : xH), F_J2_indexOfCharUnsafe_4cfef_b3 n x0 x1 x3 x4 h = some (r, h') → Gd Γ l d m_J2_indexOfCharUnsafe_4cfef 3 [.ref x0, .int x1, xhole, .int x3, .int x4] [] h 0 0 Q := by
  intro n
  induction n with
  | zero => intro x0 x1 x3 x4 h hF; cases hF
  | succ n ih =>
  intro x0 x1 x3 x4 h hF
  rw [F_J2_indexOfCharUnsafe_4cfef_b3] at hF
  refine g_iload d_J2_indexOfCharUnsafe_4cfef_3 rfl ?_
  refine g_iloadn d_J2_indexOfCharUnsafe_4cfef_5 rfl ?_
  refine g_icmp_ge 28 d_J2_indexOfCharUnsafe_4cfef_6 rfl (fun c6 => ?_) (fun c6 => ?_)
  · have hF := x_t hF c6
    refine g_ic (-1) d_J2_indexOfCharUnsafe_4cfef_28 ic_m1 ?_
    obtain ⟨rfl, rfl⟩ := x_inj hF
    exact g_iret d_J2_indexOfCharUnsafe_4cfef_29 rfl hq
  · have hF := x_f hF c6
    refine g_aloadn d_J2_indexOfCharUnsafe_4cfef_9 rfl ?_
    refine g_iload d_J2_indexOfCharUnsafe_4cfef_10 rfl ?_
    obtain ⟨⟨r12, h12⟩, e12, hF⟩ := Option.bind_eq_some_iff.mp hF
    try dsimp only at hF
    refine q_callS [.ref x0, .int x4] [] rfl d_J2_indexOfCharUnsafe_4cfef_12 s_J2_71 (by omega) rfl (Nat.le_of_ble_eq_true rfl) (R_J2_getChar_3b067 _ _ _ (by omega) e12) ?_
    refine g_iloadn d_J2_indexOfCharUnsafe_4cfef_15 rfl ?_
    refine g_icmp_ne 22 d_J2_indexOfCharUnsafe_4cfef_16 rfl (fun c16 => ?_) (fun c16 => ?_)
    · have hF := x_t hF c16
      refine q_iinc (1) [.ref x0, .int x1, xhole, .int x3, .int (x4 + 1)] d_J2_indexOfCharUnsafe_4cfef_22 ic_1 rfl (by decide) rfl ?_
      refine g_goto 3 d_J2_indexOfCharUnsafe_4cfef_25 rfl ?_
      exact q_to (xs_r (xs_r (xs_h (xs_r (xs_r xs_n))))) (ih _ _ _ _ _ hF)
    · have hF := x_f hF (not_not_intro c16)
      refine g_iload d_J2_indexOfCharUnsafe_4cfef_19 rfl ?_
      obtain ⟨rfl, rfl⟩ := x_inj hF
      exact g_iret d_J2_indexOfCharUnsafe_4cfef_21 rfl hq
def F_J2_indexOfCharUnsafe_4cfef (x0 : Nat) (x1 : Int32) (x2 : Int32) (x3 : Int32) (h : xH) : Option (Int32 × xH) := F_J2_indexOfCharUnsafe_4cfef_b3 FU x0 x1 x3 x2 h
theorem R_J2_indexOfCharUnsafe_4cfef {Γ : xG} {l : Launch} {d : Nat} {r : Int32} {h' : xH} (x0 : Nat) (x1 : Int32) (x2 : Int32) (x3 : Int32) (h : xH) (hdp : 2 ≤ d) (hF : F_J2_indexOfCharUnsafe_4cfef x0 x1 x2 x3 h = some (r, h')) : Gm Γ l d 0 0 m_J2_indexOfCharUnsafe_4cfef [.ref x0, .int x1, .int x2, .int x3] h (fun a u => a = some (.int r) ∧ u = h') := by
  refine Gm.of pn_J2 (Nat.le_of_ble_eq_true rfl) ?_
  show Gd Γ l d m_J2_indexOfCharUnsafe_4cfef 0 [.ref x0, .int x1, .int x2, .int x3, xhole] [] h 0 0 _
  generalize hQ : (fun (a : Option Value) (u : xH) => a = some (.int r) ∧ u = h') = Q
  have hq : Q (some (.int r)) h' := by rw [← hQ]; exact ⟨rfl, rfl⟩
  clear hQ
  unfold F_J2_indexOfCharUnsafe_4cfef at hF
  refine g_iloadn d_J2_indexOfCharUnsafe_4cfef_0 rfl ?_
  refine q_istore [.ref x0, .int x1, .int x2, .int x3, .int x2] d_J2_indexOfCharUnsafe_4cfef_1 (by decide) rfl ?_
  exact q_to (xs_r (xs_r (xs_h (xs_r (xs_r xs_n))))) (R_J2_indexOfCharUnsafe_4cfef_b3 hdp hq FU _ _ _ _ _ hF)
theorem d_J2_indexOfChar_4cfef_0 : decode cJ2_indexOfChar_4cfef 0 = .ok (.iload_n 2, 1) := by decide +kernel
theorem d_J2_indexOfChar_4cfef_1 : decode cJ2_indexOfChar_4cfef 1 = .ok (.iload_n 3, 1) := by decide +kernel
theorem d_J2_indexOfChar_4cfef_2 : decode cJ2_indexOfChar_4cfef 2 = .ok (.aload_n 0, 1) := by decide +kernel
theorem d_J2_indexOfChar_4cfef_3 : decode cJ2_indexOfChar_4cfef 3 = .ok (.invokestatic 96, 3) := by decide +kernel
theorem d_J2_indexOfChar_4cfef_6 : decode cJ2_indexOfChar_4cfef 6 = .ok (.aload_n 0, 1) := by decide +kernel
theorem d_J2_indexOfChar_4cfef_7 : decode cJ2_indexOfChar_4cfef 7 = .ok (.iload_n 1, 1) := by decide +kernel
theorem d_J2_indexOfChar_4cfef_8 : decode cJ2_indexOfChar_4cfef 8 = .ok (.iload_n 2, 1) := by decide +kernel
theorem d_J2_indexOfChar_4cfef_9 : decode cJ2_indexOfChar_4cfef 9 = .ok (.iload_n 3, 1) := by decide +kernel
theorem d_J2_indexOfChar_4cfef_10 : decode cJ2_indexOfChar_4cfef 10 = .ok (.invokestatic 244, 3) := by decide +kernel
theorem d_J2_indexOfChar_4cfef_13 : decode cJ2_indexOfChar_4cfef 13 = .ok (.ireturn, 1) := by decide +kernel
def F_J2_indexOfChar_4cfef (x0 : Nat) (x1 : Int32) (x2 : Int32) (x3 : Int32) (h : xH) : Option (Int32 × xH) := (F_J2_checkBoundsBeginEnd_d044e x2 x3 x0 h).bind fun z3 => (F_J2_indexOfCharUnsafe_4cfef x0 x1 x2 x3 z3.2).bind fun z10 => some (z10.1, z10.2)
theorem R_J2_indexOfChar_4cfef {Γ : xG} {l : Launch} {d : Nat} {r : Int32} {h' : xH} (x0 : Nat) (x1 : Int32) (x2 : Int32) (x3 : Int32) (h : xH) (hdp : 3 ≤ d) (hF : F_J2_indexOfChar_4cfef x0 x1 x2 x3 h = some (r, h')) : Gm Γ l d 0 0 m_J2_indexOfChar_4cfef [.ref x0, .int x1, .int x2, .int x3] h (fun a u => a = some (.int r) ∧ u = h') := by
  refine Gm.of pn_J2 (Nat.le_of_ble_eq_true rfl) ?_
  show Gd Γ l d m_J2_indexOfChar_4cfef 0 [.ref x0, .int x1, .int x2, .int x3] [] h 0 0 _
  generalize hQ : (fun (a : Option Value) (u : xH) => a = some (.int r) ∧ u = h') = Q
  have hq : Q (some (.int r)) h' := by rw [← hQ]; exact ⟨rfl, rfl⟩
  clear hQ
  unfold F_J2_indexOfChar_4cfef at hF
  refine g_iloadn d_J2_indexOfChar_4cfef_0 rfl ?_
  refine g_iloadn d_J2_indexOfChar_4cfef_1 rfl ?_
  refine g_aloadn d_J2_indexOfChar_4cfef_2 rfl ?_
  obtain ⟨⟨r3, h3⟩, e3, hF⟩ := Option.bind_eq_some_iff.mp hF
  try dsimp only at hF
  refine q_callS [.int x2, .int x3, .ref x0] [] rfl d_J2_indexOfChar_4cfef_3 s_J2_96 (by omega) rfl (Nat.le_of_ble_eq_true rfl) (R_J2_checkBoundsBeginEnd_d044e _ _ _ _ (by omega) e3) ?_
  refine g_aloadn d_J2_indexOfChar_4cfef_6 rfl ?_
  refine g_iloadn d_J2_indexOfChar_4cfef_7 rfl ?_
  refine g_iloadn d_J2_indexOfChar_4cfef_8 rfl ?_
  refine g_iloadn d_J2_indexOfChar_4cfef_9 rfl ?_
  obtain ⟨⟨r10, h10⟩, e10, hF⟩ := Option.bind_eq_some_iff.mp hF
  try dsimp only at hF
  refine q_callS [.ref x0, .int x1, .int x2, .int x3] [] rfl d_J2_indexOfChar_4cfef_10 s_J2_244 (by omega) rfl (Nat.le_of_ble_eq_true rfl) (R_J2_indexOfCharUnsafe_4cfef _ _ _ _ _ (by omega) e10) ?_
  obtain ⟨rfl, rfl⟩ := x_inj hF
  exact g_iret d_J2_indexOfChar_4cfef_13 rfl hq
theorem d_J11_isValidCodePoint_9a6ad_0 : decode cJ11_isValidCodePoint_9a6ad 0 = .ok (.iload_n 0, 1) := by decide +kernel
theorem d_J11_isValidCodePoint_9a6ad_1 : decode cJ11_isValidCodePoint_9a6ad 1 = .ok (.bipush 16, 2) := by decide +kernel
theorem d_J11_isValidCodePoint_9a6ad_3 : decode cJ11_isValidCodePoint_9a6ad 3 = .ok (.iushr, 1) := by decide +kernel
theorem d_J11_isValidCodePoint_9a6ad_4 : decode cJ11_isValidCodePoint_9a6ad 4 = .ok (.istore_n 1, 1) := by decide +kernel
theorem d_J11_isValidCodePoint_9a6ad_5 : decode cJ11_isValidCodePoint_9a6ad 5 = .ok (.iload_n 1, 1) := by decide +kernel
theorem d_J11_isValidCodePoint_9a6ad_6 : decode cJ11_isValidCodePoint_9a6ad 6 = .ok (.bipush 17, 2) := by decide +kernel
theorem d_J11_isValidCodePoint_9a6ad_8 : decode cJ11_isValidCodePoint_9a6ad 8 = .ok (.if_icmp .ge 7, 3) := by decide +kernel
theorem d_J11_isValidCodePoint_9a6ad_11 : decode cJ11_isValidCodePoint_9a6ad 11 = .ok (.iconst 1, 1) := by decide +kernel
theorem d_J11_isValidCodePoint_9a6ad_12 : decode cJ11_isValidCodePoint_9a6ad 12 = .ok (.goto 4, 3) := by decide +kernel
theorem d_J11_isValidCodePoint_9a6ad_15 : decode cJ11_isValidCodePoint_9a6ad 15 = .ok (.iconst 0, 1) := by decide +kernel
theorem d_J11_isValidCodePoint_9a6ad_16 : decode cJ11_isValidCodePoint_9a6ad 16 = .ok (.ireturn, 1) := by decide +kernel
def F_J11_isValidCodePoint_9a6ad (x0 : Int32) (h : xH) : Option (Int32 × xH) := if ((17 : Int32)) ≤ (ush x0 16) then some (0, h) else some (1, h)
theorem R_J11_isValidCodePoint_9a6ad {Γ : xG} {l : Launch} {d : Nat} {r : Int32} {h' : xH} (x0 : Int32) (h : xH) (hdp : 0 ≤ d) (hF : F_J11_isValidCodePoint_9a6ad x0 h = some (r, h')) : Gm Γ l d 0 0 m_J11_isValidCodePoint_9a6ad [.int x0] h (fun a u => a = some (.int r) ∧ u = h') := by
  refine Gm.of pn_J11 (Nat.le_of_ble_eq_true rfl) ?_
  show Gd Γ l d m_J11_isValidCodePoint_9a6ad 0 [.int x0, xhole] [] h 0 0 _
  generalize hQ : (fun (a : Option Value) (u : xH) => a = some (.int r) ∧ u = h') = Q
  have hq : Q (some (.int r)) h' := by rw [← hQ]; exact ⟨rfl, rfl⟩
  clear hQ
  unfold F_J11_isValidCodePoint_9a6ad at hF
  refine g_iloadn d_J11_isValidCodePoint_9a6ad_0 rfl ?_
  refine g_bi (16) d_J11_isValidCodePoint_9a6ad_1 bi_16 ?_
  refine q_iushr d_J11_isValidCodePoint_9a6ad_3 ?_
  refine q_istoren [.int x0, .int (ush x0 16)] d_J11_isValidCodePoint_9a6ad_4 (by decide) rfl ?_
  refine g_iloadn d_J11_isValidCodePoint_9a6ad_5 rfl ?_
  refine g_bi (17) d_J11_isValidCodePoint_9a6ad_6 bi_17 ?_
  refine g_icmp_ge 15 d_J11_isValidCodePoint_9a6ad_8 rfl (fun c8 => ?_) (fun c8 => ?_)
  · have hF := x_t hF c8
    refine g_ic (0) d_J11_isValidCodePoint_9a6ad_15 ic_0 ?_
    obtain ⟨rfl, rfl⟩ := x_inj hF
    exact g_zret d_J11_isValidCodePoint_9a6ad_16 rfl rfl hq
  · have hF := x_f hF c8
    refine g_ic (1) d_J11_isValidCodePoint_9a6ad_11 ic_1 ?_
    refine g_goto 16 d_J11_isValidCodePoint_9a6ad_12 rfl ?_
    obtain ⟨rfl, rfl⟩ := x_inj hF
    exact g_zret d_J11_isValidCodePoint_9a6ad_16 rfl rfl hq
theorem d_J11_highSurrogate_5068e_0 : decode cJ11_highSurrogate_5068e 0 = .ok (.iload_n 0, 1) := by decide +kernel
theorem d_J11_highSurrogate_5068e_1 : decode cJ11_highSurrogate_5068e 1 = .ok (.bipush 10, 2) := by decide +kernel
theorem d_J11_highSurrogate_5068e_3 : decode cJ11_highSurrogate_5068e 3 = .ok (.iushr, 1) := by decide +kernel
theorem d_J11_highSurrogate_5068e_4 : decode cJ11_highSurrogate_5068e 4 = .ok (.ldc 110, 2) := by decide +kernel
theorem d_J11_highSurrogate_5068e_6 : decode cJ11_highSurrogate_5068e 6 = .ok (.iadd, 1) := by decide +kernel
theorem d_J11_highSurrogate_5068e_7 : decode cJ11_highSurrogate_5068e 7 = .ok (.i2c, 1) := by decide +kernel
theorem d_J11_highSurrogate_5068e_8 : decode cJ11_highSurrogate_5068e 8 = .ok (.ireturn, 1) := by decide +kernel
def F_J11_highSurrogate_5068e (x0 : Int32) (h : xH) : Option (Int32 × xH) := rz .char ((((ush x0 10) + 55232).toUInt32 % 65536).toInt32) h
theorem R_J11_highSurrogate_5068e {Γ : xG} {l : Launch} {d : Nat} {r : Int32} {h' : xH} (x0 : Int32) (h : xH) (hdp : 0 ≤ d) (hF : F_J11_highSurrogate_5068e x0 h = some (r, h')) : Gm Γ l d 0 0 m_J11_highSurrogate_5068e [.int x0] h (fun a u => a = some (.int r) ∧ u = h') := by
  refine Gm.of pn_J11 (Nat.le_of_ble_eq_true rfl) ?_
  show Gd Γ l d m_J11_highSurrogate_5068e 0 [.int x0] [] h 0 0 _
  generalize hQ : (fun (a : Option Value) (u : xH) => a = some (.int r) ∧ u = h') = Q
  have hq : Q (some (.int r)) h' := by rw [← hQ]; exact ⟨rfl, rfl⟩
  clear hQ
  unfold F_J11_highSurrogate_5068e at hF
  refine g_iloadn d_J11_highSurrogate_5068e_0 rfl ?_
  refine g_bi (10) d_J11_highSurrogate_5068e_1 bi_10 ?_
  refine q_iushr d_J11_highSurrogate_5068e_3 ?_
  refine g_ldc d_J11_highSurrogate_5068e_4 k_J11_110 ?_
  refine g_iadd d_J11_highSurrogate_5068e_6 ?_
  refine g_i2c d_J11_highSurrogate_5068e_7 ?_
  exact q_rz d_J11_highSurrogate_5068e_8 rfl (Or.inr (Or.inl rfl)) hF hq
theorem d_J11_lowSurrogate_5068e_0 : decode cJ11_lowSurrogate_5068e 0 = .ok (.iload_n 0, 1) := by decide +kernel
theorem d_J11_lowSurrogate_5068e_1 : decode cJ11_lowSurrogate_5068e 1 = .ok (.sipush 1023, 3) := by decide +kernel
theorem d_J11_lowSurrogate_5068e_4 : decode cJ11_lowSurrogate_5068e 4 = .ok (.iand, 1) := by decide +kernel
theorem d_J11_lowSurrogate_5068e_5 : decode cJ11_lowSurrogate_5068e 5 = .ok (.ldc 76, 2) := by decide +kernel
theorem d_J11_lowSurrogate_5068e_7 : decode cJ11_lowSurrogate_5068e 7 = .ok (.iadd, 1) := by decide +kernel
theorem d_J11_lowSurrogate_5068e_8 : decode cJ11_lowSurrogate_5068e 8 = .ok (.i2c, 1) := by decide +kernel
theorem d_J11_lowSurrogate_5068e_9 : decode cJ11_lowSurrogate_5068e 9 = .ok (.ireturn, 1) := by decide +kernel
def F_J11_lowSurrogate_5068e (x0 : Int32) (h : xH) : Option (Int32 × xH) := rz .char ((((x0 &&& 1023) + 56320).toUInt32 % 65536).toInt32) h
theorem R_J11_lowSurrogate_5068e {Γ : xG} {l : Launch} {d : Nat} {r : Int32} {h' : xH} (x0 : Int32) (h : xH) (hdp : 0 ≤ d) (hF : F_J11_lowSurrogate_5068e x0 h = some (r, h')) : Gm Γ l d 0 0 m_J11_lowSurrogate_5068e [.int x0] h (fun a u => a = some (.int r) ∧ u = h') := by
  refine Gm.of pn_J11 (Nat.le_of_ble_eq_true rfl) ?_
  show Gd Γ l d m_J11_lowSurrogate_5068e 0 [.int x0] [] h 0 0 _
  generalize hQ : (fun (a : Option Value) (u : xH) => a = some (.int r) ∧ u = h') = Q
  have hq : Q (some (.int r)) h' := by rw [← hQ]; exact ⟨rfl, rfl⟩
  clear hQ
  unfold F_J11_lowSurrogate_5068e at hF
  refine g_iloadn d_J11_lowSurrogate_5068e_0 rfl ?_
  refine g_si (1023) d_J11_lowSurrogate_5068e_1 si_1023 ?_
  refine g_iand d_J11_lowSurrogate_5068e_4 ?_
  refine g_ldc d_J11_lowSurrogate_5068e_5 k_J11_76 ?_
  refine g_iadd d_J11_lowSurrogate_5068e_7 ?_
  refine g_i2c d_J11_lowSurrogate_5068e_8 ?_
  exact q_rz d_J11_lowSurrogate_5068e_9 rfl (Or.inr (Or.inl rfl)) hF hq
theorem d_J2_indexOfSupplementary_4cfef_0 : decode cJ2_indexOfSupplementary_4cfef 0 = .ok (.iload_n 1, 1) := by decide +kernel
theorem d_J2_indexOfSupplementary_4cfef_1 : decode cJ2_indexOfSupplementary_4cfef 1 = .ok (.invokestatic 164, 3) := by decide +kernel
theorem d_J2_indexOfSupplementary_4cfef_4 : decode cJ2_indexOfSupplementary_4cfef 4 = .ok (.ifCond .eq 65, 3) := by decide +kernel
theorem d_J2_indexOfSupplementary_4cfef_7 : decode cJ2_indexOfSupplementary_4cfef 7 = .ok (.iload_n 1, 1) := by decide +kernel
theorem d_J2_indexOfSupplementary_4cfef_8 : decode cJ2_indexOfSupplementary_4cfef 8 = .ok (.invokestatic 157, 3) := by decide +kernel
theorem d_J2_indexOfSupplementary_4cfef_11 : decode cJ2_indexOfSupplementary_4cfef 11 = .ok (.istore 4, 2) := by decide +kernel
theorem d_J2_indexOfSupplementary_4cfef_13 : decode cJ2_indexOfSupplementary_4cfef 13 = .ok (.iload_n 1, 1) := by decide +kernel
theorem d_J2_indexOfSupplementary_4cfef_14 : decode cJ2_indexOfSupplementary_4cfef 14 = .ok (.invokestatic 161, 3) := by decide +kernel
theorem d_J2_indexOfSupplementary_4cfef_17 : decode cJ2_indexOfSupplementary_4cfef 17 = .ok (.istore 5, 2) := by decide +kernel
theorem d_J2_indexOfSupplementary_4cfef_19 : decode cJ2_indexOfSupplementary_4cfef 19 = .ok (.iload_n 2, 1) := by decide +kernel
theorem d_J2_indexOfSupplementary_4cfef_20 : decode cJ2_indexOfSupplementary_4cfef 20 = .ok (.iload_n 3, 1) := by decide +kernel
theorem d_J2_indexOfSupplementary_4cfef_21 : decode cJ2_indexOfSupplementary_4cfef 21 = .ok (.aload_n 0, 1) := by decide +kernel
theorem d_J2_indexOfSupplementary_4cfef_22 : decode cJ2_indexOfSupplementary_4cfef 22 = .ok (.invokestatic 96, 3) := by decide +kernel
theorem d_J2_indexOfSupplementary_4cfef_25 : decode cJ2_indexOfSupplementary_4cfef 25 = .ok (.iload_n 2, 1) := by decide +kernel
theorem d_J2_indexOfSupplementary_4cfef_26 : decode cJ2_indexOfSupplementary_4cfef 26 = .ok (.istore 6, 2) := by decide +kernel
theorem d_J2_indexOfSupplementary_4cfef_28 : decode cJ2_indexOfSupplementary_4cfef 28 = .ok (.iload 6, 2) := by decide +kernel
theorem d_J2_indexOfSupplementary_4cfef_30 : decode cJ2_indexOfSupplementary_4cfef 30 = .ok (.iload_n 3, 1) := by decide +kernel
theorem d_J2_indexOfSupplementary_4cfef_31 : decode cJ2_indexOfSupplementary_4cfef 31 = .ok (.iconst 1, 1) := by decide +kernel
theorem d_J2_indexOfSupplementary_4cfef_32 : decode cJ2_indexOfSupplementary_4cfef 32 = .ok (.isub, 1) := by decide +kernel
theorem d_J2_indexOfSupplementary_4cfef_33 : decode cJ2_indexOfSupplementary_4cfef 33 = .ok (.if_icmp .ge 36, 3) := by decide +kernel
theorem d_J2_indexOfSupplementary_4cfef_36 : decode cJ2_indexOfSupplementary_4cfef 36 = .ok (.aload_n 0, 1) := by decide +kernel
theorem d_J2_indexOfSupplementary_4cfef_37 : decode cJ2_indexOfSupplementary_4cfef 37 = .ok (.iload 6, 2) := by decide +kernel
theorem d_J2_indexOfSupplementary_4cfef_39 : decode cJ2_indexOfSupplementary_4cfef 39 = .ok (.invokestatic 71, 3) := by decide +kernel
theorem d_J2_indexOfSupplementary_4cfef_42 : decode cJ2_indexOfSupplementary_4cfef 42 = .ok (.iload 4, 2) := by decide +kernel
theorem d_J2_indexOfSupplementary_4cfef_44 : decode cJ2_indexOfSupplementary_4cfef 44 = .ok (.if_icmp .ne 19, 3) := by decide +kernel
theorem d_J2_indexOfSupplementary_4cfef_47 : decode cJ2_indexOfSupplementary_4cfef 47 = .ok (.aload_n 0, 1) := by decide +kernel
theorem d_J2_indexOfSupplementary_4cfef_48 : decode cJ2_indexOfSupplementary_4cfef 48 = .ok (.iload 6, 2) := by decide +kernel
theorem d_J2_indexOfSupplementary_4cfef_50 : decode cJ2_indexOfSupplementary_4cfef 50 = .ok (.iconst 1, 1) := by decide +kernel
theorem d_J2_indexOfSupplementary_4cfef_51 : decode cJ2_indexOfSupplementary_4cfef 51 = .ok (.iadd, 1) := by decide +kernel
theorem d_J2_indexOfSupplementary_4cfef_52 : decode cJ2_indexOfSupplementary_4cfef 52 = .ok (.invokestatic 71, 3) := by decide +kernel
theorem d_J2_indexOfSupplementary_4cfef_55 : decode cJ2_indexOfSupplementary_4cfef 55 = .ok (.iload 5, 2) := by decide +kernel
theorem d_J2_indexOfSupplementary_4cfef_57 : decode cJ2_indexOfSupplementary_4cfef 57 = .ok (.if_icmp .ne 6, 3) := by decide +kernel
theorem d_J2_indexOfSupplementary_4cfef_60 : decode cJ2_indexOfSupplementary_4cfef 60 = .ok (.iload 6, 2) := by decide +kernel
theorem d_J2_indexOfSupplementary_4cfef_62 : decode cJ2_indexOfSupplementary_4cfef 62 = .ok (.ireturn, 1) := by decide +kernel
theorem d_J2_indexOfSupplementary_4cfef_63 : decode cJ2_indexOfSupplementary_4cfef 63 = .ok (.iinc 6 1, 3) := by decide +kernel
theorem d_J2_indexOfSupplementary_4cfef_66 : decode cJ2_indexOfSupplementary_4cfef 66 = .ok (.goto (-38), 3) := by decide +kernel
theorem d_J2_indexOfSupplementary_4cfef_69 : decode cJ2_indexOfSupplementary_4cfef 69 = .ok (.iconst (-1), 1) := by decide +kernel
theorem d_J2_indexOfSupplementary_4cfef_70 : decode cJ2_indexOfSupplementary_4cfef 70 = .ok (.ireturn, 1) := by decide +kernel
def F_J2_indexOfSupplementary_4cfef_b28 : Nat → Nat → Int32 → Int32 → Int32 → Int32 → xH → Option (Int32 × xH)
  | 0, _, _, _, _, _, _ => none
  | n + 1, x0, x3, x4, x5, x6, h => if (x3 - 1) ≤ x6 then some ((-1), h) else (F_J2_getChar_3b067 x0 x6 h).bind fun z39 => if ¬ z39.1 = x4 then F_J2_indexOfSupplementary_4cfef_b28 n x0 x3 x4 x5 (x6 + 1) z39.2 else (F_J2_getChar_3b067 x0 (x6 + 1) z39.2).bind fun z52 => if ¬ z52.1 = x5 then F_J2_indexOfSupplementary_4cfef_b28 n x0 x3 x4 x5 (x6 + 1) z52.2 else some (x6, z52.2)
theorem R_J2_indexOfSupplementary_4cfef_b28 {Γ : xG} {l : Launch} {d : Nat} {Q : Option Value → xH → Prop} {r : Int32} {h' : xH} (hdp : 3 ≤ d) (hq : Q (some (.int r)) h') : ∀ (n : Nat) (x0 : Nat) (x3 : Int32) (x4 : Int32) (x5 : Int32) (x6 : Int32) (h : xH), F_J2_indexOfSupplementary_4cfef_b28 n x0 x3 x4 x5 x6 h = some (r, h') → Gd Γ l d m_J2_indexOfSupplementary_4cfef 28 [.ref x0, xhole, xhole, .int x3, .int x4, .int x5, .int x6] [] h 0 0 Q := by
  intro n
  induction n with
  | zero => intro x0 x3 x4 x5 x6 h hF; cases hF
  | succ n ih =>
  intro x0 x3 x4 x5 x6 h hF
  rw [F_J2_indexOfSupplementary_4cfef_b28] at hF
  refine g_iload d_J2_indexOfSupplementary_4cfef_28 rfl ?_
  refine g_iloadn d_J2_indexOfSupplementary_4cfef_30 rfl ?_
  refine g_ic (1) d_J2_indexOfSupplementary_4cfef_31 ic_1 ?_
  refine g_isub d_J2_indexOfSupplementary_4cfef_32 ?_
  refine g_icmp_ge 69 d_J2_indexOfSupplementary_4cfef_33 rfl (fun c33 => ?_) (fun c33 => ?_)
  · have hF := x_t hF c33
    refine g_ic (-1) d_J2_indexOfSupplementary_4cfef_69 ic_m1 ?_
    obtain ⟨rfl, rfl⟩ := x_inj hF
    exact g_iret d_J2_indexOfSupplementary_4cfef_70 rfl hq
  · have hF := x_f hF c33
    refine g_aloadn d_J2_indexOfSupplementary_4cfef_36 rfl ?_
    refine g_iload d_J2_indexOfSupplementary_4cfef_37 rfl ?_
    obtain ⟨⟨r39, h39⟩, e39, hF⟩ := Option.bind_eq_some_iff.mp hF
    try dsimp only at hF
    refine q_callS [.ref x0, .int x6] [] rfl d_J2_indexOfSupplementary_4cfef_39 s_J2_71 (by omega) rfl (Nat.le_of_ble_eq_true rfl) (R_J2_getChar_3b067 _ _ _ (by omega) e39) ?_
    refine g_iload d_J2_indexOfSupplementary_4cfef_42 rfl ?_
    refine g_icmp_ne 63 d_J2_indexOfSupplementary_4cfef_44 rfl (fun c44 => ?_) (fun c44 => ?_)
    · have hF := x_t hF c44
      refine q_iinc (1) [.ref x0, xhole, xhole, .int x3, .int x4, .int x5, .int (x6 + 1)] d_J2_indexOfSupplementary_4cfef_63 ic_1 rfl (by decide) rfl ?_
      refine g_goto 28 d_J2_indexOfSupplementary_4cfef_66 rfl ?_
      exact q_to (xs_r (xs_h (xs_h (xs_r (xs_r (xs_r (xs_r xs_n))))))) (ih _ _ _ _ _ _ hF)
    · have hF := x_f hF (not_not_intro c44)
      refine g_aloadn d_J2_indexOfSupplementary_4cfef_47 rfl ?_
      refine g_iload d_J2_indexOfSupplementary_4cfef_48 rfl ?_
      refine g_ic (1) d_J2_indexOfSupplementary_4cfef_50 ic_1 ?_
      refine g_iadd d_J2_indexOfSupplementary_4cfef_51 ?_
      obtain ⟨⟨r52, h52⟩, e52, hF⟩ := Option.bind_eq_some_iff.mp hF
      try dsimp only at hF
      refine q_callS [.ref x0, .int (x6 + 1)] [] rfl d_J2_indexOfSupplementary_4cfef_52 s_J2_71 (by omega) rfl (Nat.le_of_ble_eq_true rfl) (R_J2_getChar_3b067 _ _ _ (by omega) e52) ?_
      refine g_iload d_J2_indexOfSupplementary_4cfef_55 rfl ?_
      refine g_icmp_ne 63 d_J2_indexOfSupplementary_4cfef_57 rfl (fun c57 => ?_) (fun c57 => ?_)
      · have hF := x_t hF c57
        refine q_iinc (1) [.ref x0, xhole, xhole, .int x3, .int x4, .int x5, .int (x6 + 1)] d_J2_indexOfSupplementary_4cfef_63 ic_1 rfl (by decide) rfl ?_
        refine g_goto 28 d_J2_indexOfSupplementary_4cfef_66 rfl ?_
        exact q_to (xs_r (xs_h (xs_h (xs_r (xs_r (xs_r (xs_r xs_n))))))) (ih _ _ _ _ _ _ hF)
      · have hF := x_f hF (not_not_intro c57)
        refine g_iload d_J2_indexOfSupplementary_4cfef_60 rfl ?_
        obtain ⟨rfl, rfl⟩ := x_inj hF
        exact g_iret d_J2_indexOfSupplementary_4cfef_62 rfl hq
def F_J2_indexOfSupplementary_4cfef (x0 : Nat) (x1 : Int32) (x2 : Int32) (x3 : Int32) (h : xH) : Option (Int32 × xH) := (F_J11_isValidCodePoint_9a6ad x1 h).bind fun z1 => if z1.1 = 0 then some ((-1), z1.2) else (F_J11_highSurrogate_5068e x1 z1.2).bind fun z8 => (F_J11_lowSurrogate_5068e x1 z8.2).bind fun z14 => (F_J2_checkBoundsBeginEnd_d044e x2 x3 x0 z14.2).bind fun z22 => F_J2_indexOfSupplementary_4cfef_b28 FU x0 x3 z8.1 z14.1 x2 z22.2
theorem R_J2_indexOfSupplementary_4cfef {Γ : xG} {l : Launch} {d : Nat} {r : Int32} {h' : xH} (x0 : Nat) (x1 : Int32) (x2 : Int32) (x3 : Int32) (h : xH) (hdp : 3 ≤ d) (hF : F_J2_indexOfSupplementary_4cfef x0 x1 x2 x3 h = some (r, h')) : Gm Γ l d 0 0 m_J2_indexOfSupplementary_4cfef [.ref x0, .int x1, .int x2, .int x3] h (fun a u => a = some (.int r) ∧ u = h') := by
  refine Gm.of pn_J2 (Nat.le_of_ble_eq_true rfl) ?_
  show Gd Γ l d m_J2_indexOfSupplementary_4cfef 0 [.ref x0, .int x1, .int x2, .int x3, xhole, xhole, xhole] [] h 0 0 _
  generalize hQ : (fun (a : Option Value) (u : xH) => a = some (.int r) ∧ u = h') = Q
  have hq : Q (some (.int r)) h' := by rw [← hQ]; exact ⟨rfl, rfl⟩
  clear hQ
  unfold F_J2_indexOfSupplementary_4cfef at hF
  refine g_iloadn d_J2_indexOfSupplementary_4cfef_0 rfl ?_
  obtain ⟨⟨r1, h1⟩, e1, hF⟩ := Option.bind_eq_some_iff.mp hF
  try dsimp only at hF
  refine q_callS [.int x1] [] rfl d_J2_indexOfSupplementary_4cfef_1 s_J2_164 (by omega) rfl (Nat.le_of_ble_eq_true rfl) (R_J11_isValidCodePoint_9a6ad _ _ (by omega) e1) ?_
  refine g_if_eq 69 d_J2_indexOfSupplementary_4cfef_4 rfl (fun c4 => ?_) (fun c4 => ?_)
  · have hF := x_t hF c4
    refine g_ic (-1) d_J2_indexOfSupplementary_4cfef_69 ic_m1 ?_
    obtain ⟨rfl, rfl⟩ := x_inj hF
    exact g_iret d_J2_indexOfSupplementary_4cfef_70 rfl hq
  · have hF := x_f hF c4
    refine g_iloadn d_J2_indexOfSupplementary_4cfef_7 rfl ?_
    obtain ⟨⟨r8, h8⟩, e8, hF⟩ := Option.bind_eq_some_iff.mp hF
    try dsimp only at hF
    refine q_callS [.int x1] [] rfl d_J2_indexOfSupplementary_4cfef_8 s_J2_157 (by omega) rfl (Nat.le_of_ble_eq_true rfl) (R_J11_highSurrogate_5068e _ _ (by omega) e8) ?_
    refine q_istore [.ref x0, .int x1, .int x2, .int x3, .int (r8), xhole, xhole] d_J2_indexOfSupplementary_4cfef_11 (by decide) rfl ?_
    refine g_iloadn d_J2_indexOfSupplementary_4cfef_13 rfl ?_
    obtain ⟨⟨r14, h14⟩, e14, hF⟩ := Option.bind_eq_some_iff.mp hF
    try dsimp only at hF
    refine q_callS [.int x1] [] rfl d_J2_indexOfSupplementary_4cfef_14 s_J2_161 (by omega) rfl (Nat.le_of_ble_eq_true rfl) (R_J11_lowSurrogate_5068e _ _ (by omega) e14) ?_
    refine q_istore [.ref x0, .int x1, .int x2, .int x3, .int (r8), .int (r14), xhole] d_J2_indexOfSupplementary_4cfef_17 (by decide) rfl ?_
    refine g_iloadn d_J2_indexOfSupplementary_4cfef_19 rfl ?_
    refine g_iloadn d_J2_indexOfSupplementary_4cfef_20 rfl ?_
    refine g_aloadn d_J2_indexOfSupplementary_4cfef_21 rfl ?_
    obtain ⟨⟨r22, h22⟩, e22, hF⟩ := Option.bind_eq_some_iff.mp hF
    try dsimp only at hF
    refine q_callS [.int x2, .int x3, .ref x0] [] rfl d_J2_indexOfSupplementary_4cfef_22 s_J2_96 (by omega) rfl (Nat.le_of_ble_eq_true rfl) (R_J2_checkBoundsBeginEnd_d044e _ _ _ _ (by omega) e22) ?_
    refine g_iloadn d_J2_indexOfSupplementary_4cfef_25 rfl ?_
    refine q_istore [.ref x0, .int x1, .int x2, .int x3, .int (r8), .int (r14), .int x2] d_J2_indexOfSupplementary_4cfef_26 (by decide) rfl ?_
    exact q_to (xs_r (xs_h (xs_h (xs_r (xs_r (xs_r (xs_r xs_n))))))) (R_J2_indexOfSupplementary_4cfef_b28 hdp hq FU _ _ _ _ _ _ hF)
theorem d_J2_indexOf_4cfef_0 : decode cJ2_indexOf_4cfef 0 = .ok (.iload_n 2, 1) := by decide +kernel
theorem d_J2_indexOf_4cfef_1 : decode cJ2_indexOf_4cfef 1 = .ok (.iconst 0, 1) := by decide +kernel
theorem d_J2_indexOf_4cfef_2 : decode cJ2_indexOf_4cfef 2 = .ok (.invokestatic 224, 3) := by decide +kernel
theorem d_J2_indexOf_4cfef_5 : decode cJ2_indexOf_4cfef 5 = .ok (.istore_n 2, 1) := by decide +kernel
theorem d_J2_indexOf_4cfef_6 : decode cJ2_indexOf_4cfef 6 = .ok (.iload_n 3, 1) := by decide +kernel
theorem d_J2_indexOf_4cfef_7 : decode cJ2_indexOf_4cfef 7 = .ok (.aload_n 0, 1) := by decide +kernel
theorem d_J2_indexOf_4cfef_8 : decode cJ2_indexOf_4cfef 8 = .ok (.arraylength, 1) := by decide +kernel
theorem d_J2_indexOf_4cfef_9 : decode cJ2_indexOf_4cfef 9 = .ok (.iconst 1, 1) := by decide +kernel
theorem d_J2_indexOf_4cfef_10 : decode cJ2_indexOf_4cfef 10 = .ok (.ishr, 1) := by decide +kernel
theorem d_J2_indexOf_4cfef_11 : decode cJ2_indexOf_4cfef 11 = .ok (.invokestatic 183, 3) := by decide +kernel
theorem d_J2_indexOf_4cfef_14 : decode cJ2_indexOf_4cfef 14 = .ok (.istore_n 3, 1) := by decide +kernel
theorem d_J2_indexOf_4cfef_15 : decode cJ2_indexOf_4cfef 15 = .ok (.iload_n 2, 1) := by decide +kernel
theorem d_J2_indexOf_4cfef_16 : decode cJ2_indexOf_4cfef 16 = .ok (.iload_n 3, 1) := by decide +kernel
theorem d_J2_indexOf_4cfef_17 : decode cJ2_indexOf_4cfef 17 = .ok (.if_icmp .lt 5, 3) := by decide +kernel
theorem d_J2_indexOf_4cfef_20 : decode cJ2_indexOf_4cfef 20 = .ok (.iconst (-1), 1) := by decide +kernel
theorem d_J2_indexOf_4cfef_21 : decode cJ2_indexOf_4cfef 21 = .ok (.ireturn, 1) := by decide +kernel
theorem d_J2_indexOf_4cfef_22 : decode cJ2_indexOf_4cfef 22 = .ok (.iload_n 1, 1) := by decide +kernel
theorem d_J2_indexOf_4cfef_23 : decode cJ2_indexOf_4cfef 23 = .ok (.ldc 227, 2) := by decide +kernel
theorem d_J2_indexOf_4cfef_25 : decode cJ2_indexOf_4cfef 25 = .ok (.if_icmp .ge 11, 3) := by decide +kernel
theorem d_J2_indexOf_4cfef_28 : decode cJ2_indexOf_4cfef 28 = .ok (.aload_n 0, 1) := by decide +kernel
theorem d_J2_indexOf_4cfef_29 : decode cJ2_indexOf_4cfef 29 = .ok (.iload_n 1, 1) := by decide +kernel
theorem d_J2_indexOf_4cfef_30 : decode cJ2_indexOf_4cfef 30 = .ok (.iload_n 2, 1) := by decide +kernel
theorem d_J2_indexOf_4cfef_31 : decode cJ2_indexOf_4cfef 31 = .ok (.iload_n 3, 1) := by decide +kernel
theorem d_J2_indexOf_4cfef_32 : decode cJ2_indexOf_4cfef 32 = .ok (.invokestatic 228, 3) := by decide +kernel
theorem d_J2_indexOf_4cfef_35 : decode cJ2_indexOf_4cfef 35 = .ok (.ireturn, 1) := by decide +kernel
theorem d_J2_indexOf_4cfef_36 : decode cJ2_indexOf_4cfef 36 = .ok (.aload_n 0, 1) := by decide +kernel
theorem d_J2_indexOf_4cfef_37 : decode cJ2_indexOf_4cfef 37 = .ok (.iload_n 1, 1) := by decide +kernel
theorem d_J2_indexOf_4cfef_38 : decode cJ2_indexOf_4cfef 38 = .ok (.iload_n 2, 1) := by decide +kernel
theorem d_J2_indexOf_4cfef_39 : decode cJ2_indexOf_4cfef 39 = .ok (.iload_n 3, 1) := by decide +kernel
theorem d_J2_indexOf_4cfef_40 : decode cJ2_indexOf_4cfef 40 = .ok (.invokestatic 232, 3) := by decide +kernel
theorem d_J2_indexOf_4cfef_43 : decode cJ2_indexOf_4cfef 43 = .ok (.ireturn, 1) := by decide +kernel
def F_J2_indexOf_4cfef (x0 : Nat) (x1 : Int32) (x2 : Int32) (x3 : Int32) (h : xH) : Option (Int32 × xH) := (F_J9_max_7cf53 x2 0 h).bind fun z2 => (al z2.2 x0).bind fun v8 => (F_J9_min_7cf53 x3 (v8 >>> (1 &&& 31)) z2.2).bind fun z11 => if z2.1 < z11.1 then if ((65536 : Int32)) ≤ x1 then (F_J2_indexOfSupplementary_4cfef x0 x1 z2.1 z11.1 z11.2).bind fun z40 => some (z40.1, z40.2) else (F_J2_indexOfChar_4cfef x0 x1 z2.1 z11.1 z11.2).bind fun z32 => some (z32.1, z32.2) else some ((-1), z11.2)
theorem R_J2_indexOf_4cfef {Γ : xG} {l : Launch} {d : Nat} {r : Int32} {h' : xH} (x0 : Nat) (x1 : Int32) (x2 : Int32) (x3 : Int32) (h : xH) (hdp : 4 ≤ d) (hF : F_J2_indexOf_4cfef x0 x1 x2 x3 h = some (r, h')) : Gm Γ l d 0 0 m_J2_indexOf_4cfef [.ref x0, .int x1, .int x2, .int x3] h (fun a u => a = some (.int r) ∧ u = h') := by
  refine Gm.of pn_J2 (Nat.le_of_ble_eq_true rfl) ?_
  show Gd Γ l d m_J2_indexOf_4cfef 0 [.ref x0, .int x1, .int x2, .int x3] [] h 0 0 _
  generalize hQ : (fun (a : Option Value) (u : xH) => a = some (.int r) ∧ u = h') = Q
  have hq : Q (some (.int r)) h' := by rw [← hQ]; exact ⟨rfl, rfl⟩
  clear hQ
  unfold F_J2_indexOf_4cfef at hF
  refine g_iloadn d_J2_indexOf_4cfef_0 rfl ?_
  refine g_ic (0) d_J2_indexOf_4cfef_1 ic_0 ?_
  obtain ⟨⟨r2, h2⟩, e2, hF⟩ := Option.bind_eq_some_iff.mp hF
  try dsimp only at hF
  refine q_callS [.int x2, .int 0] [] rfl d_J2_indexOf_4cfef_2 s_J2_224 (by omega) rfl (Nat.le_of_ble_eq_true rfl) (R_J9_max_7cf53 _ _ _ (by omega) e2) ?_
  refine q_istoren [.ref x0, .int x1, .int (r2), .int x3] d_J2_indexOf_4cfef_5 (by decide) rfl ?_
  refine g_iloadn d_J2_indexOf_4cfef_6 rfl ?_
  refine g_aloadn d_J2_indexOf_4cfef_7 rfl ?_
  obtain ⟨v8, e8, hF⟩ := Option.bind_eq_some_iff.mp hF
  refine q_al d_J2_indexOf_4cfef_8 e8 ?_
  refine g_ic (1) d_J2_indexOf_4cfef_9 ic_1 ?_
  refine g_ishr d_J2_indexOf_4cfef_10 ?_
  obtain ⟨⟨r11, h11⟩, e11, hF⟩ := Option.bind_eq_some_iff.mp hF
  try dsimp only at hF
  refine q_callS [.int x3, .int (v8 >>> (1 &&& 31))] [] rfl d_J2_indexOf_4cfef_11 s_J2_183 (by omega) rfl (Nat.le_of_ble_eq_true rfl) (R_J9_min_7cf53 _ _ _ (by omega) e11) ?_
  refine q_istoren [.ref x0, .int x1, .int (r2), .int (r11)] d_J2_indexOf_4cfef_14 (by decide) rfl ?_
  refine g_iloadn d_J2_indexOf_4cfef_15 rfl ?_
  refine g_iloadn d_J2_indexOf_4cfef_16 rfl ?_
  refine g_icmp_lt 22 d_J2_indexOf_4cfef_17 rfl (fun c17 => ?_) (fun c17 => ?_)
  · have hF := x_t hF c17
    refine g_iloadn d_J2_indexOf_4cfef_22 rfl ?_
    refine g_ldc d_J2_indexOf_4cfef_23 k_J2_227 ?_
    refine g_icmp_ge 36 d_J2_indexOf_4cfef_25 rfl (fun c25 => ?_) (fun c25 => ?_)
    · have hF := x_t hF c25
      refine g_aloadn d_J2_indexOf_4cfef_36 rfl ?_
      refine g_iloadn d_J2_indexOf_4cfef_37 rfl ?_
      refine g_iloadn d_J2_indexOf_4cfef_38 rfl ?_
      refine g_iloadn d_J2_indexOf_4cfef_39 rfl ?_
      obtain ⟨⟨r40, h40⟩, e40, hF⟩ := Option.bind_eq_some_iff.mp hF
      try dsimp only at hF
      refine q_callS [.ref x0, .int x1, .int (r2), .int (r11)] [] rfl d_J2_indexOf_4cfef_40 s_J2_232 (by omega) rfl (Nat.le_of_ble_eq_true rfl) (R_J2_indexOfSupplementary_4cfef _ _ _ _ _ (by omega) e40) ?_
      obtain ⟨rfl, rfl⟩ := x_inj hF
      exact g_iret d_J2_indexOf_4cfef_43 rfl hq
    · have hF := x_f hF c25
      refine g_aloadn d_J2_indexOf_4cfef_28 rfl ?_
      refine g_iloadn d_J2_indexOf_4cfef_29 rfl ?_
      refine g_iloadn d_J2_indexOf_4cfef_30 rfl ?_
      refine g_iloadn d_J2_indexOf_4cfef_31 rfl ?_
      obtain ⟨⟨r32, h32⟩, e32, hF⟩ := Option.bind_eq_some_iff.mp hF
      try dsimp only at hF
      refine q_callS [.ref x0, .int x1, .int (r2), .int (r11)] [] rfl d_J2_indexOf_4cfef_32 s_J2_228 (by omega) rfl (Nat.le_of_ble_eq_true rfl) (R_J2_indexOfChar_4cfef _ _ _ _ _ (by omega) e32) ?_
      obtain ⟨rfl, rfl⟩ := x_inj hF
      exact g_iret d_J2_indexOf_4cfef_35 rfl hq
  · have hF := x_f hF c17
    refine g_ic (-1) d_J2_indexOf_4cfef_20 ic_m1 ?_
    obtain ⟨rfl, rfl⟩ := x_inj hF
    exact g_iret d_J2_indexOf_4cfef_21 rfl hq
theorem d_J0_indexOf_7cf53_0 : decode cJ0_indexOf_7cf53 0 = .ok (.aload_n 0, 1) := by decide +kernel
theorem d_J0_indexOf_7cf53_1 : decode cJ0_indexOf_7cf53 1 = .ok (.invokevirtual 492, 3) := by decide +kernel
theorem d_J0_indexOf_7cf53_4 : decode cJ0_indexOf_7cf53 4 = .ok (.ifCond .eq 19, 3) := by decide +kernel
theorem d_J0_indexOf_7cf53_7 : decode cJ0_indexOf_7cf53 7 = .ok (.aload_n 0, 1) := by decide +kernel
theorem d_J0_indexOf_7cf53_8 : decode cJ0_indexOf_7cf53 8 = .ok (.getfield 9, 3) := by decide +kernel
theorem d_J0_indexOf_7cf53_11 : decode cJ0_indexOf_7cf53 11 = .ok (.iload_n 1, 1) := by decide +kernel
theorem d_J0_indexOf_7cf53_12 : decode cJ0_indexOf_7cf53 12 = .ok (.iload_n 2, 1) := by decide +kernel
theorem d_J0_indexOf_7cf53_13 : decode cJ0_indexOf_7cf53 13 = .ok (.aload_n 0, 1) := by decide +kernel
theorem d_J0_indexOf_7cf53_14 : decode cJ0_indexOf_7cf53 14 = .ok (.invokevirtual 505, 3) := by decide +kernel
theorem d_J0_indexOf_7cf53_17 : decode cJ0_indexOf_7cf53 17 = .ok (.invokestatic 637, 3) := by decide +kernel
theorem d_J0_indexOf_7cf53_20 : decode cJ0_indexOf_7cf53 20 = .ok (.goto 16, 3) := by decide +kernel
theorem d_J0_indexOf_7cf53_23 : decode cJ0_indexOf_7cf53 23 = .ok (.aload_n 0, 1) := by decide +kernel
theorem d_J0_indexOf_7cf53_24 : decode cJ0_indexOf_7cf53 24 = .ok (.getfield 9, 3) := by decide +kernel
theorem d_J0_indexOf_7cf53_27 : decode cJ0_indexOf_7cf53 27 = .ok (.iload_n 1, 1) := by decide +kernel
theorem d_J0_indexOf_7cf53_28 : decode cJ0_indexOf_7cf53 28 = .ok (.iload_n 2, 1) := by decide +kernel
theorem d_J0_indexOf_7cf53_29 : decode cJ0_indexOf_7cf53 29 = .ok (.aload_n 0, 1) := by decide +kernel
theorem d_J0_indexOf_7cf53_30 : decode cJ0_indexOf_7cf53 30 = .ok (.invokevirtual 505, 3) := by decide +kernel
theorem d_J0_indexOf_7cf53_33 : decode cJ0_indexOf_7cf53 33 = .ok (.invokestatic 640, 3) := by decide +kernel
theorem d_J0_indexOf_7cf53_36 : decode cJ0_indexOf_7cf53 36 = .ok (.ireturn, 1) := by decide +kernel
def F_J0_indexOf_7cf53 (x0 : Nat) (x1 : Int32) (x2 : Int32) (h : xH) : Option (Int32 × xH) := (rcS h x0).bind fun _ => (F_J0_isLatin1_aae02 x0 h).bind fun z1 => if z1.1 = 0 then (fSV z1.2 x0).bind fun v24 => (rcS z1.2 x0).bind fun _ => (F_J0_length_8abf5 x0 z1.2).bind fun z30 => (F_J2_indexOf_4cfef v24 x1 x2 z30.1 z30.2).bind fun z33 => some (z33.1, z33.2) else (fSV z1.2 x0).bind fun v8 => (rcS z1.2 x0).bind fun _ => (F_J0_length_8abf5 x0 z1.2).bind fun z14 => (F_J1_indexOf_4cfef v8 x1 x2 z14.1 z14.2).bind fun z17 => some (z17.1, z17.2)
theorem R_J0_indexOf_7cf53 {Γ : xG} {l : Launch} {d : Nat} {r : Int32} {h' : xH} (x0 : Nat) (x1 : Int32) (x2 : Int32) (h : xH) (hdp : 5 ≤ d) (hF : F_J0_indexOf_7cf53 x0 x1 x2 h = some (r, h')) : Gm Γ l d 0 0 m_J0_indexOf_7cf53 [.ref x0, .int x1, .int x2] h (fun a u => a = some (.int r) ∧ u = h') := by
  refine Gm.of pn_J0 (Nat.le_of_ble_eq_true rfl) ?_
  show Gd Γ l d m_J0_indexOf_7cf53 0 [.ref x0, .int x1, .int x2] [] h 0 0 _
  generalize hQ : (fun (a : Option Value) (u : xH) => a = some (.int r) ∧ u = h') = Q
  have hq : Q (some (.int r)) h' := by rw [← hQ]; exact ⟨rfl, rfl⟩
  clear hQ
  unfold F_J0_indexOf_7cf53 at hF
  refine g_aloadn d_J0_indexOf_7cf53_0 rfl ?_
  obtain ⟨_, g1, hF⟩ := Option.bind_eq_some_iff.mp hF
  obtain ⟨⟨r1, h1⟩, e1, hF⟩ := Option.bind_eq_some_iff.mp hF
  try dsimp only at hF
  refine q_callV [] [] rfl d_J0_indexOf_7cf53_1 v_J0_492 (by omega) rfl (Nat.le_of_ble_eq_true rfl) (rcS_rc g1) (R_J0_isLatin1_aae02 _ _ (by omega) e1) ?_
  refine g_if_eq 23 d_J0_indexOf_7cf53_4 rfl (fun c4 => ?_) (fun c4 => ?_)
  · have hF := x_t hF c4
    refine g_aloadn d_J0_indexOf_7cf53_23 rfl ?_
    obtain ⟨v24, e24, hF⟩ := Option.bind_eq_some_iff.mp hF
    refine q_fSV d_J0_indexOf_7cf53_24 fq_J0_9 e24 ?_
    refine g_iloadn d_J0_indexOf_7cf53_27 rfl ?_
    refine g_iloadn d_J0_indexOf_7cf53_28 rfl ?_
    refine g_aloadn d_J0_indexOf_7cf53_29 rfl ?_
    obtain ⟨_, g30, hF⟩ := Option.bind_eq_some_iff.mp hF
    obtain ⟨⟨r30, h30⟩, e30, hF⟩ := Option.bind_eq_some_iff.mp hF
    try dsimp only at hF
    refine q_callV [] [.int x2, .int x1, .ref v24] rfl d_J0_indexOf_7cf53_30 v_J0_505 (by omega) rfl (Nat.le_of_ble_eq_true rfl) (rcS_rc g30) (R_J0_length_8abf5 _ _ (by omega) e30) ?_
    obtain ⟨⟨r33, h33⟩, e33, hF⟩ := Option.bind_eq_some_iff.mp hF
    try dsimp only at hF
    refine q_callS [.ref v24, .int x1, .int x2, .int (r30)] [] rfl d_J0_indexOf_7cf53_33 s_J0_640 (by omega) rfl (Nat.le_of_ble_eq_true rfl) (R_J2_indexOf_4cfef _ _ _ _ _ (by omega) e33) ?_
    obtain ⟨rfl, rfl⟩ := x_inj hF
    exact g_iret d_J0_indexOf_7cf53_36 rfl hq
  · have hF := x_f hF c4
    refine g_aloadn d_J0_indexOf_7cf53_7 rfl ?_
    obtain ⟨v8, e8, hF⟩ := Option.bind_eq_some_iff.mp hF
    refine q_fSV d_J0_indexOf_7cf53_8 fq_J0_9 e8 ?_
    refine g_iloadn d_J0_indexOf_7cf53_11 rfl ?_
    refine g_iloadn d_J0_indexOf_7cf53_12 rfl ?_
    refine g_aloadn d_J0_indexOf_7cf53_13 rfl ?_
    obtain ⟨_, g14, hF⟩ := Option.bind_eq_some_iff.mp hF
    obtain ⟨⟨r14, h14⟩, e14, hF⟩ := Option.bind_eq_some_iff.mp hF
    try dsimp only at hF
    refine q_callV [] [.int x2, .int x1, .ref v8] rfl d_J0_indexOf_7cf53_14 v_J0_505 (by omega) rfl (Nat.le_of_ble_eq_true rfl) (rcS_rc g14) (R_J0_length_8abf5 _ _ (by omega) e14) ?_
    obtain ⟨⟨r17, h17⟩, e17, hF⟩ := Option.bind_eq_some_iff.mp hF
    try dsimp only at hF
    refine q_callS [.ref v8, .int x1, .int x2, .int (r14)] [] rfl d_J0_indexOf_7cf53_17 s_J0_637 (by omega) rfl (Nat.le_of_ble_eq_true rfl) (R_J1_indexOf_4cfef _ _ _ _ _ (by omega) e17) ?_
    refine g_goto 36 d_J0_indexOf_7cf53_20 rfl ?_
    obtain ⟨rfl, rfl⟩ := x_inj hF
    exact g_iret d_J0_indexOf_7cf53_36 rfl hq
theorem d_J0_indexOf_0f7a4_0 : decode cJ0_indexOf_0f7a4 0 = .ok (.aload_n 0, 1) := by decide +kernel
theorem d_J0_indexOf_0f7a4_1 : decode cJ0_indexOf_0f7a4 1 = .ok (.iload_n 1, 1) := by decide +kernel
theorem d_J0_indexOf_0f7a4_2 : decode cJ0_indexOf_0f7a4 2 = .ok (.iconst 0, 1) := by decide +kernel
theorem d_J0_indexOf_0f7a4_3 : decode cJ0_indexOf_0f7a4 3 = .ok (.invokevirtual 633, 3) := by decide +kernel
theorem d_J0_indexOf_0f7a4_6 : decode cJ0_indexOf_0f7a4 6 = .ok (.ireturn, 1) := by decide +kernel
def F_J0_indexOf_0f7a4 (x0 : Nat) (x1 : Int32) (h : xH) : Option (Int32 × xH) := (rcS h x0).bind fun _ => (F_J0_indexOf_7cf53 x0 x1 0 h).bind fun z3 => some (z3.1, z3.2)
theorem R_J0_indexOf_0f7a4 {Γ : xG} {l : Launch} {d : Nat} {r : Int32} {h' : xH} (x0 : Nat) (x1 : Int32) (h : xH) (hdp : 6 ≤ d) (hF : F_J0_indexOf_0f7a4 x0 x1 h = some (r, h')) : Gm Γ l d 0 0 m_J0_indexOf_0f7a4 [.ref x0, .int x1] h (fun a u => a = some (.int r) ∧ u = h') := by
  refine Gm.of pn_J0 (Nat.le_of_ble_eq_true rfl) ?_
  show Gd Γ l d m_J0_indexOf_0f7a4 0 [.ref x0, .int x1] [] h 0 0 _
  generalize hQ : (fun (a : Option Value) (u : xH) => a = some (.int r) ∧ u = h') = Q
  have hq : Q (some (.int r)) h' := by rw [← hQ]; exact ⟨rfl, rfl⟩
  clear hQ
  unfold F_J0_indexOf_0f7a4 at hF
  refine g_aloadn d_J0_indexOf_0f7a4_0 rfl ?_
  refine g_iloadn d_J0_indexOf_0f7a4_1 rfl ?_
  refine g_ic (0) d_J0_indexOf_0f7a4_2 ic_0 ?_
  obtain ⟨_, g3, hF⟩ := Option.bind_eq_some_iff.mp hF
  obtain ⟨⟨r3, h3⟩, e3, hF⟩ := Option.bind_eq_some_iff.mp hF
  try dsimp only at hF
  refine q_callV [.int x1, .int 0] [] rfl d_J0_indexOf_0f7a4_3 v_J0_633 (by omega) rfl (Nat.le_of_ble_eq_true rfl) (rcS_rc g3) (R_J0_indexOf_7cf53 _ _ _ _ (by omega) e3) ?_
  obtain ⟨rfl, rfl⟩ := x_inj hF
  exact g_iret d_J0_indexOf_0f7a4_6 rfl hq
theorem d_X4_advance_0 : decode cX4_advance 0 = .ok (.aload_n 0, 1) := by decide +kernel
theorem d_X4_advance_1 : decode cX4_advance 1 = .ok (.getfield 52, 3) := by decide +kernel
theorem d_X4_advance_4 : decode cX4_advance 4 = .ok (.ifCond .eq 4, 3) := by decide +kernel
theorem d_X4_advance_7 : decode cX4_advance 7 = .ok (.return_, 1) := by decide +kernel
theorem d_X4_advance_8 : decode cX4_advance 8 = .ok (.aload_n 0, 1) := by decide +kernel
theorem d_X4_advance_9 : decode cX4_advance 9 = .ok (.aload_n 0, 1) := by decide +kernel
theorem d_X4_advance_10 : decode cX4_advance 10 = .ok (.getfield 32, 3) := by decide +kernel
theorem d_X4_advance_13 : decode cX4_advance 13 = .ok (.putfield 29, 3) := by decide +kernel
theorem d_X4_advance_16 : decode cX4_advance 16 = .ok (.aload_n 0, 1) := by decide +kernel
theorem d_X4_advance_17 : decode cX4_advance 17 = .ok (.getfield 29, 3) := by decide +kernel
theorem d_X4_advance_20 : decode cX4_advance 20 = .ok (.aload_n 0, 1) := by decide +kernel
theorem d_X4_advance_21 : decode cX4_advance 21 = .ok (.getfield 26, 3) := by decide +kernel
theorem d_X4_advance_24 : decode cX4_advance 24 = .ok (.if_icmp .ge 44, 3) := by decide +kernel
theorem d_X4_advance_27 : decode cX4_advance 27 = .ok (.aload_n 0, 1) := by decide +kernel
theorem d_X4_advance_28 : decode cX4_advance 28 = .ok (.getfield 9, 3) := by decide +kernel
theorem d_X4_advance_31 : decode cX4_advance 31 = .ok (.aload_n 0, 1) := by decide +kernel
theorem d_X4_advance_32 : decode cX4_advance 32 = .ok (.getfield 29, 3) := by decide +kernel
theorem d_X4_advance_35 : decode cX4_advance 35 = .ok (.caload, 1) := by decide +kernel
theorem d_X4_advance_36 : decode cX4_advance 36 = .ok (.bipush 10, 2) := by decide +kernel
theorem d_X4_advance_38 : decode cX4_advance 38 = .ok (.if_icmp .eq 17, 3) := by decide +kernel
theorem d_X4_advance_41 : decode cX4_advance 41 = .ok (.aload_n 0, 1) := by decide +kernel
theorem d_X4_advance_42 : decode cX4_advance 42 = .ok (.getfield 9, 3) := by decide +kernel
theorem d_X4_advance_45 : decode cX4_advance 45 = .ok (.aload_n 0, 1) := by decide +kernel
theorem d_X4_advance_46 : decode cX4_advance 46 = .ok (.getfield 29, 3) := by decide +kernel
theorem d_X4_advance_49 : decode cX4_advance 49 = .ok (.caload, 1) := by decide +kernel
theorem d_X4_advance_50 : decode cX4_advance 50 = .ok (.bipush 32, 2) := by decide +kernel
theorem d_X4_advance_52 : decode cX4_advance 52 = .ok (.if_icmp .ne 16, 3) := by decide +kernel
theorem d_X4_advance_55 : decode cX4_advance 55 = .ok (.aload_n 0, 1) := by decide +kernel
theorem d_X4_advance_56 : decode cX4_advance 56 = .ok (.dup, 1) := by decide +kernel
theorem d_X4_advance_57 : decode cX4_advance 57 = .ok (.getfield 29, 3) := by decide +kernel
theorem d_X4_advance_60 : decode cX4_advance 60 = .ok (.iconst 1, 1) := by decide +kernel
theorem d_X4_advance_61 : decode cX4_advance 61 = .ok (.iadd, 1) := by decide +kernel
theorem d_X4_advance_62 : decode cX4_advance 62 = .ok (.putfield 29, 3) := by decide +kernel
theorem d_X4_advance_65 : decode cX4_advance 65 = .ok (.goto (-49), 3) := by decide +kernel
theorem d_X4_advance_68 : decode cX4_advance 68 = .ok (.aload_n 0, 1) := by decide +kernel
theorem d_X4_advance_69 : decode cX4_advance 69 = .ok (.aload_n 0, 1) := by decide +kernel
theorem d_X4_advance_70 : decode cX4_advance 70 = .ok (.getfield 29, 3) := by decide +kernel
theorem d_X4_advance_73 : decode cX4_advance 73 = .ok (.putfield 32, 3) := by decide +kernel
theorem d_X4_advance_76 : decode cX4_advance 76 = .ok (.aload_n 0, 1) := by decide +kernel
theorem d_X4_advance_77 : decode cX4_advance 77 = .ok (.iconst 0, 1) := by decide +kernel
theorem d_X4_advance_78 : decode cX4_advance 78 = .ok (.putfield 38, 3) := by decide +kernel
theorem d_X4_advance_81 : decode cX4_advance 81 = .ok (.aload_n 0, 1) := by decide +kernel
theorem d_X4_advance_82 : decode cX4_advance 82 = .ok (.getfield 29, 3) := by decide +kernel
theorem d_X4_advance_85 : decode cX4_advance 85 = .ok (.aload_n 0, 1) := by decide +kernel
theorem d_X4_advance_86 : decode cX4_advance 86 = .ok (.getfield 26, 3) := by decide +kernel
theorem d_X4_advance_89 : decode cX4_advance 89 = .ok (.if_icmp .lt 11, 3) := by decide +kernel
theorem d_X4_advance_92 : decode cX4_advance 92 = .ok (.aload_n 0, 1) := by decide +kernel
theorem d_X4_advance_93 : decode cX4_advance 93 = .ok (.iconst 3, 1) := by decide +kernel
theorem d_X4_advance_94 : decode cX4_advance 94 = .ok (.putfield 35, 3) := by decide +kernel
theorem d_X4_advance_97 : decode cX4_advance 97 = .ok (.goto 185, 3) := by decide +kernel
theorem d_X4_advance_100 : decode cX4_advance 100 = .ok (.aload_n 0, 1) := by decide +kernel
theorem d_X4_advance_101 : decode cX4_advance 101 = .ok (.aload_n 0, 1) := by decide +kernel
theorem d_X4_advance_102 : decode cX4_advance 102 = .ok (.getfield 29, 3) := by decide +kernel
theorem d_X4_advance_105 : decode cX4_advance 105 = .ok (.invokevirtual 76, 3) := by decide +kernel
theorem d_X4_advance_108 : decode cX4_advance 108 = .ok (.ifCond .eq 43, 3) := by decide +kernel
theorem d_X4_advance_111 : decode cX4_advance 111 = .ok (.aload_n 0, 1) := by decide +kernel
theorem d_X4_advance_112 : decode cX4_advance 112 = .ok (.iconst 0, 1) := by decide +kernel
theorem d_X4_advance_113 : decode cX4_advance 113 = .ok (.putfield 35, 3) := by decide +kernel
theorem d_X4_advance_116 : decode cX4_advance 116 = .ok (.aload_n 0, 1) := by decide +kernel
theorem d_X4_advance_117 : decode cX4_advance 117 = .ok (.getfield 32, 3) := by decide +kernel
theorem d_X4_advance_120 : decode cX4_advance 120 = .ok (.aload_n 0, 1) := by decide +kernel
theorem d_X4_advance_121 : decode cX4_advance 121 = .ok (.getfield 26, 3) := by decide +kernel
theorem d_X4_advance_124 : decode cX4_advance 124 = .ok (.if_icmp .ge 158, 3) := by decide +kernel
theorem d_X4_advance_127 : decode cX4_advance 127 = .ok (.aload_n 0, 1) := by decide +kernel
theorem d_X4_advance_128 : decode cX4_advance 128 = .ok (.aload_n 0, 1) := by decide +kernel
theorem d_X4_advance_129 : decode cX4_advance 129 = .ok (.getfield 32, 3) := by decide +kernel
theorem d_X4_advance_132 : decode cX4_advance 132 = .ok (.invokevirtual 76, 3) := by decide +kernel
theorem d_X4_advance_135 : decode cX4_advance 135 = .ok (.ifCond .eq 147, 3) := by decide +kernel
theorem d_X4_advance_138 : decode cX4_advance 138 = .ok (.aload_n 0, 1) := by decide +kernel
theorem d_X4_advance_139 : decode cX4_advance 139 = .ok (.dup, 1) := by decide +kernel
theorem d_X4_advance_140 : decode cX4_advance 140 = .ok (.getfield 32, 3) := by decide +kernel
theorem d_X4_advance_143 : decode cX4_advance 143 = .ok (.iconst 1, 1) := by decide +kernel
theorem d_X4_advance_144 : decode cX4_advance 144 = .ok (.iadd, 1) := by decide +kernel
theorem d_X4_advance_145 : decode cX4_advance 145 = .ok (.putfield 32, 3) := by decide +kernel
theorem d_X4_advance_148 : decode cX4_advance 148 = .ok (.goto (-32), 3) := by decide +kernel
theorem d_X4_advance_151 : decode cX4_advance 151 = .ok (.aload_n 0, 1) := by decide +kernel
theorem d_X4_advance_152 : decode cX4_advance 152 = .ok (.aload_n 0, 1) := by decide +kernel
theorem d_X4_advance_153 : decode cX4_advance 153 = .ok (.getfield 29, 3) := by decide +kernel
theorem d_X4_advance_156 : decode cX4_advance 156 = .ok (.invokevirtual 80, 3) := by decide +kernel
theorem d_X4_advance_159 : decode cX4_advance 159 = .ok (.ifCond .eq 87, 3) := by decide +kernel
theorem d_X4_advance_162 : decode cX4_advance 162 = .ok (.aload_n 0, 1) := by decide +kernel
theorem d_X4_advance_163 : decode cX4_advance 163 = .ok (.iconst 1, 1) := by decide +kernel
theorem d_X4_advance_164 : decode cX4_advance 164 = .ok (.putfield 35, 3) := by decide +kernel
theorem d_X4_advance_167 : decode cX4_advance 167 = .ok (.aload_n 0, 1) := by decide +kernel
theorem d_X4_advance_168 : decode cX4_advance 168 = .ok (.getfield 32, 3) := by decide +kernel
theorem d_X4_advance_171 : decode cX4_advance 171 = .ok (.aload_n 0, 1) := by decide +kernel
theorem d_X4_advance_172 : decode cX4_advance 172 = .ok (.getfield 26, 3) := by decide +kernel
theorem d_X4_advance_175 : decode cX4_advance 175 = .ok (.if_icmp .ge 107, 3) := by decide +kernel
theorem d_X4_advance_178 : decode cX4_advance 178 = .ok (.aload_n 0, 1) := by decide +kernel
theorem d_X4_advance_179 : decode cX4_advance 179 = .ok (.aload_n 0, 1) := by decide +kernel
theorem d_X4_advance_180 : decode cX4_advance 180 = .ok (.getfield 32, 3) := by decide +kernel
theorem d_X4_advance_183 : decode cX4_advance 183 = .ok (.invokevirtual 80, 3) := by decide +kernel
theorem d_X4_advance_186 : decode cX4_advance 186 = .ok (.ifCond .eq 96, 3) := by decide +kernel
theorem d_X4_advance_189 : decode cX4_advance 189 = .ok (.aload_n 0, 1) := by decide +kernel
theorem d_X4_advance_190 : decode cX4_advance 190 = .ok (.aload_n 0, 1) := by decide +kernel
theorem d_X4_advance_191 : decode cX4_advance 191 = .ok (.getfield 32, 3) := by decide +kernel
theorem d_X4_advance_194 : decode cX4_advance 194 = .ok (.aload_n 0, 1) := by decide +kernel
theorem d_X4_advance_195 : decode cX4_advance 195 = .ok (.getfield 29, 3) := by decide +kernel
theorem d_X4_advance_198 : decode cX4_advance 198 = .ok (.isub, 1) := by decide +kernel
theorem d_X4_advance_199 : decode cX4_advance 199 = .ok (.iconst 3, 1) := by decide +kernel
theorem d_X4_advance_200 : decode cX4_advance 200 = .ok (.if_icmp .ge 26, 3) := by decide +kernel
theorem d_X4_advance_203 : decode cX4_advance 203 = .ok (.aload_n 0, 1) := by decide +kernel
theorem d_X4_advance_204 : decode cX4_advance 204 = .ok (.getfield 38, 3) := by decide +kernel
theorem d_X4_advance_207 : decode cX4_advance 207 = .ok (.bipush 10, 2) := by decide +kernel
theorem d_X4_advance_209 : decode cX4_advance 209 = .ok (.imul, 1) := by decide +kernel
theorem d_X4_advance_210 : decode cX4_advance 210 = .ok (.aload_n 0, 1) := by decide +kernel
theorem d_X4_advance_211 : decode cX4_advance 211 = .ok (.getfield 9, 3) := by decide +kernel
theorem d_X4_advance_214 : decode cX4_advance 214 = .ok (.aload_n 0, 1) := by decide +kernel
theorem d_X4_advance_215 : decode cX4_advance 215 = .ok (.getfield 32, 3) := by decide +kernel
theorem d_X4_advance_218 : decode cX4_advance 218 = .ok (.caload, 1) := by decide +kernel
theorem d_X4_advance_219 : decode cX4_advance 219 = .ok (.iadd, 1) := by decide +kernel
theorem d_X4_advance_220 : decode cX4_advance 220 = .ok (.bipush 48, 2) := by decide +kernel
theorem d_X4_advance_222 : decode cX4_advance 222 = .ok (.isub, 1) := by decide +kernel
theorem d_X4_advance_223 : decode cX4_advance 223 = .ok (.goto 7, 3) := by decide +kernel
theorem d_X4_advance_226 : decode cX4_advance 226 = .ok (.aload_n 0, 1) := by decide +kernel
theorem d_X4_advance_227 : decode cX4_advance 227 = .ok (.getfield 38, 3) := by decide +kernel
theorem d_X4_advance_230 : decode cX4_advance 230 = .ok (.putfield 38, 3) := by decide +kernel
theorem d_X4_advance_233 : decode cX4_advance 233 = .ok (.aload_n 0, 1) := by decide +kernel
theorem d_X4_advance_234 : decode cX4_advance 234 = .ok (.dup, 1) := by decide +kernel
theorem d_X4_advance_235 : decode cX4_advance 235 = .ok (.getfield 32, 3) := by decide +kernel
theorem d_X4_advance_238 : decode cX4_advance 238 = .ok (.iconst 1, 1) := by decide +kernel
theorem d_X4_advance_239 : decode cX4_advance 239 = .ok (.iadd, 1) := by decide +kernel
theorem d_X4_advance_240 : decode cX4_advance 240 = .ok (.putfield 32, 3) := by decide +kernel
theorem d_X4_advance_243 : decode cX4_advance 243 = .ok (.goto (-76), 3) := by decide +kernel
theorem d_X4_advance_246 : decode cX4_advance 246 = .ok (.aload_n 0, 1) := by decide +kernel
theorem d_X4_advance_247 : decode cX4_advance 247 = .ok (.iconst 2, 1) := by decide +kernel
theorem d_X4_advance_248 : decode cX4_advance 248 = .ok (.putfield 35, 3) := by decide +kernel
theorem d_X4_advance_251 : decode cX4_advance 251 = .ok (.aload_n 0, 1) := by decide +kernel
theorem d_X4_advance_252 : decode cX4_advance 252 = .ok (.dup, 1) := by decide +kernel
theorem d_X4_advance_253 : decode cX4_advance 253 = .ok (.getfield 32, 3) := by decide +kernel
theorem d_X4_advance_256 : decode cX4_advance 256 = .ok (.ldc 83, 2) := by decide +kernel
theorem d_X4_advance_258 : decode cX4_advance 258 = .ok (.aload_n 0, 1) := by decide +kernel
theorem d_X4_advance_259 : decode cX4_advance 259 = .ok (.getfield 9, 3) := by decide +kernel
theorem d_X4_advance_262 : decode cX4_advance 262 = .ok (.aload_n 0, 1) := by decide +kernel
theorem d_X4_advance_263 : decode cX4_advance 263 = .ok (.getfield 29, 3) := by decide +kernel
theorem d_X4_advance_266 : decode cX4_advance 266 = .ok (.caload, 1) := by decide +kernel
theorem d_X4_advance_267 : decode cX4_advance 267 = .ok (.invokevirtual 85, 3) := by decide +kernel
theorem d_X4_advance_270 : decode cX4_advance 270 = .ok (.ifCond .ge 7, 3) := by decide +kernel
theorem d_X4_advance_273 : decode cX4_advance 273 = .ok (.iconst 0, 1) := by decide +kernel
theorem d_X4_advance_274 : decode cX4_advance 274 = .ok (.goto 4, 3) := by decide +kernel
theorem d_X4_advance_277 : decode cX4_advance 277 = .ok (.iconst 1, 1) := by decide +kernel
theorem d_X4_advance_278 : decode cX4_advance 278 = .ok (.iadd, 1) := by decide +kernel
theorem d_X4_advance_279 : decode cX4_advance 279 = .ok (.putfield 32, 3) := by decide +kernel
theorem d_X4_advance_282 : decode cX4_advance 282 = .ok (.aload_n 0, 1) := by decide +kernel
theorem d_X4_advance_283 : decode cX4_advance 283 = .ok (.getfield 35, 3) := by decide +kernel
theorem d_X4_advance_286 : decode cX4_advance 286 = .ok (.iconst 1, 1) := by decide +kernel
theorem d_X4_advance_287 : decode cX4_advance 287 = .ok (.if_icmp .ne 20, 3) := by decide +kernel
theorem d_X4_advance_290 : decode cX4_advance 290 = .ok (.aload_n 0, 1) := by decide +kernel
theorem d_X4_advance_291 : decode cX4_advance 291 = .ok (.getfield 32, 3) := by decide +kernel
theorem d_X4_advance_294 : decode cX4_advance 294 = .ok (.aload_n 0, 1) := by decide +kernel
theorem d_X4_advance_295 : decode cX4_advance 295 = .ok (.getfield 29, 3) := by decide +kernel
theorem d_X4_advance_298 : decode cX4_advance 298 = .ok (.isub, 1) := by decide +kernel
theorem d_X4_advance_299 : decode cX4_advance 299 = .ok (.iconst 3, 1) := by decide +kernel
theorem d_X4_advance_300 : decode cX4_advance 300 = .ok (.if_icmp .le 7, 3) := by decide +kernel
theorem d_X4_advance_303 : decode cX4_advance 303 = .ok (.iconst 1, 1) := by decide +kernel
theorem d_X4_advance_304 : decode cX4_advance 304 = .ok (.goto 4, 3) := by decide +kernel
theorem d_X4_advance_307 : decode cX4_advance 307 = .ok (.iconst 0, 1) := by decide +kernel
theorem d_X4_advance_308 : decode cX4_advance 308 = .ok (.istore_n 1, 1) := by decide +kernel
theorem d_X4_advance_309 : decode cX4_advance 309 = .ok (.iload_n 1, 1) := by decide +kernel
theorem d_X4_advance_310 : decode cX4_advance 310 = .ok (.ifCond .ne 22, 3) := by decide +kernel
theorem d_X4_advance_313 : decode cX4_advance 313 = .ok (.aload_n 0, 1) := by decide +kernel
theorem d_X4_advance_314 : decode cX4_advance 314 = .ok (.getfield 35, 3) := by decide +kernel
theorem d_X4_advance_317 : decode cX4_advance 317 = .ok (.iconst 2, 1) := by decide +kernel
theorem d_X4_advance_318 : decode cX4_advance 318 = .ok (.if_icmp .ne 19, 3) := by decide +kernel
theorem d_X4_advance_321 : decode cX4_advance 321 = .ok (.aload_n 0, 1) := by decide +kernel
theorem d_X4_advance_322 : decode cX4_advance 322 = .ok (.getfield 32, 3) := by decide +kernel
theorem d_X4_advance_325 : decode cX4_advance 325 = .ok (.aload_n 0, 1) := by decide +kernel
theorem d_X4_advance_326 : decode cX4_advance 326 = .ok (.getfield 29, 3) := by decide +kernel
theorem d_X4_advance_329 : decode cX4_advance 329 = .ok (.if_icmp .ne 8, 3) := by decide +kernel
theorem d_X4_advance_332 : decode cX4_advance 332 = .ok (.aload_n 0, 1) := by decide +kernel
theorem d_X4_advance_333 : decode cX4_advance 333 = .ok (.iconst 1, 1) := by decide +kernel
theorem d_X4_advance_334 : decode cX4_advance 334 = .ok (.invokevirtual 91, 3) := by decide +kernel
theorem d_X4_advance_337 : decode cX4_advance 337 = .ok (.return_, 1) := by decide +kernel
def F_X4_advance_b332 (x0 : Nat) (h : xH) : Option (Unit × xH) := (rc h x0 3).bind fun _ => (F_X4_fail x0 1 h).bind fun z334 => some ((), z334.2)
theorem R_X4_advance_b332 {Γ : xG} {l : Launch} {d : Nat} {Q : Option Value → xH → Prop} {r : Unit} {h' : xH} (hdp : 7 ≤ d) (hq : Q (none) h') : ∀ (x0 : Nat) (h : xH), F_X4_advance_b332 x0 h = some (r, h') → Gd Γ l d m_X4_advance 332 [.ref x0, xhole] [] h 0 0 Q := by
  intro x0 h hF
  unfold F_X4_advance_b332 at hF
  refine g_aloadn d_X4_advance_332 rfl ?_
  refine g_ic (1) d_X4_advance_333 ic_1 ?_
  obtain ⟨_, g334, hF⟩ := Option.bind_eq_some_iff.mp hF
  obtain ⟨⟨r334, h334⟩, e334, hF⟩ := Option.bind_eq_some_iff.mp hF
  try dsimp only at hF
  refine q_callV [.int 1] [] rfl d_X4_advance_334 v_X4_91 (by omega) rfl (Nat.le_of_ble_eq_true rfl) (rc_rc g334 (by decide) rfl) (R_X4_fail _ _ _ (by omega) e334) ?_
  obtain ⟨rfl, rfl⟩ := x_inj hF
  exact g_vret d_X4_advance_337 rfl hq
def F_X4_advance_b308 (x0 : Nat) (s0 : Int32) (h : xH) : Option (Unit × xH) := if ¬ s0 = 0 then F_X4_advance_b332 x0 h else (fI h x0 3 7).bind fun v314 => if ¬ v314 = ((2 : Int32)) then some ((), h) else (fI h x0 3 6).bind fun v322 => (fI h x0 3 5).bind fun v326 => if ¬ v322 = v326 then some ((), h) else F_X4_advance_b332 x0 h
theorem R_X4_advance_b308 {Γ : xG} {l : Launch} {d : Nat} {Q : Option Value → xH → Prop} {r : Unit} {h' : xH} (hdp : 7 ≤ d) (hq : Q (none) h') : ∀ (x0 : Nat) (s0 : Int32) (h : xH), F_X4_advance_b308 x0 s0 h = some (r, h') → Gd Γ l d m_X4_advance 308 [.ref x0, xhole] [.int s0] h 0 0 Q := by
  intro x0 s0 h hF
  unfold F_X4_advance_b308 at hF
  refine q_istoren [.ref x0, .int s0] d_X4_advance_308 (by decide) rfl ?_
  refine g_iloadn d_X4_advance_309 rfl ?_
  refine g_if_ne 332 d_X4_advance_310 rfl (fun c310 => ?_) (fun c310 => ?_)
  · have hF := x_t hF c310
    exact q_to (xs_r (xs_h xs_n)) (R_X4_advance_b332 hdp hq _ _ hF)
  · have hF := x_f hF (not_not_intro c310)
    refine g_aloadn d_X4_advance_313 rfl ?_
    obtain ⟨v314, e314, hF⟩ := Option.bind_eq_some_iff.mp hF
    refine q_fI d_X4_advance_314 f_X4_35 e314 ?_
    refine g_ic (2) d_X4_advance_317 ic_2 ?_
    refine g_icmp_ne 337 d_X4_advance_318 rfl (fun c318 => ?_) (fun c318 => ?_)
    · have hF := x_t hF c318
      obtain ⟨rfl, rfl⟩ := x_inj hF
      exact g_vret d_X4_advance_337 rfl hq
    · have hF := x_f hF (not_not_intro c318)
      refine g_aloadn d_X4_advance_321 rfl ?_
      obtain ⟨v322, e322, hF⟩ := Option.bind_eq_some_iff.mp hF
      refine q_fI d_X4_advance_322 f_X4_32 e322 ?_
      refine g_aloadn d_X4_advance_325 rfl ?_
      obtain ⟨v326, e326, hF⟩ := Option.bind_eq_some_iff.mp hF
      refine q_fI d_X4_advance_326 f_X4_29 e326 ?_
      refine g_icmp_ne 337 d_X4_advance_329 rfl (fun c329 => ?_) (fun c329 => ?_)
      · have hF := x_t hF c329
        obtain ⟨rfl, rfl⟩ := x_inj hF
        exact g_vret d_X4_advance_337 rfl hq
      · have hF := x_f hF (not_not_intro c329)
        exact q_to (xs_r (xs_h xs_n)) (R_X4_advance_b332 hdp hq _ _ hF)
def F_X4_advance_b307 (x0 : Nat) (h : xH) : Option (Unit × xH) := F_X4_advance_b308 x0 0 h
theorem R_X4_advance_b307 {Γ : xG} {l : Launch} {d : Nat} {Q : Option Value → xH → Prop} {r : Unit} {h' : xH} (hdp : 7 ≤ d) (hq : Q (none) h') : ∀ (x0 : Nat) (h : xH), F_X4_advance_b307 x0 h = some (r, h') → Gd Γ l d m_X4_advance 307 [.ref x0, xhole] [] h 0 0 Q := by
  intro x0 h hF
  unfold F_X4_advance_b307 at hF
  refine g_ic (0) d_X4_advance_307 ic_0 ?_
  exact q_to (xs_r (xs_h xs_n)) (R_X4_advance_b308 hdp hq _ _ _ hF)
def F_X4_advance_b282 (x0 : Nat) (h : xH) : Option (Unit × xH) := (fI h x0 3 7).bind fun v283 => if ¬ v283 = ((1 : Int32)) then F_X4_advance_b307 x0 h else (fI h x0 3 6).bind fun v291 => (fI h x0 3 5).bind fun v295 => if (v291 - v295) ≤ ((3 : Int32)) then F_X4_advance_b307 x0 h else F_X4_advance_b308 x0 1 h
theorem R_X4_advance_b282 {Γ : xG} {l : Launch} {d : Nat} {Q : Option Value → xH → Prop} {r : Unit} {h' : xH} (hdp : 7 ≤ d) (hq : Q (none) h') : ∀ (x0 : Nat) (h : xH), F_X4_advance_b282 x0 h = some (r, h') → Gd Γ l d m_X4_advance 282 [.ref x0, xhole] [] h 0 0 Q := by
  intro x0 h hF
  unfold F_X4_advance_b282 at hF
  refine g_aloadn d_X4_advance_282 rfl ?_
  obtain ⟨v283, e283, hF⟩ := Option.bind_eq_some_iff.mp hF
  refine q_fI d_X4_advance_283 f_X4_35 e283 ?_
  refine g_ic (1) d_X4_advance_286 ic_1 ?_
  refine g_icmp_ne 307 d_X4_advance_287 rfl (fun c287 => ?_) (fun c287 => ?_)
  · have hF := x_t hF c287
    exact q_to (xs_r (xs_h xs_n)) (R_X4_advance_b307 hdp hq _ _ hF)
  · have hF := x_f hF (not_not_intro c287)
    refine g_aloadn d_X4_advance_290 rfl ?_
    obtain ⟨v291, e291, hF⟩ := Option.bind_eq_some_iff.mp hF
    refine q_fI d_X4_advance_291 f_X4_32 e291 ?_
    refine g_aloadn d_X4_advance_294 rfl ?_
    obtain ⟨v295, e295, hF⟩ := Option.bind_eq_some_iff.mp hF
    refine q_fI d_X4_advance_295 f_X4_29 e295 ?_
    refine g_isub d_X4_advance_298 ?_
    refine g_ic (3) d_X4_advance_299 ic_3 ?_
    refine g_icmp_le 307 d_X4_advance_300 rfl (fun c300 => ?_) (fun c300 => ?_)
    · have hF := x_t hF c300
      exact q_to (xs_r (xs_h xs_n)) (R_X4_advance_b307 hdp hq _ _ hF)
    · have hF := x_f hF c300
      refine g_ic (1) d_X4_advance_303 ic_1 ?_
      refine g_goto 308 d_X4_advance_304 rfl ?_
      exact q_to (xs_r (xs_h xs_n)) (R_X4_advance_b308 hdp hq _ _ _ hF)
def F_X4_advance_b116 : Nat → Nat → xH → Option (Unit × xH)
  | 0, _, _ => none
  | n + 1, x0, h => (fI h x0 3 6).bind fun v117 => (fI h x0 3 4).bind fun v121 => if v121 ≤ v117 then F_X4_advance_b282 x0 h else (fI h x0 3 6).bind fun v129 => (rc h x0 3).bind fun _ => (F_X4_isLetter x0 v129 h).bind fun z132 => if z132.1 = 0 then F_X4_advance_b282 x0 z132.2 else (fI z132.2 x0 3 6).bind fun v140 => (wI z132.2 x0 3 6 (v140 + 1)).bind fun h145 => F_X4_advance_b116 n x0 h145
theorem R_X4_advance_b116 {Γ : xG} {l : Launch} {d : Nat} {Q : Option Value → xH → Prop} {r : Unit} {h' : xH} (hdp : 7 ≤ d) (hq : Q (none) h') : ∀ (n : Nat) (x0 : Nat) (h : xH), F_X4_advance_b116 n x0 h = some (r, h') → Gd Γ l d m_X4_advance 116 [.ref x0, xhole] [] h 0 0 Q := by
  intro n
  induction n with
  | zero => intro x0 h hF; cases hF
  | succ n ih =>
  intro x0 h hF
  rw [F_X4_advance_b116] at hF
  refine g_aloadn d_X4_advance_116 rfl ?_
  obtain ⟨v117, e117, hF⟩ := Option.bind_eq_some_iff.mp hF
  refine q_fI d_X4_advance_117 f_X4_32 e117 ?_
  refine g_aloadn d_X4_advance_120 rfl ?_
  obtain ⟨v121, e121, hF⟩ := Option.bind_eq_some_iff.mp hF
  refine q_fI d_X4_advance_121 f_X4_26 e121 ?_
  refine g_icmp_ge 282 d_X4_advance_124 rfl (fun c124 => ?_) (fun c124 => ?_)
  · have hF := x_t hF c124
    exact q_to (xs_r (xs_h xs_n)) (R_X4_advance_b282 hdp hq _ _ hF)
  · have hF := x_f hF c124
    refine g_aloadn d_X4_advance_127 rfl ?_
    refine g_aloadn d_X4_advance_128 rfl ?_
    obtain ⟨v129, e129, hF⟩ := Option.bind_eq_some_iff.mp hF
    refine q_fI d_X4_advance_129 f_X4_32 e129 ?_
    obtain ⟨_, g132, hF⟩ := Option.bind_eq_some_iff.mp hF
    obtain ⟨⟨r132, h132⟩, e132, hF⟩ := Option.bind_eq_some_iff.mp hF
    try dsimp only at hF
    refine q_callV [.int v129] [] rfl d_X4_advance_132 v_X4_76 (by omega) rfl (Nat.le_of_ble_eq_true rfl) (rc_rc g132 (by decide) rfl) (R_X4_isLetter _ _ _ (by omega) e132) ?_
    refine g_if_eq 282 d_X4_advance_135 rfl (fun c135 => ?_) (fun c135 => ?_)
    · have hF := x_t hF c135
      exact q_to (xs_r (xs_h xs_n)) (R_X4_advance_b282 hdp hq _ _ hF)
    · have hF := x_f hF c135
      refine g_aloadn d_X4_advance_138 rfl ?_
      refine g_dup d_X4_advance_139 rfl ?_
      obtain ⟨v140, e140, hF⟩ := Option.bind_eq_some_iff.mp hF
      refine q_fI d_X4_advance_140 f_X4_32 e140 ?_
      refine g_ic (1) d_X4_advance_143 ic_1 ?_
      refine g_iadd d_X4_advance_144 ?_
      obtain ⟨h145, e145, hF⟩ := Option.bind_eq_some_iff.mp hF
      refine q_wI d_X4_advance_145 (w_X4_32 _) e145 ?_
      refine g_goto 116 d_X4_advance_148 rfl ?_
      exact q_to (xs_r (xs_h xs_n)) (ih _ _ hF)
def F_X4_advance_b278 (x0 : Nat) (s0 : Nat) (s1 : Int32) (s2 : Int32) (h : xH) : Option (Unit × xH) := (wI h s0 3 6 (s1 + s2)).bind fun h279 => F_X4_advance_b282 x0 h279
theorem R_X4_advance_b278 {Γ : xG} {l : Launch} {d : Nat} {Q : Option Value → xH → Prop} {r : Unit} {h' : xH} (hdp : 7 ≤ d) (hq : Q (none) h') : ∀ (x0 : Nat) (s0 : Nat) (s1 : Int32) (s2 : Int32) (h : xH), F_X4_advance_b278 x0 s0 s1 s2 h = some (r, h') → Gd Γ l d m_X4_advance 278 [.ref x0, xhole] [.int s2, .int s1, .ref s0] h 0 0 Q := by
  intro x0 s0 s1 s2 h hF
  unfold F_X4_advance_b278 at hF
  refine g_iadd d_X4_advance_278 ?_
  obtain ⟨h279, e279, hF⟩ := Option.bind_eq_some_iff.mp hF
  refine q_wI d_X4_advance_279 (w_X4_32 _) e279 ?_
  exact q_to (xs_r (xs_h xs_n)) (R_X4_advance_b282 hdp hq _ _ hF)
def F_X4_advance_b230 (k167 : Nat → xH → Option (Unit × xH)) (x0 : Nat) (s0 : Nat) (s1 : Int32) (h : xH) : Option (Unit × xH) := (wI h s0 3 8 s1).bind fun h230 => (fI h230 x0 3 6).bind fun v235 => (wI h230 x0 3 6 (v235 + 1)).bind fun h240 => k167 x0 h240
theorem R_X4_advance_b230 {Γ : xG} {l : Launch} {d : Nat} {Q : Option Value → xH → Prop} {r : Unit} {h' : xH} {k167 : Nat → xH → Option (Unit × xH)} (K167 : ∀ (x0 : Nat)  (h : xH), k167 x0 h = some (r, h') → Gd Γ l d m_X4_advance 167 [.ref x0, xhole] [] h 0 0 Q) (hdp : 7 ≤ d) (hq : Q (none) h') : ∀ (x0 : Nat) (s0 : Nat) (s1 : Int32) (h : xH), F_X4_advance_b230 k167 x0 s0 s1 h = some (r, h') → Gd Γ l d m_X4_advance 230 [.ref x0, xhole] [.int s1, .ref s0] h 0 0 Q := by
  intro x0 s0 s1 h hF
  unfold F_X4_advance_b230 at hF
  obtain ⟨h230, e230, hF⟩ := Option.bind_eq_some_iff.mp hF
  refine q_wI d_X4_advance_230 (w_X4_38 _) e230 ?_
  refine g_aloadn d_X4_advance_233 rfl ?_
  refine g_dup d_X4_advance_234 rfl ?_
  obtain ⟨v235, e235, hF⟩ := Option.bind_eq_some_iff.mp hF
  refine q_fI d_X4_advance_235 f_X4_32 e235 ?_
  refine g_ic (1) d_X4_advance_238 ic_1 ?_
  refine g_iadd d_X4_advance_239 ?_
  obtain ⟨h240, e240, hF⟩ := Option.bind_eq_some_iff.mp hF
  refine q_wI d_X4_advance_240 (w_X4_32 _) e240 ?_
  refine g_goto 167 d_X4_advance_243 rfl ?_
  exact q_to (xs_r (xs_h xs_n)) (K167 _ _ hF)
def F_X4_advance_b167 : Nat → Nat → xH → Option (Unit × xH)
  | 0, _, _ => none
  | n + 1, x0, h => (fI h x0 3 6).bind fun v168 => (fI h x0 3 4).bind fun v172 => if v172 ≤ v168 then F_X4_advance_b282 x0 h else (fI h x0 3 6).bind fun v180 => (rc h x0 3).bind fun _ => (F_X4_isDigit x0 v180 h).bind fun z183 => if z183.1 = 0 then F_X4_advance_b282 x0 z183.2 else (fI z183.2 x0 3 6).bind fun v191 => (fI z183.2 x0 3 5).bind fun v195 => if ((3 : Int32)) ≤ (v191 - v195) then (fI z183.2 x0 3 8).bind fun v227 => F_X4_advance_b230 (F_X4_advance_b167 n) x0 x0 v227 z183.2 else (fI z183.2 x0 3 8).bind fun v204 => (fR z183.2 x0 3 0).bind fun v211 => (fI z183.2 x0 3 6).bind fun v215 => (aC z183.2 v211 v215).bind fun v218 => F_X4_advance_b230 (F_X4_advance_b167 n) x0 x0 (((v204 * 10) + v218) - 48) z183.2
theorem R_X4_advance_b167 {Γ : xG} {l : Launch} {d : Nat} {Q : Option Value → xH → Prop} {r : Unit} {h' : xH} (hdp : 7 ≤ d) (hq : Q (none) h') : ∀ (n : Nat) (x0 : Nat) (h : xH), F_X4_advance_b167 n x0 h = some (r, h') → Gd Γ l d m_X4_advance 167 [.ref x0, xhole] [] h 0 0 Q := by
  intro n
  induction n with
  | zero => intro x0 h hF; cases hF
  | succ n ih =>
  intro x0 h hF
  rw [F_X4_advance_b167] at hF
  refine g_aloadn d_X4_advance_167 rfl ?_
  obtain ⟨v168, e168, hF⟩ := Option.bind_eq_some_iff.mp hF
  refine q_fI d_X4_advance_168 f_X4_32 e168 ?_
  refine g_aloadn d_X4_advance_171 rfl ?_
  obtain ⟨v172, e172, hF⟩ := Option.bind_eq_some_iff.mp hF
  refine q_fI d_X4_advance_172 f_X4_26 e172 ?_
  refine g_icmp_ge 282 d_X4_advance_175 rfl (fun c175 => ?_) (fun c175 => ?_)
  · have hF := x_t hF c175
    exact q_to (xs_r (xs_h xs_n)) (R_X4_advance_b282 hdp hq _ _ hF)
  · have hF := x_f hF c175
    refine g_aloadn d_X4_advance_178 rfl ?_
    refine g_aloadn d_X4_advance_179 rfl ?_
    obtain ⟨v180, e180, hF⟩ := Option.bind_eq_some_iff.mp hF
    refine q_fI d_X4_advance_180 f_X4_32 e180 ?_
    obtain ⟨_, g183, hF⟩ := Option.bind_eq_some_iff.mp hF
    obtain ⟨⟨r183, h183⟩, e183, hF⟩ := Option.bind_eq_some_iff.mp hF
    try dsimp only at hF
    refine q_callV [.int v180] [] rfl d_X4_advance_183 v_X4_80 (by omega) rfl (Nat.le_of_ble_eq_true rfl) (rc_rc g183 (by decide) rfl) (R_X4_isDigit _ _ _ (by omega) e183) ?_
    refine g_if_eq 282 d_X4_advance_186 rfl (fun c186 => ?_) (fun c186 => ?_)
    · have hF := x_t hF c186
      exact q_to (xs_r (xs_h xs_n)) (R_X4_advance_b282 hdp hq _ _ hF)
    · have hF := x_f hF c186
      refine g_aloadn d_X4_advance_189 rfl ?_
      refine g_aloadn d_X4_advance_190 rfl ?_
      obtain ⟨v191, e191, hF⟩ := Option.bind_eq_some_iff.mp hF
      refine q_fI d_X4_advance_191 f_X4_32 e191 ?_
      refine g_aloadn d_X4_advance_194 rfl ?_
      obtain ⟨v195, e195, hF⟩ := Option.bind_eq_some_iff.mp hF
      refine q_fI d_X4_advance_195 f_X4_29 e195 ?_
      refine g_isub d_X4_advance_198 ?_
      refine g_ic (3) d_X4_advance_199 ic_3 ?_
      refine g_icmp_ge 226 d_X4_advance_200 rfl (fun c200 => ?_) (fun c200 => ?_)
      · have hF := x_t hF c200
        refine g_aloadn d_X4_advance_226 rfl ?_
        obtain ⟨v227, e227, hF⟩ := Option.bind_eq_some_iff.mp hF
        refine q_fI d_X4_advance_227 f_X4_38 e227 ?_
        exact q_to (xs_r (xs_h xs_n)) (R_X4_advance_b230 ih hdp hq _ _ _ _ hF)
      · have hF := x_f hF c200
        refine g_aloadn d_X4_advance_203 rfl ?_
        obtain ⟨v204, e204, hF⟩ := Option.bind_eq_some_iff.mp hF
        refine q_fI d_X4_advance_204 f_X4_38 e204 ?_
        refine g_bi (10) d_X4_advance_207 bi_10 ?_
        refine g_imul d_X4_advance_209 ?_
        refine g_aloadn d_X4_advance_210 rfl ?_
        obtain ⟨v211, e211, hF⟩ := Option.bind_eq_some_iff.mp hF
        refine q_fR d_X4_advance_211 f_X4_9 e211 ?_
        refine g_aloadn d_X4_advance_214 rfl ?_
        obtain ⟨v215, e215, hF⟩ := Option.bind_eq_some_iff.mp hF
        refine q_fI d_X4_advance_215 f_X4_32 e215 ?_
        obtain ⟨v218, e218, hF⟩ := Option.bind_eq_some_iff.mp hF
        refine q_aC d_X4_advance_218 e218 ?_
        refine g_iadd d_X4_advance_219 ?_
        refine g_bi (48) d_X4_advance_220 bi_48 ?_
        refine g_isub d_X4_advance_222 ?_
        refine g_goto 230 d_X4_advance_223 rfl ?_
        exact q_to (xs_r (xs_h xs_n)) (R_X4_advance_b230 ih hdp hq _ _ _ _ hF)
def F_X4_advance_b68 (x0 : Nat) (h : xH) : Option (Unit × xH) := (fI h x0 3 5).bind fun v70 => (wI h x0 3 6 v70).bind fun h73 => (wI h73 x0 3 8 0).bind fun h78 => (fI h78 x0 3 5).bind fun v82 => (fI h78 x0 3 4).bind fun v86 => if v82 < v86 then (fI h78 x0 3 5).bind fun v102 => (rc h78 x0 3).bind fun _ => (F_X4_isLetter x0 v102 h78).bind fun z105 => if z105.1 = 0 then (fI z105.2 x0 3 5).bind fun v153 => (rc z105.2 x0 3).bind fun _ => (F_X4_isDigit x0 v153 z105.2).bind fun z156 => if z156.1 = 0 then (wI z156.2 x0 3 7 2).bind fun h248 => (fI h248 x0 3 6).bind fun v253 => (fR h248 x0 3 0).bind fun v259 => (fI h248 x0 3 5).bind fun v263 => (aC h248 v259 v263).bind fun v266 => (rcS h248 0).bind fun _ => (F_J0_indexOf_0f7a4 0 v266 h248).bind fun z267 => if 0 ≤ z267.1 then F_X4_advance_b278 x0 x0 v253 1 z267.2 else F_X4_advance_b278 x0 x0 v253 0 z267.2 else (wI z156.2 x0 3 7 1).bind fun h164 => F_X4_advance_b167 FU x0 h164 else (wI z105.2 x0 3 7 0).bind fun h113 => F_X4_advance_b116 FU x0 h113 else (wI h78 x0 3 7 3).bind fun h94 => F_X4_advance_b282 x0 h94
theorem R_X4_advance_b68 {Γ : xG} {l : Launch} {d : Nat} {Q : Option Value → xH → Prop} {r : Unit} {h' : xH} (hdp : 7 ≤ d) (hq : Q (none) h') : ∀ (x0 : Nat) (h : xH), F_X4_advance_b68 x0 h = some (r, h') → Gd Γ l d m_X4_advance 68 [.ref x0, xhole] [] h 0 0 Q := by
  intro x0 h hF
  unfold F_X4_advance_b68 at hF
  refine g_aloadn d_X4_advance_68 rfl ?_
  refine g_aloadn d_X4_advance_69 rfl ?_
  obtain ⟨v70, e70, hF⟩ := Option.bind_eq_some_iff.mp hF
  refine q_fI d_X4_advance_70 f_X4_29 e70 ?_
  obtain ⟨h73, e73, hF⟩ := Option.bind_eq_some_iff.mp hF
  refine q_wI d_X4_advance_73 (w_X4_32 _) e73 ?_
  refine g_aloadn d_X4_advance_76 rfl ?_
  refine g_ic (0) d_X4_advance_77 ic_0 ?_
  obtain ⟨h78, e78, hF⟩ := Option.bind_eq_some_iff.mp hF
  refine q_wI d_X4_advance_78 (w_X4_38 _) e78 ?_
  refine g_aloadn d_X4_advance_81 rfl ?_
  obtain ⟨v82, e82, hF⟩ := Option.bind_eq_some_iff.mp hF
  refine q_fI d_X4_advance_82 f_X4_29 e82 ?_
  refine g_aloadn d_X4_advance_85 rfl ?_
  obtain ⟨v86, e86, hF⟩ := Option.bind_eq_some_iff.mp hF
  refine q_fI d_X4_advance_86 f_X4_26 e86 ?_
  refine g_icmp_lt 100 d_X4_advance_89 rfl (fun c89 => ?_) (fun c89 => ?_)
  · have hF := x_t hF c89
    refine g_aloadn d_X4_advance_100 rfl ?_
    refine g_aloadn d_X4_advance_101 rfl ?_
    obtain ⟨v102, e102, hF⟩ := Option.bind_eq_some_iff.mp hF
    refine q_fI d_X4_advance_102 f_X4_29 e102 ?_
    obtain ⟨_, g105, hF⟩ := Option.bind_eq_some_iff.mp hF
    obtain ⟨⟨r105, h105⟩, e105, hF⟩ := Option.bind_eq_some_iff.mp hF
    try dsimp only at hF
    refine q_callV [.int v102] [] rfl d_X4_advance_105 v_X4_76 (by omega) rfl (Nat.le_of_ble_eq_true rfl) (rc_rc g105 (by decide) rfl) (R_X4_isLetter _ _ _ (by omega) e105) ?_
    refine g_if_eq 151 d_X4_advance_108 rfl (fun c108 => ?_) (fun c108 => ?_)
    · have hF := x_t hF c108
      refine g_aloadn d_X4_advance_151 rfl ?_
      refine g_aloadn d_X4_advance_152 rfl ?_
      obtain ⟨v153, e153, hF⟩ := Option.bind_eq_some_iff.mp hF
      refine q_fI d_X4_advance_153 f_X4_29 e153 ?_
      obtain ⟨_, g156, hF⟩ := Option.bind_eq_some_iff.mp hF
      obtain ⟨⟨r156, h156⟩, e156, hF⟩ := Option.bind_eq_some_iff.mp hF
      try dsimp only at hF
      refine q_callV [.int v153] [] rfl d_X4_advance_156 v_X4_80 (by omega) rfl (Nat.le_of_ble_eq_true rfl) (rc_rc g156 (by decide) rfl) (R_X4_isDigit _ _ _ (by omega) e156) ?_
      refine g_if_eq 246 d_X4_advance_159 rfl (fun c159 => ?_) (fun c159 => ?_)
      · have hF := x_t hF c159
        refine g_aloadn d_X4_advance_246 rfl ?_
        refine g_ic (2) d_X4_advance_247 ic_2 ?_
        obtain ⟨h248, e248, hF⟩ := Option.bind_eq_some_iff.mp hF
        refine q_wI d_X4_advance_248 (w_X4_35 _) e248 ?_
        refine g_aloadn d_X4_advance_251 rfl ?_
        refine g_dup d_X4_advance_252 rfl ?_
        obtain ⟨v253, e253, hF⟩ := Option.bind_eq_some_iff.mp hF
        refine q_fI d_X4_advance_253 f_X4_32 e253 ?_
        refine g_ldcS (i := 0) d_X4_advance_256 rfl ?_
        refine g_aloadn d_X4_advance_258 rfl ?_
        obtain ⟨v259, e259, hF⟩ := Option.bind_eq_some_iff.mp hF
        refine q_fR d_X4_advance_259 f_X4_9 e259 ?_
        refine g_aloadn d_X4_advance_262 rfl ?_
        obtain ⟨v263, e263, hF⟩ := Option.bind_eq_some_iff.mp hF
        refine q_fI d_X4_advance_263 f_X4_29 e263 ?_
        obtain ⟨v266, e266, hF⟩ := Option.bind_eq_some_iff.mp hF
        refine q_aC d_X4_advance_266 e266 ?_
        obtain ⟨_, g267, hF⟩ := Option.bind_eq_some_iff.mp hF
        obtain ⟨⟨r267, h267⟩, e267, hF⟩ := Option.bind_eq_some_iff.mp hF
        try dsimp only at hF
        refine q_callV [.int v266] [.int v253, .ref x0] rfl d_X4_advance_267 v_X4_85 (by omega) rfl (Nat.le_of_ble_eq_true rfl) (rcS_rc g267) (R_J0_indexOf_0f7a4 _ _ _ (by omega) e267) ?_
        refine g_if_ge 277 d_X4_advance_270 rfl (fun c270 => ?_) (fun c270 => ?_)
        · have hF := x_t hF c270
          refine g_ic (1) d_X4_advance_277 ic_1 ?_
          exact q_to (xs_r (xs_h xs_n)) (R_X4_advance_b278 hdp hq _ _ _ _ _ hF)
        · have hF := x_f hF c270
          refine g_ic (0) d_X4_advance_273 ic_0 ?_
          refine g_goto 278 d_X4_advance_274 rfl ?_
          exact q_to (xs_r (xs_h xs_n)) (R_X4_advance_b278 hdp hq _ _ _ _ _ hF)
      · have hF := x_f hF c159
        refine g_aloadn d_X4_advance_162 rfl ?_
        refine g_ic (1) d_X4_advance_163 ic_1 ?_
        obtain ⟨h164, e164, hF⟩ := Option.bind_eq_some_iff.mp hF
        refine q_wI d_X4_advance_164 (w_X4_35 _) e164 ?_
        exact q_to (xs_r (xs_h xs_n)) (R_X4_advance_b167 hdp hq FU _ _ hF)
    · have hF := x_f hF c108
      refine g_aloadn d_X4_advance_111 rfl ?_
      refine g_ic (0) d_X4_advance_112 ic_0 ?_
      obtain ⟨h113, e113, hF⟩ := Option.bind_eq_some_iff.mp hF
      refine q_wI d_X4_advance_113 (w_X4_35 _) e113 ?_
      exact q_to (xs_r (xs_h xs_n)) (R_X4_advance_b116 hdp hq FU _ _ hF)
  · have hF := x_f hF c89
    refine g_aloadn d_X4_advance_92 rfl ?_
    refine g_ic (3) d_X4_advance_93 ic_3 ?_
    obtain ⟨h94, e94, hF⟩ := Option.bind_eq_some_iff.mp hF
    refine q_wI d_X4_advance_94 (w_X4_35 _) e94 ?_
    refine g_goto 282 d_X4_advance_97 rfl ?_
    exact q_to (xs_r (xs_h xs_n)) (R_X4_advance_b282 hdp hq _ _ hF)
def F_X4_advance_b55 (k16 : Nat → xH → Option (Unit × xH)) (x0 : Nat) (h : xH) : Option (Unit × xH) := (fI h x0 3 5).bind fun v57 => (wI h x0 3 5 (v57 + 1)).bind fun h62 => k16 x0 h62
theorem R_X4_advance_b55 {Γ : xG} {l : Launch} {d : Nat} {Q : Option Value → xH → Prop} {r : Unit} {h' : xH} {k16 : Nat → xH → Option (Unit × xH)} (K16 : ∀ (x0 : Nat)  (h : xH), k16 x0 h = some (r, h') → Gd Γ l d m_X4_advance 16 [.ref x0, xhole] [] h 0 0 Q) (hdp : 7 ≤ d) (hq : Q (none) h') : ∀ (x0 : Nat) (h : xH), F_X4_advance_b55 k16 x0 h = some (r, h') → Gd Γ l d m_X4_advance 55 [.ref x0, xhole] [] h 0 0 Q := by
  intro x0 h hF
  unfold F_X4_advance_b55 at hF
  refine g_aloadn d_X4_advance_55 rfl ?_
  refine g_dup d_X4_advance_56 rfl ?_
  obtain ⟨v57, e57, hF⟩ := Option.bind_eq_some_iff.mp hF
  refine q_fI d_X4_advance_57 f_X4_29 e57 ?_
  refine g_ic (1) d_X4_advance_60 ic_1 ?_
  refine g_iadd d_X4_advance_61 ?_
  obtain ⟨h62, e62, hF⟩ := Option.bind_eq_some_iff.mp hF
  refine q_wI d_X4_advance_62 (w_X4_29 _) e62 ?_
  refine g_goto 16 d_X4_advance_65 rfl ?_
  exact q_to (xs_r (xs_h xs_n)) (K16 _ _ hF)
def F_X4_advance_b16 : Nat → Nat → xH → Option (Unit × xH)
  | 0, _, _ => none
  | n + 1, x0, h => (fI h x0 3 5).bind fun v17 => (fI h x0 3 4).bind fun v21 => if v21 ≤ v17 then F_X4_advance_b68 x0 h else (fR h x0 3 0).bind fun v28 => (fI h x0 3 5).bind fun v32 => (aC h v28 v32).bind fun v35 => if v35 = ((10 : Int32)) then F_X4_advance_b55 (F_X4_advance_b16 n) x0 h else (fR h x0 3 0).bind fun v42 => (fI h x0 3 5).bind fun v46 => (aC h v42 v46).bind fun v49 => if ¬ v49 = ((32 : Int32)) then F_X4_advance_b68 x0 h else F_X4_advance_b55 (F_X4_advance_b16 n) x0 h
theorem R_X4_advance_b16 {Γ : xG} {l : Launch} {d : Nat} {Q : Option Value → xH → Prop} {r : Unit} {h' : xH} (hdp : 7 ≤ d) (hq : Q (none) h') : ∀ (n : Nat) (x0 : Nat) (h : xH), F_X4_advance_b16 n x0 h = some (r, h') → Gd Γ l d m_X4_advance 16 [.ref x0, xhole] [] h 0 0 Q := by
  intro n
  induction n with
  | zero => intro x0 h hF; cases hF
  | succ n ih =>
  intro x0 h hF
  rw [F_X4_advance_b16] at hF
  refine g_aloadn d_X4_advance_16 rfl ?_
  obtain ⟨v17, e17, hF⟩ := Option.bind_eq_some_iff.mp hF
  refine q_fI d_X4_advance_17 f_X4_29 e17 ?_
  refine g_aloadn d_X4_advance_20 rfl ?_
  obtain ⟨v21, e21, hF⟩ := Option.bind_eq_some_iff.mp hF
  refine q_fI d_X4_advance_21 f_X4_26 e21 ?_
  refine g_icmp_ge 68 d_X4_advance_24 rfl (fun c24 => ?_) (fun c24 => ?_)
  · have hF := x_t hF c24
    exact q_to (xs_r (xs_h xs_n)) (R_X4_advance_b68 hdp hq _ _ hF)
  · have hF := x_f hF c24
    refine g_aloadn d_X4_advance_27 rfl ?_
    obtain ⟨v28, e28, hF⟩ := Option.bind_eq_some_iff.mp hF
    refine q_fR d_X4_advance_28 f_X4_9 e28 ?_
    refine g_aloadn d_X4_advance_31 rfl ?_
    obtain ⟨v32, e32, hF⟩ := Option.bind_eq_some_iff.mp hF
    refine q_fI d_X4_advance_32 f_X4_29 e32 ?_
    obtain ⟨v35, e35, hF⟩ := Option.bind_eq_some_iff.mp hF
    refine q_aC d_X4_advance_35 e35 ?_
    refine g_bi (10) d_X4_advance_36 bi_10 ?_
    refine g_icmp_eq 55 d_X4_advance_38 rfl (fun c38 => ?_) (fun c38 => ?_)
    · have hF := x_t hF c38
      exact q_to (xs_r (xs_h xs_n)) (R_X4_advance_b55 ih hdp hq _ _ hF)
    · have hF := x_f hF c38
      refine g_aloadn d_X4_advance_41 rfl ?_
      obtain ⟨v42, e42, hF⟩ := Option.bind_eq_some_iff.mp hF
      refine q_fR d_X4_advance_42 f_X4_9 e42 ?_
      refine g_aloadn d_X4_advance_45 rfl ?_
      obtain ⟨v46, e46, hF⟩ := Option.bind_eq_some_iff.mp hF
      refine q_fI d_X4_advance_46 f_X4_29 e46 ?_
      obtain ⟨v49, e49, hF⟩ := Option.bind_eq_some_iff.mp hF
      refine q_aC d_X4_advance_49 e49 ?_
      refine g_bi (32) d_X4_advance_50 bi_32 ?_
      refine g_icmp_ne 68 d_X4_advance_52 rfl (fun c52 => ?_) (fun c52 => ?_)
      · have hF := x_t hF c52
        exact q_to (xs_r (xs_h xs_n)) (R_X4_advance_b68 hdp hq _ _ hF)
      · have hF := x_f hF (not_not_intro c52)
        exact q_to (xs_r (xs_h xs_n)) (R_X4_advance_b55 ih hdp hq _ _ hF)
def F_X4_advance (x0 : Nat) (h : xH) : Option (Unit × xH) := (fI h x0 3 11).bind fun v1 => if v1 = 0 then (fI h x0 3 6).bind fun v10 => (wI h x0 3 5 v10).bind fun h13 => F_X4_advance_b16 FU x0 h13 else some ((), h)
theorem R_X4_advance {Γ : xG} {l : Launch} {d : Nat} {r : Unit} {h' : xH} (x0 : Nat) (h : xH) (hdp : 7 ≤ d) (hF : F_X4_advance x0 h = some (r, h')) : Gm Γ l d 0 0 m_X4_advance [.ref x0] h (fun a u => a = none ∧ u = h') := by
  refine Gm.of pn_X4 (Nat.le_of_ble_eq_true rfl) ?_
  show Gd Γ l d m_X4_advance 0 [.ref x0, xhole] [] h 0 0 _
  generalize hQ : (fun (a : Option Value) (u : xH) => a = none ∧ u = h') = Q
  have hq : Q (none) h' := by rw [← hQ]; exact ⟨rfl, rfl⟩
  clear hQ
  unfold F_X4_advance at hF
  refine g_aloadn d_X4_advance_0 rfl ?_
  obtain ⟨v1, e1, hF⟩ := Option.bind_eq_some_iff.mp hF
  refine q_fI d_X4_advance_1 f_X4_52 e1 ?_
  refine g_if_eq 8 d_X4_advance_4 rfl (fun c4 => ?_) (fun c4 => ?_)
  · have hF := x_t hF c4
    refine g_aloadn d_X4_advance_8 rfl ?_
    refine g_aloadn d_X4_advance_9 rfl ?_
    obtain ⟨v10, e10, hF⟩ := Option.bind_eq_some_iff.mp hF
    refine q_fI d_X4_advance_10 f_X4_32 e10 ?_
    obtain ⟨h13, e13, hF⟩ := Option.bind_eq_some_iff.mp hF
    refine q_wI d_X4_advance_13 (w_X4_29 _) e13 ?_
    exact q_to (xs_r (xs_h xs_n)) (R_X4_advance_b16 hdp hq FU _ _ hF)
  · have hF := x_f hF c4
    obtain ⟨rfl, rfl⟩ := x_inj hF
    exact g_vret d_X4_advance_7 rfl hq
theorem d_J3_checkIndex_8e157_0 : decode cJ3_checkIndex_8e157 0 = .ok (.iload_n 0, 1) := by decide +kernel
theorem d_J3_checkIndex_8e157_1 : decode cJ3_checkIndex_8e157 1 = .ok (.ifCond .lt 8, 3) := by decide +kernel
theorem d_J3_checkIndex_8e157_4 : decode cJ3_checkIndex_8e157 4 = .ok (.iload_n 0, 1) := by decide +kernel
theorem d_J3_checkIndex_8e157_5 : decode cJ3_checkIndex_8e157 5 = .ok (.iload_n 1, 1) := by decide +kernel
theorem d_J3_checkIndex_8e157_6 : decode cJ3_checkIndex_8e157 6 = .ok (.if_icmp .lt 10, 3) := by decide +kernel
theorem d_J3_checkIndex_8e157_9 : decode cJ3_checkIndex_8e157 9 = .ok (.aload_n 2, 1) := by decide +kernel
theorem d_J3_checkIndex_8e157_10 : decode cJ3_checkIndex_8e157 10 = .ok (.iload_n 0, 1) := by decide +kernel
theorem d_J3_checkIndex_8e157_11 : decode cJ3_checkIndex_8e157 11 = .ok (.iload_n 1, 1) := by decide +kernel
theorem d_J3_checkIndex_8e157_16 : decode cJ3_checkIndex_8e157 16 = .ok (.iload_n 0, 1) := by decide +kernel
theorem d_J3_checkIndex_8e157_17 : decode cJ3_checkIndex_8e157 17 = .ok (.ireturn, 1) := by decide +kernel
def F_J3_checkIndex_8e157 (x0 : Int32) (x1 : Int32) (x2 : Nat) (h : xH) : Option (Int32 × xH) := if x0 < 0 then none else if x0 < x1 then some (x0, h) else none
theorem R_J3_checkIndex_8e157 {Γ : xG} {l : Launch} {d : Nat} {r : Int32} {h' : xH} (x0 : Int32) (x1 : Int32) (x2 : Nat) (h : xH) (hdp : 0 ≤ d) (hF : F_J3_checkIndex_8e157 x0 x1 x2 h = some (r, h')) : Gm Γ l d 0 0 m_J3_checkIndex_8e157 [.int x0, .int x1, .ref x2] h (fun a u => a = some (.int r) ∧ u = h') := by
  refine Gm.of pn_J3 (Nat.le_of_ble_eq_true rfl) ?_
  show Gd Γ l d m_J3_checkIndex_8e157 0 [.int x0, .int x1, .ref x2] [] h 0 0 _
  generalize hQ : (fun (a : Option Value) (u : xH) => a = some (.int r) ∧ u = h') = Q
  have hq : Q (some (.int r)) h' := by rw [← hQ]; exact ⟨rfl, rfl⟩
  clear hQ
  unfold F_J3_checkIndex_8e157 at hF
  refine g_iloadn d_J3_checkIndex_8e157_0 rfl ?_
  refine g_if_lt 9 d_J3_checkIndex_8e157_1 rfl (fun c1 => ?_) (fun c1 => ?_)
  · have hF := x_t hF c1
    refine g_aloadn d_J3_checkIndex_8e157_9 rfl ?_
    refine g_iloadn d_J3_checkIndex_8e157_10 rfl ?_
    refine g_iloadn d_J3_checkIndex_8e157_11 rfl ?_
    cases hF
  · have hF := x_f hF c1
    refine g_iloadn d_J3_checkIndex_8e157_4 rfl ?_
    refine g_iloadn d_J3_checkIndex_8e157_5 rfl ?_
    refine g_icmp_lt 16 d_J3_checkIndex_8e157_6 rfl (fun c6 => ?_) (fun c6 => ?_)
    · have hF := x_t hF c6
      refine g_iloadn d_J3_checkIndex_8e157_16 rfl ?_
      obtain ⟨rfl, rfl⟩ := x_inj hF
      exact g_iret d_J3_checkIndex_8e157_17 rfl hq
    · have hF := x_f hF c6
      refine g_aloadn d_J3_checkIndex_8e157_9 rfl ?_
      refine g_iloadn d_J3_checkIndex_8e157_10 rfl ?_
      refine g_iloadn d_J3_checkIndex_8e157_11 rfl ?_
      cases hF
theorem d_J0_checkIndex_df160_0 : decode cJ0_checkIndex_df160 0 = .ok (.iload_n 0, 1) := by decide +kernel
theorem d_J0_checkIndex_df160_1 : decode cJ0_checkIndex_df160 1 = .ok (.iload_n 1, 1) := by decide +kernel
theorem d_J0_checkIndex_df160_2 : decode cJ0_checkIndex_df160 2 = .ok (.getstatic 1053, 3) := by decide +kernel
theorem d_J0_checkIndex_df160_5 : decode cJ0_checkIndex_df160 5 = .ok (.invokestatic 1059, 3) := by decide +kernel
theorem d_J0_checkIndex_df160_8 : decode cJ0_checkIndex_df160 8 = .ok (.pop, 1) := by decide +kernel
theorem d_J0_checkIndex_df160_9 : decode cJ0_checkIndex_df160 9 = .ok (.return_, 1) := by decide +kernel
theorem K_J3_checkIndex_8e157 {Γ : xG} {l : Launch} {d : Nat} (x0 : Int32) (x1 : Int32) (w : Value) (hw : w = .null ∨ ∃ q, w = .ref q) (h : xH) (h0 : ¬ x0 < 0) (h1 : x0 < x1) : Gk Γ l d 0 0 m_J3_checkIndex_8e157 [.int x0, .int x1, w] h (fun a u => a = some (.int x0) ∧ u = h) := by
  have hc : w.category = 1 := by rcases hw with rfl | ⟨q, rfl⟩ <;> rfl
  refine Gk.of (L0 := [.int x0, .int x1, xhole]) pn_J3 (by rcases hw with rfl | ⟨q, rfl⟩ <;> exact Nat.le_of_ble_eq_true rfl) (fun i v hi hv => ?_) ?_
  · match i, hi with
    | 0, hi => cases hi; rcases hw with rfl | ⟨q, rfl⟩ <;> exact List.mem_cons_self
    | 1, hi => cases hi; rcases hw with rfl | ⟨q, rfl⟩ <;> exact List.mem_cons_of_mem _ List.mem_cons_self
    | 2, hi => cases hi; exact absurd rfl hv
    | k + 3, hi => simp at hi
  generalize hQ : (fun (a : Option Value) (u : xH) => a = some (.int x0) ∧ u = h) = Q
  have hq : Q (some (.int x0)) h := by rw [← hQ]; exact ⟨rfl, rfl⟩
  clear hQ
  refine g_iloadn d_J3_checkIndex_8e157_0 rfl ?_
  refine g_if_lt 9 d_J3_checkIndex_8e157_1 rfl (fun c1 => absurd c1 h0) (fun c1 => ?_)
  refine g_iloadn d_J3_checkIndex_8e157_4 rfl ?_
  refine g_iloadn d_J3_checkIndex_8e157_5 rfl ?_
  refine g_icmp_lt 16 d_J3_checkIndex_8e157_6 rfl (fun c6 => ?_) (fun c6 => absurd h1 c6)
  refine g_iloadn d_J3_checkIndex_8e157_16 rfl ?_
  exact g_iret d_J3_checkIndex_8e157_17 rfl hq
def F_J0_checkIndex_df160 (x0 : Int32) (x1 : Int32) (h : xH) : Option (Unit × xH) := if x0 < 0 then none else if x0 < x1 then some ((), h) else none
theorem R_J0_checkIndex_df160 {Γ : xG} {l : Launch} {d : Nat} {r : Unit} {h' : xH} (x0 : Int32) (x1 : Int32) (h : xH) (hdp : 1 ≤ d) (hF : F_J0_checkIndex_df160 x0 x1 h = some (r, h')) : Gm Γ l d 0 0 m_J0_checkIndex_df160 [.int x0, .int x1] h (fun a u => a = none ∧ u = h') := by
  refine Gm.of pn_J0 (Nat.le_of_ble_eq_true rfl) ?_
  show Gd Γ l d m_J0_checkIndex_df160 0 [.int x0, .int x1] [] h 0 0 _
  generalize hQ : (fun (a : Option Value) (u : xH) => a = none ∧ u = h') = Q
  have hq : Q (none) h' := by rw [← hQ]; exact ⟨rfl, rfl⟩
  clear hQ
  unfold F_J0_checkIndex_df160 at hF
  refine g_iloadn d_J0_checkIndex_df160_0 rfl ?_
  refine g_iloadn d_J0_checkIndex_df160_1 rfl ?_
  by_cases c0 : x0 < 0
  · rw [if_pos c0] at hF
    cases hF
  · rw [if_neg c0] at hF
    by_cases c1 : x0 < x1
    · rw [if_pos c1] at hF
      obtain ⟨rfl, rfl⟩ := x_inj hF
      refine g_sio d_J0_checkIndex_df160_2 fq_J0_1053 d_J0_checkIndex_df160_5 s_J0_1059 hdp (Nat.le_of_ble_eq_true rfl) (fun w hw => K_J3_checkIndex_8e157 x0 x1 w hw h c0 c1) ?_
      refine g_pop d_J0_checkIndex_df160_8 rfl ?_
      exact g_vret d_J0_checkIndex_df160_9 rfl hq
    · rw [if_neg c1] at hF
      cases hF
theorem d_J1_charAt_3b067_0 : decode cJ1_charAt_3b067 0 = .ok (.iload_n 1, 1) := by decide +kernel
theorem d_J1_charAt_3b067_1 : decode cJ1_charAt_3b067 1 = .ok (.aload_n 0, 1) := by decide +kernel
theorem d_J1_charAt_3b067_2 : decode cJ1_charAt_3b067 2 = .ok (.arraylength, 1) := by decide +kernel
theorem d_J1_charAt_3b067_3 : decode cJ1_charAt_3b067 3 = .ok (.invokestatic 9, 3) := by decide +kernel
theorem d_J1_charAt_3b067_6 : decode cJ1_charAt_3b067 6 = .ok (.aload_n 0, 1) := by decide +kernel
theorem d_J1_charAt_3b067_7 : decode cJ1_charAt_3b067 7 = .ok (.iload_n 1, 1) := by decide +kernel
theorem d_J1_charAt_3b067_8 : decode cJ1_charAt_3b067 8 = .ok (.baload, 1) := by decide +kernel
theorem d_J1_charAt_3b067_9 : decode cJ1_charAt_3b067 9 = .ok (.sipush 255, 3) := by decide +kernel
theorem d_J1_charAt_3b067_12 : decode cJ1_charAt_3b067 12 = .ok (.iand, 1) := by decide +kernel
theorem d_J1_charAt_3b067_13 : decode cJ1_charAt_3b067 13 = .ok (.i2c, 1) := by decide +kernel
theorem d_J1_charAt_3b067_14 : decode cJ1_charAt_3b067 14 = .ok (.ireturn, 1) := by decide +kernel
def F_J1_charAt_3b067 (x0 : Nat) (x1 : Int32) (h : xH) : Option (Int32 × xH) := (al h x0).bind fun v2 => (F_J0_checkIndex_df160 x1 v2 h).bind fun z3 => (aB z3.2 x0 x1).bind fun v8 => rz .char (((v8 &&& 255).toUInt32 % 65536).toInt32) z3.2
theorem R_J1_charAt_3b067 {Γ : xG} {l : Launch} {d : Nat} {r : Int32} {h' : xH} (x0 : Nat) (x1 : Int32) (h : xH) (hdp : 2 ≤ d) (hF : F_J1_charAt_3b067 x0 x1 h = some (r, h')) : Gm Γ l d 0 0 m_J1_charAt_3b067 [.ref x0, .int x1] h (fun a u => a = some (.int r) ∧ u = h') := by
  refine Gm.of pn_J1 (Nat.le_of_ble_eq_true rfl) ?_
  show Gd Γ l d m_J1_charAt_3b067 0 [.ref x0, .int x1] [] h 0 0 _
  generalize hQ : (fun (a : Option Value) (u : xH) => a = some (.int r) ∧ u = h') = Q
  have hq : Q (some (.int r)) h' := by rw [← hQ]; exact ⟨rfl, rfl⟩
  clear hQ
  unfold F_J1_charAt_3b067 at hF
  refine g_iloadn d_J1_charAt_3b067_0 rfl ?_
  refine g_aloadn d_J1_charAt_3b067_1 rfl ?_
  obtain ⟨v2, e2, hF⟩ := Option.bind_eq_some_iff.mp hF
  refine q_al d_J1_charAt_3b067_2 e2 ?_
  obtain ⟨⟨r3, h3⟩, e3, hF⟩ := Option.bind_eq_some_iff.mp hF
  try dsimp only at hF
  refine q_callS [.int x1, .int v2] [] rfl d_J1_charAt_3b067_3 s_J1_9 (by omega) rfl (Nat.le_of_ble_eq_true rfl) (R_J0_checkIndex_df160 _ _ _ (by omega) e3) ?_
  refine g_aloadn d_J1_charAt_3b067_6 rfl ?_
  refine g_iloadn d_J1_charAt_3b067_7 rfl ?_
  obtain ⟨v8, e8, hF⟩ := Option.bind_eq_some_iff.mp hF
  refine q_aB d_J1_charAt_3b067_8 e8 ?_
  refine g_si (255) d_J1_charAt_3b067_9 si_255 ?_
  refine g_iand d_J1_charAt_3b067_12 ?_
  refine g_i2c d_J1_charAt_3b067_13 ?_
  exact q_rz d_J1_charAt_3b067_14 rfl (Or.inr (Or.inl rfl)) hF hq
theorem d_J2_checkIndex_2214a_0 : decode cJ2_checkIndex_2214a 0 = .ok (.iload_n 0, 1) := by decide +kernel
theorem d_J2_checkIndex_2214a_1 : decode cJ2_checkIndex_2214a 1 = .ok (.aload_n 1, 1) := by decide +kernel
theorem d_J2_checkIndex_2214a_2 : decode cJ2_checkIndex_2214a 2 = .ok (.invokestatic 48, 3) := by decide +kernel
theorem d_J2_checkIndex_2214a_5 : decode cJ2_checkIndex_2214a 5 = .ok (.invokestatic 414, 3) := by decide +kernel
theorem d_J2_checkIndex_2214a_8 : decode cJ2_checkIndex_2214a 8 = .ok (.return_, 1) := by decide +kernel
def F_J2_checkIndex_2214a (x0 : Int32) (x1 : Nat) (h : xH) : Option (Unit × xH) := (F_J2_length_9d52b x1 h).bind fun z2 => (F_J0_checkIndex_df160 x0 z2.1 z2.2).bind fun z5 => some ((), z5.2)
theorem R_J2_checkIndex_2214a {Γ : xG} {l : Launch} {d : Nat} {r : Unit} {h' : xH} (x0 : Int32) (x1 : Nat) (h : xH) (hdp : 2 ≤ d) (hF : F_J2_checkIndex_2214a x0 x1 h = some (r, h')) : Gm Γ l d 0 0 m_J2_checkIndex_2214a [.int x0, .ref x1] h (fun a u => a = none ∧ u = h') := by
  refine Gm.of pn_J2 (Nat.le_of_ble_eq_true rfl) ?_
  show Gd Γ l d m_J2_checkIndex_2214a 0 [.int x0, .ref x1] [] h 0 0 _
  generalize hQ : (fun (a : Option Value) (u : xH) => a = none ∧ u = h') = Q
  have hq : Q (none) h' := by rw [← hQ]; exact ⟨rfl, rfl⟩
  clear hQ
  unfold F_J2_checkIndex_2214a at hF
  refine g_iloadn d_J2_checkIndex_2214a_0 rfl ?_
  refine g_aloadn d_J2_checkIndex_2214a_1 rfl ?_
  obtain ⟨⟨r2, h2⟩, e2, hF⟩ := Option.bind_eq_some_iff.mp hF
  try dsimp only at hF
  refine q_callS [.ref x1] [.int x0] rfl d_J2_checkIndex_2214a_2 s_J2_48 (by omega) rfl (Nat.le_of_ble_eq_true rfl) (R_J2_length_9d52b _ _ (by omega) e2) ?_
  obtain ⟨⟨r5, h5⟩, e5, hF⟩ := Option.bind_eq_some_iff.mp hF
  try dsimp only at hF
  refine q_callS [.int x0, .int (r2)] [] rfl d_J2_checkIndex_2214a_5 s_J2_414 (by omega) rfl (Nat.le_of_ble_eq_true rfl) (R_J0_checkIndex_df160 _ _ _ (by omega) e5) ?_
  obtain ⟨rfl, rfl⟩ := x_inj hF
  exact g_vret d_J2_checkIndex_2214a_8 rfl hq
theorem d_J2_charAt_3b067_0 : decode cJ2_charAt_3b067 0 = .ok (.iload_n 1, 1) := by decide +kernel
theorem d_J2_charAt_3b067_1 : decode cJ2_charAt_3b067 1 = .ok (.aload_n 0, 1) := by decide +kernel
theorem d_J2_charAt_3b067_2 : decode cJ2_charAt_3b067 2 = .ok (.invokestatic 67, 3) := by decide +kernel
theorem d_J2_charAt_3b067_5 : decode cJ2_charAt_3b067 5 = .ok (.aload_n 0, 1) := by decide +kernel
theorem d_J2_charAt_3b067_6 : decode cJ2_charAt_3b067 6 = .ok (.iload_n 1, 1) := by decide +kernel
theorem d_J2_charAt_3b067_7 : decode cJ2_charAt_3b067 7 = .ok (.invokestatic 71, 3) := by decide +kernel
theorem d_J2_charAt_3b067_10 : decode cJ2_charAt_3b067 10 = .ok (.ireturn, 1) := by decide +kernel
def F_J2_charAt_3b067 (x0 : Nat) (x1 : Int32) (h : xH) : Option (Int32 × xH) := (F_J2_checkIndex_2214a x1 x0 h).bind fun z2 => (F_J2_getChar_3b067 x0 x1 z2.2).bind fun z7 => rz .char z7.1 z7.2
theorem R_J2_charAt_3b067 {Γ : xG} {l : Launch} {d : Nat} {r : Int32} {h' : xH} (x0 : Nat) (x1 : Int32) (h : xH) (hdp : 3 ≤ d) (hF : F_J2_charAt_3b067 x0 x1 h = some (r, h')) : Gm Γ l d 0 0 m_J2_charAt_3b067 [.ref x0, .int x1] h (fun a u => a = some (.int r) ∧ u = h') := by
  refine Gm.of pn_J2 (Nat.le_of_ble_eq_true rfl) ?_
  show Gd Γ l d m_J2_charAt_3b067 0 [.ref x0, .int x1] [] h 0 0 _
  generalize hQ : (fun (a : Option Value) (u : xH) => a = some (.int r) ∧ u = h') = Q
  have hq : Q (some (.int r)) h' := by rw [← hQ]; exact ⟨rfl, rfl⟩
  clear hQ
  unfold F_J2_charAt_3b067 at hF
  refine g_iloadn d_J2_charAt_3b067_0 rfl ?_
  refine g_aloadn d_J2_charAt_3b067_1 rfl ?_
  obtain ⟨⟨r2, h2⟩, e2, hF⟩ := Option.bind_eq_some_iff.mp hF
  try dsimp only at hF
  refine q_callS [.int x1, .ref x0] [] rfl d_J2_charAt_3b067_2 s_J2_67 (by omega) rfl (Nat.le_of_ble_eq_true rfl) (R_J2_checkIndex_2214a _ _ _ (by omega) e2) ?_
  refine g_aloadn d_J2_charAt_3b067_5 rfl ?_
  refine g_iloadn d_J2_charAt_3b067_6 rfl ?_
  obtain ⟨⟨r7, h7⟩, e7, hF⟩ := Option.bind_eq_some_iff.mp hF
  try dsimp only at hF
  refine q_callS [.ref x0, .int x1] [] rfl d_J2_charAt_3b067_7 s_J2_71 (by omega) rfl (Nat.le_of_ble_eq_true rfl) (R_J2_getChar_3b067 _ _ _ (by omega) e7) ?_
  exact q_rz d_J2_charAt_3b067_10 rfl (Or.inr (Or.inl rfl)) hF hq
theorem d_J0_charAt_5068e_0 : decode cJ0_charAt_5068e 0 = .ok (.aload_n 0, 1) := by decide +kernel
theorem d_J0_charAt_5068e_1 : decode cJ0_charAt_5068e 1 = .ok (.invokevirtual 492, 3) := by decide +kernel
theorem d_J0_charAt_5068e_4 : decode cJ0_charAt_5068e 4 = .ok (.ifCond .eq 12, 3) := by decide +kernel
theorem d_J0_charAt_5068e_7 : decode cJ0_charAt_5068e 7 = .ok (.aload_n 0, 1) := by decide +kernel
theorem d_J0_charAt_5068e_8 : decode cJ0_charAt_5068e 8 = .ok (.getfield 9, 3) := by decide +kernel
theorem d_J0_charAt_5068e_11 : decode cJ0_charAt_5068e 11 = .ok (.iload_n 1, 1) := by decide +kernel
theorem d_J0_charAt_5068e_12 : decode cJ0_charAt_5068e 12 = .ok (.invokestatic 495, 3) := by decide +kernel
theorem d_J0_charAt_5068e_15 : decode cJ0_charAt_5068e 15 = .ok (.ireturn, 1) := by decide +kernel
theorem d_J0_charAt_5068e_16 : decode cJ0_charAt_5068e 16 = .ok (.aload_n 0, 1) := by decide +kernel
theorem d_J0_charAt_5068e_17 : decode cJ0_charAt_5068e 17 = .ok (.getfield 9, 3) := by decide +kernel
theorem d_J0_charAt_5068e_20 : decode cJ0_charAt_5068e 20 = .ok (.iload_n 1, 1) := by decide +kernel
theorem d_J0_charAt_5068e_21 : decode cJ0_charAt_5068e 21 = .ok (.invokestatic 498, 3) := by decide +kernel
theorem d_J0_charAt_5068e_24 : decode cJ0_charAt_5068e 24 = .ok (.ireturn, 1) := by decide +kernel
def F_J0_charAt_5068e (x0 : Nat) (x1 : Int32) (h : xH) : Option (Int32 × xH) := (rcS h x0).bind fun _ => (F_J0_isLatin1_aae02 x0 h).bind fun z1 => if z1.1 = 0 then (fSV z1.2 x0).bind fun v17 => (F_J2_charAt_3b067 v17 x1 z1.2).bind fun z21 => rz .char z21.1 z21.2 else (fSV z1.2 x0).bind fun v8 => (F_J1_charAt_3b067 v8 x1 z1.2).bind fun z12 => rz .char z12.1 z12.2
theorem R_J0_charAt_5068e {Γ : xG} {l : Launch} {d : Nat} {r : Int32} {h' : xH} (x0 : Nat) (x1 : Int32) (h : xH) (hdp : 4 ≤ d) (hF : F_J0_charAt_5068e x0 x1 h = some (r, h')) : Gm Γ l d 0 0 m_J0_charAt_5068e [.ref x0, .int x1] h (fun a u => a = some (.int r) ∧ u = h') := by
  refine Gm.of pn_J0 (Nat.le_of_ble_eq_true rfl) ?_
  show Gd Γ l d m_J0_charAt_5068e 0 [.ref x0, .int x1] [] h 0 0 _
  generalize hQ : (fun (a : Option Value) (u : xH) => a = some (.int r) ∧ u = h') = Q
  have hq : Q (some (.int r)) h' := by rw [← hQ]; exact ⟨rfl, rfl⟩
  clear hQ
  unfold F_J0_charAt_5068e at hF
  refine g_aloadn d_J0_charAt_5068e_0 rfl ?_
  obtain ⟨_, g1, hF⟩ := Option.bind_eq_some_iff.mp hF
  obtain ⟨⟨r1, h1⟩, e1, hF⟩ := Option.bind_eq_some_iff.mp hF
  try dsimp only at hF
  refine q_callV [] [] rfl d_J0_charAt_5068e_1 v_J0_492 (by omega) rfl (Nat.le_of_ble_eq_true rfl) (rcS_rc g1) (R_J0_isLatin1_aae02 _ _ (by omega) e1) ?_
  refine g_if_eq 16 d_J0_charAt_5068e_4 rfl (fun c4 => ?_) (fun c4 => ?_)
  · have hF := x_t hF c4
    refine g_aloadn d_J0_charAt_5068e_16 rfl ?_
    obtain ⟨v17, e17, hF⟩ := Option.bind_eq_some_iff.mp hF
    refine q_fSV d_J0_charAt_5068e_17 fq_J0_9 e17 ?_
    refine g_iloadn d_J0_charAt_5068e_20 rfl ?_
    obtain ⟨⟨r21, h21⟩, e21, hF⟩ := Option.bind_eq_some_iff.mp hF
    try dsimp only at hF
    refine q_callS [.ref v17, .int x1] [] rfl d_J0_charAt_5068e_21 s_J0_498 (by omega) rfl (Nat.le_of_ble_eq_true rfl) (R_J2_charAt_3b067 _ _ _ (by omega) e21) ?_
    exact q_rz d_J0_charAt_5068e_24 rfl (Or.inr (Or.inl rfl)) hF hq
  · have hF := x_f hF c4
    refine g_aloadn d_J0_charAt_5068e_7 rfl ?_
    obtain ⟨v8, e8, hF⟩ := Option.bind_eq_some_iff.mp hF
    refine q_fSV d_J0_charAt_5068e_8 fq_J0_9 e8 ?_
    refine g_iloadn d_J0_charAt_5068e_11 rfl ?_
    obtain ⟨⟨r12, h12⟩, e12, hF⟩ := Option.bind_eq_some_iff.mp hF
    try dsimp only at hF
    refine q_callS [.ref v8, .int x1] [] rfl d_J0_charAt_5068e_12 s_J0_495 (by omega) rfl (Nat.le_of_ble_eq_true rfl) (R_J1_charAt_3b067 _ _ _ (by omega) e12) ?_
    exact q_rz d_J0_charAt_5068e_15 rfl (Or.inr (Or.inl rfl)) hF hq
theorem d_X4_isAt_0 : decode cX4_isAt 0 = .ok (.aload_n 0, 1) := by decide +kernel
theorem d_X4_isAt_1 : decode cX4_isAt 1 = .ok (.getfield 32, 3) := by decide +kernel
theorem d_X4_isAt_4 : decode cX4_isAt 4 = .ok (.aload_n 0, 1) := by decide +kernel
theorem d_X4_isAt_5 : decode cX4_isAt 5 = .ok (.getfield 29, 3) := by decide +kernel
theorem d_X4_isAt_8 : decode cX4_isAt 8 = .ok (.isub, 1) := by decide +kernel
theorem d_X4_isAt_9 : decode cX4_isAt 9 = .ok (.aload_n 1, 1) := by decide +kernel
theorem d_X4_isAt_10 : decode cX4_isAt 10 = .ok (.invokevirtual 95, 3) := by decide +kernel
theorem d_X4_isAt_13 : decode cX4_isAt 13 = .ok (.if_icmp .eq 5, 3) := by decide +kernel
theorem d_X4_isAt_16 : decode cX4_isAt 16 = .ok (.iconst 0, 1) := by decide +kernel
theorem d_X4_isAt_17 : decode cX4_isAt 17 = .ok (.ireturn, 1) := by decide +kernel
theorem d_X4_isAt_18 : decode cX4_isAt 18 = .ok (.iconst 0, 1) := by decide +kernel
theorem d_X4_isAt_19 : decode cX4_isAt 19 = .ok (.istore_n 2, 1) := by decide +kernel
theorem d_X4_isAt_20 : decode cX4_isAt 20 = .ok (.iload_n 2, 1) := by decide +kernel
theorem d_X4_isAt_21 : decode cX4_isAt 21 = .ok (.aload_n 1, 1) := by decide +kernel
theorem d_X4_isAt_22 : decode cX4_isAt 22 = .ok (.invokevirtual 95, 3) := by decide +kernel
theorem d_X4_isAt_25 : decode cX4_isAt 25 = .ok (.if_icmp .ge 30, 3) := by decide +kernel
theorem d_X4_isAt_28 : decode cX4_isAt 28 = .ok (.aload_n 0, 1) := by decide +kernel
theorem d_X4_isAt_29 : decode cX4_isAt 29 = .ok (.getfield 9, 3) := by decide +kernel
theorem d_X4_isAt_32 : decode cX4_isAt 32 = .ok (.aload_n 0, 1) := by decide +kernel
theorem d_X4_isAt_33 : decode cX4_isAt 33 = .ok (.getfield 29, 3) := by decide +kernel
theorem d_X4_isAt_36 : decode cX4_isAt 36 = .ok (.iload_n 2, 1) := by decide +kernel
theorem d_X4_isAt_37 : decode cX4_isAt 37 = .ok (.iadd, 1) := by decide +kernel
theorem d_X4_isAt_38 : decode cX4_isAt 38 = .ok (.caload, 1) := by decide +kernel
theorem d_X4_isAt_39 : decode cX4_isAt 39 = .ok (.aload_n 1, 1) := by decide +kernel
theorem d_X4_isAt_40 : decode cX4_isAt 40 = .ok (.iload_n 2, 1) := by decide +kernel
theorem d_X4_isAt_41 : decode cX4_isAt 41 = .ok (.invokevirtual 98, 3) := by decide +kernel
theorem d_X4_isAt_44 : decode cX4_isAt 44 = .ok (.if_icmp .eq 5, 3) := by decide +kernel
theorem d_X4_isAt_47 : decode cX4_isAt 47 = .ok (.iconst 0, 1) := by decide +kernel
theorem d_X4_isAt_48 : decode cX4_isAt 48 = .ok (.ireturn, 1) := by decide +kernel
theorem d_X4_isAt_49 : decode cX4_isAt 49 = .ok (.iinc 2 1, 3) := by decide +kernel
theorem d_X4_isAt_52 : decode cX4_isAt 52 = .ok (.goto (-32), 3) := by decide +kernel
theorem d_X4_isAt_55 : decode cX4_isAt 55 = .ok (.iconst 1, 1) := by decide +kernel
theorem d_X4_isAt_56 : decode cX4_isAt 56 = .ok (.ireturn, 1) := by decide +kernel
def F_X4_isAt_b20 : Nat → Nat → Nat → Int32 → xH → Option (Int32 × xH)
  | 0, _, _, _, _ => none
  | n + 1, x0, x1, x2, h => (rcS h x1).bind fun _ => (F_J0_length_8abf5 x1 h).bind fun z22 => if z22.1 ≤ x2 then some (1, z22.2) else (fR z22.2 x0 3 0).bind fun v29 => (fI z22.2 x0 3 5).bind fun v33 => (aC z22.2 v29 (v33 + x2)).bind fun v38 => (rcS z22.2 x1).bind fun _ => (F_J0_charAt_5068e x1 x2 z22.2).bind fun z41 => if v38 = z41.1 then F_X4_isAt_b20 n x0 x1 (x2 + 1) z41.2 else some (0, z41.2)
theorem R_X4_isAt_b20 {Γ : xG} {l : Launch} {d : Nat} {Q : Option Value → xH → Prop} {r : Int32} {h' : xH} (hdp : 5 ≤ d) (hq : Q (some (.int r)) h') : ∀ (n : Nat) (x0 : Nat) (x1 : Nat) (x2 : Int32) (h : xH), F_X4_isAt_b20 n x0 x1 x2 h = some (r, h') → Gd Γ l d m_X4_isAt 20 [.ref x0, .ref x1, .int x2] [] h 0 0 Q := by
  intro n
  induction n with
  | zero => intro x0 x1 x2 h hF; cases hF
  | succ n ih =>
  intro x0 x1 x2 h hF
  rw [F_X4_isAt_b20] at hF
  refine g_iloadn d_X4_isAt_20 rfl ?_
  refine g_aloadn d_X4_isAt_21 rfl ?_
  obtain ⟨_, g22, hF⟩ := Option.bind_eq_some_iff.mp hF
  obtain ⟨⟨r22, h22⟩, e22, hF⟩ := Option.bind_eq_some_iff.mp hF
  try dsimp only at hF
  refine q_callV [] [.int x2] rfl d_X4_isAt_22 v_X4_95 (by omega) rfl (Nat.le_of_ble_eq_true rfl) (rcS_rc g22) (R_J0_length_8abf5 _ _ (by omega) e22) ?_
  refine g_icmp_ge 55 d_X4_isAt_25 rfl (fun c25 => ?_) (fun c25 => ?_)
  · have hF := x_t hF c25
    refine g_ic (1) d_X4_isAt_55 ic_1 ?_
    obtain ⟨rfl, rfl⟩ := x_inj hF
    exact g_zret d_X4_isAt_56 rfl rfl hq
  · have hF := x_f hF c25
    refine g_aloadn d_X4_isAt_28 rfl ?_
    obtain ⟨v29, e29, hF⟩ := Option.bind_eq_some_iff.mp hF
    refine q_fR d_X4_isAt_29 f_X4_9 e29 ?_
    refine g_aloadn d_X4_isAt_32 rfl ?_
    obtain ⟨v33, e33, hF⟩ := Option.bind_eq_some_iff.mp hF
    refine q_fI d_X4_isAt_33 f_X4_29 e33 ?_
    refine g_iloadn d_X4_isAt_36 rfl ?_
    refine g_iadd d_X4_isAt_37 ?_
    obtain ⟨v38, e38, hF⟩ := Option.bind_eq_some_iff.mp hF
    refine q_aC d_X4_isAt_38 e38 ?_
    refine g_aloadn d_X4_isAt_39 rfl ?_
    refine g_iloadn d_X4_isAt_40 rfl ?_
    obtain ⟨_, g41, hF⟩ := Option.bind_eq_some_iff.mp hF
    obtain ⟨⟨r41, h41⟩, e41, hF⟩ := Option.bind_eq_some_iff.mp hF
    try dsimp only at hF
    refine q_callV [.int x2] [.int v38] rfl d_X4_isAt_41 v_X4_98 (by omega) rfl (Nat.le_of_ble_eq_true rfl) (rcS_rc g41) (R_J0_charAt_5068e _ _ _ (by omega) e41) ?_
    refine g_icmp_eq 49 d_X4_isAt_44 rfl (fun c44 => ?_) (fun c44 => ?_)
    · have hF := x_t hF c44
      refine q_iinc (1) [.ref x0, .ref x1, .int (x2 + 1)] d_X4_isAt_49 ic_1 rfl (by decide) rfl ?_
      refine g_goto 20 d_X4_isAt_52 rfl ?_
      exact q_to (xs_r (xs_r (xs_r xs_n))) (ih _ _ _ _ hF)
    · have hF := x_f hF c44
      refine g_ic (0) d_X4_isAt_47 ic_0 ?_
      obtain ⟨rfl, rfl⟩ := x_inj hF
      exact g_zret d_X4_isAt_48 rfl rfl hq
def F_X4_isAt (x0 : Nat) (x1 : Nat) (h : xH) : Option (Int32 × xH) := (fI h x0 3 6).bind fun v1 => (fI h x0 3 5).bind fun v5 => (rcS h x1).bind fun _ => (F_J0_length_8abf5 x1 h).bind fun z10 => if (v1 - v5) = z10.1 then F_X4_isAt_b20 FU x0 x1 0 z10.2 else some (0, z10.2)
theorem R_X4_isAt {Γ : xG} {l : Launch} {d : Nat} {r : Int32} {h' : xH} (x0 : Nat) (x1 : Nat) (h : xH) (hdp : 5 ≤ d) (hF : F_X4_isAt x0 x1 h = some (r, h')) : Gm Γ l d 0 0 m_X4_isAt [.ref x0, .ref x1] h (fun a u => a = some (.int r) ∧ u = h') := by
  refine Gm.of pn_X4 (Nat.le_of_ble_eq_true rfl) ?_
  show Gd Γ l d m_X4_isAt 0 [.ref x0, .ref x1, xhole] [] h 0 0 _
  generalize hQ : (fun (a : Option Value) (u : xH) => a = some (.int r) ∧ u = h') = Q
  have hq : Q (some (.int r)) h' := by rw [← hQ]; exact ⟨rfl, rfl⟩
  clear hQ
  unfold F_X4_isAt at hF
  refine g_aloadn d_X4_isAt_0 rfl ?_
  obtain ⟨v1, e1, hF⟩ := Option.bind_eq_some_iff.mp hF
  refine q_fI d_X4_isAt_1 f_X4_32 e1 ?_
  refine g_aloadn d_X4_isAt_4 rfl ?_
  obtain ⟨v5, e5, hF⟩ := Option.bind_eq_some_iff.mp hF
  refine q_fI d_X4_isAt_5 f_X4_29 e5 ?_
  refine g_isub d_X4_isAt_8 ?_
  refine g_aloadn d_X4_isAt_9 rfl ?_
  obtain ⟨_, g10, hF⟩ := Option.bind_eq_some_iff.mp hF
  obtain ⟨⟨r10, h10⟩, e10, hF⟩ := Option.bind_eq_some_iff.mp hF
  try dsimp only at hF
  refine q_callV [] [.int (v1 - v5)] rfl d_X4_isAt_10 v_X4_95 (by omega) rfl (Nat.le_of_ble_eq_true rfl) (rcS_rc g10) (R_J0_length_8abf5 _ _ (by omega) e10) ?_
  refine g_icmp_eq 18 d_X4_isAt_13 rfl (fun c13 => ?_) (fun c13 => ?_)
  · have hF := x_t hF c13
    refine g_ic (0) d_X4_isAt_18 ic_0 ?_
    refine q_istoren [.ref x0, .ref x1, .int 0] d_X4_isAt_19 (by decide) rfl ?_
    exact q_to (xs_r (xs_r (xs_r xs_n))) (R_X4_isAt_b20 hdp hq FU _ _ _ _ hF)
  · have hF := x_f hF c13
    refine g_ic (0) d_X4_isAt_16 ic_0 ?_
    obtain ⟨rfl, rfl⟩ := x_inj hF
    exact g_zret d_X4_isAt_17 rfl rfl hq
theorem d_X4_pass_0 : decode cX4_pass 0 = .ok (.aload_n 0, 1) := by decide +kernel
theorem d_X4_pass_1 : decode cX4_pass 1 = .ok (.aload_n 1, 1) := by decide +kernel
theorem d_X4_pass_2 : decode cX4_pass 2 = .ok (.invokevirtual 102, 3) := by decide +kernel
theorem d_X4_pass_5 : decode cX4_pass 5 = .ok (.ifCond .ne 8, 3) := by decide +kernel
theorem d_X4_pass_8 : decode cX4_pass 8 = .ok (.aload_n 0, 1) := by decide +kernel
theorem d_X4_pass_9 : decode cX4_pass 9 = .ok (.iconst 2, 1) := by decide +kernel
theorem d_X4_pass_10 : decode cX4_pass 10 = .ok (.invokevirtual 91, 3) := by decide +kernel
theorem d_X4_pass_13 : decode cX4_pass 13 = .ok (.aload_n 0, 1) := by decide +kernel
theorem d_X4_pass_14 : decode cX4_pass 14 = .ok (.invokevirtual 64, 3) := by decide +kernel
theorem d_X4_pass_17 : decode cX4_pass 17 = .ok (.return_, 1) := by decide +kernel
def F_X4_pass_b13 (x0 : Nat) (h : xH) : Option (Unit × xH) := (rc h x0 3).bind fun _ => (F_X4_advance x0 h).bind fun z14 => some ((), z14.2)
theorem R_X4_pass_b13 {Γ : xG} {l : Launch} {d : Nat} {Q : Option Value → xH → Prop} {r : Unit} {h' : xH} (hdp : 8 ≤ d) (hq : Q (none) h') : ∀ (x0 : Nat) (h : xH), F_X4_pass_b13 x0 h = some (r, h') → Gd Γ l d m_X4_pass 13 [.ref x0, xhole] [] h 0 0 Q := by
  intro x0 h hF
  unfold F_X4_pass_b13 at hF
  refine g_aloadn d_X4_pass_13 rfl ?_
  obtain ⟨_, g14, hF⟩ := Option.bind_eq_some_iff.mp hF
  obtain ⟨⟨r14, h14⟩, e14, hF⟩ := Option.bind_eq_some_iff.mp hF
  try dsimp only at hF
  refine q_callV [] [] rfl d_X4_pass_14 v_X4_64 (by omega) rfl (Nat.le_of_ble_eq_true rfl) (rc_rc g14 (by decide) rfl) (R_X4_advance _ _ (by omega) e14) ?_
  obtain ⟨rfl, rfl⟩ := x_inj hF
  exact g_vret d_X4_pass_17 rfl hq
def F_X4_pass (x0 : Nat) (x1 : Nat) (h : xH) : Option (Unit × xH) := (rc h x0 3).bind fun _ => (F_X4_isAt x0 x1 h).bind fun z2 => if ¬ z2.1 = 0 then F_X4_pass_b13 x0 z2.2 else (rc z2.2 x0 3).bind fun _ => (F_X4_fail x0 2 z2.2).bind fun z10 => F_X4_pass_b13 x0 z10.2
theorem R_X4_pass {Γ : xG} {l : Launch} {d : Nat} {r : Unit} {h' : xH} (x0 : Nat) (x1 : Nat) (h : xH) (hdp : 8 ≤ d) (hF : F_X4_pass x0 x1 h = some (r, h')) : Gm Γ l d 0 0 m_X4_pass [.ref x0, .ref x1] h (fun a u => a = none ∧ u = h') := by
  refine Gm.of pn_X4 (Nat.le_of_ble_eq_true rfl) ?_
  show Gd Γ l d m_X4_pass 0 [.ref x0, .ref x1] [] h 0 0 _
  generalize hQ : (fun (a : Option Value) (u : xH) => a = none ∧ u = h') = Q
  have hq : Q (none) h' := by rw [← hQ]; exact ⟨rfl, rfl⟩
  clear hQ
  unfold F_X4_pass at hF
  refine g_aloadn d_X4_pass_0 rfl ?_
  refine g_aloadn d_X4_pass_1 rfl ?_
  obtain ⟨_, g2, hF⟩ := Option.bind_eq_some_iff.mp hF
  obtain ⟨⟨r2, h2⟩, e2, hF⟩ := Option.bind_eq_some_iff.mp hF
  try dsimp only at hF
  refine q_callV [.ref x1] [] rfl d_X4_pass_2 v_X4_102 (by omega) rfl (Nat.le_of_ble_eq_true rfl) (rc_rc g2 (by decide) rfl) (R_X4_isAt _ _ _ (by omega) e2) ?_
  refine g_if_ne 13 d_X4_pass_5 rfl (fun c5 => ?_) (fun c5 => ?_)
  · have hF := x_t hF c5
    exact q_to (xs_r (xs_h xs_n)) (R_X4_pass_b13 hdp hq _ _ hF)
  · have hF := x_f hF (not_not_intro c5)
    refine g_aloadn d_X4_pass_8 rfl ?_
    refine g_ic (2) d_X4_pass_9 ic_2 ?_
    obtain ⟨_, g10, hF⟩ := Option.bind_eq_some_iff.mp hF
    obtain ⟨⟨r10, h10⟩, e10, hF⟩ := Option.bind_eq_some_iff.mp hF
    try dsimp only at hF
    refine q_callV [.int 2] [] rfl d_X4_pass_10 v_X4_91 (by omega) rfl (Nat.le_of_ble_eq_true rfl) (rc_rc g10 (by decide) rfl) (R_X4_fail _ _ _ (by omega) e10) ?_
    exact q_to (xs_r (xs_h xs_n)) (R_X4_pass_b13 hdp hq _ _ hF)
