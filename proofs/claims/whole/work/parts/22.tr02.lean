/-! ===== methods as functions, 2: written by a program out of the listings ===== -/
theorem d_X4_passNumber_0 : decode cX4_passNumber 0 = .ok (.aload_n 0, 1) := by decide +kernel
theorem d_X4_passNumber_1 : decode cX4_passNumber 1 = .ok (.getfield 35, 3) := by decide +kernel
theorem d_X4_passNumber_4 : decode cX4_passNumber 4 = .ok (.iconst 1, 1) := by decide +kernel
theorem d_X4_passNumber_5 : decode cX4_passNumber 5 = .ok (.if_icmp .eq 11, 3) := by decide +kernel
theorem d_X4_passNumber_8 : decode cX4_passNumber 8 = .ok (.aload_n 0, 1) := by decide +kernel
theorem d_X4_passNumber_9 : decode cX4_passNumber 9 = .ok (.iconst 2, 1) := by decide +kernel
theorem d_X4_passNumber_10 : decode cX4_passNumber 10 = .ok (.invokevirtual 91, 3) := by decide +kernel
theorem d_X4_passNumber_13 : decode cX4_passNumber 13 = .ok (.goto 24, 3) := by decide +kernel
theorem d_X4_passNumber_16 : decode cX4_passNumber 16 = .ok (.aload_n 0, 1) := by decide +kernel
theorem d_X4_passNumber_17 : decode cX4_passNumber 17 = .ok (.getfield 38, 3) := by decide +kernel
theorem d_X4_passNumber_20 : decode cX4_passNumber 20 = .ok (.iload_n 1, 1) := by decide +kernel
theorem d_X4_passNumber_21 : decode cX4_passNumber 21 = .ok (.if_icmp .lt 11, 3) := by decide +kernel
theorem d_X4_passNumber_24 : decode cX4_passNumber 24 = .ok (.aload_n 0, 1) := by decide +kernel
theorem d_X4_passNumber_25 : decode cX4_passNumber 25 = .ok (.getfield 38, 3) := by decide +kernel
theorem d_X4_passNumber_28 : decode cX4_passNumber 28 = .ok (.iload_n 2, 1) := by decide +kernel
theorem d_X4_passNumber_29 : decode cX4_passNumber 29 = .ok (.if_icmp .le 8, 3) := by decide +kernel
theorem d_X4_passNumber_32 : decode cX4_passNumber 32 = .ok (.aload_n 0, 1) := by decide +kernel
theorem d_X4_passNumber_33 : decode cX4_passNumber 33 = .ok (.iconst 3, 1) := by decide +kernel
theorem d_X4_passNumber_34 : decode cX4_passNumber 34 = .ok (.invokevirtual 91, 3) := by decide +kernel
theorem d_X4_passNumber_37 : decode cX4_passNumber 37 = .ok (.aload_n 0, 1) := by decide +kernel
theorem d_X4_passNumber_38 : decode cX4_passNumber 38 = .ok (.getfield 52, 3) := by decide +kernel
theorem d_X4_passNumber_41 : decode cX4_passNumber 41 = .ok (.ifCond .eq 5, 3) := by decide +kernel
theorem d_X4_passNumber_44 : decode cX4_passNumber 44 = .ok (.iconst (-1), 1) := by decide +kernel
theorem d_X4_passNumber_45 : decode cX4_passNumber 45 = .ok (.ireturn, 1) := by decide +kernel
theorem d_X4_passNumber_46 : decode cX4_passNumber 46 = .ok (.aload_n 0, 1) := by decide +kernel
theorem d_X4_passNumber_47 : decode cX4_passNumber 47 = .ok (.getfield 38, 3) := by decide +kernel
theorem d_X4_passNumber_50 : decode cX4_passNumber 50 = .ok (.istore_n 3, 1) := by decide +kernel
theorem d_X4_passNumber_51 : decode cX4_passNumber 51 = .ok (.aload_n 0, 1) := by decide +kernel
theorem d_X4_passNumber_52 : decode cX4_passNumber 52 = .ok (.invokevirtual 64, 3) := by decide +kernel
theorem d_X4_passNumber_55 : decode cX4_passNumber 55 = .ok (.iload_n 3, 1) := by decide +kernel
theorem d_X4_passNumber_56 : decode cX4_passNumber 56 = .ok (.ireturn, 1) := by decide +kernel
def F_X4_passNumber_b37 (x0 : Nat) (h : xH) : Option (Int32 × xH) := (fI h x0 3 11).bind fun v38 => if v38 = 0 then (fI h x0 3 8).bind fun v47 => (rc h x0 3).bind fun _ => (F_X4_advance x0 h).bind fun z52 => some (v47, z52.2) else some ((-1), h)
theorem R_X4_passNumber_b37 {Γ : xG} {l : Launch} {d : Nat} {Q : Option Value → xH → Prop} {r : Int32} {h' : xH} (hdp : 8 ≤ d) (hq : Q (some (.int r)) h') : ∀ (x0 : Nat) (h : xH), F_X4_passNumber_b37 x0 h = some (r, h') → Gd Γ l d m_X4_passNumber 37 [.ref x0, xhole, xhole, xhole] [] h 0 0 Q := by
  intro x0 h hF
  unfold F_X4_passNumber_b37 at hF
  refine g_aloadn d_X4_passNumber_37 rfl ?_
  obtain ⟨v38, e38, hF⟩ := Option.bind_eq_some_iff.mp hF
  refine q_fI d_X4_passNumber_38 f_X4_52 e38 ?_
  refine g_if_eq 46 d_X4_passNumber_41 rfl (fun c41 => ?_) (fun c41 => ?_)
  · have hF := x_t hF c41
    refine g_aloadn d_X4_passNumber_46 rfl ?_
    obtain ⟨v47, e47, hF⟩ := Option.bind_eq_some_iff.mp hF
    refine q_fI d_X4_passNumber_47 f_X4_38 e47 ?_
    refine q_istoren [.ref x0, xhole, xhole, .int v47] d_X4_passNumber_50 (by decide) rfl ?_
    refine g_aloadn d_X4_passNumber_51 rfl ?_
    obtain ⟨_, g52, hF⟩ := Option.bind_eq_some_iff.mp hF
    obtain ⟨⟨r52, h52⟩, e52, hF⟩ := Option.bind_eq_some_iff.mp hF
    try dsimp only at hF
    refine q_callV [] [] rfl d_X4_passNumber_52 v_X4_64 (by omega) rfl (Nat.le_of_ble_eq_true rfl) (rc_rc g52 (by decide) rfl) (R_X4_advance _ _ (by omega) e52) ?_
    refine g_iloadn d_X4_passNumber_55 rfl ?_
    obtain ⟨rfl, rfl⟩ := x_inj hF
    exact g_iret d_X4_passNumber_56 rfl hq
  · have hF := x_f hF c41
    refine g_ic (-1) d_X4_passNumber_44 ic_m1 ?_
    obtain ⟨rfl, rfl⟩ := x_inj hF
    exact g_iret d_X4_passNumber_45 rfl hq
def F_X4_passNumber_b32 (x0 : Nat) (h : xH) : Option (Int32 × xH) := (rc h x0 3).bind fun _ => (F_X4_fail x0 3 h).bind fun z34 => F_X4_passNumber_b37 x0 z34.2
theorem R_X4_passNumber_b32 {Γ : xG} {l : Launch} {d : Nat} {Q : Option Value → xH → Prop} {r : Int32} {h' : xH} (hdp : 8 ≤ d) (hq : Q (some (.int r)) h') : ∀ (x0 : Nat) (h : xH), F_X4_passNumber_b32 x0 h = some (r, h') → Gd Γ l d m_X4_passNumber 32 [.ref x0, xhole, xhole, xhole] [] h 0 0 Q := by
  intro x0 h hF
  unfold F_X4_passNumber_b32 at hF
  refine g_aloadn d_X4_passNumber_32 rfl ?_
  refine g_ic (3) d_X4_passNumber_33 ic_3 ?_
  obtain ⟨_, g34, hF⟩ := Option.bind_eq_some_iff.mp hF
  obtain ⟨⟨r34, h34⟩, e34, hF⟩ := Option.bind_eq_some_iff.mp hF
  try dsimp only at hF
  refine q_callV [.int 3] [] rfl d_X4_passNumber_34 v_X4_91 (by omega) rfl (Nat.le_of_ble_eq_true rfl) (rc_rc g34 (by decide) rfl) (R_X4_fail _ _ _ (by omega) e34) ?_
  exact q_to (xs_r (xs_h (xs_h (xs_h xs_n)))) (R_X4_passNumber_b37 hdp hq _ _ hF)
def F_X4_passNumber (x0 : Nat) (x1 : Int32) (x2 : Int32) (h : xH) : Option (Int32 × xH) := (fI h x0 3 7).bind fun v1 => if v1 = ((1 : Int32)) then (fI h x0 3 8).bind fun v17 => if v17 < x1 then F_X4_passNumber_b32 x0 h else (fI h x0 3 8).bind fun v25 => if v25 ≤ x2 then F_X4_passNumber_b37 x0 h else F_X4_passNumber_b32 x0 h else (rc h x0 3).bind fun _ => (F_X4_fail x0 2 h).bind fun z10 => F_X4_passNumber_b37 x0 z10.2
theorem R_X4_passNumber {Γ : xG} {l : Launch} {d : Nat} {r : Int32} {h' : xH} (x0 : Nat) (x1 : Int32) (x2 : Int32) (h : xH) (hdp : 8 ≤ d) (hF : F_X4_passNumber x0 x1 x2 h = some (r, h')) : Gm Γ l d 0 0 m_X4_passNumber [.ref x0, .int x1, .int x2] h (fun a u => a = some (.int r) ∧ u = h') := by
  refine Gm.of pn_X4 (Nat.le_of_ble_eq_true rfl) ?_
  show Gd Γ l d m_X4_passNumber 0 [.ref x0, .int x1, .int x2, xhole] [] h 0 0 _
  generalize hQ : (fun (a : Option Value) (u : xH) => a = some (.int r) ∧ u = h') = Q
  have hq : Q (some (.int r)) h' := by rw [← hQ]; exact ⟨rfl, rfl⟩
  clear hQ
  unfold F_X4_passNumber at hF
  refine g_aloadn d_X4_passNumber_0 rfl ?_
  obtain ⟨v1, e1, hF⟩ := Option.bind_eq_some_iff.mp hF
  refine q_fI d_X4_passNumber_1 f_X4_35 e1 ?_
  refine g_ic (1) d_X4_passNumber_4 ic_1 ?_
  refine g_icmp_eq 16 d_X4_passNumber_5 rfl (fun c5 => ?_) (fun c5 => ?_)
  · have hF := x_t hF c5
    refine g_aloadn d_X4_passNumber_16 rfl ?_
    obtain ⟨v17, e17, hF⟩ := Option.bind_eq_some_iff.mp hF
    refine q_fI d_X4_passNumber_17 f_X4_38 e17 ?_
    refine g_iloadn d_X4_passNumber_20 rfl ?_
    refine g_icmp_lt 32 d_X4_passNumber_21 rfl (fun c21 => ?_) (fun c21 => ?_)
    · have hF := x_t hF c21
      exact q_to (xs_r (xs_h (xs_h (xs_h xs_n)))) (R_X4_passNumber_b32 hdp hq _ _ hF)
    · have hF := x_f hF c21
      refine g_aloadn d_X4_passNumber_24 rfl ?_
      obtain ⟨v25, e25, hF⟩ := Option.bind_eq_some_iff.mp hF
      refine q_fI d_X4_passNumber_25 f_X4_38 e25 ?_
      refine g_iloadn d_X4_passNumber_28 rfl ?_
      refine g_icmp_le 37 d_X4_passNumber_29 rfl (fun c29 => ?_) (fun c29 => ?_)
      · have hF := x_t hF c29
        exact q_to (xs_r (xs_h (xs_h (xs_h xs_n)))) (R_X4_passNumber_b37 hdp hq _ _ hF)
      · have hF := x_f hF c29
        exact q_to (xs_r (xs_h (xs_h (xs_h xs_n)))) (R_X4_passNumber_b32 hdp hq _ _ hF)
  · have hF := x_f hF c5
    refine g_aloadn d_X4_passNumber_8 rfl ?_
    refine g_ic (2) d_X4_passNumber_9 ic_2 ?_
    obtain ⟨_, g10, hF⟩ := Option.bind_eq_some_iff.mp hF
    obtain ⟨⟨r10, h10⟩, e10, hF⟩ := Option.bind_eq_some_iff.mp hF
    try dsimp only at hF
    refine q_callV [.int 2] [] rfl d_X4_passNumber_10 v_X4_91 (by omega) rfl (Nat.le_of_ble_eq_true rfl) (rc_rc g10 (by decide) rfl) (R_X4_fail _ _ _ (by omega) e10) ?_
    refine g_goto 37 d_X4_passNumber_13 rfl ?_
    exact q_to (xs_r (xs_h (xs_h (xs_h xs_n)))) (R_X4_passNumber_b37 hdp hq _ _ hF)
theorem d_X4_readScale_0 : decode cX4_readScale 0 = .ok (.aload_n 0, 1) := by decide +kernel
theorem d_X4_readScale_1 : decode cX4_readScale 1 = .ok (.ldc 106, 2) := by decide +kernel
theorem d_X4_readScale_3 : decode cX4_readScale 3 = .ok (.invokevirtual 108, 3) := by decide +kernel
theorem d_X4_readScale_6 : decode cX4_readScale 6 = .ok (.aload_n 0, 1) := by decide +kernel
theorem d_X4_readScale_7 : decode cX4_readScale 7 = .ok (.iconst 2, 1) := by decide +kernel
theorem d_X4_readScale_8 : decode cX4_readScale 8 = .ok (.bipush 10, 2) := by decide +kernel
theorem d_X4_readScale_10 : decode cX4_readScale 10 = .ok (.invokevirtual 112, 3) := by decide +kernel
theorem d_X4_readScale_13 : decode cX4_readScale 13 = .ok (.istore_n 1, 1) := by decide +kernel
theorem d_X4_readScale_14 : decode cX4_readScale 14 = .ok (.aload_n 0, 1) := by decide +kernel
theorem d_X4_readScale_15 : decode cX4_readScale 15 = .ok (.getfield 48, 3) := by decide +kernel
theorem d_X4_readScale_18 : decode cX4_readScale 18 = .ok (.iload_n 1, 1) := by decide +kernel
theorem d_X4_readScale_19 : decode cX4_readScale 19 = .ok (.iconst (-1), 1) := by decide +kernel
theorem d_X4_readScale_20 : decode cX4_readScale 20 = .ok (.if_icmp .ne 7, 3) := by decide +kernel
theorem d_X4_readScale_23 : decode cX4_readScale 23 = .ok (.iconst 2, 1) := by decide +kernel
theorem d_X4_readScale_24 : decode cX4_readScale 24 = .ok (.goto 4, 3) := by decide +kernel
theorem d_X4_readScale_27 : decode cX4_readScale 27 = .ok (.iload_n 1, 1) := by decide +kernel
theorem d_X4_readScale_28 : decode cX4_readScale 28 = .ok (.putfield 115, 3) := by decide +kernel
theorem d_X4_readScale_31 : decode cX4_readScale 31 = .ok (.aload_n 0, 1) := by decide +kernel
theorem d_X4_readScale_32 : decode cX4_readScale 32 = .ok (.ldc 118, 2) := by decide +kernel
theorem d_X4_readScale_34 : decode cX4_readScale 34 = .ok (.invokevirtual 108, 3) := by decide +kernel
theorem d_X4_readScale_37 : decode cX4_readScale 37 = .ok (.aload_n 0, 1) := by decide +kernel
theorem d_X4_readScale_38 : decode cX4_readScale 38 = .ok (.getfield 48, 3) := by decide +kernel
theorem d_X4_readScale_41 : decode cX4_readScale 41 = .ok (.iconst 1, 1) := by decide +kernel
theorem d_X4_readScale_42 : decode cX4_readScale 42 = .ok (.putfield 120, 3) := by decide +kernel
theorem d_X4_readScale_45 : decode cX4_readScale 45 = .ok (.return_, 1) := by decide +kernel
def F_X4_readScale_b28 (x0 : Nat) (s0 : Nat) (s1 : Int32) (h : xH) : Option (Unit × xH) := (wI h s0 9 0 s1).bind fun h28 => (rc h28 x0 3).bind fun _ => (F_X4_pass x0 4 h28).bind fun z34 => (fR z34.2 x0 3 10).bind fun v38 => (wI z34.2 v38 9 1 1).bind fun h42 => some ((), h42)
theorem R_X4_readScale_b28 {Γ : xG} {l : Launch} {d : Nat} {Q : Option Value → xH → Prop} {r : Unit} {h' : xH} (hdp : 9 ≤ d) (hq : Q (none) h') : ∀ (x0 : Nat) (s0 : Nat) (s1 : Int32) (h : xH), F_X4_readScale_b28 x0 s0 s1 h = some (r, h') → Gd Γ l d m_X4_readScale 28 [.ref x0, xhole] [.int s1, .ref s0] h 0 0 Q := by
  intro x0 s0 s1 h hF
  unfold F_X4_readScale_b28 at hF
  obtain ⟨h28, e28, hF⟩ := Option.bind_eq_some_iff.mp hF
  refine q_wI d_X4_readScale_28 (w_X4_115 _) e28 ?_
  refine g_aloadn d_X4_readScale_31 rfl ?_
  refine g_ldcS (i := 2) d_X4_readScale_32 rfl ?_
  obtain ⟨_, g34, hF⟩ := Option.bind_eq_some_iff.mp hF
  obtain ⟨⟨r34, h34⟩, e34, hF⟩ := Option.bind_eq_some_iff.mp hF
  try dsimp only at hF
  refine q_callV [.ref 4] [] rfl d_X4_readScale_34 v_X4_108 (by omega) rfl (Nat.le_of_ble_eq_true rfl) (rc_rc g34 (by decide) rfl) (R_X4_pass _ _ _ (by omega) e34) ?_
  refine g_aloadn d_X4_readScale_37 rfl ?_
  obtain ⟨v38, e38, hF⟩ := Option.bind_eq_some_iff.mp hF
  refine q_fR d_X4_readScale_38 f_X4_48 e38 ?_
  refine g_ic (1) d_X4_readScale_41 ic_1 ?_
  obtain ⟨h42, e42, hF⟩ := Option.bind_eq_some_iff.mp hF
  refine q_wI d_X4_readScale_42 (w_X4_120 _) e42 ?_
  obtain ⟨rfl, rfl⟩ := x_inj hF
  exact g_vret d_X4_readScale_45 rfl hq
def F_X4_readScale (x0 : Nat) (h : xH) : Option (Unit × xH) := (rc h x0 3).bind fun _ => (F_X4_pass x0 2 h).bind fun z3 => (rc z3.2 x0 3).bind fun _ => (F_X4_passNumber x0 2 10 z3.2).bind fun z10 => (fR z10.2 x0 3 10).bind fun v15 => if ¬ z10.1 = (((-1) : Int32)) then F_X4_readScale_b28 x0 v15 z10.1 z10.2 else F_X4_readScale_b28 x0 v15 2 z10.2
theorem R_X4_readScale {Γ : xG} {l : Launch} {d : Nat} {r : Unit} {h' : xH} (x0 : Nat) (h : xH) (hdp : 9 ≤ d) (hF : F_X4_readScale x0 h = some (r, h')) : Gm Γ l d 0 0 m_X4_readScale [.ref x0] h (fun a u => a = none ∧ u = h') := by
  refine Gm.of pn_X4 (Nat.le_of_ble_eq_true rfl) ?_
  show Gd Γ l d m_X4_readScale 0 [.ref x0, xhole] [] h 0 0 _
  generalize hQ : (fun (a : Option Value) (u : xH) => a = none ∧ u = h') = Q
  have hq : Q (none) h' := by rw [← hQ]; exact ⟨rfl, rfl⟩
  clear hQ
  unfold F_X4_readScale at hF
  refine g_aloadn d_X4_readScale_0 rfl ?_
  refine g_ldcS (i := 1) d_X4_readScale_1 rfl ?_
  obtain ⟨_, g3, hF⟩ := Option.bind_eq_some_iff.mp hF
  obtain ⟨⟨r3, h3⟩, e3, hF⟩ := Option.bind_eq_some_iff.mp hF
  try dsimp only at hF
  refine q_callV [.ref 2] [] rfl d_X4_readScale_3 v_X4_108 (by omega) rfl (Nat.le_of_ble_eq_true rfl) (rc_rc g3 (by decide) rfl) (R_X4_pass _ _ _ (by omega) e3) ?_
  refine g_aloadn d_X4_readScale_6 rfl ?_
  refine g_ic (2) d_X4_readScale_7 ic_2 ?_
  refine g_bi (10) d_X4_readScale_8 bi_10 ?_
  obtain ⟨_, g10, hF⟩ := Option.bind_eq_some_iff.mp hF
  obtain ⟨⟨r10, h10⟩, e10, hF⟩ := Option.bind_eq_some_iff.mp hF
  try dsimp only at hF
  refine q_callV [.int 2, .int 10] [] rfl d_X4_readScale_10 v_X4_112 (by omega) rfl (Nat.le_of_ble_eq_true rfl) (rc_rc g10 (by decide) rfl) (R_X4_passNumber _ _ _ _ (by omega) e10) ?_
  refine q_istoren [.ref x0, .int (r10)] d_X4_readScale_13 (by decide) rfl ?_
  refine g_aloadn d_X4_readScale_14 rfl ?_
  obtain ⟨v15, e15, hF⟩ := Option.bind_eq_some_iff.mp hF
  refine q_fR d_X4_readScale_15 f_X4_48 e15 ?_
  refine g_iloadn d_X4_readScale_18 rfl ?_
  refine g_ic (-1) d_X4_readScale_19 ic_m1 ?_
  refine g_icmp_ne 27 d_X4_readScale_20 rfl (fun c20 => ?_) (fun c20 => ?_)
  · have hF := x_t hF c20
    refine g_iloadn d_X4_readScale_27 rfl ?_
    exact q_to (xs_r (xs_h xs_n)) (R_X4_readScale_b28 hdp hq _ _ _ _ hF)
  · have hF := x_f hF (not_not_intro c20)
    refine g_ic (2) d_X4_readScale_23 ic_2 ?_
    refine g_goto 28 d_X4_readScale_24 rfl ?_
    exact q_to (xs_r (xs_h xs_n)) (R_X4_readScale_b28 hdp hq _ _ _ _ hF)
theorem d_X4_readTune_0 : decode cX4_readTune 0 = .ok (.aload_n 0, 1) := by decide +kernel
theorem d_X4_readTune_1 : decode cX4_readTune 1 = .ok (.getfield 48, 3) := by decide +kernel
theorem d_X4_readTune_4 : decode cX4_readTune 4 = .ok (.getfield 173, 3) := by decide +kernel
theorem d_X4_readTune_7 : decode cX4_readTune 7 = .ok (.istore_n 1, 1) := by decide +kernel
theorem d_X4_readTune_8 : decode cX4_readTune 8 = .ok (.iload_n 1, 1) := by decide +kernel
theorem d_X4_readTune_9 : decode cX4_readTune 9 = .ok (.bipush 6, 2) := by decide +kernel
theorem d_X4_readTune_11 : decode cX4_readTune 11 = .ok (.if_icmp .lt 9, 3) := by decide +kernel
theorem d_X4_readTune_14 : decode cX4_readTune 14 = .ok (.aload_n 0, 1) := by decide +kernel
theorem d_X4_readTune_15 : decode cX4_readTune 15 = .ok (.iconst 4, 1) := by decide +kernel
theorem d_X4_readTune_16 : decode cX4_readTune 16 = .ok (.invokevirtual 91, 3) := by decide +kernel
theorem d_X4_readTune_19 : decode cX4_readTune 19 = .ok (.return_, 1) := by decide +kernel
theorem d_X4_readTune_20 : decode cX4_readTune 20 = .ok (.aload_n 0, 1) := by decide +kernel
theorem d_X4_readTune_21 : decode cX4_readTune 21 = .ok (.invokevirtual 64, 3) := by decide +kernel
theorem d_X4_readTune_24 : decode cX4_readTune 24 = .ok (.iconst 0, 1) := by decide +kernel
theorem d_X4_readTune_25 : decode cX4_readTune 25 = .ok (.istore_n 2, 1) := by decide +kernel
theorem d_X4_readTune_26 : decode cX4_readTune 26 = .ok (.iload_n 2, 1) := by decide +kernel
theorem d_X4_readTune_27 : decode cX4_readTune 27 = .ok (.bipush 9, 2) := by decide +kernel
theorem d_X4_readTune_29 : decode cX4_readTune 29 = .ok (.if_icmp .ge 56, 3) := by decide +kernel
theorem d_X4_readTune_32 : decode cX4_readTune 32 = .ok (.aload_n 0, 1) := by decide +kernel
theorem d_X4_readTune_33 : decode cX4_readTune 33 = .ok (.getfield 52, 3) := by decide +kernel
theorem d_X4_readTune_36 : decode cX4_readTune 36 = .ok (.ifCond .ne 49, 3) := by decide +kernel
theorem d_X4_readTune_39 : decode cX4_readTune 39 = .ok (.iload_n 2, 1) := by decide +kernel
theorem d_X4_readTune_40 : decode cX4_readTune 40 = .ok (.ifCond .eq 11, 3) := by decide +kernel
theorem d_X4_readTune_43 : decode cX4_readTune 43 = .ok (.aload_n 0, 1) := by decide +kernel
theorem d_X4_readTune_44 : decode cX4_readTune 44 = .ok (.getfield 35, 3) := by decide +kernel
theorem d_X4_readTune_47 : decode cX4_readTune 47 = .ok (.iconst 1, 1) := by decide +kernel
theorem d_X4_readTune_48 : decode cX4_readTune 48 = .ok (.if_icmp .ne 37, 3) := by decide +kernel
theorem d_X4_readTune_51 : decode cX4_readTune 51 = .ok (.aload_n 0, 1) := by decide +kernel
theorem d_X4_readTune_52 : decode cX4_readTune 52 = .ok (.getfield 48, 3) := by decide +kernel
theorem d_X4_readTune_55 : decode cX4_readTune 55 = .ok (.getfield 176, 3) := by decide +kernel
theorem d_X4_readTune_58 : decode cX4_readTune 58 = .ok (.iload_n 1, 1) := by decide +kernel
theorem d_X4_readTune_59 : decode cX4_readTune 59 = .ok (.bipush 9, 2) := by decide +kernel
theorem d_X4_readTune_61 : decode cX4_readTune 61 = .ok (.imul, 1) := by decide +kernel
theorem d_X4_readTune_62 : decode cX4_readTune 62 = .ok (.iload_n 2, 1) := by decide +kernel
theorem d_X4_readTune_63 : decode cX4_readTune 63 = .ok (.iadd, 1) := by decide +kernel
theorem d_X4_readTune_64 : decode cX4_readTune 64 = .ok (.aload_n 0, 1) := by decide +kernel
theorem d_X4_readTune_65 : decode cX4_readTune 65 = .ok (.iconst 0, 1) := by decide +kernel
theorem d_X4_readTune_66 : decode cX4_readTune 66 = .ok (.aload_n 0, 1) := by decide +kernel
theorem d_X4_readTune_67 : decode cX4_readTune 67 = .ok (.getfield 48, 3) := by decide +kernel
theorem d_X4_readTune_70 : decode cX4_readTune 70 = .ok (.getfield 115, 3) := by decide +kernel
theorem d_X4_readTune_73 : decode cX4_readTune 73 = .ok (.iconst 1, 1) := by decide +kernel
theorem d_X4_readTune_74 : decode cX4_readTune 74 = .ok (.isub, 1) := by decide +kernel
theorem d_X4_readTune_75 : decode cX4_readTune 75 = .ok (.invokevirtual 112, 3) := by decide +kernel
theorem d_X4_readTune_78 : decode cX4_readTune 78 = .ok (.iastore, 1) := by decide +kernel
theorem d_X4_readTune_79 : decode cX4_readTune 79 = .ok (.iinc 2 1, 3) := by decide +kernel
theorem d_X4_readTune_82 : decode cX4_readTune 82 = .ok (.goto (-56), 3) := by decide +kernel
theorem d_X4_readTune_85 : decode cX4_readTune 85 = .ok (.aload_n 0, 1) := by decide +kernel
theorem d_X4_readTune_86 : decode cX4_readTune 86 = .ok (.getfield 48, 3) := by decide +kernel
theorem d_X4_readTune_89 : decode cX4_readTune 89 = .ok (.getfield 179, 3) := by decide +kernel
theorem d_X4_readTune_92 : decode cX4_readTune 92 = .ok (.iload_n 1, 1) := by decide +kernel
theorem d_X4_readTune_93 : decode cX4_readTune 93 = .ok (.iload_n 2, 1) := by decide +kernel
theorem d_X4_readTune_94 : decode cX4_readTune 94 = .ok (.iastore, 1) := by decide +kernel
theorem d_X4_readTune_95 : decode cX4_readTune 95 = .ok (.aload_n 0, 1) := by decide +kernel
theorem d_X4_readTune_96 : decode cX4_readTune 96 = .ok (.getfield 48, 3) := by decide +kernel
theorem d_X4_readTune_99 : decode cX4_readTune 99 = .ok (.dup, 1) := by decide +kernel
theorem d_X4_readTune_100 : decode cX4_readTune 100 = .ok (.getfield 173, 3) := by decide +kernel
theorem d_X4_readTune_103 : decode cX4_readTune 103 = .ok (.iconst 1, 1) := by decide +kernel
theorem d_X4_readTune_104 : decode cX4_readTune 104 = .ok (.iadd, 1) := by decide +kernel
theorem d_X4_readTune_105 : decode cX4_readTune 105 = .ok (.putfield 173, 3) := by decide +kernel
theorem d_X4_readTune_108 : decode cX4_readTune 108 = .ok (.return_, 1) := by decide +kernel
def F_X4_readTune_b51 (k26 : Nat → Int32 → Int32 → xH → Option (Unit × xH)) (x0 : Nat) (x1 : Int32) (x2 : Int32) (h : xH) : Option (Unit × xH) := (fR h x0 3 10).bind fun v52 => (fR h v52 9 5).bind fun v55 => (fR h x0 3 10).bind fun v67 => (fI h v67 9 0).bind fun v70 => (rc h x0 3).bind fun _ => (F_X4_passNumber x0 0 (v70 - 1) h).bind fun z75 => (sI z75.2 v55 ((x1 * 9) + x2) z75.1).bind fun h78 => k26 x0 x1 (x2 + 1) h78
theorem R_X4_readTune_b51 {Γ : xG} {l : Launch} {d : Nat} {Q : Option Value → xH → Prop} {r : Unit} {h' : xH} {k26 : Nat → Int32 → Int32 → xH → Option (Unit × xH)} (K26 : ∀ (x0 : Nat) (x1 : Int32) (x2 : Int32)  (h : xH), k26 x0 x1 x2 h = some (r, h') → Gd Γ l d m_X4_readTune 26 [.ref x0, .int x1, .int x2] [] h 0 0 Q) (hdp : 9 ≤ d) (hq : Q (none) h') : ∀ (x0 : Nat) (x1 : Int32) (x2 : Int32) (h : xH), F_X4_readTune_b51 k26 x0 x1 x2 h = some (r, h') → Gd Γ l d m_X4_readTune 51 [.ref x0, .int x1, .int x2] [] h 0 0 Q := by
  intro x0 x1 x2 h hF
  unfold F_X4_readTune_b51 at hF
  refine g_aloadn d_X4_readTune_51 rfl ?_
  obtain ⟨v52, e52, hF⟩ := Option.bind_eq_some_iff.mp hF
  refine q_fR d_X4_readTune_52 f_X4_48 e52 ?_
  obtain ⟨v55, e55, hF⟩ := Option.bind_eq_some_iff.mp hF
  refine q_fR d_X4_readTune_55 f_X4_176 e55 ?_
  refine g_iloadn d_X4_readTune_58 rfl ?_
  refine g_bi (9) d_X4_readTune_59 bi_9 ?_
  refine g_imul d_X4_readTune_61 ?_
  refine g_iloadn d_X4_readTune_62 rfl ?_
  refine g_iadd d_X4_readTune_63 ?_
  refine g_aloadn d_X4_readTune_64 rfl ?_
  refine g_ic (0) d_X4_readTune_65 ic_0 ?_
  refine g_aloadn d_X4_readTune_66 rfl ?_
  obtain ⟨v67, e67, hF⟩ := Option.bind_eq_some_iff.mp hF
  refine q_fR d_X4_readTune_67 f_X4_48 e67 ?_
  obtain ⟨v70, e70, hF⟩ := Option.bind_eq_some_iff.mp hF
  refine q_fI d_X4_readTune_70 f_X4_115 e70 ?_
  refine g_ic (1) d_X4_readTune_73 ic_1 ?_
  refine g_isub d_X4_readTune_74 ?_
  obtain ⟨_, g75, hF⟩ := Option.bind_eq_some_iff.mp hF
  obtain ⟨⟨r75, h75⟩, e75, hF⟩ := Option.bind_eq_some_iff.mp hF
  try dsimp only at hF
  refine q_callV [.int 0, .int (v70 - 1)] [.int ((x1 * 9) + x2), .ref v55] rfl d_X4_readTune_75 v_X4_112 (by omega) rfl (Nat.le_of_ble_eq_true rfl) (rc_rc g75 (by decide) rfl) (R_X4_passNumber _ _ _ _ (by omega) e75) ?_
  obtain ⟨h78, e78, hF⟩ := Option.bind_eq_some_iff.mp hF
  refine q_sI d_X4_readTune_78 e78 ?_
  refine q_iinc (1) [.ref x0, .int x1, .int (x2 + 1)] d_X4_readTune_79 ic_1 rfl (by decide) rfl ?_
  refine g_goto 26 d_X4_readTune_82 rfl ?_
  exact q_to (xs_r (xs_r (xs_r xs_n))) (K26 _ _ _ _ hF)
def F_X4_readTune_b85 (x0 : Nat) (x1 : Int32) (x2 : Int32) (h : xH) : Option (Unit × xH) := (fR h x0 3 10).bind fun v86 => (fR h v86 9 6).bind fun v89 => (sI h v89 x1 x2).bind fun h94 => (fR h94 x0 3 10).bind fun v96 => (fI h94 v96 9 2).bind fun v100 => (wI h94 v96 9 2 (v100 + 1)).bind fun h105 => some ((), h105)
theorem R_X4_readTune_b85 {Γ : xG} {l : Launch} {d : Nat} {Q : Option Value → xH → Prop} {r : Unit} {h' : xH} (hdp : 9 ≤ d) (hq : Q (none) h') : ∀ (x0 : Nat) (x1 : Int32) (x2 : Int32) (h : xH), F_X4_readTune_b85 x0 x1 x2 h = some (r, h') → Gd Γ l d m_X4_readTune 85 [.ref x0, .int x1, .int x2] [] h 0 0 Q := by
  intro x0 x1 x2 h hF
  unfold F_X4_readTune_b85 at hF
  refine g_aloadn d_X4_readTune_85 rfl ?_
  obtain ⟨v86, e86, hF⟩ := Option.bind_eq_some_iff.mp hF
  refine q_fR d_X4_readTune_86 f_X4_48 e86 ?_
  obtain ⟨v89, e89, hF⟩ := Option.bind_eq_some_iff.mp hF
  refine q_fR d_X4_readTune_89 f_X4_179 e89 ?_
  refine g_iloadn d_X4_readTune_92 rfl ?_
  refine g_iloadn d_X4_readTune_93 rfl ?_
  obtain ⟨h94, e94, hF⟩ := Option.bind_eq_some_iff.mp hF
  refine q_sI d_X4_readTune_94 e94 ?_
  refine g_aloadn d_X4_readTune_95 rfl ?_
  obtain ⟨v96, e96, hF⟩ := Option.bind_eq_some_iff.mp hF
  refine q_fR d_X4_readTune_96 f_X4_48 e96 ?_
  refine g_dup d_X4_readTune_99 rfl ?_
  obtain ⟨v100, e100, hF⟩ := Option.bind_eq_some_iff.mp hF
  refine q_fI d_X4_readTune_100 f_X4_173 e100 ?_
  refine g_ic (1) d_X4_readTune_103 ic_1 ?_
  refine g_iadd d_X4_readTune_104 ?_
  obtain ⟨h105, e105, hF⟩ := Option.bind_eq_some_iff.mp hF
  refine q_wI d_X4_readTune_105 (w_X4_173 _) e105 ?_
  obtain ⟨rfl, rfl⟩ := x_inj hF
  exact g_vret d_X4_readTune_108 rfl hq
def F_X4_readTune_b26 : Nat → Nat → Int32 → Int32 → xH → Option (Unit × xH)
  | 0, _, _, _, _ => none
  | n + 1, x0, x1, x2, h => if ((9 : Int32)) ≤ x2 then F_X4_readTune_b85 x0 x1 x2 h else (fI h x0 3 11).bind fun v33 => if ¬ v33 = 0 then F_X4_readTune_b85 x0 x1 x2 h else if x2 = 0 then F_X4_readTune_b51 (F_X4_readTune_b26 n) x0 x1 x2 h else (fI h x0 3 7).bind fun v44 => if ¬ v44 = ((1 : Int32)) then F_X4_readTune_b85 x0 x1 x2 h else F_X4_readTune_b51 (F_X4_readTune_b26 n) x0 x1 x2 h
theorem R_X4_readTune_b26 {Γ : xG} {l : Launch} {d : Nat} {Q : Option Value → xH → Prop} {r : Unit} {h' : xH} (hdp : 9 ≤ d) (hq : Q (none) h') : ∀ (n : Nat) (x0 : Nat) (x1 : Int32) (x2 : Int32) (h : xH), F_X4_readTune_b26 n x0 x1 x2 h = some (r, h') → Gd Γ l d m_X4_readTune 26 [.ref x0, .int x1, .int x2] [] h 0 0 Q := by
  intro n
  induction n with
  | zero => intro x0 x1 x2 h hF; cases hF
  | succ n ih =>
  intro x0 x1 x2 h hF
  rw [F_X4_readTune_b26] at hF
  refine g_iloadn d_X4_readTune_26 rfl ?_
  refine g_bi (9) d_X4_readTune_27 bi_9 ?_
  refine g_icmp_ge 85 d_X4_readTune_29 rfl (fun c29 => ?_) (fun c29 => ?_)
  · have hF := x_t hF c29
    exact q_to (xs_r (xs_r (xs_r xs_n))) (R_X4_readTune_b85 hdp hq _ _ _ _ hF)
  · have hF := x_f hF c29
    refine g_aloadn d_X4_readTune_32 rfl ?_
    obtain ⟨v33, e33, hF⟩ := Option.bind_eq_some_iff.mp hF
    refine q_fI d_X4_readTune_33 f_X4_52 e33 ?_
    refine g_if_ne 85 d_X4_readTune_36 rfl (fun c36 => ?_) (fun c36 => ?_)
    · have hF := x_t hF c36
      exact q_to (xs_r (xs_r (xs_r xs_n))) (R_X4_readTune_b85 hdp hq _ _ _ _ hF)
    · have hF := x_f hF (not_not_intro c36)
      refine g_iloadn d_X4_readTune_39 rfl ?_
      refine g_if_eq 51 d_X4_readTune_40 rfl (fun c40 => ?_) (fun c40 => ?_)
      · have hF := x_t hF c40
        exact q_to (xs_r (xs_r (xs_r xs_n))) (R_X4_readTune_b51 ih hdp hq _ _ _ _ hF)
      · have hF := x_f hF c40
        refine g_aloadn d_X4_readTune_43 rfl ?_
        obtain ⟨v44, e44, hF⟩ := Option.bind_eq_some_iff.mp hF
        refine q_fI d_X4_readTune_44 f_X4_35 e44 ?_
        refine g_ic (1) d_X4_readTune_47 ic_1 ?_
        refine g_icmp_ne 85 d_X4_readTune_48 rfl (fun c48 => ?_) (fun c48 => ?_)
        · have hF := x_t hF c48
          exact q_to (xs_r (xs_r (xs_r xs_n))) (R_X4_readTune_b85 hdp hq _ _ _ _ hF)
        · have hF := x_f hF (not_not_intro c48)
          exact q_to (xs_r (xs_r (xs_r xs_n))) (R_X4_readTune_b51 ih hdp hq _ _ _ _ hF)
def F_X4_readTune (x0 : Nat) (h : xH) : Option (Unit × xH) := (fR h x0 3 10).bind fun v1 => (fI h v1 9 2).bind fun v4 => if v4 < ((6 : Int32)) then (rc h x0 3).bind fun _ => (F_X4_advance x0 h).bind fun z21 => F_X4_readTune_b26 FU x0 v4 0 z21.2 else (rc h x0 3).bind fun _ => (F_X4_fail x0 4 h).bind fun z16 => some ((), z16.2)
theorem R_X4_readTune {Γ : xG} {l : Launch} {d : Nat} {r : Unit} {h' : xH} (x0 : Nat) (h : xH) (hdp : 9 ≤ d) (hF : F_X4_readTune x0 h = some (r, h')) : Gm Γ l d 0 0 m_X4_readTune [.ref x0] h (fun a u => a = none ∧ u = h') := by
  refine Gm.of pn_X4 (Nat.le_of_ble_eq_true rfl) ?_
  show Gd Γ l d m_X4_readTune 0 [.ref x0, xhole, xhole] [] h 0 0 _
  generalize hQ : (fun (a : Option Value) (u : xH) => a = none ∧ u = h') = Q
  have hq : Q (none) h' := by rw [← hQ]; exact ⟨rfl, rfl⟩
  clear hQ
  unfold F_X4_readTune at hF
  refine g_aloadn d_X4_readTune_0 rfl ?_
  obtain ⟨v1, e1, hF⟩ := Option.bind_eq_some_iff.mp hF
  refine q_fR d_X4_readTune_1 f_X4_48 e1 ?_
  obtain ⟨v4, e4, hF⟩ := Option.bind_eq_some_iff.mp hF
  refine q_fI d_X4_readTune_4 f_X4_173 e4 ?_
  refine q_istoren [.ref x0, .int v4, xhole] d_X4_readTune_7 (by decide) rfl ?_
  refine g_iloadn d_X4_readTune_8 rfl ?_
  refine g_bi (6) d_X4_readTune_9 bi_6 ?_
  refine g_icmp_lt 20 d_X4_readTune_11 rfl (fun c11 => ?_) (fun c11 => ?_)
  · have hF := x_t hF c11
    refine g_aloadn d_X4_readTune_20 rfl ?_
    obtain ⟨_, g21, hF⟩ := Option.bind_eq_some_iff.mp hF
    obtain ⟨⟨r21, h21⟩, e21, hF⟩ := Option.bind_eq_some_iff.mp hF
    try dsimp only at hF
    refine q_callV [] [] rfl d_X4_readTune_21 v_X4_64 (by omega) rfl (Nat.le_of_ble_eq_true rfl) (rc_rc g21 (by decide) rfl) (R_X4_advance _ _ (by omega) e21) ?_
    refine g_ic (0) d_X4_readTune_24 ic_0 ?_
    refine q_istoren [.ref x0, .int v4, .int 0] d_X4_readTune_25 (by decide) rfl ?_
    exact q_to (xs_r (xs_r (xs_r xs_n))) (R_X4_readTune_b26 hdp hq FU _ _ _ _ hF)
  · have hF := x_f hF c11
    refine g_aloadn d_X4_readTune_14 rfl ?_
    refine g_ic (4) d_X4_readTune_15 ic_4 ?_
    obtain ⟨_, g16, hF⟩ := Option.bind_eq_some_iff.mp hF
    obtain ⟨⟨r16, h16⟩, e16, hF⟩ := Option.bind_eq_some_iff.mp hF
    try dsimp only at hF
    refine q_callV [.int 4] [] rfl d_X4_readTune_16 v_X4_91 (by omega) rfl (Nat.le_of_ble_eq_true rfl) (rc_rc g16 (by decide) rfl) (R_X4_fail _ _ _ (by omega) e16) ?_
    obtain ⟨rfl, rfl⟩ := x_inj hF
    exact g_vret d_X4_readTune_19 rfl hq
theorem d_X4_readPlace_0 : decode cX4_readPlace 0 = .ok (.aload_n 0, 1) := by decide +kernel
theorem d_X4_readPlace_1 : decode cX4_readPlace 1 = .ok (.getfield 48, 3) := by decide +kernel
theorem d_X4_readPlace_4 : decode cX4_readPlace 4 = .ok (.getfield 182, 3) := by decide +kernel
theorem d_X4_readPlace_7 : decode cX4_readPlace 7 = .ok (.istore_n 1, 1) := by decide +kernel
theorem d_X4_readPlace_8 : decode cX4_readPlace 8 = .ok (.iload_n 1, 1) := by decide +kernel
theorem d_X4_readPlace_9 : decode cX4_readPlace 9 = .ok (.bipush 6, 2) := by decide +kernel
theorem d_X4_readPlace_11 : decode cX4_readPlace 11 = .ok (.if_icmp .lt 9, 3) := by decide +kernel
theorem d_X4_readPlace_14 : decode cX4_readPlace 14 = .ok (.aload_n 0, 1) := by decide +kernel
theorem d_X4_readPlace_15 : decode cX4_readPlace 15 = .ok (.iconst 4, 1) := by decide +kernel
theorem d_X4_readPlace_16 : decode cX4_readPlace 16 = .ok (.invokevirtual 91, 3) := by decide +kernel
theorem d_X4_readPlace_19 : decode cX4_readPlace 19 = .ok (.return_, 1) := by decide +kernel
theorem d_X4_readPlace_20 : decode cX4_readPlace 20 = .ok (.aload_n 0, 1) := by decide +kernel
theorem d_X4_readPlace_21 : decode cX4_readPlace 21 = .ok (.invokevirtual 64, 3) := by decide +kernel
theorem d_X4_readPlace_24 : decode cX4_readPlace 24 = .ok (.iconst 0, 1) := by decide +kernel
theorem d_X4_readPlace_25 : decode cX4_readPlace 25 = .ok (.istore_n 2, 1) := by decide +kernel
theorem d_X4_readPlace_26 : decode cX4_readPlace 26 = .ok (.iload_n 2, 1) := by decide +kernel
theorem d_X4_readPlace_27 : decode cX4_readPlace 27 = .ok (.iconst 4, 1) := by decide +kernel
theorem d_X4_readPlace_28 : decode cX4_readPlace 28 = .ok (.if_icmp .ge 53, 3) := by decide +kernel
theorem d_X4_readPlace_31 : decode cX4_readPlace 31 = .ok (.aload_n 0, 1) := by decide +kernel
theorem d_X4_readPlace_32 : decode cX4_readPlace 32 = .ok (.getfield 52, 3) := by decide +kernel
theorem d_X4_readPlace_35 : decode cX4_readPlace 35 = .ok (.ifCond .ne 46, 3) := by decide +kernel
theorem d_X4_readPlace_38 : decode cX4_readPlace 38 = .ok (.iload_n 2, 1) := by decide +kernel
theorem d_X4_readPlace_39 : decode cX4_readPlace 39 = .ok (.ifCond .eq 11, 3) := by decide +kernel
theorem d_X4_readPlace_42 : decode cX4_readPlace 42 = .ok (.aload_n 0, 1) := by decide +kernel
theorem d_X4_readPlace_43 : decode cX4_readPlace 43 = .ok (.getfield 35, 3) := by decide +kernel
theorem d_X4_readPlace_46 : decode cX4_readPlace 46 = .ok (.iconst 1, 1) := by decide +kernel
theorem d_X4_readPlace_47 : decode cX4_readPlace 47 = .ok (.if_icmp .ne 34, 3) := by decide +kernel
theorem d_X4_readPlace_50 : decode cX4_readPlace 50 = .ok (.aload_n 0, 1) := by decide +kernel
theorem d_X4_readPlace_51 : decode cX4_readPlace 51 = .ok (.getfield 48, 3) := by decide +kernel
theorem d_X4_readPlace_54 : decode cX4_readPlace 54 = .ok (.getfield 185, 3) := by decide +kernel
theorem d_X4_readPlace_57 : decode cX4_readPlace 57 = .ok (.iload_n 1, 1) := by decide +kernel
theorem d_X4_readPlace_58 : decode cX4_readPlace 58 = .ok (.iconst 4, 1) := by decide +kernel
theorem d_X4_readPlace_59 : decode cX4_readPlace 59 = .ok (.imul, 1) := by decide +kernel
theorem d_X4_readPlace_60 : decode cX4_readPlace 60 = .ok (.iload_n 2, 1) := by decide +kernel
theorem d_X4_readPlace_61 : decode cX4_readPlace 61 = .ok (.iadd, 1) := by decide +kernel
theorem d_X4_readPlace_62 : decode cX4_readPlace 62 = .ok (.aload_n 0, 1) := by decide +kernel
theorem d_X4_readPlace_63 : decode cX4_readPlace 63 = .ok (.iconst 0, 1) := by decide +kernel
theorem d_X4_readPlace_64 : decode cX4_readPlace 64 = .ok (.aload_n 0, 1) := by decide +kernel
theorem d_X4_readPlace_65 : decode cX4_readPlace 65 = .ok (.getfield 48, 3) := by decide +kernel
theorem d_X4_readPlace_68 : decode cX4_readPlace 68 = .ok (.getfield 115, 3) := by decide +kernel
theorem d_X4_readPlace_71 : decode cX4_readPlace 71 = .ok (.invokevirtual 112, 3) := by decide +kernel
theorem d_X4_readPlace_74 : decode cX4_readPlace 74 = .ok (.iastore, 1) := by decide +kernel
theorem d_X4_readPlace_75 : decode cX4_readPlace 75 = .ok (.iinc 2 1, 3) := by decide +kernel
theorem d_X4_readPlace_78 : decode cX4_readPlace 78 = .ok (.goto (-52), 3) := by decide +kernel
theorem d_X4_readPlace_81 : decode cX4_readPlace 81 = .ok (.aload_n 0, 1) := by decide +kernel
theorem d_X4_readPlace_82 : decode cX4_readPlace 82 = .ok (.getfield 48, 3) := by decide +kernel
theorem d_X4_readPlace_85 : decode cX4_readPlace 85 = .ok (.getfield 188, 3) := by decide +kernel
theorem d_X4_readPlace_88 : decode cX4_readPlace 88 = .ok (.iload_n 1, 1) := by decide +kernel
theorem d_X4_readPlace_89 : decode cX4_readPlace 89 = .ok (.iload_n 2, 1) := by decide +kernel
theorem d_X4_readPlace_90 : decode cX4_readPlace 90 = .ok (.iastore, 1) := by decide +kernel
theorem d_X4_readPlace_91 : decode cX4_readPlace 91 = .ok (.aload_n 0, 1) := by decide +kernel
theorem d_X4_readPlace_92 : decode cX4_readPlace 92 = .ok (.getfield 48, 3) := by decide +kernel
theorem d_X4_readPlace_95 : decode cX4_readPlace 95 = .ok (.dup, 1) := by decide +kernel
theorem d_X4_readPlace_96 : decode cX4_readPlace 96 = .ok (.getfield 182, 3) := by decide +kernel
theorem d_X4_readPlace_99 : decode cX4_readPlace 99 = .ok (.iconst 1, 1) := by decide +kernel
theorem d_X4_readPlace_100 : decode cX4_readPlace 100 = .ok (.iadd, 1) := by decide +kernel
theorem d_X4_readPlace_101 : decode cX4_readPlace 101 = .ok (.putfield 182, 3) := by decide +kernel
theorem d_X4_readPlace_104 : decode cX4_readPlace 104 = .ok (.return_, 1) := by decide +kernel
def F_X4_readPlace_b81 (x0 : Nat) (x1 : Int32) (x2 : Int32) (h : xH) : Option (Unit × xH) := (fR h x0 3 10).bind fun v82 => (fR h v82 9 8).bind fun v85 => (sI h v85 x1 x2).bind fun h90 => (fR h90 x0 3 10).bind fun v92 => (fI h90 v92 9 3).bind fun v96 => (wI h90 v92 9 3 (v96 + 1)).bind fun h101 => some ((), h101)
theorem R_X4_readPlace_b81 {Γ : xG} {l : Launch} {d : Nat} {Q : Option Value → xH → Prop} {r : Unit} {h' : xH} (hdp : 9 ≤ d) (hq : Q (none) h') : ∀ (x0 : Nat) (x1 : Int32) (x2 : Int32) (h : xH), F_X4_readPlace_b81 x0 x1 x2 h = some (r, h') → Gd Γ l d m_X4_readPlace 81 [.ref x0, .int x1, .int x2] [] h 0 0 Q := by
  intro x0 x1 x2 h hF
  unfold F_X4_readPlace_b81 at hF
  refine g_aloadn d_X4_readPlace_81 rfl ?_
  obtain ⟨v82, e82, hF⟩ := Option.bind_eq_some_iff.mp hF
  refine q_fR d_X4_readPlace_82 f_X4_48 e82 ?_
  obtain ⟨v85, e85, hF⟩ := Option.bind_eq_some_iff.mp hF
  refine q_fR d_X4_readPlace_85 f_X4_188 e85 ?_
  refine g_iloadn d_X4_readPlace_88 rfl ?_
  refine g_iloadn d_X4_readPlace_89 rfl ?_
  obtain ⟨h90, e90, hF⟩ := Option.bind_eq_some_iff.mp hF
  refine q_sI d_X4_readPlace_90 e90 ?_
  refine g_aloadn d_X4_readPlace_91 rfl ?_
  obtain ⟨v92, e92, hF⟩ := Option.bind_eq_some_iff.mp hF
  refine q_fR d_X4_readPlace_92 f_X4_48 e92 ?_
  refine g_dup d_X4_readPlace_95 rfl ?_
  obtain ⟨v96, e96, hF⟩ := Option.bind_eq_some_iff.mp hF
  refine q_fI d_X4_readPlace_96 f_X4_182 e96 ?_
  refine g_ic (1) d_X4_readPlace_99 ic_1 ?_
  refine g_iadd d_X4_readPlace_100 ?_
  obtain ⟨h101, e101, hF⟩ := Option.bind_eq_some_iff.mp hF
  refine q_wI d_X4_readPlace_101 (w_X4_182 _) e101 ?_
  obtain ⟨rfl, rfl⟩ := x_inj hF
  exact g_vret d_X4_readPlace_104 rfl hq
def F_X4_readPlace_b50 (k26 : Nat → Int32 → Int32 → xH → Option (Unit × xH)) (x0 : Nat) (x1 : Int32) (x2 : Int32) (h : xH) : Option (Unit × xH) := (fR h x0 3 10).bind fun v51 => (fR h v51 9 7).bind fun v54 => (fR h x0 3 10).bind fun v65 => (fI h v65 9 0).bind fun v68 => (rc h x0 3).bind fun _ => (F_X4_passNumber x0 0 v68 h).bind fun z71 => (sI z71.2 v54 ((x1 * 4) + x2) z71.1).bind fun h74 => k26 x0 x1 (x2 + 1) h74
theorem R_X4_readPlace_b50 {Γ : xG} {l : Launch} {d : Nat} {Q : Option Value → xH → Prop} {r : Unit} {h' : xH} {k26 : Nat → Int32 → Int32 → xH → Option (Unit × xH)} (K26 : ∀ (x0 : Nat) (x1 : Int32) (x2 : Int32)  (h : xH), k26 x0 x1 x2 h = some (r, h') → Gd Γ l d m_X4_readPlace 26 [.ref x0, .int x1, .int x2] [] h 0 0 Q) (hdp : 9 ≤ d) (hq : Q (none) h') : ∀ (x0 : Nat) (x1 : Int32) (x2 : Int32) (h : xH), F_X4_readPlace_b50 k26 x0 x1 x2 h = some (r, h') → Gd Γ l d m_X4_readPlace 50 [.ref x0, .int x1, .int x2] [] h 0 0 Q := by
  intro x0 x1 x2 h hF
  unfold F_X4_readPlace_b50 at hF
  refine g_aloadn d_X4_readPlace_50 rfl ?_
  obtain ⟨v51, e51, hF⟩ := Option.bind_eq_some_iff.mp hF
  refine q_fR d_X4_readPlace_51 f_X4_48 e51 ?_
  obtain ⟨v54, e54, hF⟩ := Option.bind_eq_some_iff.mp hF
  refine q_fR d_X4_readPlace_54 f_X4_185 e54 ?_
  refine g_iloadn d_X4_readPlace_57 rfl ?_
  refine g_ic (4) d_X4_readPlace_58 ic_4 ?_
  refine g_imul d_X4_readPlace_59 ?_
  refine g_iloadn d_X4_readPlace_60 rfl ?_
  refine g_iadd d_X4_readPlace_61 ?_
  refine g_aloadn d_X4_readPlace_62 rfl ?_
  refine g_ic (0) d_X4_readPlace_63 ic_0 ?_
  refine g_aloadn d_X4_readPlace_64 rfl ?_
  obtain ⟨v65, e65, hF⟩ := Option.bind_eq_some_iff.mp hF
  refine q_fR d_X4_readPlace_65 f_X4_48 e65 ?_
  obtain ⟨v68, e68, hF⟩ := Option.bind_eq_some_iff.mp hF
  refine q_fI d_X4_readPlace_68 f_X4_115 e68 ?_
  obtain ⟨_, g71, hF⟩ := Option.bind_eq_some_iff.mp hF
  obtain ⟨⟨r71, h71⟩, e71, hF⟩ := Option.bind_eq_some_iff.mp hF
  try dsimp only at hF
  refine q_callV [.int 0, .int v68] [.int ((x1 * 4) + x2), .ref v54] rfl d_X4_readPlace_71 v_X4_112 (by omega) rfl (Nat.le_of_ble_eq_true rfl) (rc_rc g71 (by decide) rfl) (R_X4_passNumber _ _ _ _ (by omega) e71) ?_
  obtain ⟨h74, e74, hF⟩ := Option.bind_eq_some_iff.mp hF
  refine q_sI d_X4_readPlace_74 e74 ?_
  refine q_iinc (1) [.ref x0, .int x1, .int (x2 + 1)] d_X4_readPlace_75 ic_1 rfl (by decide) rfl ?_
  refine g_goto 26 d_X4_readPlace_78 rfl ?_
  exact q_to (xs_r (xs_r (xs_r xs_n))) (K26 _ _ _ _ hF)
def F_X4_readPlace_b26 : Nat → Nat → Int32 → Int32 → xH → Option (Unit × xH)
  | 0, _, _, _, _ => none
  | n + 1, x0, x1, x2, h => if ((4 : Int32)) ≤ x2 then F_X4_readPlace_b81 x0 x1 x2 h else (fI h x0 3 11).bind fun v32 => if ¬ v32 = 0 then F_X4_readPlace_b81 x0 x1 x2 h else if x2 = 0 then F_X4_readPlace_b50 (F_X4_readPlace_b26 n) x0 x1 x2 h else (fI h x0 3 7).bind fun v43 => if ¬ v43 = ((1 : Int32)) then F_X4_readPlace_b81 x0 x1 x2 h else F_X4_readPlace_b50 (F_X4_readPlace_b26 n) x0 x1 x2 h
theorem R_X4_readPlace_b26 {Γ : xG} {l : Launch} {d : Nat} {Q : Option Value → xH → Prop} {r : Unit} {h' : xH} (hdp : 9 ≤ d) (hq : Q (none) h') : ∀ (n : Nat) (x0 : Nat) (x1 : Int32) (x2 : Int32) (h : xH), F_X4_readPlace_b26 n x0 x1 x2 h = some (r, h') → Gd Γ l d m_X4_readPlace 26 [.ref x0, .int x1, .int x2] [] h 0 0 Q := by
  intro n
  induction n with
  | zero => intro x0 x1 x2 h hF; cases hF
  | succ n ih =>
  intro x0 x1 x2 h hF
  rw [F_X4_readPlace_b26] at hF
  refine g_iloadn d_X4_readPlace_26 rfl ?_
  refine g_ic (4) d_X4_readPlace_27 ic_4 ?_
  refine g_icmp_ge 81 d_X4_readPlace_28 rfl (fun c28 => ?_) (fun c28 => ?_)
  · have hF := x_t hF c28
    exact q_to (xs_r (xs_r (xs_r xs_n))) (R_X4_readPlace_b81 hdp hq _ _ _ _ hF)
  · have hF := x_f hF c28
    refine g_aloadn d_X4_readPlace_31 rfl ?_
    obtain ⟨v32, e32, hF⟩ := Option.bind_eq_some_iff.mp hF
    refine q_fI d_X4_readPlace_32 f_X4_52 e32 ?_
    refine g_if_ne 81 d_X4_readPlace_35 rfl (fun c35 => ?_) (fun c35 => ?_)
    · have hF := x_t hF c35
      exact q_to (xs_r (xs_r (xs_r xs_n))) (R_X4_readPlace_b81 hdp hq _ _ _ _ hF)
    · have hF := x_f hF (not_not_intro c35)
      refine g_iloadn d_X4_readPlace_38 rfl ?_
      refine g_if_eq 50 d_X4_readPlace_39 rfl (fun c39 => ?_) (fun c39 => ?_)
      · have hF := x_t hF c39
        exact q_to (xs_r (xs_r (xs_r xs_n))) (R_X4_readPlace_b50 ih hdp hq _ _ _ _ hF)
      · have hF := x_f hF c39
        refine g_aloadn d_X4_readPlace_42 rfl ?_
        obtain ⟨v43, e43, hF⟩ := Option.bind_eq_some_iff.mp hF
        refine q_fI d_X4_readPlace_43 f_X4_35 e43 ?_
        refine g_ic (1) d_X4_readPlace_46 ic_1 ?_
        refine g_icmp_ne 81 d_X4_readPlace_47 rfl (fun c47 => ?_) (fun c47 => ?_)
        · have hF := x_t hF c47
          exact q_to (xs_r (xs_r (xs_r xs_n))) (R_X4_readPlace_b81 hdp hq _ _ _ _ hF)
        · have hF := x_f hF (not_not_intro c47)
          exact q_to (xs_r (xs_r (xs_r xs_n))) (R_X4_readPlace_b50 ih hdp hq _ _ _ _ hF)
def F_X4_readPlace (x0 : Nat) (h : xH) : Option (Unit × xH) := (fR h x0 3 10).bind fun v1 => (fI h v1 9 3).bind fun v4 => if v4 < ((6 : Int32)) then (rc h x0 3).bind fun _ => (F_X4_advance x0 h).bind fun z21 => F_X4_readPlace_b26 FU x0 v4 0 z21.2 else (rc h x0 3).bind fun _ => (F_X4_fail x0 4 h).bind fun z16 => some ((), z16.2)
theorem R_X4_readPlace {Γ : xG} {l : Launch} {d : Nat} {r : Unit} {h' : xH} (x0 : Nat) (h : xH) (hdp : 9 ≤ d) (hF : F_X4_readPlace x0 h = some (r, h')) : Gm Γ l d 0 0 m_X4_readPlace [.ref x0] h (fun a u => a = none ∧ u = h') := by
  refine Gm.of pn_X4 (Nat.le_of_ble_eq_true rfl) ?_
  show Gd Γ l d m_X4_readPlace 0 [.ref x0, xhole, xhole] [] h 0 0 _
  generalize hQ : (fun (a : Option Value) (u : xH) => a = none ∧ u = h') = Q
  have hq : Q (none) h' := by rw [← hQ]; exact ⟨rfl, rfl⟩
  clear hQ
  unfold F_X4_readPlace at hF
  refine g_aloadn d_X4_readPlace_0 rfl ?_
  obtain ⟨v1, e1, hF⟩ := Option.bind_eq_some_iff.mp hF
  refine q_fR d_X4_readPlace_1 f_X4_48 e1 ?_
  obtain ⟨v4, e4, hF⟩ := Option.bind_eq_some_iff.mp hF
  refine q_fI d_X4_readPlace_4 f_X4_182 e4 ?_
  refine q_istoren [.ref x0, .int v4, xhole] d_X4_readPlace_7 (by decide) rfl ?_
  refine g_iloadn d_X4_readPlace_8 rfl ?_
  refine g_bi (6) d_X4_readPlace_9 bi_6 ?_
  refine g_icmp_lt 20 d_X4_readPlace_11 rfl (fun c11 => ?_) (fun c11 => ?_)
  · have hF := x_t hF c11
    refine g_aloadn d_X4_readPlace_20 rfl ?_
    obtain ⟨_, g21, hF⟩ := Option.bind_eq_some_iff.mp hF
    obtain ⟨⟨r21, h21⟩, e21, hF⟩ := Option.bind_eq_some_iff.mp hF
    try dsimp only at hF
    refine q_callV [] [] rfl d_X4_readPlace_21 v_X4_64 (by omega) rfl (Nat.le_of_ble_eq_true rfl) (rc_rc g21 (by decide) rfl) (R_X4_advance _ _ (by omega) e21) ?_
    refine g_ic (0) d_X4_readPlace_24 ic_0 ?_
    refine q_istoren [.ref x0, .int v4, .int 0] d_X4_readPlace_25 (by decide) rfl ?_
    exact q_to (xs_r (xs_r (xs_r xs_n))) (R_X4_readPlace_b26 hdp hq FU _ _ _ _ hF)
  · have hF := x_f hF c11
    refine g_aloadn d_X4_readPlace_14 rfl ?_
    refine g_ic (4) d_X4_readPlace_15 ic_4 ?_
    obtain ⟨_, g16, hF⟩ := Option.bind_eq_some_iff.mp hF
    obtain ⟨⟨r16, h16⟩, e16, hF⟩ := Option.bind_eq_some_iff.mp hF
    try dsimp only at hF
    refine q_callV [.int 4] [] rfl d_X4_readPlace_16 v_X4_91 (by omega) rfl (Nat.le_of_ble_eq_true rfl) (rc_rc g16 (by decide) rfl) (R_X4_fail _ _ _ (by omega) e16) ?_
    obtain ⟨rfl, rfl⟩ := x_inj hF
    exact g_vret d_X4_readPlace_19 rfl hq
theorem d_X4_readWay_0 : decode cX4_readWay 0 = .ok (.aload_n 0, 1) := by decide +kernel
theorem d_X4_readWay_1 : decode cX4_readWay 1 = .ok (.invokevirtual 64, 3) := by decide +kernel
theorem d_X4_readWay_4 : decode cX4_readWay 4 = .ok (.aload_n 0, 1) := by decide +kernel
theorem d_X4_readWay_5 : decode cX4_readWay 5 = .ok (.iconst 0, 1) := by decide +kernel
theorem d_X4_readWay_6 : decode cX4_readWay 6 = .ok (.aload_n 0, 1) := by decide +kernel
theorem d_X4_readWay_7 : decode cX4_readWay 7 = .ok (.getfield 48, 3) := by decide +kernel
theorem d_X4_readWay_10 : decode cX4_readWay 10 = .ok (.getfield 182, 3) := by decide +kernel
theorem d_X4_readWay_13 : decode cX4_readWay 13 = .ok (.iconst 1, 1) := by decide +kernel
theorem d_X4_readWay_14 : decode cX4_readWay 14 = .ok (.isub, 1) := by decide +kernel
theorem d_X4_readWay_15 : decode cX4_readWay 15 = .ok (.invokevirtual 112, 3) := by decide +kernel
theorem d_X4_readWay_18 : decode cX4_readWay 18 = .ok (.istore_n 1, 1) := by decide +kernel
theorem d_X4_readWay_19 : decode cX4_readWay 19 = .ok (.aload_n 0, 1) := by decide +kernel
theorem d_X4_readWay_20 : decode cX4_readWay 20 = .ok (.getfield 35, 3) := by decide +kernel
theorem d_X4_readWay_23 : decode cX4_readWay 23 = .ok (.iconst 1, 1) := by decide +kernel
theorem d_X4_readWay_24 : decode cX4_readWay 24 = .ok (.if_icmp .ne 16, 3) := by decide +kernel
theorem d_X4_readWay_27 : decode cX4_readWay 27 = .ok (.aload_n 0, 1) := by decide +kernel
theorem d_X4_readWay_28 : decode cX4_readWay 28 = .ok (.getfield 38, 3) := by decide +kernel
theorem d_X4_readWay_31 : decode cX4_readWay 31 = .ok (.iload_n 1, 1) := by decide +kernel
theorem d_X4_readWay_32 : decode cX4_readWay 32 = .ok (.if_icmp .ne 8, 3) := by decide +kernel
theorem d_X4_readWay_35 : decode cX4_readWay 35 = .ok (.aload_n 0, 1) := by decide +kernel
theorem d_X4_readWay_36 : decode cX4_readWay 36 = .ok (.iconst 3, 1) := by decide +kernel
theorem d_X4_readWay_37 : decode cX4_readWay 37 = .ok (.invokevirtual 91, 3) := by decide +kernel
theorem d_X4_readWay_40 : decode cX4_readWay 40 = .ok (.aload_n 0, 1) := by decide +kernel
theorem d_X4_readWay_41 : decode cX4_readWay 41 = .ok (.iconst 0, 1) := by decide +kernel
theorem d_X4_readWay_42 : decode cX4_readWay 42 = .ok (.aload_n 0, 1) := by decide +kernel
theorem d_X4_readWay_43 : decode cX4_readWay 43 = .ok (.getfield 48, 3) := by decide +kernel
theorem d_X4_readWay_46 : decode cX4_readWay 46 = .ok (.getfield 182, 3) := by decide +kernel
theorem d_X4_readWay_49 : decode cX4_readWay 49 = .ok (.iconst 1, 1) := by decide +kernel
theorem d_X4_readWay_50 : decode cX4_readWay 50 = .ok (.isub, 1) := by decide +kernel
theorem d_X4_readWay_51 : decode cX4_readWay 51 = .ok (.invokevirtual 112, 3) := by decide +kernel
theorem d_X4_readWay_54 : decode cX4_readWay 54 = .ok (.istore_n 2, 1) := by decide +kernel
theorem d_X4_readWay_55 : decode cX4_readWay 55 = .ok (.aload_n 0, 1) := by decide +kernel
theorem d_X4_readWay_56 : decode cX4_readWay 56 = .ok (.getfield 52, 3) := by decide +kernel
theorem d_X4_readWay_59 : decode cX4_readWay 59 = .ok (.ifCond .ne 41, 3) := by decide +kernel
theorem d_X4_readWay_62 : decode cX4_readWay 62 = .ok (.iload_n 1, 1) := by decide +kernel
theorem d_X4_readWay_63 : decode cX4_readWay 63 = .ok (.ifCond .lt 37, 3) := by decide +kernel
theorem d_X4_readWay_66 : decode cX4_readWay 66 = .ok (.iload_n 2, 1) := by decide +kernel
theorem d_X4_readWay_67 : decode cX4_readWay 67 = .ok (.ifCond .lt 33, 3) := by decide +kernel
theorem d_X4_readWay_70 : decode cX4_readWay 70 = .ok (.aload_n 0, 1) := by decide +kernel
theorem d_X4_readWay_71 : decode cX4_readWay 71 = .ok (.getfield 48, 3) := by decide +kernel
theorem d_X4_readWay_74 : decode cX4_readWay 74 = .ok (.getfield 191, 3) := by decide +kernel
theorem d_X4_readWay_77 : decode cX4_readWay 77 = .ok (.iload_n 1, 1) := by decide +kernel
theorem d_X4_readWay_78 : decode cX4_readWay 78 = .ok (.dup2, 1) := by decide +kernel
theorem d_X4_readWay_79 : decode cX4_readWay 79 = .ok (.iaload, 1) := by decide +kernel
theorem d_X4_readWay_80 : decode cX4_readWay 80 = .ok (.iconst 1, 1) := by decide +kernel
theorem d_X4_readWay_81 : decode cX4_readWay 81 = .ok (.iload_n 2, 1) := by decide +kernel
theorem d_X4_readWay_82 : decode cX4_readWay 82 = .ok (.ishl, 1) := by decide +kernel
theorem d_X4_readWay_83 : decode cX4_readWay 83 = .ok (.ior, 1) := by decide +kernel
theorem d_X4_readWay_84 : decode cX4_readWay 84 = .ok (.iastore, 1) := by decide +kernel
theorem d_X4_readWay_85 : decode cX4_readWay 85 = .ok (.aload_n 0, 1) := by decide +kernel
theorem d_X4_readWay_86 : decode cX4_readWay 86 = .ok (.getfield 48, 3) := by decide +kernel
theorem d_X4_readWay_89 : decode cX4_readWay 89 = .ok (.getfield 191, 3) := by decide +kernel
theorem d_X4_readWay_92 : decode cX4_readWay 92 = .ok (.iload_n 2, 1) := by decide +kernel
theorem d_X4_readWay_93 : decode cX4_readWay 93 = .ok (.dup2, 1) := by decide +kernel
theorem d_X4_readWay_94 : decode cX4_readWay 94 = .ok (.iaload, 1) := by decide +kernel
theorem d_X4_readWay_95 : decode cX4_readWay 95 = .ok (.iconst 1, 1) := by decide +kernel
theorem d_X4_readWay_96 : decode cX4_readWay 96 = .ok (.iload_n 1, 1) := by decide +kernel
theorem d_X4_readWay_97 : decode cX4_readWay 97 = .ok (.ishl, 1) := by decide +kernel
theorem d_X4_readWay_98 : decode cX4_readWay 98 = .ok (.ior, 1) := by decide +kernel
theorem d_X4_readWay_99 : decode cX4_readWay 99 = .ok (.iastore, 1) := by decide +kernel
theorem d_X4_readWay_100 : decode cX4_readWay 100 = .ok (.return_, 1) := by decide +kernel
def F_X4_readWay_b40 (x0 : Nat) (x1 : Int32) (h : xH) : Option (Unit × xH) := (fR h x0 3 10).bind fun v43 => (fI h v43 9 3).bind fun v46 => (rc h x0 3).bind fun _ => (F_X4_passNumber x0 0 (v46 - 1) h).bind fun z51 => (fI z51.2 x0 3 11).bind fun v56 => if ¬ v56 = 0 then some ((), z51.2) else if x1 < 0 then some ((), z51.2) else if z51.1 < 0 then some ((), z51.2) else (fR z51.2 x0 3 10).bind fun v71 => (fR z51.2 v71 9 9).bind fun v74 => (aI z51.2 v74 x1).bind fun v79 => (sI z51.2 v74 x1 (v79 ||| (((1 : Int32)) <<< (z51.1 &&& 31)))).bind fun h84 => (fR h84 x0 3 10).bind fun v86 => (fR h84 v86 9 9).bind fun v89 => (aI h84 v89 z51.1).bind fun v94 => (sI h84 v89 z51.1 (v94 ||| (((1 : Int32)) <<< (x1 &&& 31)))).bind fun h99 => some ((), h99)
theorem R_X4_readWay_b40 {Γ : xG} {l : Launch} {d : Nat} {Q : Option Value → xH → Prop} {r : Unit} {h' : xH} (hdp : 9 ≤ d) (hq : Q (none) h') : ∀ (x0 : Nat) (x1 : Int32) (h : xH), F_X4_readWay_b40 x0 x1 h = some (r, h') → Gd Γ l d m_X4_readWay 40 [.ref x0, .int x1, xhole] [] h 0 0 Q := by
  intro x0 x1 h hF
  unfold F_X4_readWay_b40 at hF
  refine g_aloadn d_X4_readWay_40 rfl ?_
  refine g_ic (0) d_X4_readWay_41 ic_0 ?_
  refine g_aloadn d_X4_readWay_42 rfl ?_
  obtain ⟨v43, e43, hF⟩ := Option.bind_eq_some_iff.mp hF
  refine q_fR d_X4_readWay_43 f_X4_48 e43 ?_
  obtain ⟨v46, e46, hF⟩ := Option.bind_eq_some_iff.mp hF
  refine q_fI d_X4_readWay_46 f_X4_182 e46 ?_
  refine g_ic (1) d_X4_readWay_49 ic_1 ?_
  refine g_isub d_X4_readWay_50 ?_
  obtain ⟨_, g51, hF⟩ := Option.bind_eq_some_iff.mp hF
  obtain ⟨⟨r51, h51⟩, e51, hF⟩ := Option.bind_eq_some_iff.mp hF
  try dsimp only at hF
  refine q_callV [.int 0, .int (v46 - 1)] [] rfl d_X4_readWay_51 v_X4_112 (by omega) rfl (Nat.le_of_ble_eq_true rfl) (rc_rc g51 (by decide) rfl) (R_X4_passNumber _ _ _ _ (by omega) e51) ?_
  refine q_istoren [.ref x0, .int x1, .int (r51)] d_X4_readWay_54 (by decide) rfl ?_
  refine g_aloadn d_X4_readWay_55 rfl ?_
  obtain ⟨v56, e56, hF⟩ := Option.bind_eq_some_iff.mp hF
  refine q_fI d_X4_readWay_56 f_X4_52 e56 ?_
  refine g_if_ne 100 d_X4_readWay_59 rfl (fun c59 => ?_) (fun c59 => ?_)
  · have hF := x_t hF c59
    obtain ⟨rfl, rfl⟩ := x_inj hF
    exact g_vret d_X4_readWay_100 rfl hq
  · have hF := x_f hF (not_not_intro c59)
    refine g_iloadn d_X4_readWay_62 rfl ?_
    refine g_if_lt 100 d_X4_readWay_63 rfl (fun c63 => ?_) (fun c63 => ?_)
    · have hF := x_t hF c63
      obtain ⟨rfl, rfl⟩ := x_inj hF
      exact g_vret d_X4_readWay_100 rfl hq
    · have hF := x_f hF c63
      refine g_iloadn d_X4_readWay_66 rfl ?_
      refine g_if_lt 100 d_X4_readWay_67 rfl (fun c67 => ?_) (fun c67 => ?_)
      · have hF := x_t hF c67
        obtain ⟨rfl, rfl⟩ := x_inj hF
        exact g_vret d_X4_readWay_100 rfl hq
      · have hF := x_f hF c67
        refine g_aloadn d_X4_readWay_70 rfl ?_
        obtain ⟨v71, e71, hF⟩ := Option.bind_eq_some_iff.mp hF
        refine q_fR d_X4_readWay_71 f_X4_48 e71 ?_
        obtain ⟨v74, e74, hF⟩ := Option.bind_eq_some_iff.mp hF
        refine q_fR d_X4_readWay_74 f_X4_191 e74 ?_
        refine g_iloadn d_X4_readWay_77 rfl ?_
        refine g_dup2 d_X4_readWay_78 rfl rfl ?_
        obtain ⟨v79, e79, hF⟩ := Option.bind_eq_some_iff.mp hF
        refine q_aI d_X4_readWay_79 e79 ?_
        refine g_ic (1) d_X4_readWay_80 ic_1 ?_
        refine g_iloadn d_X4_readWay_81 rfl ?_
        refine g_ishl d_X4_readWay_82 ?_
        refine g_ior d_X4_readWay_83 ?_
        obtain ⟨h84, e84, hF⟩ := Option.bind_eq_some_iff.mp hF
        refine q_sI d_X4_readWay_84 e84 ?_
        refine g_aloadn d_X4_readWay_85 rfl ?_
        obtain ⟨v86, e86, hF⟩ := Option.bind_eq_some_iff.mp hF
        refine q_fR d_X4_readWay_86 f_X4_48 e86 ?_
        obtain ⟨v89, e89, hF⟩ := Option.bind_eq_some_iff.mp hF
        refine q_fR d_X4_readWay_89 f_X4_191 e89 ?_
        refine g_iloadn d_X4_readWay_92 rfl ?_
        refine g_dup2 d_X4_readWay_93 rfl rfl ?_
        obtain ⟨v94, e94, hF⟩ := Option.bind_eq_some_iff.mp hF
        refine q_aI d_X4_readWay_94 e94 ?_
        refine g_ic (1) d_X4_readWay_95 ic_1 ?_
        refine g_iloadn d_X4_readWay_96 rfl ?_
        refine g_ishl d_X4_readWay_97 ?_
        refine g_ior d_X4_readWay_98 ?_
        obtain ⟨h99, e99, hF⟩ := Option.bind_eq_some_iff.mp hF
        refine q_sI d_X4_readWay_99 e99 ?_
        obtain ⟨rfl, rfl⟩ := x_inj hF
        exact g_vret d_X4_readWay_100 rfl hq
def F_X4_readWay (x0 : Nat) (h : xH) : Option (Unit × xH) := (rc h x0 3).bind fun _ => (F_X4_advance x0 h).bind fun z1 => (fR z1.2 x0 3 10).bind fun v7 => (fI z1.2 v7 9 3).bind fun v10 => (rc z1.2 x0 3).bind fun _ => (F_X4_passNumber x0 0 (v10 - 1) z1.2).bind fun z15 => (fI z15.2 x0 3 7).bind fun v20 => if ¬ v20 = ((1 : Int32)) then F_X4_readWay_b40 x0 z15.1 z15.2 else (fI z15.2 x0 3 8).bind fun v28 => if ¬ v28 = z15.1 then F_X4_readWay_b40 x0 z15.1 z15.2 else (rc z15.2 x0 3).bind fun _ => (F_X4_fail x0 3 z15.2).bind fun z37 => F_X4_readWay_b40 x0 z15.1 z37.2
theorem R_X4_readWay {Γ : xG} {l : Launch} {d : Nat} {r : Unit} {h' : xH} (x0 : Nat) (h : xH) (hdp : 9 ≤ d) (hF : F_X4_readWay x0 h = some (r, h')) : Gm Γ l d 0 0 m_X4_readWay [.ref x0] h (fun a u => a = none ∧ u = h') := by
  refine Gm.of pn_X4 (Nat.le_of_ble_eq_true rfl) ?_
  show Gd Γ l d m_X4_readWay 0 [.ref x0, xhole, xhole] [] h 0 0 _
  generalize hQ : (fun (a : Option Value) (u : xH) => a = none ∧ u = h') = Q
  have hq : Q (none) h' := by rw [← hQ]; exact ⟨rfl, rfl⟩
  clear hQ
  unfold F_X4_readWay at hF
  refine g_aloadn d_X4_readWay_0 rfl ?_
  obtain ⟨_, g1, hF⟩ := Option.bind_eq_some_iff.mp hF
  obtain ⟨⟨r1, h1⟩, e1, hF⟩ := Option.bind_eq_some_iff.mp hF
  try dsimp only at hF
  refine q_callV [] [] rfl d_X4_readWay_1 v_X4_64 (by omega) rfl (Nat.le_of_ble_eq_true rfl) (rc_rc g1 (by decide) rfl) (R_X4_advance _ _ (by omega) e1) ?_
  refine g_aloadn d_X4_readWay_4 rfl ?_
  refine g_ic (0) d_X4_readWay_5 ic_0 ?_
  refine g_aloadn d_X4_readWay_6 rfl ?_
  obtain ⟨v7, e7, hF⟩ := Option.bind_eq_some_iff.mp hF
  refine q_fR d_X4_readWay_7 f_X4_48 e7 ?_
  obtain ⟨v10, e10, hF⟩ := Option.bind_eq_some_iff.mp hF
  refine q_fI d_X4_readWay_10 f_X4_182 e10 ?_
  refine g_ic (1) d_X4_readWay_13 ic_1 ?_
  refine g_isub d_X4_readWay_14 ?_
  obtain ⟨_, g15, hF⟩ := Option.bind_eq_some_iff.mp hF
  obtain ⟨⟨r15, h15⟩, e15, hF⟩ := Option.bind_eq_some_iff.mp hF
  try dsimp only at hF
  refine q_callV [.int 0, .int (v10 - 1)] [] rfl d_X4_readWay_15 v_X4_112 (by omega) rfl (Nat.le_of_ble_eq_true rfl) (rc_rc g15 (by decide) rfl) (R_X4_passNumber _ _ _ _ (by omega) e15) ?_
  refine q_istoren [.ref x0, .int (r15), xhole] d_X4_readWay_18 (by decide) rfl ?_
  refine g_aloadn d_X4_readWay_19 rfl ?_
  obtain ⟨v20, e20, hF⟩ := Option.bind_eq_some_iff.mp hF
  refine q_fI d_X4_readWay_20 f_X4_35 e20 ?_
  refine g_ic (1) d_X4_readWay_23 ic_1 ?_
  refine g_icmp_ne 40 d_X4_readWay_24 rfl (fun c24 => ?_) (fun c24 => ?_)
  · have hF := x_t hF c24
    exact q_to (xs_r (xs_r (xs_h xs_n))) (R_X4_readWay_b40 hdp hq _ _ _ hF)
  · have hF := x_f hF (not_not_intro c24)
    refine g_aloadn d_X4_readWay_27 rfl ?_
    obtain ⟨v28, e28, hF⟩ := Option.bind_eq_some_iff.mp hF
    refine q_fI d_X4_readWay_28 f_X4_38 e28 ?_
    refine g_iloadn d_X4_readWay_31 rfl ?_
    refine g_icmp_ne 40 d_X4_readWay_32 rfl (fun c32 => ?_) (fun c32 => ?_)
    · have hF := x_t hF c32
      exact q_to (xs_r (xs_r (xs_h xs_n))) (R_X4_readWay_b40 hdp hq _ _ _ hF)
    · have hF := x_f hF (not_not_intro c32)
      refine g_aloadn d_X4_readWay_35 rfl ?_
      refine g_ic (3) d_X4_readWay_36 ic_3 ?_
      obtain ⟨_, g37, hF⟩ := Option.bind_eq_some_iff.mp hF
      obtain ⟨⟨r37, h37⟩, e37, hF⟩ := Option.bind_eq_some_iff.mp hF
      try dsimp only at hF
      refine q_callV [.int 3] [] rfl d_X4_readWay_37 v_X4_91 (by omega) rfl (Nat.le_of_ble_eq_true rfl) (rc_rc g37 (by decide) rfl) (R_X4_fail _ _ _ (by omega) e37) ?_
      exact q_to (xs_r (xs_r (xs_h xs_n))) (R_X4_readWay_b40 hdp hq _ _ _ hF)
theorem d_X4_readFlag_0 : decode cX4_readFlag 0 = .ok (.aload_n 0, 1) := by decide +kernel
theorem d_X4_readFlag_1 : decode cX4_readFlag 1 = .ok (.ldc 217, 2) := by decide +kernel
theorem d_X4_readFlag_3 : decode cX4_readFlag 3 = .ok (.invokevirtual 102, 3) := by decide +kernel
theorem d_X4_readFlag_6 : decode cX4_readFlag 6 = .ok (.ifCond .eq 36, 3) := by decide +kernel
theorem d_X4_readFlag_9 : decode cX4_readFlag 9 = .ok (.aload_n 0, 1) := by decide +kernel
theorem d_X4_readFlag_10 : decode cX4_readFlag 10 = .ok (.invokevirtual 64, 3) := by decide +kernel
theorem d_X4_readFlag_13 : decode cX4_readFlag 13 = .ok (.aload_n 0, 1) := by decide +kernel
theorem d_X4_readFlag_14 : decode cX4_readFlag 14 = .ok (.getfield 48, 3) := by decide +kernel
theorem d_X4_readFlag_17 : decode cX4_readFlag 17 = .ok (.getfield 199, 3) := by decide +kernel
theorem d_X4_readFlag_20 : decode cX4_readFlag 20 = .ok (.getfield 211, 3) := by decide +kernel
theorem d_X4_readFlag_23 : decode cX4_readFlag 23 = .ok (.iload_n 1, 1) := by decide +kernel
theorem d_X4_readFlag_24 : decode cX4_readFlag 24 = .ok (.aload_n 0, 1) := by decide +kernel
theorem d_X4_readFlag_25 : decode cX4_readFlag 25 = .ok (.iconst 0, 1) := by decide +kernel
theorem d_X4_readFlag_26 : decode cX4_readFlag 26 = .ok (.aload_n 0, 1) := by decide +kernel
theorem d_X4_readFlag_27 : decode cX4_readFlag 27 = .ok (.getfield 48, 3) := by decide +kernel
theorem d_X4_readFlag_30 : decode cX4_readFlag 30 = .ok (.getfield 115, 3) := by decide +kernel
theorem d_X4_readFlag_33 : decode cX4_readFlag 33 = .ok (.iconst 1, 1) := by decide +kernel
theorem d_X4_readFlag_34 : decode cX4_readFlag 34 = .ok (.isub, 1) := by decide +kernel
theorem d_X4_readFlag_35 : decode cX4_readFlag 35 = .ok (.invokevirtual 112, 3) := by decide +kernel
theorem d_X4_readFlag_38 : decode cX4_readFlag 38 = .ok (.iastore, 1) := by decide +kernel
theorem d_X4_readFlag_39 : decode cX4_readFlag 39 = .ok (.goto 77, 3) := by decide +kernel
theorem d_X4_readFlag_42 : decode cX4_readFlag 42 = .ok (.aload_n 0, 1) := by decide +kernel
theorem d_X4_readFlag_43 : decode cX4_readFlag 43 = .ok (.ldc 219, 2) := by decide +kernel
theorem d_X4_readFlag_45 : decode cX4_readFlag 45 = .ok (.invokevirtual 102, 3) := by decide +kernel
theorem d_X4_readFlag_48 : decode cX4_readFlag 48 = .ok (.ifCond .eq 29, 3) := by decide +kernel
theorem d_X4_readFlag_51 : decode cX4_readFlag 51 = .ok (.aload_n 0, 1) := by decide +kernel
theorem d_X4_readFlag_52 : decode cX4_readFlag 52 = .ok (.invokevirtual 64, 3) := by decide +kernel
theorem d_X4_readFlag_55 : decode cX4_readFlag 55 = .ok (.aload_n 0, 1) := by decide +kernel
theorem d_X4_readFlag_56 : decode cX4_readFlag 56 = .ok (.getfield 48, 3) := by decide +kernel
theorem d_X4_readFlag_59 : decode cX4_readFlag 59 = .ok (.getfield 199, 3) := by decide +kernel
theorem d_X4_readFlag_62 : decode cX4_readFlag 62 = .ok (.getfield 221, 3) := by decide +kernel
theorem d_X4_readFlag_65 : decode cX4_readFlag 65 = .ok (.iload_n 1, 1) := by decide +kernel
theorem d_X4_readFlag_66 : decode cX4_readFlag 66 = .ok (.aload_n 0, 1) := by decide +kernel
theorem d_X4_readFlag_67 : decode cX4_readFlag 67 = .ok (.iconst 0, 1) := by decide +kernel
theorem d_X4_readFlag_68 : decode cX4_readFlag 68 = .ok (.bipush 9, 2) := by decide +kernel
theorem d_X4_readFlag_70 : decode cX4_readFlag 70 = .ok (.invokevirtual 112, 3) := by decide +kernel
theorem d_X4_readFlag_73 : decode cX4_readFlag 73 = .ok (.iastore, 1) := by decide +kernel
theorem d_X4_readFlag_74 : decode cX4_readFlag 74 = .ok (.goto 42, 3) := by decide +kernel
theorem d_X4_readFlag_77 : decode cX4_readFlag 77 = .ok (.aload_n 0, 1) := by decide +kernel
theorem d_X4_readFlag_78 : decode cX4_readFlag 78 = .ok (.ldc 224, 2) := by decide +kernel
theorem d_X4_readFlag_80 : decode cX4_readFlag 80 = .ok (.invokevirtual 102, 3) := by decide +kernel
theorem d_X4_readFlag_83 : decode cX4_readFlag 83 = .ok (.ifCond .eq 28, 3) := by decide +kernel
theorem d_X4_readFlag_86 : decode cX4_readFlag 86 = .ok (.aload_n 0, 1) := by decide +kernel
theorem d_X4_readFlag_87 : decode cX4_readFlag 87 = .ok (.invokevirtual 64, 3) := by decide +kernel
theorem d_X4_readFlag_90 : decode cX4_readFlag 90 = .ok (.aload_n 0, 1) := by decide +kernel
theorem d_X4_readFlag_91 : decode cX4_readFlag 91 = .ok (.getfield 48, 3) := by decide +kernel
theorem d_X4_readFlag_94 : decode cX4_readFlag 94 = .ok (.getfield 199, 3) := by decide +kernel
theorem d_X4_readFlag_97 : decode cX4_readFlag 97 = .ok (.dup, 1) := by decide +kernel
theorem d_X4_readFlag_98 : decode cX4_readFlag 98 = .ok (.getfield 226, 3) := by decide +kernel
theorem d_X4_readFlag_101 : decode cX4_readFlag 101 = .ok (.iconst 1, 1) := by decide +kernel
theorem d_X4_readFlag_102 : decode cX4_readFlag 102 = .ok (.iload_n 1, 1) := by decide +kernel
theorem d_X4_readFlag_103 : decode cX4_readFlag 103 = .ok (.ishl, 1) := by decide +kernel
theorem d_X4_readFlag_104 : decode cX4_readFlag 104 = .ok (.ior, 1) := by decide +kernel
theorem d_X4_readFlag_105 : decode cX4_readFlag 105 = .ok (.putfield 226, 3) := by decide +kernel
theorem d_X4_readFlag_108 : decode cX4_readFlag 108 = .ok (.goto 8, 3) := by decide +kernel
theorem d_X4_readFlag_111 : decode cX4_readFlag 111 = .ok (.aload_n 0, 1) := by decide +kernel
theorem d_X4_readFlag_112 : decode cX4_readFlag 112 = .ok (.iconst 2, 1) := by decide +kernel
theorem d_X4_readFlag_113 : decode cX4_readFlag 113 = .ok (.invokevirtual 91, 3) := by decide +kernel
theorem d_X4_readFlag_116 : decode cX4_readFlag 116 = .ok (.return_, 1) := by decide +kernel
def F_X4_readFlag (x0 : Nat) (x1 : Int32) (h : xH) : Option (Unit × xH) := (rc h x0 3).bind fun _ => (F_X4_isAt x0 16 h).bind fun z3 => if z3.1 = 0 then (rc z3.2 x0 3).bind fun _ => (F_X4_isAt x0 18 z3.2).bind fun z45 => if z45.1 = 0 then (rc z45.2 x0 3).bind fun _ => (F_X4_isAt x0 20 z45.2).bind fun z80 => if z80.1 = 0 then (rc z80.2 x0 3).bind fun _ => (F_X4_fail x0 2 z80.2).bind fun z113 => some ((), z113.2) else (rc z80.2 x0 3).bind fun _ => (F_X4_advance x0 z80.2).bind fun z87 => (fR z87.2 x0 3 10).bind fun v91 => (fR z87.2 v91 9 11).bind fun v94 => (fI z87.2 v94 5 3).bind fun v98 => (wI z87.2 v94 5 3 (v98 ||| (((1 : Int32)) <<< (x1 &&& 31)))).bind fun h105 => some ((), h105) else (rc z45.2 x0 3).bind fun _ => (F_X4_advance x0 z45.2).bind fun z52 => (fR z52.2 x0 3 10).bind fun v56 => (fR z52.2 v56 9 11).bind fun v59 => (fR z52.2 v59 5 1).bind fun v62 => (rc z52.2 x0 3).bind fun _ => (F_X4_passNumber x0 0 9 z52.2).bind fun z70 => (sI z70.2 v62 x1 z70.1).bind fun h73 => some ((), h73) else (rc z3.2 x0 3).bind fun _ => (F_X4_advance x0 z3.2).bind fun z10 => (fR z10.2 x0 3 10).bind fun v14 => (fR z10.2 v14 9 11).bind fun v17 => (fR z10.2 v17 5 2).bind fun v20 => (fR z10.2 x0 3 10).bind fun v27 => (fI z10.2 v27 9 0).bind fun v30 => (rc z10.2 x0 3).bind fun _ => (F_X4_passNumber x0 0 (v30 - 1) z10.2).bind fun z35 => (sI z35.2 v20 x1 z35.1).bind fun h38 => some ((), h38)
theorem R_X4_readFlag {Γ : xG} {l : Launch} {d : Nat} {r : Unit} {h' : xH} (x0 : Nat) (x1 : Int32) (h : xH) (hdp : 9 ≤ d) (hF : F_X4_readFlag x0 x1 h = some (r, h')) : Gm Γ l d 0 0 m_X4_readFlag [.ref x0, .int x1] h (fun a u => a = none ∧ u = h') := by
  refine Gm.of pn_X4 (Nat.le_of_ble_eq_true rfl) ?_
  show Gd Γ l d m_X4_readFlag 0 [.ref x0, .int x1] [] h 0 0 _
  generalize hQ : (fun (a : Option Value) (u : xH) => a = none ∧ u = h') = Q
  have hq : Q (none) h' := by rw [← hQ]; exact ⟨rfl, rfl⟩
  clear hQ
  unfold F_X4_readFlag at hF
  refine g_aloadn d_X4_readFlag_0 rfl ?_
  refine g_ldcS (i := 8) d_X4_readFlag_1 rfl ?_
  obtain ⟨_, g3, hF⟩ := Option.bind_eq_some_iff.mp hF
  obtain ⟨⟨r3, h3⟩, e3, hF⟩ := Option.bind_eq_some_iff.mp hF
  try dsimp only at hF
  refine q_callV [.ref 16] [] rfl d_X4_readFlag_3 v_X4_102 (by omega) rfl (Nat.le_of_ble_eq_true rfl) (rc_rc g3 (by decide) rfl) (R_X4_isAt _ _ _ (by omega) e3) ?_
  refine g_if_eq 42 d_X4_readFlag_6 rfl (fun c6 => ?_) (fun c6 => ?_)
  · have hF := x_t hF c6
    refine g_aloadn d_X4_readFlag_42 rfl ?_
    refine g_ldcS (i := 9) d_X4_readFlag_43 rfl ?_
    obtain ⟨_, g45, hF⟩ := Option.bind_eq_some_iff.mp hF
    obtain ⟨⟨r45, h45⟩, e45, hF⟩ := Option.bind_eq_some_iff.mp hF
    try dsimp only at hF
    refine q_callV [.ref 18] [] rfl d_X4_readFlag_45 v_X4_102 (by omega) rfl (Nat.le_of_ble_eq_true rfl) (rc_rc g45 (by decide) rfl) (R_X4_isAt _ _ _ (by omega) e45) ?_
    refine g_if_eq 77 d_X4_readFlag_48 rfl (fun c48 => ?_) (fun c48 => ?_)
    · have hF := x_t hF c48
      refine g_aloadn d_X4_readFlag_77 rfl ?_
      refine g_ldcS (i := 10) d_X4_readFlag_78 rfl ?_
      obtain ⟨_, g80, hF⟩ := Option.bind_eq_some_iff.mp hF
      obtain ⟨⟨r80, h80⟩, e80, hF⟩ := Option.bind_eq_some_iff.mp hF
      try dsimp only at hF
      refine q_callV [.ref 20] [] rfl d_X4_readFlag_80 v_X4_102 (by omega) rfl (Nat.le_of_ble_eq_true rfl) (rc_rc g80 (by decide) rfl) (R_X4_isAt _ _ _ (by omega) e80) ?_
      refine g_if_eq 111 d_X4_readFlag_83 rfl (fun c83 => ?_) (fun c83 => ?_)
      · have hF := x_t hF c83
        refine g_aloadn d_X4_readFlag_111 rfl ?_
        refine g_ic (2) d_X4_readFlag_112 ic_2 ?_
        obtain ⟨_, g113, hF⟩ := Option.bind_eq_some_iff.mp hF
        obtain ⟨⟨r113, h113⟩, e113, hF⟩ := Option.bind_eq_some_iff.mp hF
        try dsimp only at hF
        refine q_callV [.int 2] [] rfl d_X4_readFlag_113 v_X4_91 (by omega) rfl (Nat.le_of_ble_eq_true rfl) (rc_rc g113 (by decide) rfl) (R_X4_fail _ _ _ (by omega) e113) ?_
        obtain ⟨rfl, rfl⟩ := x_inj hF
        exact g_vret d_X4_readFlag_116 rfl hq
      · have hF := x_f hF c83
        refine g_aloadn d_X4_readFlag_86 rfl ?_
        obtain ⟨_, g87, hF⟩ := Option.bind_eq_some_iff.mp hF
        obtain ⟨⟨r87, h87⟩, e87, hF⟩ := Option.bind_eq_some_iff.mp hF
        try dsimp only at hF
        refine q_callV [] [] rfl d_X4_readFlag_87 v_X4_64 (by omega) rfl (Nat.le_of_ble_eq_true rfl) (rc_rc g87 (by decide) rfl) (R_X4_advance _ _ (by omega) e87) ?_
        refine g_aloadn d_X4_readFlag_90 rfl ?_
        obtain ⟨v91, e91, hF⟩ := Option.bind_eq_some_iff.mp hF
        refine q_fR d_X4_readFlag_91 f_X4_48 e91 ?_
        obtain ⟨v94, e94, hF⟩ := Option.bind_eq_some_iff.mp hF
        refine q_fR d_X4_readFlag_94 f_X4_199 e94 ?_
        refine g_dup d_X4_readFlag_97 rfl ?_
        obtain ⟨v98, e98, hF⟩ := Option.bind_eq_some_iff.mp hF
        refine q_fI d_X4_readFlag_98 f_X4_226 e98 ?_
        refine g_ic (1) d_X4_readFlag_101 ic_1 ?_
        refine g_iloadn d_X4_readFlag_102 rfl ?_
        refine g_ishl d_X4_readFlag_103 ?_
        refine g_ior d_X4_readFlag_104 ?_
        obtain ⟨h105, e105, hF⟩ := Option.bind_eq_some_iff.mp hF
        refine q_wI d_X4_readFlag_105 (w_X4_226 _) e105 ?_
        refine g_goto 116 d_X4_readFlag_108 rfl ?_
        obtain ⟨rfl, rfl⟩ := x_inj hF
        exact g_vret d_X4_readFlag_116 rfl hq
    · have hF := x_f hF c48
      refine g_aloadn d_X4_readFlag_51 rfl ?_
      obtain ⟨_, g52, hF⟩ := Option.bind_eq_some_iff.mp hF
      obtain ⟨⟨r52, h52⟩, e52, hF⟩ := Option.bind_eq_some_iff.mp hF
      try dsimp only at hF
      refine q_callV [] [] rfl d_X4_readFlag_52 v_X4_64 (by omega) rfl (Nat.le_of_ble_eq_true rfl) (rc_rc g52 (by decide) rfl) (R_X4_advance _ _ (by omega) e52) ?_
      refine g_aloadn d_X4_readFlag_55 rfl ?_
      obtain ⟨v56, e56, hF⟩ := Option.bind_eq_some_iff.mp hF
      refine q_fR d_X4_readFlag_56 f_X4_48 e56 ?_
      obtain ⟨v59, e59, hF⟩ := Option.bind_eq_some_iff.mp hF
      refine q_fR d_X4_readFlag_59 f_X4_199 e59 ?_
      obtain ⟨v62, e62, hF⟩ := Option.bind_eq_some_iff.mp hF
      refine q_fR d_X4_readFlag_62 f_X4_221 e62 ?_
      refine g_iloadn d_X4_readFlag_65 rfl ?_
      refine g_aloadn d_X4_readFlag_66 rfl ?_
      refine g_ic (0) d_X4_readFlag_67 ic_0 ?_
      refine g_bi (9) d_X4_readFlag_68 bi_9 ?_
      obtain ⟨_, g70, hF⟩ := Option.bind_eq_some_iff.mp hF
      obtain ⟨⟨r70, h70⟩, e70, hF⟩ := Option.bind_eq_some_iff.mp hF
      try dsimp only at hF
      refine q_callV [.int 0, .int 9] [.int x1, .ref v62] rfl d_X4_readFlag_70 v_X4_112 (by omega) rfl (Nat.le_of_ble_eq_true rfl) (rc_rc g70 (by decide) rfl) (R_X4_passNumber _ _ _ _ (by omega) e70) ?_
      obtain ⟨h73, e73, hF⟩ := Option.bind_eq_some_iff.mp hF
      refine q_sI d_X4_readFlag_73 e73 ?_
      refine g_goto 116 d_X4_readFlag_74 rfl ?_
      obtain ⟨rfl, rfl⟩ := x_inj hF
      exact g_vret d_X4_readFlag_116 rfl hq
  · have hF := x_f hF c6
    refine g_aloadn d_X4_readFlag_9 rfl ?_
    obtain ⟨_, g10, hF⟩ := Option.bind_eq_some_iff.mp hF
    obtain ⟨⟨r10, h10⟩, e10, hF⟩ := Option.bind_eq_some_iff.mp hF
    try dsimp only at hF
    refine q_callV [] [] rfl d_X4_readFlag_10 v_X4_64 (by omega) rfl (Nat.le_of_ble_eq_true rfl) (rc_rc g10 (by decide) rfl) (R_X4_advance _ _ (by omega) e10) ?_
    refine g_aloadn d_X4_readFlag_13 rfl ?_
    obtain ⟨v14, e14, hF⟩ := Option.bind_eq_some_iff.mp hF
    refine q_fR d_X4_readFlag_14 f_X4_48 e14 ?_
    obtain ⟨v17, e17, hF⟩ := Option.bind_eq_some_iff.mp hF
    refine q_fR d_X4_readFlag_17 f_X4_199 e17 ?_
    obtain ⟨v20, e20, hF⟩ := Option.bind_eq_some_iff.mp hF
    refine q_fR d_X4_readFlag_20 f_X4_211 e20 ?_
    refine g_iloadn d_X4_readFlag_23 rfl ?_
    refine g_aloadn d_X4_readFlag_24 rfl ?_
    refine g_ic (0) d_X4_readFlag_25 ic_0 ?_
    refine g_aloadn d_X4_readFlag_26 rfl ?_
    obtain ⟨v27, e27, hF⟩ := Option.bind_eq_some_iff.mp hF
    refine q_fR d_X4_readFlag_27 f_X4_48 e27 ?_
    obtain ⟨v30, e30, hF⟩ := Option.bind_eq_some_iff.mp hF
    refine q_fI d_X4_readFlag_30 f_X4_115 e30 ?_
    refine g_ic (1) d_X4_readFlag_33 ic_1 ?_
    refine g_isub d_X4_readFlag_34 ?_
    obtain ⟨_, g35, hF⟩ := Option.bind_eq_some_iff.mp hF
    obtain ⟨⟨r35, h35⟩, e35, hF⟩ := Option.bind_eq_some_iff.mp hF
    try dsimp only at hF
    refine q_callV [.int 0, .int (v30 - 1)] [.int x1, .ref v20] rfl d_X4_readFlag_35 v_X4_112 (by omega) rfl (Nat.le_of_ble_eq_true rfl) (rc_rc g35 (by decide) rfl) (R_X4_passNumber _ _ _ _ (by omega) e35) ?_
    obtain ⟨h38, e38, hF⟩ := Option.bind_eq_some_iff.mp hF
    refine q_sI d_X4_readFlag_38 e38 ?_
    refine g_goto 116 d_X4_readFlag_39 rfl ?_
    obtain ⟨rfl, rfl⟩ := x_inj hF
    exact g_vret d_X4_readFlag_116 rfl hq
theorem d_X4_readPerson_0 : decode cX4_readPerson 0 = .ok (.aload_n 0, 1) := by decide +kernel
theorem d_X4_readPerson_1 : decode cX4_readPerson 1 = .ok (.getfield 48, 3) := by decide +kernel
theorem d_X4_readPerson_4 : decode cX4_readPerson 4 = .ok (.getfield 194, 3) := by decide +kernel
theorem d_X4_readPerson_7 : decode cX4_readPerson 7 = .ok (.istore_n 1, 1) := by decide +kernel
theorem d_X4_readPerson_8 : decode cX4_readPerson 8 = .ok (.iload_n 1, 1) := by decide +kernel
theorem d_X4_readPerson_9 : decode cX4_readPerson 9 = .ok (.bipush 6, 2) := by decide +kernel
theorem d_X4_readPerson_11 : decode cX4_readPerson 11 = .ok (.if_icmp .lt 9, 3) := by decide +kernel
theorem d_X4_readPerson_14 : decode cX4_readPerson 14 = .ok (.aload_n 0, 1) := by decide +kernel
theorem d_X4_readPerson_15 : decode cX4_readPerson 15 = .ok (.iconst 4, 1) := by decide +kernel
theorem d_X4_readPerson_16 : decode cX4_readPerson 16 = .ok (.invokevirtual 91, 3) := by decide +kernel
theorem d_X4_readPerson_19 : decode cX4_readPerson 19 = .ok (.return_, 1) := by decide +kernel
theorem d_X4_readPerson_20 : decode cX4_readPerson 20 = .ok (.aload_n 0, 1) := by decide +kernel
theorem d_X4_readPerson_21 : decode cX4_readPerson 21 = .ok (.invokevirtual 64, 3) := by decide +kernel
theorem d_X4_readPerson_24 : decode cX4_readPerson 24 = .ok (.aload_n 0, 1) := by decide +kernel
theorem d_X4_readPerson_25 : decode cX4_readPerson 25 = .ok (.ldc 197, 2) := by decide +kernel
theorem d_X4_readPerson_27 : decode cX4_readPerson 27 = .ok (.invokevirtual 108, 3) := by decide +kernel
theorem d_X4_readPerson_30 : decode cX4_readPerson 30 = .ok (.aload_n 0, 1) := by decide +kernel
theorem d_X4_readPerson_31 : decode cX4_readPerson 31 = .ok (.getfield 48, 3) := by decide +kernel
theorem d_X4_readPerson_34 : decode cX4_readPerson 34 = .ok (.getfield 199, 3) := by decide +kernel
theorem d_X4_readPerson_37 : decode cX4_readPerson 37 = .ok (.getfield 203, 3) := by decide +kernel
theorem d_X4_readPerson_40 : decode cX4_readPerson 40 = .ok (.iload_n 1, 1) := by decide +kernel
theorem d_X4_readPerson_41 : decode cX4_readPerson 41 = .ok (.iconst 0, 1) := by decide +kernel
theorem d_X4_readPerson_42 : decode cX4_readPerson 42 = .ok (.aload_n 0, 1) := by decide +kernel
theorem d_X4_readPerson_43 : decode cX4_readPerson 43 = .ok (.iconst 0, 1) := by decide +kernel
theorem d_X4_readPerson_44 : decode cX4_readPerson 44 = .ok (.aload_n 0, 1) := by decide +kernel
theorem d_X4_readPerson_45 : decode cX4_readPerson 45 = .ok (.getfield 48, 3) := by decide +kernel
theorem d_X4_readPerson_48 : decode cX4_readPerson 48 = .ok (.getfield 182, 3) := by decide +kernel
theorem d_X4_readPerson_51 : decode cX4_readPerson 51 = .ok (.iconst 1, 1) := by decide +kernel
theorem d_X4_readPerson_52 : decode cX4_readPerson 52 = .ok (.isub, 1) := by decide +kernel
theorem d_X4_readPerson_53 : decode cX4_readPerson 53 = .ok (.invokevirtual 112, 3) := by decide +kernel
theorem d_X4_readPerson_56 : decode cX4_readPerson 56 = .ok (.invokestatic 208, 3) := by decide +kernel
theorem d_X4_readPerson_59 : decode cX4_readPerson 59 = .ok (.iastore, 1) := by decide +kernel
theorem d_X4_readPerson_60 : decode cX4_readPerson 60 = .ok (.aload_n 0, 1) := by decide +kernel
theorem d_X4_readPerson_61 : decode cX4_readPerson 61 = .ok (.getfield 48, 3) := by decide +kernel
theorem d_X4_readPerson_64 : decode cX4_readPerson 64 = .ok (.getfield 199, 3) := by decide +kernel
theorem d_X4_readPerson_67 : decode cX4_readPerson 67 = .ok (.getfield 211, 3) := by decide +kernel
theorem d_X4_readPerson_70 : decode cX4_readPerson 70 = .ok (.iload_n 1, 1) := by decide +kernel
theorem d_X4_readPerson_71 : decode cX4_readPerson 71 = .ok (.iconst (-1), 1) := by decide +kernel
theorem d_X4_readPerson_72 : decode cX4_readPerson 72 = .ok (.iastore, 1) := by decide +kernel
theorem d_X4_readPerson_73 : decode cX4_readPerson 73 = .ok (.iconst 0, 1) := by decide +kernel
theorem d_X4_readPerson_74 : decode cX4_readPerson 74 = .ok (.istore_n 2, 1) := by decide +kernel
theorem d_X4_readPerson_75 : decode cX4_readPerson 75 = .ok (.iload_n 2, 1) := by decide +kernel
theorem d_X4_readPerson_76 : decode cX4_readPerson 76 = .ok (.aload_n 0, 1) := by decide +kernel
theorem d_X4_readPerson_77 : decode cX4_readPerson 77 = .ok (.getfield 26, 3) := by decide +kernel
theorem d_X4_readPerson_80 : decode cX4_readPerson 80 = .ok (.if_icmp .ge 30, 3) := by decide +kernel
theorem d_X4_readPerson_83 : decode cX4_readPerson 83 = .ok (.aload_n 0, 1) := by decide +kernel
theorem d_X4_readPerson_84 : decode cX4_readPerson 84 = .ok (.getfield 52, 3) := by decide +kernel
theorem d_X4_readPerson_87 : decode cX4_readPerson 87 = .ok (.ifCond .ne 23, 3) := by decide +kernel
theorem d_X4_readPerson_90 : decode cX4_readPerson 90 = .ok (.aload_n 0, 1) := by decide +kernel
theorem d_X4_readPerson_91 : decode cX4_readPerson 91 = .ok (.ldc 118, 2) := by decide +kernel
theorem d_X4_readPerson_93 : decode cX4_readPerson 93 = .ok (.invokevirtual 102, 3) := by decide +kernel
theorem d_X4_readPerson_96 : decode cX4_readPerson 96 = .ok (.ifCond .ne 14, 3) := by decide +kernel
theorem d_X4_readPerson_99 : decode cX4_readPerson 99 = .ok (.aload_n 0, 1) := by decide +kernel
theorem d_X4_readPerson_100 : decode cX4_readPerson 100 = .ok (.iload_n 1, 1) := by decide +kernel
theorem d_X4_readPerson_101 : decode cX4_readPerson 101 = .ok (.invokevirtual 214, 3) := by decide +kernel
theorem d_X4_readPerson_104 : decode cX4_readPerson 104 = .ok (.iinc 2 1, 3) := by decide +kernel
theorem d_X4_readPerson_107 : decode cX4_readPerson 107 = .ok (.goto (-32), 3) := by decide +kernel
theorem d_X4_readPerson_110 : decode cX4_readPerson 110 = .ok (.aload_n 0, 1) := by decide +kernel
theorem d_X4_readPerson_111 : decode cX4_readPerson 111 = .ok (.getfield 48, 3) := by decide +kernel
theorem d_X4_readPerson_114 : decode cX4_readPerson 114 = .ok (.dup, 1) := by decide +kernel
theorem d_X4_readPerson_115 : decode cX4_readPerson 115 = .ok (.getfield 194, 3) := by decide +kernel
theorem d_X4_readPerson_118 : decode cX4_readPerson 118 = .ok (.iconst 1, 1) := by decide +kernel
theorem d_X4_readPerson_119 : decode cX4_readPerson 119 = .ok (.iadd, 1) := by decide +kernel
theorem d_X4_readPerson_120 : decode cX4_readPerson 120 = .ok (.putfield 194, 3) := by decide +kernel
theorem d_X4_readPerson_123 : decode cX4_readPerson 123 = .ok (.return_, 1) := by decide +kernel
def F_X4_readPerson_b110 (x0 : Nat) (h : xH) : Option (Unit × xH) := (fR h x0 3 10).bind fun v111 => (fI h v111 9 4).bind fun v115 => (wI h v111 9 4 (v115 + 1)).bind fun h120 => some ((), h120)
theorem R_X4_readPerson_b110 {Γ : xG} {l : Launch} {d : Nat} {Q : Option Value → xH → Prop} {r : Unit} {h' : xH} (hdp : 10 ≤ d) (hq : Q (none) h') : ∀ (x0 : Nat) (h : xH), F_X4_readPerson_b110 x0 h = some (r, h') → Gd Γ l d m_X4_readPerson 110 [.ref x0, xhole, xhole] [] h 0 0 Q := by
  intro x0 h hF
  unfold F_X4_readPerson_b110 at hF
  refine g_aloadn d_X4_readPerson_110 rfl ?_
  obtain ⟨v111, e111, hF⟩ := Option.bind_eq_some_iff.mp hF
  refine q_fR d_X4_readPerson_111 f_X4_48 e111 ?_
  refine g_dup d_X4_readPerson_114 rfl ?_
  obtain ⟨v115, e115, hF⟩ := Option.bind_eq_some_iff.mp hF
  refine q_fI d_X4_readPerson_115 f_X4_194 e115 ?_
  refine g_ic (1) d_X4_readPerson_118 ic_1 ?_
  refine g_iadd d_X4_readPerson_119 ?_
  obtain ⟨h120, e120, hF⟩ := Option.bind_eq_some_iff.mp hF
  refine q_wI d_X4_readPerson_120 (w_X4_194 _) e120 ?_
  obtain ⟨rfl, rfl⟩ := x_inj hF
  exact g_vret d_X4_readPerson_123 rfl hq
def F_X4_readPerson_b75 : Nat → Nat → Int32 → Int32 → xH → Option (Unit × xH)
  | 0, _, _, _, _ => none
  | n + 1, x0, x1, x2, h => (fI h x0 3 4).bind fun v77 => if v77 ≤ x2 then F_X4_readPerson_b110 x0 h else (fI h x0 3 11).bind fun v84 => if ¬ v84 = 0 then F_X4_readPerson_b110 x0 h else (rc h x0 3).bind fun _ => (F_X4_isAt x0 4 h).bind fun z93 => if ¬ z93.1 = 0 then F_X4_readPerson_b110 x0 z93.2 else (rc z93.2 x0 3).bind fun _ => (F_X4_readFlag x0 x1 z93.2).bind fun z101 => F_X4_readPerson_b75 n x0 x1 (x2 + 1) z101.2
theorem R_X4_readPerson_b75 {Γ : xG} {l : Launch} {d : Nat} {Q : Option Value → xH → Prop} {r : Unit} {h' : xH} (hdp : 10 ≤ d) (hq : Q (none) h') : ∀ (n : Nat) (x0 : Nat) (x1 : Int32) (x2 : Int32) (h : xH), F_X4_readPerson_b75 n x0 x1 x2 h = some (r, h') → Gd Γ l d m_X4_readPerson 75 [.ref x0, .int x1, .int x2] [] h 0 0 Q := by
  intro n
  induction n with
  | zero => intro x0 x1 x2 h hF; cases hF
  | succ n ih =>
  intro x0 x1 x2 h hF
  rw [F_X4_readPerson_b75] at hF
  refine g_iloadn d_X4_readPerson_75 rfl ?_
  refine g_aloadn d_X4_readPerson_76 rfl ?_
  obtain ⟨v77, e77, hF⟩ := Option.bind_eq_some_iff.mp hF
  refine q_fI d_X4_readPerson_77 f_X4_26 e77 ?_
  refine g_icmp_ge 110 d_X4_readPerson_80 rfl (fun c80 => ?_) (fun c80 => ?_)
  · have hF := x_t hF c80
    exact q_to (xs_r (xs_h (xs_h xs_n))) (R_X4_readPerson_b110 hdp hq _ _ hF)
  · have hF := x_f hF c80
    refine g_aloadn d_X4_readPerson_83 rfl ?_
    obtain ⟨v84, e84, hF⟩ := Option.bind_eq_some_iff.mp hF
    refine q_fI d_X4_readPerson_84 f_X4_52 e84 ?_
    refine g_if_ne 110 d_X4_readPerson_87 rfl (fun c87 => ?_) (fun c87 => ?_)
    · have hF := x_t hF c87
      exact q_to (xs_r (xs_h (xs_h xs_n))) (R_X4_readPerson_b110 hdp hq _ _ hF)
    · have hF := x_f hF (not_not_intro c87)
      refine g_aloadn d_X4_readPerson_90 rfl ?_
      refine g_ldcS (i := 2) d_X4_readPerson_91 rfl ?_
      obtain ⟨_, g93, hF⟩ := Option.bind_eq_some_iff.mp hF
      obtain ⟨⟨r93, h93⟩, e93, hF⟩ := Option.bind_eq_some_iff.mp hF
      try dsimp only at hF
      refine q_callV [.ref 4] [] rfl d_X4_readPerson_93 v_X4_102 (by omega) rfl (Nat.le_of_ble_eq_true rfl) (rc_rc g93 (by decide) rfl) (R_X4_isAt _ _ _ (by omega) e93) ?_
      refine g_if_ne 110 d_X4_readPerson_96 rfl (fun c96 => ?_) (fun c96 => ?_)
      · have hF := x_t hF c96
        exact q_to (xs_r (xs_h (xs_h xs_n))) (R_X4_readPerson_b110 hdp hq _ _ hF)
      · have hF := x_f hF (not_not_intro c96)
        refine g_aloadn d_X4_readPerson_99 rfl ?_
        refine g_iloadn d_X4_readPerson_100 rfl ?_
        obtain ⟨_, g101, hF⟩ := Option.bind_eq_some_iff.mp hF
        obtain ⟨⟨r101, h101⟩, e101, hF⟩ := Option.bind_eq_some_iff.mp hF
        try dsimp only at hF
        refine q_callV [.int x1] [] rfl d_X4_readPerson_101 v_X4_214 (by omega) rfl (Nat.le_of_ble_eq_true rfl) (rc_rc g101 (by decide) rfl) (R_X4_readFlag _ _ _ (by omega) e101) ?_
        refine q_iinc (1) [.ref x0, .int x1, .int (x2 + 1)] d_X4_readPerson_104 ic_1 rfl (by decide) rfl ?_
        refine g_goto 75 d_X4_readPerson_107 rfl ?_
        exact q_to (xs_r (xs_r (xs_r xs_n))) (ih _ _ _ _ hF)
def F_X4_readPerson (x0 : Nat) (h : xH) : Option (Unit × xH) := (fR h x0 3 10).bind fun v1 => (fI h v1 9 4).bind fun v4 => if v4 < ((6 : Int32)) then (rc h x0 3).bind fun _ => (F_X4_advance x0 h).bind fun z21 => (rc z21.2 x0 3).bind fun _ => (F_X4_pass x0 14 z21.2).bind fun z27 => (fR z27.2 x0 3 10).bind fun v31 => (fR z27.2 v31 9 11).bind fun v34 => (fR z27.2 v34 5 0).bind fun v37 => (fR z27.2 x0 3 10).bind fun v45 => (fI z27.2 v45 9 3).bind fun v48 => (rc z27.2 x0 3).bind fun _ => (F_X4_passNumber x0 0 (v48 - 1) z27.2).bind fun z53 => (F_J9_max_7cf53 0 z53.1 z53.2).bind fun z56 => (sI z56.2 v37 v4 z56.1).bind fun h59 => (fR h59 x0 3 10).bind fun v61 => (fR h59 v61 9 11).bind fun v64 => (fR h59 v64 5 2).bind fun v67 => (sI h59 v67 v4 ((-1))).bind fun h72 => F_X4_readPerson_b75 FU x0 v4 0 h72 else (rc h x0 3).bind fun _ => (F_X4_fail x0 4 h).bind fun z16 => some ((), z16.2)
theorem R_X4_readPerson {Γ : xG} {l : Launch} {d : Nat} {r : Unit} {h' : xH} (x0 : Nat) (h : xH) (hdp : 10 ≤ d) (hF : F_X4_readPerson x0 h = some (r, h')) : Gm Γ l d 0 0 m_X4_readPerson [.ref x0] h (fun a u => a = none ∧ u = h') := by
  refine Gm.of pn_X4 (Nat.le_of_ble_eq_true rfl) ?_
  show Gd Γ l d m_X4_readPerson 0 [.ref x0, xhole, xhole] [] h 0 0 _
  generalize hQ : (fun (a : Option Value) (u : xH) => a = none ∧ u = h') = Q
  have hq : Q (none) h' := by rw [← hQ]; exact ⟨rfl, rfl⟩
  clear hQ
  unfold F_X4_readPerson at hF
  refine g_aloadn d_X4_readPerson_0 rfl ?_
  obtain ⟨v1, e1, hF⟩ := Option.bind_eq_some_iff.mp hF
  refine q_fR d_X4_readPerson_1 f_X4_48 e1 ?_
  obtain ⟨v4, e4, hF⟩ := Option.bind_eq_some_iff.mp hF
  refine q_fI d_X4_readPerson_4 f_X4_194 e4 ?_
  refine q_istoren [.ref x0, .int v4, xhole] d_X4_readPerson_7 (by decide) rfl ?_
  refine g_iloadn d_X4_readPerson_8 rfl ?_
  refine g_bi (6) d_X4_readPerson_9 bi_6 ?_
  refine g_icmp_lt 20 d_X4_readPerson_11 rfl (fun c11 => ?_) (fun c11 => ?_)
  · have hF := x_t hF c11
    refine g_aloadn d_X4_readPerson_20 rfl ?_
    obtain ⟨_, g21, hF⟩ := Option.bind_eq_some_iff.mp hF
    obtain ⟨⟨r21, h21⟩, e21, hF⟩ := Option.bind_eq_some_iff.mp hF
    try dsimp only at hF
    refine q_callV [] [] rfl d_X4_readPerson_21 v_X4_64 (by omega) rfl (Nat.le_of_ble_eq_true rfl) (rc_rc g21 (by decide) rfl) (R_X4_advance _ _ (by omega) e21) ?_
    refine g_aloadn d_X4_readPerson_24 rfl ?_
    refine g_ldcS (i := 7) d_X4_readPerson_25 rfl ?_
    obtain ⟨_, g27, hF⟩ := Option.bind_eq_some_iff.mp hF
    obtain ⟨⟨r27, h27⟩, e27, hF⟩ := Option.bind_eq_some_iff.mp hF
    try dsimp only at hF
    refine q_callV [.ref 14] [] rfl d_X4_readPerson_27 v_X4_108 (by omega) rfl (Nat.le_of_ble_eq_true rfl) (rc_rc g27 (by decide) rfl) (R_X4_pass _ _ _ (by omega) e27) ?_
    refine g_aloadn d_X4_readPerson_30 rfl ?_
    obtain ⟨v31, e31, hF⟩ := Option.bind_eq_some_iff.mp hF
    refine q_fR d_X4_readPerson_31 f_X4_48 e31 ?_
    obtain ⟨v34, e34, hF⟩ := Option.bind_eq_some_iff.mp hF
    refine q_fR d_X4_readPerson_34 f_X4_199 e34 ?_
    obtain ⟨v37, e37, hF⟩ := Option.bind_eq_some_iff.mp hF
    refine q_fR d_X4_readPerson_37 f_X4_203 e37 ?_
    refine g_iloadn d_X4_readPerson_40 rfl ?_
    refine g_ic (0) d_X4_readPerson_41 ic_0 ?_
    refine g_aloadn d_X4_readPerson_42 rfl ?_
    refine g_ic (0) d_X4_readPerson_43 ic_0 ?_
    refine g_aloadn d_X4_readPerson_44 rfl ?_
    obtain ⟨v45, e45, hF⟩ := Option.bind_eq_some_iff.mp hF
    refine q_fR d_X4_readPerson_45 f_X4_48 e45 ?_
    obtain ⟨v48, e48, hF⟩ := Option.bind_eq_some_iff.mp hF
    refine q_fI d_X4_readPerson_48 f_X4_182 e48 ?_
    refine g_ic (1) d_X4_readPerson_51 ic_1 ?_
    refine g_isub d_X4_readPerson_52 ?_
    obtain ⟨_, g53, hF⟩ := Option.bind_eq_some_iff.mp hF
    obtain ⟨⟨r53, h53⟩, e53, hF⟩ := Option.bind_eq_some_iff.mp hF
    try dsimp only at hF
    refine q_callV [.int 0, .int (v48 - 1)] [.int 0, .int v4, .ref v37] rfl d_X4_readPerson_53 v_X4_112 (by omega) rfl (Nat.le_of_ble_eq_true rfl) (rc_rc g53 (by decide) rfl) (R_X4_passNumber _ _ _ _ (by omega) e53) ?_
    obtain ⟨⟨r56, h56⟩, e56, hF⟩ := Option.bind_eq_some_iff.mp hF
    try dsimp only at hF
    refine q_callS [.int 0, .int (r53)] [.int v4, .ref v37] rfl d_X4_readPerson_56 s_X4_208 (by omega) rfl (Nat.le_of_ble_eq_true rfl) (R_J9_max_7cf53 _ _ _ (by omega) e56) ?_
    obtain ⟨h59, e59, hF⟩ := Option.bind_eq_some_iff.mp hF
    refine q_sI d_X4_readPerson_59 e59 ?_
    refine g_aloadn d_X4_readPerson_60 rfl ?_
    obtain ⟨v61, e61, hF⟩ := Option.bind_eq_some_iff.mp hF
    refine q_fR d_X4_readPerson_61 f_X4_48 e61 ?_
    obtain ⟨v64, e64, hF⟩ := Option.bind_eq_some_iff.mp hF
    refine q_fR d_X4_readPerson_64 f_X4_199 e64 ?_
    obtain ⟨v67, e67, hF⟩ := Option.bind_eq_some_iff.mp hF
    refine q_fR d_X4_readPerson_67 f_X4_211 e67 ?_
    refine g_iloadn d_X4_readPerson_70 rfl ?_
    refine g_ic (-1) d_X4_readPerson_71 ic_m1 ?_
    obtain ⟨h72, e72, hF⟩ := Option.bind_eq_some_iff.mp hF
    refine q_sI d_X4_readPerson_72 e72 ?_
    refine g_ic (0) d_X4_readPerson_73 ic_0 ?_
    refine q_istoren [.ref x0, .int v4, .int 0] d_X4_readPerson_74 (by decide) rfl ?_
    exact q_to (xs_r (xs_r (xs_r xs_n))) (R_X4_readPerson_b75 hdp hq FU _ _ _ _ hF)
  · have hF := x_f hF c11
    refine g_aloadn d_X4_readPerson_14 rfl ?_
    refine g_ic (4) d_X4_readPerson_15 ic_4 ?_
    obtain ⟨_, g16, hF⟩ := Option.bind_eq_some_iff.mp hF
    obtain ⟨⟨r16, h16⟩, e16, hF⟩ := Option.bind_eq_some_iff.mp hF
    try dsimp only at hF
    refine q_callV [.int 4] [] rfl d_X4_readPerson_16 v_X4_91 (by omega) rfl (Nat.le_of_ble_eq_true rfl) (rc_rc g16 (by decide) rfl) (R_X4_fail _ _ _ (by omega) e16) ?_
    obtain ⟨rfl, rfl⟩ := x_inj hF
    exact g_vret d_X4_readPerson_19 rfl hq
theorem d_X4_beginLaw_0 : decode cX4_beginLaw 0 = .ok (.aload_n 0, 1) := by decide +kernel
theorem d_X4_beginLaw_1 : decode cX4_beginLaw 1 = .ok (.iload_n 1, 1) := by decide +kernel
theorem d_X4_beginLaw_2 : decode cX4_beginLaw 2 = .ok (.putfield 41, 3) := by decide +kernel
theorem d_X4_beginLaw_5 : decode cX4_beginLaw 5 = .ok (.aload_n 0, 1) := by decide +kernel
theorem d_X4_beginLaw_6 : decode cX4_beginLaw 6 = .ok (.iconst 0, 1) := by decide +kernel
theorem d_X4_beginLaw_7 : decode cX4_beginLaw 7 = .ok (.putfield 23, 3) := by decide +kernel
theorem d_X4_beginLaw_10 : decode cX4_beginLaw 10 = .ok (.aload_n 0, 1) := by decide +kernel
theorem d_X4_beginLaw_11 : decode cX4_beginLaw 11 = .ok (.invokevirtual 64, 3) := by decide +kernel
theorem d_X4_beginLaw_14 : decode cX4_beginLaw 14 = .ok (.aload_n 0, 1) := by decide +kernel
theorem d_X4_beginLaw_15 : decode cX4_beginLaw 15 = .ok (.ldc 228, 2) := by decide +kernel
theorem d_X4_beginLaw_17 : decode cX4_beginLaw 17 = .ok (.invokevirtual 108, 3) := by decide +kernel
theorem d_X4_beginLaw_20 : decode cX4_beginLaw 20 = .ok (.return_, 1) := by decide +kernel
def F_X4_beginLaw (x0 : Nat) (x1 : Int32) (h : xH) : Option (Unit × xH) := (wZ h x0 3 9 x1).bind fun h2 => (wI h2 x0 3 3 0).bind fun h7 => (rc h7 x0 3).bind fun _ => (F_X4_advance x0 h7).bind fun z11 => (rc z11.2 x0 3).bind fun _ => (F_X4_pass x0 24 z11.2).bind fun z17 => some ((), z17.2)
theorem R_X4_beginLaw {Γ : xG} {l : Launch} {d : Nat} {r : Unit} {h' : xH} (x0 : Nat) (x1 : Int32) (h : xH) (hdp : 9 ≤ d) (hF : F_X4_beginLaw x0 x1 h = some (r, h')) : Gm Γ l d 0 0 m_X4_beginLaw [.ref x0, .int x1] h (fun a u => a = none ∧ u = h') := by
  refine Gm.of pn_X4 (Nat.le_of_ble_eq_true rfl) ?_
  show Gd Γ l d m_X4_beginLaw 0 [.ref x0, .int x1] [] h 0 0 _
  generalize hQ : (fun (a : Option Value) (u : xH) => a = none ∧ u = h') = Q
  have hq : Q (none) h' := by rw [← hQ]; exact ⟨rfl, rfl⟩
  clear hQ
  unfold F_X4_beginLaw at hF
  refine g_aloadn d_X4_beginLaw_0 rfl ?_
  refine g_iloadn d_X4_beginLaw_1 rfl ?_
  obtain ⟨h2, e2, hF⟩ := Option.bind_eq_some_iff.mp hF
  refine q_wZ d_X4_beginLaw_2 (w_X4_41 _) e2 ?_
  refine g_aloadn d_X4_beginLaw_5 rfl ?_
  refine g_ic (0) d_X4_beginLaw_6 ic_0 ?_
  obtain ⟨h7, e7, hF⟩ := Option.bind_eq_some_iff.mp hF
  refine q_wI d_X4_beginLaw_7 (w_X4_23 _) e7 ?_
  refine g_aloadn d_X4_beginLaw_10 rfl ?_
  obtain ⟨_, g11, hF⟩ := Option.bind_eq_some_iff.mp hF
  obtain ⟨⟨r11, h11⟩, e11, hF⟩ := Option.bind_eq_some_iff.mp hF
  try dsimp only at hF
  refine q_callV [] [] rfl d_X4_beginLaw_11 v_X4_64 (by omega) rfl (Nat.le_of_ble_eq_true rfl) (rc_rc g11 (by decide) rfl) (R_X4_advance _ _ (by omega) e11) ?_
  refine g_aloadn d_X4_beginLaw_14 rfl ?_
  refine g_ldcS (i := 12) d_X4_beginLaw_15 rfl ?_
  obtain ⟨_, g17, hF⟩ := Option.bind_eq_some_iff.mp hF
  obtain ⟨⟨r17, h17⟩, e17, hF⟩ := Option.bind_eq_some_iff.mp hF
  try dsimp only at hF
  refine q_callV [.ref 24] [] rfl d_X4_beginLaw_17 v_X4_108 (by omega) rfl (Nat.le_of_ble_eq_true rfl) (rc_rc g17 (by decide) rfl) (R_X4_pass _ _ _ (by omega) e17) ?_
  obtain ⟨rfl, rfl⟩ := x_inj hF
  exact g_vret d_X4_beginLaw_20 rfl hq
theorem d_X4_emit_0 : decode cX4_emit 0 = .ok (.aload_n 0, 1) := by decide +kernel
theorem d_X4_emit_1 : decode cX4_emit 1 = .ok (.getfield 23, 3) := by decide +kernel
theorem d_X4_emit_4 : decode cX4_emit 4 = .ok (.sipush 900, 3) := by decide +kernel
theorem d_X4_emit_7 : decode cX4_emit 7 = .ok (.if_icmp .ge 23, 3) := by decide +kernel
theorem d_X4_emit_10 : decode cX4_emit 10 = .ok (.aload_n 0, 1) := by decide +kernel
theorem d_X4_emit_11 : decode cX4_emit 11 = .ok (.getfield 19, 3) := by decide +kernel
theorem d_X4_emit_14 : decode cX4_emit 14 = .ok (.aload_n 0, 1) := by decide +kernel
theorem d_X4_emit_15 : decode cX4_emit 15 = .ok (.getfield 23, 3) := by decide +kernel
theorem d_X4_emit_18 : decode cX4_emit 18 = .ok (.iload_n 1, 1) := by decide +kernel
theorem d_X4_emit_19 : decode cX4_emit 19 = .ok (.iastore, 1) := by decide +kernel
theorem d_X4_emit_20 : decode cX4_emit 20 = .ok (.aload_n 0, 1) := by decide +kernel
theorem d_X4_emit_21 : decode cX4_emit 21 = .ok (.dup, 1) := by decide +kernel
theorem d_X4_emit_22 : decode cX4_emit 22 = .ok (.getfield 23, 3) := by decide +kernel
theorem d_X4_emit_25 : decode cX4_emit 25 = .ok (.iconst 1, 1) := by decide +kernel
theorem d_X4_emit_26 : decode cX4_emit 26 = .ok (.iadd, 1) := by decide +kernel
theorem d_X4_emit_27 : decode cX4_emit 27 = .ok (.putfield 23, 3) := by decide +kernel
theorem d_X4_emit_30 : decode cX4_emit 30 = .ok (.return_, 1) := by decide +kernel
def F_X4_emit (x0 : Nat) (x1 : Int32) (h : xH) : Option (Unit × xH) := (fI h x0 3 3).bind fun v1 => if ((900 : Int32)) ≤ v1 then some ((), h) else (fR h x0 3 2).bind fun v11 => (fI h x0 3 3).bind fun v15 => (sI h v11 v15 x1).bind fun h19 => (fI h19 x0 3 3).bind fun v22 => (wI h19 x0 3 3 (v22 + 1)).bind fun h27 => some ((), h27)
theorem R_X4_emit {Γ : xG} {l : Launch} {d : Nat} {r : Unit} {h' : xH} (x0 : Nat) (x1 : Int32) (h : xH) (hdp : 0 ≤ d) (hF : F_X4_emit x0 x1 h = some (r, h')) : Gm Γ l d 0 0 m_X4_emit [.ref x0, .int x1] h (fun a u => a = none ∧ u = h') := by
  refine Gm.of pn_X4 (Nat.le_of_ble_eq_true rfl) ?_
  show Gd Γ l d m_X4_emit 0 [.ref x0, .int x1] [] h 0 0 _
  generalize hQ : (fun (a : Option Value) (u : xH) => a = none ∧ u = h') = Q
  have hq : Q (none) h' := by rw [← hQ]; exact ⟨rfl, rfl⟩
  clear hQ
  unfold F_X4_emit at hF
  refine g_aloadn d_X4_emit_0 rfl ?_
  obtain ⟨v1, e1, hF⟩ := Option.bind_eq_some_iff.mp hF
  refine q_fI d_X4_emit_1 f_X4_23 e1 ?_
  refine g_si (900) d_X4_emit_4 si_900 ?_
  refine g_icmp_ge 30 d_X4_emit_7 rfl (fun c7 => ?_) (fun c7 => ?_)
  · have hF := x_t hF c7
    obtain ⟨rfl, rfl⟩ := x_inj hF
    exact g_vret d_X4_emit_30 rfl hq
  · have hF := x_f hF c7
    refine g_aloadn d_X4_emit_10 rfl ?_
    obtain ⟨v11, e11, hF⟩ := Option.bind_eq_some_iff.mp hF
    refine q_fR d_X4_emit_11 f_X4_19 e11 ?_
    refine g_aloadn d_X4_emit_14 rfl ?_
    obtain ⟨v15, e15, hF⟩ := Option.bind_eq_some_iff.mp hF
    refine q_fI d_X4_emit_15 f_X4_23 e15 ?_
    refine g_iloadn d_X4_emit_18 rfl ?_
    obtain ⟨h19, e19, hF⟩ := Option.bind_eq_some_iff.mp hF
    refine q_sI d_X4_emit_19 e19 ?_
    refine g_aloadn d_X4_emit_20 rfl ?_
    refine g_dup d_X4_emit_21 rfl ?_
    obtain ⟨v22, e22, hF⟩ := Option.bind_eq_some_iff.mp hF
    refine q_fI d_X4_emit_22 f_X4_23 e22 ?_
    refine g_ic (1) d_X4_emit_25 ic_1 ?_
    refine g_iadd d_X4_emit_26 ?_
    obtain ⟨h27, e27, hF⟩ := Option.bind_eq_some_iff.mp hF
    refine q_wI d_X4_emit_27 (w_X4_23 _) e27 ?_
    obtain ⟨rfl, rfl⟩ := x_inj hF
    exact g_vret d_X4_emit_30 rfl hq
theorem d_X4_joiner_0 : decode cX4_joiner 0 = .ok (.iload_n 1, 1) := by decide +kernel
theorem d_X4_joiner_1 : decode cX4_joiner 1 = .ok (.iconst 1, 1) := by decide +kernel
theorem d_X4_joiner_2 : decode cX4_joiner 2 = .ok (.if_icmp .ne 21, 3) := by decide +kernel
theorem d_X4_joiner_5 : decode cX4_joiner 5 = .ok (.aload_n 0, 1) := by decide +kernel
theorem d_X4_joiner_6 : decode cX4_joiner 6 = .ok (.ldc_w 264, 3) := by decide +kernel
theorem d_X4_joiner_9 : decode cX4_joiner 9 = .ok (.invokevirtual 102, 3) := by decide +kernel
theorem d_X4_joiner_12 : decode cX4_joiner 12 = .ok (.ifCond .eq 9, 3) := by decide +kernel
theorem d_X4_joiner_15 : decode cX4_joiner 15 = .ok (.sipush 2008, 3) := by decide +kernel
theorem d_X4_joiner_18 : decode cX4_joiner 18 = .ok (.goto 4, 3) := by decide +kernel
theorem d_X4_joiner_21 : decode cX4_joiner 21 = .ok (.iconst (-1), 1) := by decide +kernel
theorem d_X4_joiner_22 : decode cX4_joiner 22 = .ok (.ireturn, 1) := by decide +kernel
theorem d_X4_joiner_23 : decode cX4_joiner 23 = .ok (.aload_n 0, 1) := by decide +kernel
theorem d_X4_joiner_24 : decode cX4_joiner 24 = .ok (.ldc_w 266, 3) := by decide +kernel
theorem d_X4_joiner_27 : decode cX4_joiner 27 = .ok (.invokevirtual 102, 3) := by decide +kernel
theorem d_X4_joiner_30 : decode cX4_joiner 30 = .ok (.ifCond .eq 7, 3) := by decide +kernel
theorem d_X4_joiner_33 : decode cX4_joiner 33 = .ok (.sipush 2006, 3) := by decide +kernel
theorem d_X4_joiner_36 : decode cX4_joiner 36 = .ok (.ireturn, 1) := by decide +kernel
theorem d_X4_joiner_37 : decode cX4_joiner 37 = .ok (.aload_n 0, 1) := by decide +kernel
theorem d_X4_joiner_38 : decode cX4_joiner 38 = .ok (.ldc_w 268, 3) := by decide +kernel
theorem d_X4_joiner_41 : decode cX4_joiner 41 = .ok (.invokevirtual 102, 3) := by decide +kernel
theorem d_X4_joiner_44 : decode cX4_joiner 44 = .ok (.ifCond .eq 9, 3) := by decide +kernel
theorem d_X4_joiner_47 : decode cX4_joiner 47 = .ok (.sipush 2007, 3) := by decide +kernel
theorem d_X4_joiner_50 : decode cX4_joiner 50 = .ok (.goto 4, 3) := by decide +kernel
theorem d_X4_joiner_53 : decode cX4_joiner 53 = .ok (.iconst (-1), 1) := by decide +kernel
theorem d_X4_joiner_54 : decode cX4_joiner 54 = .ok (.ireturn, 1) := by decide +kernel
def F_X4_joiner (x0 : Nat) (x1 : Int32) (h : xH) : Option (Int32 × xH) := if ¬ x1 = ((1 : Int32)) then (rc h x0 3).bind fun _ => (F_X4_isAt x0 48 h).bind fun z27 => if z27.1 = 0 then (rc z27.2 x0 3).bind fun _ => (F_X4_isAt x0 50 z27.2).bind fun z41 => if z41.1 = 0 then some ((-1), z41.2) else some (2007, z41.2) else some (2006, z27.2) else (rc h x0 3).bind fun _ => (F_X4_isAt x0 46 h).bind fun z9 => if z9.1 = 0 then some ((-1), z9.2) else some (2008, z9.2)
theorem R_X4_joiner {Γ : xG} {l : Launch} {d : Nat} {r : Int32} {h' : xH} (x0 : Nat) (x1 : Int32) (h : xH) (hdp : 6 ≤ d) (hF : F_X4_joiner x0 x1 h = some (r, h')) : Gm Γ l d 0 0 m_X4_joiner [.ref x0, .int x1] h (fun a u => a = some (.int r) ∧ u = h') := by
  refine Gm.of pn_X4 (Nat.le_of_ble_eq_true rfl) ?_
  show Gd Γ l d m_X4_joiner 0 [.ref x0, .int x1] [] h 0 0 _
  generalize hQ : (fun (a : Option Value) (u : xH) => a = some (.int r) ∧ u = h') = Q
  have hq : Q (some (.int r)) h' := by rw [← hQ]; exact ⟨rfl, rfl⟩
  clear hQ
  unfold F_X4_joiner at hF
  refine g_iloadn d_X4_joiner_0 rfl ?_
  refine g_ic (1) d_X4_joiner_1 ic_1 ?_
  refine g_icmp_ne 23 d_X4_joiner_2 rfl (fun c2 => ?_) (fun c2 => ?_)
  · have hF := x_t hF c2
    refine g_aloadn d_X4_joiner_23 rfl ?_
    refine g_ldcwS (i := 24) d_X4_joiner_24 rfl ?_
    obtain ⟨_, g27, hF⟩ := Option.bind_eq_some_iff.mp hF
    obtain ⟨⟨r27, h27⟩, e27, hF⟩ := Option.bind_eq_some_iff.mp hF
    try dsimp only at hF
    refine q_callV [.ref 48] [] rfl d_X4_joiner_27 v_X4_102 (by omega) rfl (Nat.le_of_ble_eq_true rfl) (rc_rc g27 (by decide) rfl) (R_X4_isAt _ _ _ (by omega) e27) ?_
    refine g_if_eq 37 d_X4_joiner_30 rfl (fun c30 => ?_) (fun c30 => ?_)
    · have hF := x_t hF c30
      refine g_aloadn d_X4_joiner_37 rfl ?_
      refine g_ldcwS (i := 25) d_X4_joiner_38 rfl ?_
      obtain ⟨_, g41, hF⟩ := Option.bind_eq_some_iff.mp hF
      obtain ⟨⟨r41, h41⟩, e41, hF⟩ := Option.bind_eq_some_iff.mp hF
      try dsimp only at hF
      refine q_callV [.ref 50] [] rfl d_X4_joiner_41 v_X4_102 (by omega) rfl (Nat.le_of_ble_eq_true rfl) (rc_rc g41 (by decide) rfl) (R_X4_isAt _ _ _ (by omega) e41) ?_
      refine g_if_eq 53 d_X4_joiner_44 rfl (fun c44 => ?_) (fun c44 => ?_)
      · have hF := x_t hF c44
        refine g_ic (-1) d_X4_joiner_53 ic_m1 ?_
        obtain ⟨rfl, rfl⟩ := x_inj hF
        exact g_iret d_X4_joiner_54 rfl hq
      · have hF := x_f hF c44
        refine g_si (2007) d_X4_joiner_47 si_2007 ?_
        refine g_goto 54 d_X4_joiner_50 rfl ?_
        obtain ⟨rfl, rfl⟩ := x_inj hF
        exact g_iret d_X4_joiner_54 rfl hq
    · have hF := x_f hF c30
      refine g_si (2006) d_X4_joiner_33 si_2006 ?_
      obtain ⟨rfl, rfl⟩ := x_inj hF
      exact g_iret d_X4_joiner_36 rfl hq
  · have hF := x_f hF (not_not_intro c2)
    refine g_aloadn d_X4_joiner_5 rfl ?_
    refine g_ldcwS (i := 23) d_X4_joiner_6 rfl ?_
    obtain ⟨_, g9, hF⟩ := Option.bind_eq_some_iff.mp hF
    obtain ⟨⟨r9, h9⟩, e9, hF⟩ := Option.bind_eq_some_iff.mp hF
    try dsimp only at hF
    refine q_callV [.ref 46] [] rfl d_X4_joiner_9 v_X4_102 (by omega) rfl (Nat.le_of_ble_eq_true rfl) (rc_rc g9 (by decide) rfl) (R_X4_isAt _ _ _ (by omega) e9) ?_
    refine g_if_eq 21 d_X4_joiner_12 rfl (fun c12 => ?_) (fun c12 => ?_)
    · have hF := x_t hF c12
      refine g_ic (-1) d_X4_joiner_21 ic_m1 ?_
      obtain ⟨rfl, rfl⟩ := x_inj hF
      exact g_iret d_X4_joiner_22 rfl hq
    · have hF := x_f hF c12
      refine g_si (2008) d_X4_joiner_15 si_2008 ?_
      refine g_goto 22 d_X4_joiner_18 rfl ?_
      obtain ⟨rfl, rfl⟩ := x_inj hF
      exact g_iret d_X4_joiner_22 rfl hq
theorem d_X4_wordOfHearing_0 : decode cX4_wordOfHearing 0 = .ok (.aload_n 0, 1) := by decide +kernel
theorem d_X4_wordOfHearing_1 : decode cX4_wordOfHearing 1 = .ok (.ldc_w 280, 3) := by decide +kernel
theorem d_X4_wordOfHearing_4 : decode cX4_wordOfHearing 4 = .ok (.invokevirtual 102, 3) := by decide +kernel
theorem d_X4_wordOfHearing_7 : decode cX4_wordOfHearing 7 = .ok (.ifCond .eq 5, 3) := by decide +kernel
theorem d_X4_wordOfHearing_10 : decode cX4_wordOfHearing 10 = .ok (.iconst 0, 1) := by decide +kernel
theorem d_X4_wordOfHearing_11 : decode cX4_wordOfHearing 11 = .ok (.ireturn, 1) := by decide +kernel
theorem d_X4_wordOfHearing_12 : decode cX4_wordOfHearing 12 = .ok (.aload_n 0, 1) := by decide +kernel
theorem d_X4_wordOfHearing_13 : decode cX4_wordOfHearing 13 = .ok (.ldc_w 282, 3) := by decide +kernel
theorem d_X4_wordOfHearing_16 : decode cX4_wordOfHearing 16 = .ok (.invokevirtual 102, 3) := by decide +kernel
theorem d_X4_wordOfHearing_19 : decode cX4_wordOfHearing 19 = .ok (.ifCond .eq 5, 3) := by decide +kernel
theorem d_X4_wordOfHearing_22 : decode cX4_wordOfHearing 22 = .ok (.iconst 1, 1) := by decide +kernel
theorem d_X4_wordOfHearing_23 : decode cX4_wordOfHearing 23 = .ok (.ireturn, 1) := by decide +kernel
theorem d_X4_wordOfHearing_24 : decode cX4_wordOfHearing 24 = .ok (.aload_n 0, 1) := by decide +kernel
theorem d_X4_wordOfHearing_25 : decode cX4_wordOfHearing 25 = .ok (.ldc 217, 2) := by decide +kernel
theorem d_X4_wordOfHearing_27 : decode cX4_wordOfHearing 27 = .ok (.invokevirtual 102, 3) := by decide +kernel
theorem d_X4_wordOfHearing_30 : decode cX4_wordOfHearing 30 = .ok (.ifCond .eq 5, 3) := by decide +kernel
theorem d_X4_wordOfHearing_33 : decode cX4_wordOfHearing 33 = .ok (.iconst 2, 1) := by decide +kernel
theorem d_X4_wordOfHearing_34 : decode cX4_wordOfHearing 34 = .ok (.ireturn, 1) := by decide +kernel
theorem d_X4_wordOfHearing_35 : decode cX4_wordOfHearing 35 = .ok (.aload_n 0, 1) := by decide +kernel
theorem d_X4_wordOfHearing_36 : decode cX4_wordOfHearing 36 = .ok (.ldc 219, 2) := by decide +kernel
theorem d_X4_wordOfHearing_38 : decode cX4_wordOfHearing 38 = .ok (.invokevirtual 102, 3) := by decide +kernel
theorem d_X4_wordOfHearing_41 : decode cX4_wordOfHearing 41 = .ok (.ifCond .eq 5, 3) := by decide +kernel
theorem d_X4_wordOfHearing_44 : decode cX4_wordOfHearing 44 = .ok (.iconst 3, 1) := by decide +kernel
theorem d_X4_wordOfHearing_45 : decode cX4_wordOfHearing 45 = .ok (.ireturn, 1) := by decide +kernel
theorem d_X4_wordOfHearing_46 : decode cX4_wordOfHearing 46 = .ok (.aload_n 0, 1) := by decide +kernel
theorem d_X4_wordOfHearing_47 : decode cX4_wordOfHearing 47 = .ok (.ldc 224, 2) := by decide +kernel
theorem d_X4_wordOfHearing_49 : decode cX4_wordOfHearing 49 = .ok (.invokevirtual 102, 3) := by decide +kernel
theorem d_X4_wordOfHearing_52 : decode cX4_wordOfHearing 52 = .ok (.ifCond .eq 7, 3) := by decide +kernel
theorem d_X4_wordOfHearing_55 : decode cX4_wordOfHearing 55 = .ok (.iconst 4, 1) := by decide +kernel
theorem d_X4_wordOfHearing_56 : decode cX4_wordOfHearing 56 = .ok (.goto 4, 3) := by decide +kernel
theorem d_X4_wordOfHearing_59 : decode cX4_wordOfHearing 59 = .ok (.iconst (-1), 1) := by decide +kernel
theorem d_X4_wordOfHearing_60 : decode cX4_wordOfHearing 60 = .ok (.ireturn, 1) := by decide +kernel
def F_X4_wordOfHearing (x0 : Nat) (h : xH) : Option (Int32 × xH) := (rc h x0 3).bind fun _ => (F_X4_isAt x0 36 h).bind fun z4 => if z4.1 = 0 then (rc z4.2 x0 3).bind fun _ => (F_X4_isAt x0 38 z4.2).bind fun z16 => if z16.1 = 0 then (rc z16.2 x0 3).bind fun _ => (F_X4_isAt x0 16 z16.2).bind fun z27 => if z27.1 = 0 then (rc z27.2 x0 3).bind fun _ => (F_X4_isAt x0 18 z27.2).bind fun z38 => if z38.1 = 0 then (rc z38.2 x0 3).bind fun _ => (F_X4_isAt x0 20 z38.2).bind fun z49 => if z49.1 = 0 then some ((-1), z49.2) else some (4, z49.2) else some (3, z38.2) else some (2, z27.2) else some (1, z16.2) else some (0, z4.2)
theorem R_X4_wordOfHearing {Γ : xG} {l : Launch} {d : Nat} {r : Int32} {h' : xH} (x0 : Nat) (h : xH) (hdp : 6 ≤ d) (hF : F_X4_wordOfHearing x0 h = some (r, h')) : Gm Γ l d 0 0 m_X4_wordOfHearing [.ref x0] h (fun a u => a = some (.int r) ∧ u = h') := by
  refine Gm.of pn_X4 (Nat.le_of_ble_eq_true rfl) ?_
  show Gd Γ l d m_X4_wordOfHearing 0 [.ref x0] [] h 0 0 _
  generalize hQ : (fun (a : Option Value) (u : xH) => a = some (.int r) ∧ u = h') = Q
  have hq : Q (some (.int r)) h' := by rw [← hQ]; exact ⟨rfl, rfl⟩
  clear hQ
  unfold F_X4_wordOfHearing at hF
  refine g_aloadn d_X4_wordOfHearing_0 rfl ?_
  refine g_ldcwS (i := 18) d_X4_wordOfHearing_1 rfl ?_
  obtain ⟨_, g4, hF⟩ := Option.bind_eq_some_iff.mp hF
  obtain ⟨⟨r4, h4⟩, e4, hF⟩ := Option.bind_eq_some_iff.mp hF
  try dsimp only at hF
  refine q_callV [.ref 36] [] rfl d_X4_wordOfHearing_4 v_X4_102 (by omega) rfl (Nat.le_of_ble_eq_true rfl) (rc_rc g4 (by decide) rfl) (R_X4_isAt _ _ _ (by omega) e4) ?_
  refine g_if_eq 12 d_X4_wordOfHearing_7 rfl (fun c7 => ?_) (fun c7 => ?_)
  · have hF := x_t hF c7
    refine g_aloadn d_X4_wordOfHearing_12 rfl ?_
    refine g_ldcwS (i := 19) d_X4_wordOfHearing_13 rfl ?_
    obtain ⟨_, g16, hF⟩ := Option.bind_eq_some_iff.mp hF
    obtain ⟨⟨r16, h16⟩, e16, hF⟩ := Option.bind_eq_some_iff.mp hF
    try dsimp only at hF
    refine q_callV [.ref 38] [] rfl d_X4_wordOfHearing_16 v_X4_102 (by omega) rfl (Nat.le_of_ble_eq_true rfl) (rc_rc g16 (by decide) rfl) (R_X4_isAt _ _ _ (by omega) e16) ?_
    refine g_if_eq 24 d_X4_wordOfHearing_19 rfl (fun c19 => ?_) (fun c19 => ?_)
    · have hF := x_t hF c19
      refine g_aloadn d_X4_wordOfHearing_24 rfl ?_
      refine g_ldcS (i := 8) d_X4_wordOfHearing_25 rfl ?_
      obtain ⟨_, g27, hF⟩ := Option.bind_eq_some_iff.mp hF
      obtain ⟨⟨r27, h27⟩, e27, hF⟩ := Option.bind_eq_some_iff.mp hF
      try dsimp only at hF
      refine q_callV [.ref 16] [] rfl d_X4_wordOfHearing_27 v_X4_102 (by omega) rfl (Nat.le_of_ble_eq_true rfl) (rc_rc g27 (by decide) rfl) (R_X4_isAt _ _ _ (by omega) e27) ?_
      refine g_if_eq 35 d_X4_wordOfHearing_30 rfl (fun c30 => ?_) (fun c30 => ?_)
      · have hF := x_t hF c30
        refine g_aloadn d_X4_wordOfHearing_35 rfl ?_
        refine g_ldcS (i := 9) d_X4_wordOfHearing_36 rfl ?_
        obtain ⟨_, g38, hF⟩ := Option.bind_eq_some_iff.mp hF
        obtain ⟨⟨r38, h38⟩, e38, hF⟩ := Option.bind_eq_some_iff.mp hF
        try dsimp only at hF
        refine q_callV [.ref 18] [] rfl d_X4_wordOfHearing_38 v_X4_102 (by omega) rfl (Nat.le_of_ble_eq_true rfl) (rc_rc g38 (by decide) rfl) (R_X4_isAt _ _ _ (by omega) e38) ?_
        refine g_if_eq 46 d_X4_wordOfHearing_41 rfl (fun c41 => ?_) (fun c41 => ?_)
        · have hF := x_t hF c41
          refine g_aloadn d_X4_wordOfHearing_46 rfl ?_
          refine g_ldcS (i := 10) d_X4_wordOfHearing_47 rfl ?_
          obtain ⟨_, g49, hF⟩ := Option.bind_eq_some_iff.mp hF
          obtain ⟨⟨r49, h49⟩, e49, hF⟩ := Option.bind_eq_some_iff.mp hF
          try dsimp only at hF
          refine q_callV [.ref 20] [] rfl d_X4_wordOfHearing_49 v_X4_102 (by omega) rfl (Nat.le_of_ble_eq_true rfl) (rc_rc g49 (by decide) rfl) (R_X4_isAt _ _ _ (by omega) e49) ?_
          refine g_if_eq 59 d_X4_wordOfHearing_52 rfl (fun c52 => ?_) (fun c52 => ?_)
          · have hF := x_t hF c52
            refine g_ic (-1) d_X4_wordOfHearing_59 ic_m1 ?_
            obtain ⟨rfl, rfl⟩ := x_inj hF
            exact g_iret d_X4_wordOfHearing_60 rfl hq
          · have hF := x_f hF c52
            refine g_ic (4) d_X4_wordOfHearing_55 ic_4 ?_
            refine g_goto 60 d_X4_wordOfHearing_56 rfl ?_
            obtain ⟨rfl, rfl⟩ := x_inj hF
            exact g_iret d_X4_wordOfHearing_60 rfl hq
        · have hF := x_f hF c41
          refine g_ic (3) d_X4_wordOfHearing_44 ic_3 ?_
          obtain ⟨rfl, rfl⟩ := x_inj hF
          exact g_iret d_X4_wordOfHearing_45 rfl hq
      · have hF := x_f hF c30
        refine g_ic (2) d_X4_wordOfHearing_33 ic_2 ?_
        obtain ⟨rfl, rfl⟩ := x_inj hF
        exact g_iret d_X4_wordOfHearing_34 rfl hq
    · have hF := x_f hF c19
      refine g_ic (1) d_X4_wordOfHearing_22 ic_1 ?_
      obtain ⟨rfl, rfl⟩ := x_inj hF
      exact g_iret d_X4_wordOfHearing_23 rfl hq
  · have hF := x_f hF c7
    refine g_ic (0) d_X4_wordOfHearing_10 ic_0 ?_
    obtain ⟨rfl, rfl⟩ := x_inj hF
    exact g_iret d_X4_wordOfHearing_11 rfl hq
theorem d_X4_wordOfGoing_0 : decode cX4_wordOfGoing 0 = .ok (.aload_n 0, 1) := by decide +kernel
theorem d_X4_wordOfGoing_1 : decode cX4_wordOfGoing 1 = .ok (.ldc_w 284, 3) := by decide +kernel
theorem d_X4_wordOfGoing_4 : decode cX4_wordOfGoing 4 = .ok (.invokevirtual 102, 3) := by decide +kernel
theorem d_X4_wordOfGoing_7 : decode cX4_wordOfGoing 7 = .ok (.ifCond .eq 5, 3) := by decide +kernel
theorem d_X4_wordOfGoing_10 : decode cX4_wordOfGoing 10 = .ok (.iconst 0, 1) := by decide +kernel
theorem d_X4_wordOfGoing_11 : decode cX4_wordOfGoing 11 = .ok (.ireturn, 1) := by decide +kernel
theorem d_X4_wordOfGoing_12 : decode cX4_wordOfGoing 12 = .ok (.aload_n 0, 1) := by decide +kernel
theorem d_X4_wordOfGoing_13 : decode cX4_wordOfGoing 13 = .ok (.ldc_w 286, 3) := by decide +kernel
theorem d_X4_wordOfGoing_16 : decode cX4_wordOfGoing 16 = .ok (.invokevirtual 102, 3) := by decide +kernel
theorem d_X4_wordOfGoing_19 : decode cX4_wordOfGoing 19 = .ok (.ifCond .eq 5, 3) := by decide +kernel
theorem d_X4_wordOfGoing_22 : decode cX4_wordOfGoing 22 = .ok (.iconst 1, 1) := by decide +kernel
theorem d_X4_wordOfGoing_23 : decode cX4_wordOfGoing 23 = .ok (.ireturn, 1) := by decide +kernel
theorem d_X4_wordOfGoing_24 : decode cX4_wordOfGoing 24 = .ok (.aload_n 0, 1) := by decide +kernel
theorem d_X4_wordOfGoing_25 : decode cX4_wordOfGoing 25 = .ok (.ldc_w 288, 3) := by decide +kernel
theorem d_X4_wordOfGoing_28 : decode cX4_wordOfGoing 28 = .ok (.invokevirtual 102, 3) := by decide +kernel
theorem d_X4_wordOfGoing_31 : decode cX4_wordOfGoing 31 = .ok (.ifCond .eq 7, 3) := by decide +kernel
theorem d_X4_wordOfGoing_34 : decode cX4_wordOfGoing 34 = .ok (.iconst 2, 1) := by decide +kernel
theorem d_X4_wordOfGoing_35 : decode cX4_wordOfGoing 35 = .ok (.goto 4, 3) := by decide +kernel
theorem d_X4_wordOfGoing_38 : decode cX4_wordOfGoing 38 = .ok (.iconst (-1), 1) := by decide +kernel
theorem d_X4_wordOfGoing_39 : decode cX4_wordOfGoing 39 = .ok (.ireturn, 1) := by decide +kernel
def F_X4_wordOfGoing (x0 : Nat) (h : xH) : Option (Int32 × xH) := (rc h x0 3).bind fun _ => (F_X4_isAt x0 40 h).bind fun z4 => if z4.1 = 0 then (rc z4.2 x0 3).bind fun _ => (F_X4_isAt x0 42 z4.2).bind fun z16 => if z16.1 = 0 then (rc z16.2 x0 3).bind fun _ => (F_X4_isAt x0 44 z16.2).bind fun z28 => if z28.1 = 0 then some ((-1), z28.2) else some (2, z28.2) else some (1, z16.2) else some (0, z4.2)
theorem R_X4_wordOfGoing {Γ : xG} {l : Launch} {d : Nat} {r : Int32} {h' : xH} (x0 : Nat) (h : xH) (hdp : 6 ≤ d) (hF : F_X4_wordOfGoing x0 h = some (r, h')) : Gm Γ l d 0 0 m_X4_wordOfGoing [.ref x0] h (fun a u => a = some (.int r) ∧ u = h') := by
  refine Gm.of pn_X4 (Nat.le_of_ble_eq_true rfl) ?_
  show Gd Γ l d m_X4_wordOfGoing 0 [.ref x0] [] h 0 0 _
  generalize hQ : (fun (a : Option Value) (u : xH) => a = some (.int r) ∧ u = h') = Q
  have hq : Q (some (.int r)) h' := by rw [← hQ]; exact ⟨rfl, rfl⟩
  clear hQ
  unfold F_X4_wordOfGoing at hF
  refine g_aloadn d_X4_wordOfGoing_0 rfl ?_
  refine g_ldcwS (i := 20) d_X4_wordOfGoing_1 rfl ?_
  obtain ⟨_, g4, hF⟩ := Option.bind_eq_some_iff.mp hF
  obtain ⟨⟨r4, h4⟩, e4, hF⟩ := Option.bind_eq_some_iff.mp hF
  try dsimp only at hF
  refine q_callV [.ref 40] [] rfl d_X4_wordOfGoing_4 v_X4_102 (by omega) rfl (Nat.le_of_ble_eq_true rfl) (rc_rc g4 (by decide) rfl) (R_X4_isAt _ _ _ (by omega) e4) ?_
  refine g_if_eq 12 d_X4_wordOfGoing_7 rfl (fun c7 => ?_) (fun c7 => ?_)
  · have hF := x_t hF c7
    refine g_aloadn d_X4_wordOfGoing_12 rfl ?_
    refine g_ldcwS (i := 21) d_X4_wordOfGoing_13 rfl ?_
    obtain ⟨_, g16, hF⟩ := Option.bind_eq_some_iff.mp hF
    obtain ⟨⟨r16, h16⟩, e16, hF⟩ := Option.bind_eq_some_iff.mp hF
    try dsimp only at hF
    refine q_callV [.ref 42] [] rfl d_X4_wordOfGoing_16 v_X4_102 (by omega) rfl (Nat.le_of_ble_eq_true rfl) (rc_rc g16 (by decide) rfl) (R_X4_isAt _ _ _ (by omega) e16) ?_
    refine g_if_eq 24 d_X4_wordOfGoing_19 rfl (fun c19 => ?_) (fun c19 => ?_)
    · have hF := x_t hF c19
      refine g_aloadn d_X4_wordOfGoing_24 rfl ?_
      refine g_ldcwS (i := 22) d_X4_wordOfGoing_25 rfl ?_
      obtain ⟨_, g28, hF⟩ := Option.bind_eq_some_iff.mp hF
      obtain ⟨⟨r28, h28⟩, e28, hF⟩ := Option.bind_eq_some_iff.mp hF
      try dsimp only at hF
      refine q_callV [.ref 44] [] rfl d_X4_wordOfGoing_28 v_X4_102 (by omega) rfl (Nat.le_of_ble_eq_true rfl) (rc_rc g28 (by decide) rfl) (R_X4_isAt _ _ _ (by omega) e28) ?_
      refine g_if_eq 38 d_X4_wordOfGoing_31 rfl (fun c31 => ?_) (fun c31 => ?_)
      · have hF := x_t hF c31
        refine g_ic (-1) d_X4_wordOfGoing_38 ic_m1 ?_
        obtain ⟨rfl, rfl⟩ := x_inj hF
        exact g_iret d_X4_wordOfGoing_39 rfl hq
      · have hF := x_f hF c31
        refine g_ic (2) d_X4_wordOfGoing_34 ic_2 ?_
        refine g_goto 39 d_X4_wordOfGoing_35 rfl ?_
        obtain ⟨rfl, rfl⟩ := x_inj hF
        exact g_iret d_X4_wordOfGoing_39 rfl hq
    · have hF := x_f hF c19
      refine g_ic (1) d_X4_wordOfGoing_22 ic_1 ?_
      obtain ⟨rfl, rfl⟩ := x_inj hF
      exact g_iret d_X4_wordOfGoing_23 rfl hq
  · have hF := x_f hF c7
    refine g_ic (0) d_X4_wordOfGoing_10 ic_0 ?_
    obtain ⟨rfl, rfl⟩ := x_inj hF
    exact g_iret d_X4_wordOfGoing_11 rfl hq
theorem d_X4_readSum_0 : decode cX4_readSum 0 = .ok (.iload_n 2, 1) := by decide +kernel
theorem d_X4_readSum_1 : decode cX4_readSum 1 = .ok (.iconst 1, 1) := by decide +kernel
theorem d_X4_readSum_2 : decode cX4_readSum 2 = .ok (.if_icmp .le 9, 3) := by decide +kernel
theorem d_X4_readSum_5 : decode cX4_readSum 5 = .ok (.aload_n 0, 1) := by decide +kernel
theorem d_X4_readSum_6 : decode cX4_readSum 6 = .ok (.iload_n 1, 1) := by decide +kernel
theorem d_X4_readSum_7 : decode cX4_readSum 7 = .ok (.invokevirtual 258, 3) := by decide +kernel
theorem d_X4_readSum_10 : decode cX4_readSum 10 = .ok (.return_, 1) := by decide +kernel
theorem d_X4_readSum_11 : decode cX4_readSum 11 = .ok (.aload_n 0, 1) := by decide +kernel
theorem d_X4_readSum_12 : decode cX4_readSum 12 = .ok (.iload_n 1, 1) := by decide +kernel
theorem d_X4_readSum_13 : decode cX4_readSum 13 = .ok (.iload_n 2, 1) := by decide +kernel
theorem d_X4_readSum_14 : decode cX4_readSum 14 = .ok (.iconst 1, 1) := by decide +kernel
theorem d_X4_readSum_15 : decode cX4_readSum 15 = .ok (.iadd, 1) := by decide +kernel
theorem d_X4_readSum_16 : decode cX4_readSum 16 = .ok (.invokevirtual 246, 3) := by decide +kernel
theorem d_X4_readSum_19 : decode cX4_readSum 19 = .ok (.aload_n 0, 1) := by decide +kernel
theorem d_X4_readSum_20 : decode cX4_readSum 20 = .ok (.iload_n 2, 1) := by decide +kernel
theorem d_X4_readSum_21 : decode cX4_readSum 21 = .ok (.invokevirtual 261, 3) := by decide +kernel
theorem d_X4_readSum_24 : decode cX4_readSum 24 = .ok (.istore_n 3, 1) := by decide +kernel
theorem d_X4_readSum_25 : decode cX4_readSum 25 = .ok (.iconst 0, 1) := by decide +kernel
theorem d_X4_readSum_26 : decode cX4_readSum 26 = .ok (.istore 4, 2) := by decide +kernel
theorem d_X4_readSum_28 : decode cX4_readSum 28 = .ok (.iload 4, 2) := by decide +kernel
theorem d_X4_readSum_30 : decode cX4_readSum 30 = .ok (.aload_n 0, 1) := by decide +kernel
theorem d_X4_readSum_31 : decode cX4_readSum 31 = .ok (.getfield 26, 3) := by decide +kernel
theorem d_X4_readSum_34 : decode cX4_readSum 34 = .ok (.if_icmp .ge 44, 3) := by decide +kernel
theorem d_X4_readSum_37 : decode cX4_readSum 37 = .ok (.aload_n 0, 1) := by decide +kernel
theorem d_X4_readSum_38 : decode cX4_readSum 38 = .ok (.getfield 52, 3) := by decide +kernel
theorem d_X4_readSum_41 : decode cX4_readSum 41 = .ok (.ifCond .ne 37, 3) := by decide +kernel
theorem d_X4_readSum_44 : decode cX4_readSum 44 = .ok (.iload_n 3, 1) := by decide +kernel
theorem d_X4_readSum_45 : decode cX4_readSum 45 = .ok (.iconst (-1), 1) := by decide +kernel
theorem d_X4_readSum_46 : decode cX4_readSum 46 = .ok (.if_icmp .eq 32, 3) := by decide +kernel
theorem d_X4_readSum_49 : decode cX4_readSum 49 = .ok (.aload_n 0, 1) := by decide +kernel
theorem d_X4_readSum_50 : decode cX4_readSum 50 = .ok (.invokevirtual 64, 3) := by decide +kernel
theorem d_X4_readSum_53 : decode cX4_readSum 53 = .ok (.aload_n 0, 1) := by decide +kernel
theorem d_X4_readSum_54 : decode cX4_readSum 54 = .ok (.iload_n 1, 1) := by decide +kernel
theorem d_X4_readSum_55 : decode cX4_readSum 55 = .ok (.iload_n 2, 1) := by decide +kernel
theorem d_X4_readSum_56 : decode cX4_readSum 56 = .ok (.iconst 1, 1) := by decide +kernel
theorem d_X4_readSum_57 : decode cX4_readSum 57 = .ok (.iadd, 1) := by decide +kernel
theorem d_X4_readSum_58 : decode cX4_readSum 58 = .ok (.invokevirtual 246, 3) := by decide +kernel
theorem d_X4_readSum_61 : decode cX4_readSum 61 = .ok (.aload_n 0, 1) := by decide +kernel
theorem d_X4_readSum_62 : decode cX4_readSum 62 = .ok (.iload_n 3, 1) := by decide +kernel
theorem d_X4_readSum_63 : decode cX4_readSum 63 = .ok (.invokevirtual 237, 3) := by decide +kernel
theorem d_X4_readSum_66 : decode cX4_readSum 66 = .ok (.aload_n 0, 1) := by decide +kernel
theorem d_X4_readSum_67 : decode cX4_readSum 67 = .ok (.iload_n 2, 1) := by decide +kernel
theorem d_X4_readSum_68 : decode cX4_readSum 68 = .ok (.invokevirtual 261, 3) := by decide +kernel
theorem d_X4_readSum_71 : decode cX4_readSum 71 = .ok (.istore_n 3, 1) := by decide +kernel
theorem d_X4_readSum_72 : decode cX4_readSum 72 = .ok (.iinc 4 1, 3) := by decide +kernel
theorem d_X4_readSum_75 : decode cX4_readSum 75 = .ok (.goto (-47), 3) := by decide +kernel
theorem d_X4_readSum_78 : decode cX4_readSum 78 = .ok (.return_, 1) := by decide +kernel
def F_X4_readSum_b28 (f_X4_readAtom : Nat → Int32 → xH → Option (Unit × xH)) (f_X4_readSum : Nat → Int32 → Int32 → xH → Option (Unit × xH)) : Nat → Nat → Int32 → Int32 → Int32 → Int32 → xH → Option (Unit × xH)
  | 0, _, _, _, _, _, _ => none
  | n + 1, x0, x1, x2, x3, x4, h => (fI h x0 3 4).bind fun v31 => if v31 ≤ x4 then some ((), h) else (fI h x0 3 11).bind fun v38 => if ¬ v38 = 0 then some ((), h) else if x3 = (((-1) : Int32)) then some ((), h) else (rc h x0 3).bind fun _ => (F_X4_advance x0 h).bind fun z50 => (rc z50.2 x0 3).bind fun _ => (f_X4_readSum x0 x1 (x2 + 1) z50.2).bind fun z58 => (rc z58.2 x0 3).bind fun _ => (F_X4_emit x0 x3 z58.2).bind fun z63 => (rc z63.2 x0 3).bind fun _ => (F_X4_joiner x0 x2 z63.2).bind fun z68 => F_X4_readSum_b28 f_X4_readAtom f_X4_readSum n x0 x1 x2 z68.1 (x4 + 1) z68.2
theorem R_X4_readSum_b28 {Γ : xG} {l : Launch} {d : Nat} {Q : Option Value → xH → Prop} {r : Unit} {h' : xH} {f_X4_readAtom : Nat → Int32 → xH → Option (Unit × xH)} {f_X4_readSum : Nat → Int32 → Int32 → xH → Option (Unit × xH)} (K_X4_readAtom : ∀ (y0 : Nat) (y1 : Int32) (u : xH) (q : Unit) (u' : xH), f_X4_readAtom y0 y1 u = some (q, u') → Gm Γ l (d - 1) 0 0 m_X4_readAtom [.ref y0, .int y1] u (fun a w => a = none ∧ w = u')) (K_X4_readSum : ∀ (y0 : Nat) (y1 : Int32) (y2 : Int32) (u : xH) (q : Unit) (u' : xH), f_X4_readSum y0 y1 y2 u = some (q, u') → Gm Γ l (d - 1) 0 0 m_X4_readSum [.ref y0, .int y1, .int y2] u (fun a w => a = none ∧ w = u')) (hdp : 8 ≤ d) (hq : Q (none) h') : ∀ (n : Nat) (x0 : Nat) (x1 : Int32) (x2 : Int32) (x3 : Int32) (x4 : Int32) (h : xH), F_X4_readSum_b28 f_X4_readAtom f_X4_readSum n x0 x1 x2 x3 x4 h = some (r, h') → Gd Γ l d m_X4_readSum 28 [.ref x0, .int x1, .int x2, .int x3, .int x4] [] h 0 0 Q := by
  intro n
  induction n with
  | zero => intro x0 x1 x2 x3 x4 h hF; cases hF
  | succ n ih =>
  intro x0 x1 x2 x3 x4 h hF
  rw [F_X4_readSum_b28] at hF
  refine g_iload d_X4_readSum_28 rfl ?_
  refine g_aloadn d_X4_readSum_30 rfl ?_
  obtain ⟨v31, e31, hF⟩ := Option.bind_eq_some_iff.mp hF
  refine q_fI d_X4_readSum_31 f_X4_26 e31 ?_
  refine g_icmp_ge 78 d_X4_readSum_34 rfl (fun c34 => ?_) (fun c34 => ?_)
  · have hF := x_t hF c34
    obtain ⟨rfl, rfl⟩ := x_inj hF
    exact g_vret d_X4_readSum_78 rfl hq
  · have hF := x_f hF c34
    refine g_aloadn d_X4_readSum_37 rfl ?_
    obtain ⟨v38, e38, hF⟩ := Option.bind_eq_some_iff.mp hF
    refine q_fI d_X4_readSum_38 f_X4_52 e38 ?_
    refine g_if_ne 78 d_X4_readSum_41 rfl (fun c41 => ?_) (fun c41 => ?_)
    · have hF := x_t hF c41
      obtain ⟨rfl, rfl⟩ := x_inj hF
      exact g_vret d_X4_readSum_78 rfl hq
    · have hF := x_f hF (not_not_intro c41)
      refine g_iloadn d_X4_readSum_44 rfl ?_
      refine g_ic (-1) d_X4_readSum_45 ic_m1 ?_
      refine g_icmp_eq 78 d_X4_readSum_46 rfl (fun c46 => ?_) (fun c46 => ?_)
      · have hF := x_t hF c46
        obtain ⟨rfl, rfl⟩ := x_inj hF
        exact g_vret d_X4_readSum_78 rfl hq
      · have hF := x_f hF c46
        refine g_aloadn d_X4_readSum_49 rfl ?_
        obtain ⟨_, g50, hF⟩ := Option.bind_eq_some_iff.mp hF
        obtain ⟨⟨r50, h50⟩, e50, hF⟩ := Option.bind_eq_some_iff.mp hF
        try dsimp only at hF
        refine q_callV [] [] rfl d_X4_readSum_50 v_X4_64 (by omega) rfl (Nat.le_of_ble_eq_true rfl) (rc_rc g50 (by decide) rfl) (R_X4_advance _ _ (by omega) e50) ?_
        refine g_aloadn d_X4_readSum_53 rfl ?_
        refine g_iloadn d_X4_readSum_54 rfl ?_
        refine g_iloadn d_X4_readSum_55 rfl ?_
        refine g_ic (1) d_X4_readSum_56 ic_1 ?_
        refine g_iadd d_X4_readSum_57 ?_
        obtain ⟨_, g58, hF⟩ := Option.bind_eq_some_iff.mp hF
        obtain ⟨⟨r58, h58⟩, e58, hF⟩ := Option.bind_eq_some_iff.mp hF
        try dsimp only at hF
        refine q_callV [.int x1, .int (x2 + 1)] [] rfl d_X4_readSum_58 v_X4_246 (by omega) rfl (Nat.le_of_ble_eq_true rfl) (rc_rc g58 (by decide) rfl) (K_X4_readSum _ _ _ _ _ _ e58) ?_
        refine g_aloadn d_X4_readSum_61 rfl ?_
        refine g_iloadn d_X4_readSum_62 rfl ?_
        obtain ⟨_, g63, hF⟩ := Option.bind_eq_some_iff.mp hF
        obtain ⟨⟨r63, h63⟩, e63, hF⟩ := Option.bind_eq_some_iff.mp hF
        try dsimp only at hF
        refine q_callV [.int x3] [] rfl d_X4_readSum_63 v_X4_237 (by omega) rfl (Nat.le_of_ble_eq_true rfl) (rc_rc g63 (by decide) rfl) (R_X4_emit _ _ _ (by omega) e63) ?_
        refine g_aloadn d_X4_readSum_66 rfl ?_
        refine g_iloadn d_X4_readSum_67 rfl ?_
        obtain ⟨_, g68, hF⟩ := Option.bind_eq_some_iff.mp hF
        obtain ⟨⟨r68, h68⟩, e68, hF⟩ := Option.bind_eq_some_iff.mp hF
        try dsimp only at hF
        refine q_callV [.int x2] [] rfl d_X4_readSum_68 v_X4_261 (by omega) rfl (Nat.le_of_ble_eq_true rfl) (rc_rc g68 (by decide) rfl) (R_X4_joiner _ _ _ (by omega) e68) ?_
        refine q_istoren [.ref x0, .int x1, .int x2, .int (r68), .int x4] d_X4_readSum_71 (by decide) rfl ?_
        refine q_iinc (1) [.ref x0, .int x1, .int x2, .int (r68), .int (x4 + 1)] d_X4_readSum_72 ic_1 rfl (by decide) rfl ?_
        refine g_goto 28 d_X4_readSum_75 rfl ?_
        exact q_to (xs_r (xs_r (xs_r (xs_r (xs_r xs_n))))) (ih _ _ _ _ _ _ hF)
def F_X4_readSum (f_X4_readAtom : Nat → Int32 → xH → Option (Unit × xH)) (f_X4_readSum : Nat → Int32 → Int32 → xH → Option (Unit × xH)) (x0 : Nat) (x1 : Int32) (x2 : Int32) (h : xH) : Option (Unit × xH) := if x2 ≤ ((1 : Int32)) then (rc h x0 3).bind fun _ => (f_X4_readSum x0 x1 (x2 + 1) h).bind fun z16 => (rc z16.2 x0 3).bind fun _ => (F_X4_joiner x0 x2 z16.2).bind fun z21 => F_X4_readSum_b28 f_X4_readAtom f_X4_readSum FU x0 x1 x2 z21.1 0 z21.2 else (rc h x0 3).bind fun _ => (f_X4_readAtom x0 x1 h).bind fun z7 => some ((), z7.2)
theorem R_X4_readSum {Γ : xG} {l : Launch} {d : Nat} {r : Unit} {h' : xH} {f_X4_readAtom : Nat → Int32 → xH → Option (Unit × xH)} {f_X4_readSum : Nat → Int32 → Int32 → xH → Option (Unit × xH)} (K_X4_readAtom : ∀ (y0 : Nat) (y1 : Int32) (u : xH) (q : Unit) (u' : xH), f_X4_readAtom y0 y1 u = some (q, u') → Gm Γ l (d - 1) 0 0 m_X4_readAtom [.ref y0, .int y1] u (fun a w => a = none ∧ w = u')) (K_X4_readSum : ∀ (y0 : Nat) (y1 : Int32) (y2 : Int32) (u : xH) (q : Unit) (u' : xH), f_X4_readSum y0 y1 y2 u = some (q, u') → Gm Γ l (d - 1) 0 0 m_X4_readSum [.ref y0, .int y1, .int y2] u (fun a w => a = none ∧ w = u')) (x0 : Nat) (x1 : Int32) (x2 : Int32) (h : xH) (hdp : 8 ≤ d) (hF : F_X4_readSum f_X4_readAtom f_X4_readSum x0 x1 x2 h = some (r, h')) : Gm Γ l d 0 0 m_X4_readSum [.ref x0, .int x1, .int x2] h (fun a u => a = none ∧ u = h') := by
  refine Gm.of pn_X4 (Nat.le_of_ble_eq_true rfl) ?_
  show Gd Γ l d m_X4_readSum 0 [.ref x0, .int x1, .int x2, xhole, xhole] [] h 0 0 _
  generalize hQ : (fun (a : Option Value) (u : xH) => a = none ∧ u = h') = Q
  have hq : Q (none) h' := by rw [← hQ]; exact ⟨rfl, rfl⟩
  clear hQ
  unfold F_X4_readSum at hF
  refine g_iloadn d_X4_readSum_0 rfl ?_
  refine g_ic (1) d_X4_readSum_1 ic_1 ?_
  refine g_icmp_le 11 d_X4_readSum_2 rfl (fun c2 => ?_) (fun c2 => ?_)
  · have hF := x_t hF c2
    refine g_aloadn d_X4_readSum_11 rfl ?_
    refine g_iloadn d_X4_readSum_12 rfl ?_
    refine g_iloadn d_X4_readSum_13 rfl ?_
    refine g_ic (1) d_X4_readSum_14 ic_1 ?_
    refine g_iadd d_X4_readSum_15 ?_
    obtain ⟨_, g16, hF⟩ := Option.bind_eq_some_iff.mp hF
    obtain ⟨⟨r16, h16⟩, e16, hF⟩ := Option.bind_eq_some_iff.mp hF
    try dsimp only at hF
    refine q_callV [.int x1, .int (x2 + 1)] [] rfl d_X4_readSum_16 v_X4_246 (by omega) rfl (Nat.le_of_ble_eq_true rfl) (rc_rc g16 (by decide) rfl) (K_X4_readSum _ _ _ _ _ _ e16) ?_
    refine g_aloadn d_X4_readSum_19 rfl ?_
    refine g_iloadn d_X4_readSum_20 rfl ?_
    obtain ⟨_, g21, hF⟩ := Option.bind_eq_some_iff.mp hF
    obtain ⟨⟨r21, h21⟩, e21, hF⟩ := Option.bind_eq_some_iff.mp hF
    try dsimp only at hF
    refine q_callV [.int x2] [] rfl d_X4_readSum_21 v_X4_261 (by omega) rfl (Nat.le_of_ble_eq_true rfl) (rc_rc g21 (by decide) rfl) (R_X4_joiner _ _ _ (by omega) e21) ?_
    refine q_istoren [.ref x0, .int x1, .int x2, .int (r21), xhole] d_X4_readSum_24 (by decide) rfl ?_
    refine g_ic (0) d_X4_readSum_25 ic_0 ?_
    refine q_istore [.ref x0, .int x1, .int x2, .int (r21), .int 0] d_X4_readSum_26 (by decide) rfl ?_
    exact q_to (xs_r (xs_r (xs_r (xs_r (xs_r xs_n))))) (R_X4_readSum_b28 K_X4_readAtom K_X4_readSum hdp hq FU _ _ _ _ _ _ hF)
  · have hF := x_f hF c2
    refine g_aloadn d_X4_readSum_5 rfl ?_
    refine g_iloadn d_X4_readSum_6 rfl ?_
    obtain ⟨_, g7, hF⟩ := Option.bind_eq_some_iff.mp hF
    obtain ⟨⟨r7, h7⟩, e7, hF⟩ := Option.bind_eq_some_iff.mp hF
    try dsimp only at hF
    refine q_callV [.int x1] [] rfl d_X4_readSum_7 v_X4_258 (by omega) rfl (Nat.le_of_ble_eq_true rfl) (rc_rc g7 (by decide) rfl) (K_X4_readAtom _ _ _ _ _ e7) ?_
    obtain ⟨rfl, rfl⟩ := x_inj hF
    exact g_vret d_X4_readSum_10 rfl hq
theorem d_X4_readAtom_0 : decode cX4_readAtom 0 = .ok (.aload_n 0, 1) := by decide +kernel
theorem d_X4_readAtom_1 : decode cX4_readAtom 1 = .ok (.ldc_w 270, 3) := by decide +kernel
theorem d_X4_readAtom_4 : decode cX4_readAtom 4 = .ok (.invokevirtual 102, 3) := by decide +kernel
theorem d_X4_readAtom_7 : decode cX4_readAtom 7 = .ok (.ifCond .eq 14, 3) := by decide +kernel
theorem d_X4_readAtom_10 : decode cX4_readAtom 10 = .ok (.iload_n 1, 1) := by decide +kernel
theorem d_X4_readAtom_11 : decode cX4_readAtom 11 = .ok (.bipush 6, 2) := by decide +kernel
theorem d_X4_readAtom_13 : decode cX4_readAtom 13 = .ok (.if_icmp .lt 8, 3) := by decide +kernel
theorem d_X4_readAtom_16 : decode cX4_readAtom 16 = .ok (.aload_n 0, 1) := by decide +kernel
theorem d_X4_readAtom_17 : decode cX4_readAtom 17 = .ok (.iconst 4, 1) := by decide +kernel
theorem d_X4_readAtom_18 : decode cX4_readAtom 18 = .ok (.invokevirtual 91, 3) := by decide +kernel
theorem d_X4_readAtom_21 : decode cX4_readAtom 21 = .ok (.aload_n 0, 1) := by decide +kernel
theorem d_X4_readAtom_22 : decode cX4_readAtom 22 = .ok (.getfield 52, 3) := by decide +kernel
theorem d_X4_readAtom_25 : decode cX4_readAtom 25 = .ok (.ifCond .eq 4, 3) := by decide +kernel
theorem d_X4_readAtom_28 : decode cX4_readAtom 28 = .ok (.return_, 1) := by decide +kernel
theorem d_X4_readAtom_29 : decode cX4_readAtom 29 = .ok (.aload_n 0, 1) := by decide +kernel
theorem d_X4_readAtom_30 : decode cX4_readAtom 30 = .ok (.getfield 35, 3) := by decide +kernel
theorem d_X4_readAtom_33 : decode cX4_readAtom 33 = .ok (.iconst 1, 1) := by decide +kernel
theorem d_X4_readAtom_34 : decode cX4_readAtom 34 = .ok (.if_icmp .ne 18, 3) := by decide +kernel
theorem d_X4_readAtom_37 : decode cX4_readAtom 37 = .ok (.aload_n 0, 1) := by decide +kernel
theorem d_X4_readAtom_38 : decode cX4_readAtom 38 = .ok (.aload_n 0, 1) := by decide +kernel
theorem d_X4_readAtom_39 : decode cX4_readAtom 39 = .ok (.getfield 38, 3) := by decide +kernel
theorem d_X4_readAtom_42 : decode cX4_readAtom 42 = .ok (.invokevirtual 237, 3) := by decide +kernel
theorem d_X4_readAtom_45 : decode cX4_readAtom 45 = .ok (.aload_n 0, 1) := by decide +kernel
theorem d_X4_readAtom_46 : decode cX4_readAtom 46 = .ok (.invokevirtual 64, 3) := by decide +kernel
theorem d_X4_readAtom_49 : decode cX4_readAtom 49 = .ok (.goto 77, 3) := by decide +kernel
theorem d_X4_readAtom_52 : decode cX4_readAtom 52 = .ok (.aload_n 0, 1) := by decide +kernel
theorem d_X4_readAtom_53 : decode cX4_readAtom 53 = .ok (.ldc_w 270, 3) := by decide +kernel
theorem d_X4_readAtom_56 : decode cX4_readAtom 56 = .ok (.invokevirtual 102, 3) := by decide +kernel
theorem d_X4_readAtom_59 : decode cX4_readAtom 59 = .ok (.ifCond .eq 25, 3) := by decide +kernel
theorem d_X4_readAtom_62 : decode cX4_readAtom 62 = .ok (.aload_n 0, 1) := by decide +kernel
theorem d_X4_readAtom_63 : decode cX4_readAtom 63 = .ok (.invokevirtual 64, 3) := by decide +kernel
theorem d_X4_readAtom_66 : decode cX4_readAtom 66 = .ok (.aload_n 0, 1) := by decide +kernel
theorem d_X4_readAtom_67 : decode cX4_readAtom 67 = .ok (.iload_n 1, 1) := by decide +kernel
theorem d_X4_readAtom_68 : decode cX4_readAtom 68 = .ok (.iconst 1, 1) := by decide +kernel
theorem d_X4_readAtom_69 : decode cX4_readAtom 69 = .ok (.iadd, 1) := by decide +kernel
theorem d_X4_readAtom_70 : decode cX4_readAtom 70 = .ok (.iconst 0, 1) := by decide +kernel
theorem d_X4_readAtom_71 : decode cX4_readAtom 71 = .ok (.invokevirtual 246, 3) := by decide +kernel
theorem d_X4_readAtom_74 : decode cX4_readAtom 74 = .ok (.aload_n 0, 1) := by decide +kernel
theorem d_X4_readAtom_75 : decode cX4_readAtom 75 = .ok (.ldc_w 272, 3) := by decide +kernel
theorem d_X4_readAtom_78 : decode cX4_readAtom 78 = .ok (.invokevirtual 108, 3) := by decide +kernel
theorem d_X4_readAtom_81 : decode cX4_readAtom 81 = .ok (.goto 45, 3) := by decide +kernel
theorem d_X4_readAtom_84 : decode cX4_readAtom 84 = .ok (.aload_n 0, 1) := by decide +kernel
theorem d_X4_readAtom_85 : decode cX4_readAtom 85 = .ok (.getfield 41, 3) := by decide +kernel
theorem d_X4_readAtom_88 : decode cX4_readAtom 88 = .ok (.ifCond .eq 10, 3) := by decide +kernel
theorem d_X4_readAtom_91 : decode cX4_readAtom 91 = .ok (.aload_n 0, 1) := by decide +kernel
theorem d_X4_readAtom_92 : decode cX4_readAtom 92 = .ok (.invokevirtual 274, 3) := by decide +kernel
theorem d_X4_readAtom_95 : decode cX4_readAtom 95 = .ok (.goto 7, 3) := by decide +kernel
theorem d_X4_readAtom_98 : decode cX4_readAtom 98 = .ok (.aload_n 0, 1) := by decide +kernel
theorem d_X4_readAtom_99 : decode cX4_readAtom 99 = .ok (.invokevirtual 277, 3) := by decide +kernel
theorem d_X4_readAtom_102 : decode cX4_readAtom 102 = .ok (.istore_n 2, 1) := by decide +kernel
theorem d_X4_readAtom_103 : decode cX4_readAtom 103 = .ok (.iload_n 2, 1) := by decide +kernel
theorem d_X4_readAtom_104 : decode cX4_readAtom 104 = .ok (.iconst (-1), 1) := by decide +kernel
theorem d_X4_readAtom_105 : decode cX4_readAtom 105 = .ok (.if_icmp .ne 8, 3) := by decide +kernel
theorem d_X4_readAtom_108 : decode cX4_readAtom 108 = .ok (.aload_n 0, 1) := by decide +kernel
theorem d_X4_readAtom_109 : decode cX4_readAtom 109 = .ok (.iconst 2, 1) := by decide +kernel
theorem d_X4_readAtom_110 : decode cX4_readAtom 110 = .ok (.invokevirtual 91, 3) := by decide +kernel
theorem d_X4_readAtom_113 : decode cX4_readAtom 113 = .ok (.aload_n 0, 1) := by decide +kernel
theorem d_X4_readAtom_114 : decode cX4_readAtom 114 = .ok (.sipush 1000, 3) := by decide +kernel
theorem d_X4_readAtom_117 : decode cX4_readAtom 117 = .ok (.iload_n 2, 1) := by decide +kernel
theorem d_X4_readAtom_118 : decode cX4_readAtom 118 = .ok (.iadd, 1) := by decide +kernel
theorem d_X4_readAtom_119 : decode cX4_readAtom 119 = .ok (.invokevirtual 237, 3) := by decide +kernel
theorem d_X4_readAtom_122 : decode cX4_readAtom 122 = .ok (.aload_n 0, 1) := by decide +kernel
theorem d_X4_readAtom_123 : decode cX4_readAtom 123 = .ok (.invokevirtual 64, 3) := by decide +kernel
theorem d_X4_readAtom_126 : decode cX4_readAtom 126 = .ok (.return_, 1) := by decide +kernel
def F_X4_readAtom_b113 (f_X4_readSum : Nat → Int32 → Int32 → xH → Option (Unit × xH)) (x0 : Nat) (x2 : Int32) (h : xH) : Option (Unit × xH) := (rc h x0 3).bind fun _ => (F_X4_emit x0 (((1000 : Int32)) + x2) h).bind fun z119 => (rc z119.2 x0 3).bind fun _ => (F_X4_advance x0 z119.2).bind fun z123 => some ((), z123.2)
theorem R_X4_readAtom_b113 {Γ : xG} {l : Launch} {d : Nat} {Q : Option Value → xH → Prop} {r : Unit} {h' : xH} {f_X4_readSum : Nat → Int32 → Int32 → xH → Option (Unit × xH)} (K_X4_readSum : ∀ (y0 : Nat) (y1 : Int32) (y2 : Int32) (u : xH) (q : Unit) (u' : xH), f_X4_readSum y0 y1 y2 u = some (q, u') → Gm Γ l (d - 1) 0 0 m_X4_readSum [.ref y0, .int y1, .int y2] u (fun a w => a = none ∧ w = u')) (hdp : 9 ≤ d) (hq : Q (none) h') : ∀ (x0 : Nat) (x2 : Int32) (h : xH), F_X4_readAtom_b113 f_X4_readSum x0 x2 h = some (r, h') → Gd Γ l d m_X4_readAtom 113 [.ref x0, xhole, .int x2] [] h 0 0 Q := by
  intro x0 x2 h hF
  unfold F_X4_readAtom_b113 at hF
  refine g_aloadn d_X4_readAtom_113 rfl ?_
  refine g_si (1000) d_X4_readAtom_114 si_1000 ?_
  refine g_iloadn d_X4_readAtom_117 rfl ?_
  refine g_iadd d_X4_readAtom_118 ?_
  obtain ⟨_, g119, hF⟩ := Option.bind_eq_some_iff.mp hF
  obtain ⟨⟨r119, h119⟩, e119, hF⟩ := Option.bind_eq_some_iff.mp hF
  try dsimp only at hF
  refine q_callV [.int (((1000 : Int32)) + x2)] [] rfl d_X4_readAtom_119 v_X4_237 (by omega) rfl (Nat.le_of_ble_eq_true rfl) (rc_rc g119 (by decide) rfl) (R_X4_emit _ _ _ (by omega) e119) ?_
  refine g_aloadn d_X4_readAtom_122 rfl ?_
  obtain ⟨_, g123, hF⟩ := Option.bind_eq_some_iff.mp hF
  obtain ⟨⟨r123, h123⟩, e123, hF⟩ := Option.bind_eq_some_iff.mp hF
  try dsimp only at hF
  refine q_callV [] [] rfl d_X4_readAtom_123 v_X4_64 (by omega) rfl (Nat.le_of_ble_eq_true rfl) (rc_rc g123 (by decide) rfl) (R_X4_advance _ _ (by omega) e123) ?_
  obtain ⟨rfl, rfl⟩ := x_inj hF
  exact g_vret d_X4_readAtom_126 rfl hq
def F_X4_readAtom_b102 (f_X4_readSum : Nat → Int32 → Int32 → xH → Option (Unit × xH)) (x0 : Nat) (s0 : Int32) (h : xH) : Option (Unit × xH) := if ¬ s0 = (((-1) : Int32)) then F_X4_readAtom_b113 f_X4_readSum x0 s0 h else (rc h x0 3).bind fun _ => (F_X4_fail x0 2 h).bind fun z110 => F_X4_readAtom_b113 f_X4_readSum x0 s0 z110.2
theorem R_X4_readAtom_b102 {Γ : xG} {l : Launch} {d : Nat} {Q : Option Value → xH → Prop} {r : Unit} {h' : xH} {f_X4_readSum : Nat → Int32 → Int32 → xH → Option (Unit × xH)} (K_X4_readSum : ∀ (y0 : Nat) (y1 : Int32) (y2 : Int32) (u : xH) (q : Unit) (u' : xH), f_X4_readSum y0 y1 y2 u = some (q, u') → Gm Γ l (d - 1) 0 0 m_X4_readSum [.ref y0, .int y1, .int y2] u (fun a w => a = none ∧ w = u')) (hdp : 9 ≤ d) (hq : Q (none) h') : ∀ (x0 : Nat) (s0 : Int32) (h : xH), F_X4_readAtom_b102 f_X4_readSum x0 s0 h = some (r, h') → Gd Γ l d m_X4_readAtom 102 [.ref x0, xhole, xhole] [.int s0] h 0 0 Q := by
  intro x0 s0 h hF
  unfold F_X4_readAtom_b102 at hF
  refine q_istoren [.ref x0, xhole, .int s0] d_X4_readAtom_102 (by decide) rfl ?_
  refine g_iloadn d_X4_readAtom_103 rfl ?_
  refine g_ic (-1) d_X4_readAtom_104 ic_m1 ?_
  refine g_icmp_ne 113 d_X4_readAtom_105 rfl (fun c105 => ?_) (fun c105 => ?_)
  · have hF := x_t hF c105
    exact q_to (xs_r (xs_h (xs_r xs_n))) (R_X4_readAtom_b113 K_X4_readSum hdp hq _ _ _ hF)
  · have hF := x_f hF (not_not_intro c105)
    refine g_aloadn d_X4_readAtom_108 rfl ?_
    refine g_ic (2) d_X4_readAtom_109 ic_2 ?_
    obtain ⟨_, g110, hF⟩ := Option.bind_eq_some_iff.mp hF
    obtain ⟨⟨r110, h110⟩, e110, hF⟩ := Option.bind_eq_some_iff.mp hF
    try dsimp only at hF
    refine q_callV [.int 2] [] rfl d_X4_readAtom_110 v_X4_91 (by omega) rfl (Nat.le_of_ble_eq_true rfl) (rc_rc g110 (by decide) rfl) (R_X4_fail _ _ _ (by omega) e110) ?_
    exact q_to (xs_r (xs_h (xs_r xs_n))) (R_X4_readAtom_b113 K_X4_readSum hdp hq _ _ _ hF)
def F_X4_readAtom_b21 (f_X4_readSum : Nat → Int32 → Int32 → xH → Option (Unit × xH)) (x0 : Nat) (x1 : Int32) (h : xH) : Option (Unit × xH) := (fI h x0 3 11).bind fun v22 => if v22 = 0 then (fI h x0 3 7).bind fun v30 => if ¬ v30 = ((1 : Int32)) then (rc h x0 3).bind fun _ => (F_X4_isAt x0 32 h).bind fun z56 => if z56.1 = 0 then (fI z56.2 x0 3 9).bind fun v85 => if v85 = 0 then (rc z56.2 x0 3).bind fun _ => (F_X4_wordOfGoing x0 z56.2).bind fun z99 => F_X4_readAtom_b102 f_X4_readSum x0 z99.1 z99.2 else (rc z56.2 x0 3).bind fun _ => (F_X4_wordOfHearing x0 z56.2).bind fun z92 => F_X4_readAtom_b102 f_X4_readSum x0 z92.1 z92.2 else (rc z56.2 x0 3).bind fun _ => (F_X4_advance x0 z56.2).bind fun z63 => (rc z63.2 x0 3).bind fun _ => (f_X4_readSum x0 (x1 + 1) 0 z63.2).bind fun z71 => (rc z71.2 x0 3).bind fun _ => (F_X4_pass x0 34 z71.2).bind fun z78 => some ((), z78.2) else (fI h x0 3 8).bind fun v39 => (rc h x0 3).bind fun _ => (F_X4_emit x0 v39 h).bind fun z42 => (rc z42.2 x0 3).bind fun _ => (F_X4_advance x0 z42.2).bind fun z46 => some ((), z46.2) else some ((), h)
theorem R_X4_readAtom_b21 {Γ : xG} {l : Launch} {d : Nat} {Q : Option Value → xH → Prop} {r : Unit} {h' : xH} {f_X4_readSum : Nat → Int32 → Int32 → xH → Option (Unit × xH)} (K_X4_readSum : ∀ (y0 : Nat) (y1 : Int32) (y2 : Int32) (u : xH) (q : Unit) (u' : xH), f_X4_readSum y0 y1 y2 u = some (q, u') → Gm Γ l (d - 1) 0 0 m_X4_readSum [.ref y0, .int y1, .int y2] u (fun a w => a = none ∧ w = u')) (hdp : 9 ≤ d) (hq : Q (none) h') : ∀ (x0 : Nat) (x1 : Int32) (h : xH), F_X4_readAtom_b21 f_X4_readSum x0 x1 h = some (r, h') → Gd Γ l d m_X4_readAtom 21 [.ref x0, .int x1, xhole] [] h 0 0 Q := by
  intro x0 x1 h hF
  unfold F_X4_readAtom_b21 at hF
  refine g_aloadn d_X4_readAtom_21 rfl ?_
  obtain ⟨v22, e22, hF⟩ := Option.bind_eq_some_iff.mp hF
  refine q_fI d_X4_readAtom_22 f_X4_52 e22 ?_
  refine g_if_eq 29 d_X4_readAtom_25 rfl (fun c25 => ?_) (fun c25 => ?_)
  · have hF := x_t hF c25
    refine g_aloadn d_X4_readAtom_29 rfl ?_
    obtain ⟨v30, e30, hF⟩ := Option.bind_eq_some_iff.mp hF
    refine q_fI d_X4_readAtom_30 f_X4_35 e30 ?_
    refine g_ic (1) d_X4_readAtom_33 ic_1 ?_
    refine g_icmp_ne 52 d_X4_readAtom_34 rfl (fun c34 => ?_) (fun c34 => ?_)
    · have hF := x_t hF c34
      refine g_aloadn d_X4_readAtom_52 rfl ?_
      refine g_ldcwS (i := 16) d_X4_readAtom_53 rfl ?_
      obtain ⟨_, g56, hF⟩ := Option.bind_eq_some_iff.mp hF
      obtain ⟨⟨r56, h56⟩, e56, hF⟩ := Option.bind_eq_some_iff.mp hF
      try dsimp only at hF
      refine q_callV [.ref 32] [] rfl d_X4_readAtom_56 v_X4_102 (by omega) rfl (Nat.le_of_ble_eq_true rfl) (rc_rc g56 (by decide) rfl) (R_X4_isAt _ _ _ (by omega) e56) ?_
      refine g_if_eq 84 d_X4_readAtom_59 rfl (fun c59 => ?_) (fun c59 => ?_)
      · have hF := x_t hF c59
        refine g_aloadn d_X4_readAtom_84 rfl ?_
        obtain ⟨v85, e85, hF⟩ := Option.bind_eq_some_iff.mp hF
        refine q_fI d_X4_readAtom_85 f_X4_41 e85 ?_
        refine g_if_eq 98 d_X4_readAtom_88 rfl (fun c88 => ?_) (fun c88 => ?_)
        · have hF := x_t hF c88
          refine g_aloadn d_X4_readAtom_98 rfl ?_
          obtain ⟨_, g99, hF⟩ := Option.bind_eq_some_iff.mp hF
          obtain ⟨⟨r99, h99⟩, e99, hF⟩ := Option.bind_eq_some_iff.mp hF
          try dsimp only at hF
          refine q_callV [] [] rfl d_X4_readAtom_99 v_X4_277 (by omega) rfl (Nat.le_of_ble_eq_true rfl) (rc_rc g99 (by decide) rfl) (R_X4_wordOfGoing _ _ (by omega) e99) ?_
          exact q_to (xs_r (xs_h (xs_h xs_n))) (R_X4_readAtom_b102 K_X4_readSum hdp hq _ _ _ hF)
        · have hF := x_f hF c88
          refine g_aloadn d_X4_readAtom_91 rfl ?_
          obtain ⟨_, g92, hF⟩ := Option.bind_eq_some_iff.mp hF
          obtain ⟨⟨r92, h92⟩, e92, hF⟩ := Option.bind_eq_some_iff.mp hF
          try dsimp only at hF
          refine q_callV [] [] rfl d_X4_readAtom_92 v_X4_274 (by omega) rfl (Nat.le_of_ble_eq_true rfl) (rc_rc g92 (by decide) rfl) (R_X4_wordOfHearing _ _ (by omega) e92) ?_
          refine g_goto 102 d_X4_readAtom_95 rfl ?_
          exact q_to (xs_r (xs_h (xs_h xs_n))) (R_X4_readAtom_b102 K_X4_readSum hdp hq _ _ _ hF)
      · have hF := x_f hF c59
        refine g_aloadn d_X4_readAtom_62 rfl ?_
        obtain ⟨_, g63, hF⟩ := Option.bind_eq_some_iff.mp hF
        obtain ⟨⟨r63, h63⟩, e63, hF⟩ := Option.bind_eq_some_iff.mp hF
        try dsimp only at hF
        refine q_callV [] [] rfl d_X4_readAtom_63 v_X4_64 (by omega) rfl (Nat.le_of_ble_eq_true rfl) (rc_rc g63 (by decide) rfl) (R_X4_advance _ _ (by omega) e63) ?_
        refine g_aloadn d_X4_readAtom_66 rfl ?_
        refine g_iloadn d_X4_readAtom_67 rfl ?_
        refine g_ic (1) d_X4_readAtom_68 ic_1 ?_
        refine g_iadd d_X4_readAtom_69 ?_
        refine g_ic (0) d_X4_readAtom_70 ic_0 ?_
        obtain ⟨_, g71, hF⟩ := Option.bind_eq_some_iff.mp hF
        obtain ⟨⟨r71, h71⟩, e71, hF⟩ := Option.bind_eq_some_iff.mp hF
        try dsimp only at hF
        refine q_callV [.int (x1 + 1), .int 0] [] rfl d_X4_readAtom_71 v_X4_246 (by omega) rfl (Nat.le_of_ble_eq_true rfl) (rc_rc g71 (by decide) rfl) (K_X4_readSum _ _ _ _ _ _ e71) ?_
        refine g_aloadn d_X4_readAtom_74 rfl ?_
        refine g_ldcwS (i := 17) d_X4_readAtom_75 rfl ?_
        obtain ⟨_, g78, hF⟩ := Option.bind_eq_some_iff.mp hF
        obtain ⟨⟨r78, h78⟩, e78, hF⟩ := Option.bind_eq_some_iff.mp hF
        try dsimp only at hF
        refine q_callV [.ref 34] [] rfl d_X4_readAtom_78 v_X4_108 (by omega) rfl (Nat.le_of_ble_eq_true rfl) (rc_rc g78 (by decide) rfl) (R_X4_pass _ _ _ (by omega) e78) ?_
        refine g_goto 126 d_X4_readAtom_81 rfl ?_
        obtain ⟨rfl, rfl⟩ := x_inj hF
        exact g_vret d_X4_readAtom_126 rfl hq
    · have hF := x_f hF (not_not_intro c34)
      refine g_aloadn d_X4_readAtom_37 rfl ?_
      refine g_aloadn d_X4_readAtom_38 rfl ?_
      obtain ⟨v39, e39, hF⟩ := Option.bind_eq_some_iff.mp hF
      refine q_fI d_X4_readAtom_39 f_X4_38 e39 ?_
      obtain ⟨_, g42, hF⟩ := Option.bind_eq_some_iff.mp hF
      obtain ⟨⟨r42, h42⟩, e42, hF⟩ := Option.bind_eq_some_iff.mp hF
      try dsimp only at hF
      refine q_callV [.int v39] [] rfl d_X4_readAtom_42 v_X4_237 (by omega) rfl (Nat.le_of_ble_eq_true rfl) (rc_rc g42 (by decide) rfl) (R_X4_emit _ _ _ (by omega) e42) ?_
      refine g_aloadn d_X4_readAtom_45 rfl ?_
      obtain ⟨_, g46, hF⟩ := Option.bind_eq_some_iff.mp hF
      obtain ⟨⟨r46, h46⟩, e46, hF⟩ := Option.bind_eq_some_iff.mp hF
      try dsimp only at hF
      refine q_callV [] [] rfl d_X4_readAtom_46 v_X4_64 (by omega) rfl (Nat.le_of_ble_eq_true rfl) (rc_rc g46 (by decide) rfl) (R_X4_advance _ _ (by omega) e46) ?_
      refine g_goto 126 d_X4_readAtom_49 rfl ?_
      obtain ⟨rfl, rfl⟩ := x_inj hF
      exact g_vret d_X4_readAtom_126 rfl hq
  · have hF := x_f hF c25
    obtain ⟨rfl, rfl⟩ := x_inj hF
    exact g_vret d_X4_readAtom_28 rfl hq
def F_X4_readAtom (f_X4_readSum : Nat → Int32 → Int32 → xH → Option (Unit × xH)) (x0 : Nat) (x1 : Int32) (h : xH) : Option (Unit × xH) := (rc h x0 3).bind fun _ => (F_X4_isAt x0 32 h).bind fun z4 => if z4.1 = 0 then F_X4_readAtom_b21 f_X4_readSum x0 x1 z4.2 else if x1 < ((6 : Int32)) then F_X4_readAtom_b21 f_X4_readSum x0 x1 z4.2 else (rc z4.2 x0 3).bind fun _ => (F_X4_fail x0 4 z4.2).bind fun z18 => F_X4_readAtom_b21 f_X4_readSum x0 x1 z18.2
theorem R_X4_readAtom {Γ : xG} {l : Launch} {d : Nat} {r : Unit} {h' : xH} {f_X4_readSum : Nat → Int32 → Int32 → xH → Option (Unit × xH)} (K_X4_readSum : ∀ (y0 : Nat) (y1 : Int32) (y2 : Int32) (u : xH) (q : Unit) (u' : xH), f_X4_readSum y0 y1 y2 u = some (q, u') → Gm Γ l (d - 1) 0 0 m_X4_readSum [.ref y0, .int y1, .int y2] u (fun a w => a = none ∧ w = u')) (x0 : Nat) (x1 : Int32) (h : xH) (hdp : 9 ≤ d) (hF : F_X4_readAtom f_X4_readSum x0 x1 h = some (r, h')) : Gm Γ l d 0 0 m_X4_readAtom [.ref x0, .int x1] h (fun a u => a = none ∧ u = h') := by
  refine Gm.of pn_X4 (Nat.le_of_ble_eq_true rfl) ?_
  show Gd Γ l d m_X4_readAtom 0 [.ref x0, .int x1, xhole] [] h 0 0 _
  generalize hQ : (fun (a : Option Value) (u : xH) => a = none ∧ u = h') = Q
  have hq : Q (none) h' := by rw [← hQ]; exact ⟨rfl, rfl⟩
  clear hQ
  unfold F_X4_readAtom at hF
  refine g_aloadn d_X4_readAtom_0 rfl ?_
  refine g_ldcwS (i := 16) d_X4_readAtom_1 rfl ?_
  obtain ⟨_, g4, hF⟩ := Option.bind_eq_some_iff.mp hF
  obtain ⟨⟨r4, h4⟩, e4, hF⟩ := Option.bind_eq_some_iff.mp hF
  try dsimp only at hF
  refine q_callV [.ref 32] [] rfl d_X4_readAtom_4 v_X4_102 (by omega) rfl (Nat.le_of_ble_eq_true rfl) (rc_rc g4 (by decide) rfl) (R_X4_isAt _ _ _ (by omega) e4) ?_
  refine g_if_eq 21 d_X4_readAtom_7 rfl (fun c7 => ?_) (fun c7 => ?_)
  · have hF := x_t hF c7
    exact q_to (xs_r (xs_r (xs_h xs_n))) (R_X4_readAtom_b21 K_X4_readSum hdp hq _ _ _ hF)
  · have hF := x_f hF c7
    refine g_iloadn d_X4_readAtom_10 rfl ?_
    refine g_bi (6) d_X4_readAtom_11 bi_6 ?_
    refine g_icmp_lt 21 d_X4_readAtom_13 rfl (fun c13 => ?_) (fun c13 => ?_)
    · have hF := x_t hF c13
      exact q_to (xs_r (xs_r (xs_h xs_n))) (R_X4_readAtom_b21 K_X4_readSum hdp hq _ _ _ hF)
    · have hF := x_f hF c13
      refine g_aloadn d_X4_readAtom_16 rfl ?_
      refine g_ic (4) d_X4_readAtom_17 ic_4 ?_
      obtain ⟨_, g18, hF⟩ := Option.bind_eq_some_iff.mp hF
      obtain ⟨⟨r18, h18⟩, e18, hF⟩ := Option.bind_eq_some_iff.mp hF
      try dsimp only at hF
      refine q_callV [.int 4] [] rfl d_X4_readAtom_18 v_X4_91 (by omega) rfl (Nat.le_of_ble_eq_true rfl) (rc_rc g18 (by decide) rfl) (R_X4_fail _ _ _ (by omega) e18) ?_
      exact q_to (xs_r (xs_r (xs_h xs_n))) (R_X4_readAtom_b21 K_X4_readSum hdp hq _ _ _ hF)
def G_X4_readSum : Nat → (Nat → Int32 → Int32 → xH → Option (Unit × xH)) × (Nat → Int32 → xH → Option (Unit × xH))
  | 0 => ((fun _ _ _ _ => none), (fun _ _ _ => none))
  | n + 1 => ((F_X4_readSum (G_X4_readSum n).2 (G_X4_readSum n).1), (F_X4_readAtom (G_X4_readSum n).1))
def C_X4_readSum (n : Nat) : Nat → Int32 → Int32 → xH → Option (Unit × xH) := (G_X4_readSum n).1
def C_X4_readAtom (n : Nat) : Nat → Int32 → xH → Option (Unit × xH) := (G_X4_readSum n).2
theorem RG_X4_readSum {Γ : xG} {l : Launch} : ∀ (n d : Nat), 9 + n ≤ d → (∀ (y0 : Nat) (y1 : Int32) (y2 : Int32) (u : xH) (q : Unit) (u' : xH), (G_X4_readSum n).1 y0 y1 y2 u = some (q, u') → Gm Γ l d 0 0 m_X4_readSum [.ref y0, .int y1, .int y2] u (fun a w => a = none ∧ w = u')) ∧ (∀ (y0 : Nat) (y1 : Int32) (u : xH) (q : Unit) (u' : xH), (G_X4_readSum n).2 y0 y1 u = some (q, u') → Gm Γ l d 0 0 m_X4_readAtom [.ref y0, .int y1] u (fun a w => a = none ∧ w = u')) := by
  intro n
  induction n with
  | zero => intro d hd; exact ⟨(fun _ _ _ _ _ _ hF => by cases (show (none : Option (Unit × xH)) = some _ from hF)), (fun _ _ _ _ _ hF => by cases (show (none : Option (Unit × xH)) = some _ from hF))⟩
  | succ n ih =>
  intro d hd
  have H := ih (d - 1) (by omega)
  exact ⟨(fun y0 y1 y2 u q u' hF => R_X4_readSum (H.2) (H.1) y0 y1 y2 u (by omega) hF), (fun y0 y1 u q u' hF => R_X4_readAtom (H.1) y0 y1 u (by omega) hF)⟩
theorem RC_X4_readSum {Γ : xG} {l : Launch} {d : Nat} {q : Unit} {u' : xH} (n : Nat) (y0 : Nat) (y1 : Int32) (y2 : Int32) (u : xH) (hd : 9 + n ≤ d) (hF : C_X4_readSum n y0 y1 y2 u = some (q, u')) : Gm Γ l d 0 0 m_X4_readSum [.ref y0, .int y1, .int y2] u (fun a w => a = none ∧ w = u') := (RG_X4_readSum n d hd).1 y0 y1 y2 u q u' hF
theorem RC_X4_readAtom {Γ : xG} {l : Launch} {d : Nat} {q : Unit} {u' : xH} (n : Nat) (y0 : Nat) (y1 : Int32) (u : xH) (hd : 9 + n ≤ d) (hF : C_X4_readAtom n y0 y1 u = some (q, u')) : Gm Γ l d 0 0 m_X4_readAtom [.ref y0, .int y1] u (fun a w => a = none ∧ w = u') := (RG_X4_readSum n d hd).2 y0 y1 u q u' hF
theorem d_X4_comparison_0 : decode cX4_comparison 0 = .ok (.aload_n 0, 1) := by decide +kernel
theorem d_X4_comparison_1 : decode cX4_comparison 1 = .ok (.ldc 252, 2) := by decide +kernel
theorem d_X4_comparison_3 : decode cX4_comparison 3 = .ok (.invokevirtual 102, 3) := by decide +kernel
theorem d_X4_comparison_6 : decode cX4_comparison 6 = .ok (.ifCond .eq 7, 3) := by decide +kernel
theorem d_X4_comparison_9 : decode cX4_comparison 9 = .ok (.sipush 2003, 3) := by decide +kernel
theorem d_X4_comparison_12 : decode cX4_comparison 12 = .ok (.ireturn, 1) := by decide +kernel
theorem d_X4_comparison_13 : decode cX4_comparison 13 = .ok (.aload_n 0, 1) := by decide +kernel
theorem d_X4_comparison_14 : decode cX4_comparison 14 = .ok (.ldc 254, 2) := by decide +kernel
theorem d_X4_comparison_16 : decode cX4_comparison 16 = .ok (.invokevirtual 102, 3) := by decide +kernel
theorem d_X4_comparison_19 : decode cX4_comparison 19 = .ok (.ifCond .eq 7, 3) := by decide +kernel
theorem d_X4_comparison_22 : decode cX4_comparison 22 = .ok (.sipush 2004, 3) := by decide +kernel
theorem d_X4_comparison_25 : decode cX4_comparison 25 = .ok (.ireturn, 1) := by decide +kernel
theorem d_X4_comparison_26 : decode cX4_comparison 26 = .ok (.aload_n 0, 1) := by decide +kernel
theorem d_X4_comparison_27 : decode cX4_comparison 27 = .ok (.ldc_w 256, 3) := by decide +kernel
theorem d_X4_comparison_30 : decode cX4_comparison 30 = .ok (.invokevirtual 102, 3) := by decide +kernel
theorem d_X4_comparison_33 : decode cX4_comparison 33 = .ok (.ifCond .eq 9, 3) := by decide +kernel
theorem d_X4_comparison_36 : decode cX4_comparison 36 = .ok (.sipush 2005, 3) := by decide +kernel
theorem d_X4_comparison_39 : decode cX4_comparison 39 = .ok (.goto 4, 3) := by decide +kernel
theorem d_X4_comparison_42 : decode cX4_comparison 42 = .ok (.iconst (-1), 1) := by decide +kernel
theorem d_X4_comparison_43 : decode cX4_comparison 43 = .ok (.ireturn, 1) := by decide +kernel
def F_X4_comparison (x0 : Nat) (h : xH) : Option (Int32 × xH) := (rc h x0 3).bind fun _ => (F_X4_isAt x0 52 h).bind fun z3 => if z3.1 = 0 then (rc z3.2 x0 3).bind fun _ => (F_X4_isAt x0 54 z3.2).bind fun z16 => if z16.1 = 0 then (rc z16.2 x0 3).bind fun _ => (F_X4_isAt x0 56 z16.2).bind fun z30 => if z30.1 = 0 then some ((-1), z30.2) else some (2005, z30.2) else some (2004, z16.2) else some (2003, z3.2)
theorem R_X4_comparison {Γ : xG} {l : Launch} {d : Nat} {r : Int32} {h' : xH} (x0 : Nat) (h : xH) (hdp : 6 ≤ d) (hF : F_X4_comparison x0 h = some (r, h')) : Gm Γ l d 0 0 m_X4_comparison [.ref x0] h (fun a u => a = some (.int r) ∧ u = h') := by
  refine Gm.of pn_X4 (Nat.le_of_ble_eq_true rfl) ?_
  show Gd Γ l d m_X4_comparison 0 [.ref x0] [] h 0 0 _
  generalize hQ : (fun (a : Option Value) (u : xH) => a = some (.int r) ∧ u = h') = Q
  have hq : Q (some (.int r)) h' := by rw [← hQ]; exact ⟨rfl, rfl⟩
  clear hQ
  unfold F_X4_comparison at hF
  refine g_aloadn d_X4_comparison_0 rfl ?_
  refine g_ldcS (i := 26) d_X4_comparison_1 rfl ?_
  obtain ⟨_, g3, hF⟩ := Option.bind_eq_some_iff.mp hF
  obtain ⟨⟨r3, h3⟩, e3, hF⟩ := Option.bind_eq_some_iff.mp hF
  try dsimp only at hF
  refine q_callV [.ref 52] [] rfl d_X4_comparison_3 v_X4_102 (by omega) rfl (Nat.le_of_ble_eq_true rfl) (rc_rc g3 (by decide) rfl) (R_X4_isAt _ _ _ (by omega) e3) ?_
  refine g_if_eq 13 d_X4_comparison_6 rfl (fun c6 => ?_) (fun c6 => ?_)
  · have hF := x_t hF c6
    refine g_aloadn d_X4_comparison_13 rfl ?_
    refine g_ldcS (i := 27) d_X4_comparison_14 rfl ?_
    obtain ⟨_, g16, hF⟩ := Option.bind_eq_some_iff.mp hF
    obtain ⟨⟨r16, h16⟩, e16, hF⟩ := Option.bind_eq_some_iff.mp hF
    try dsimp only at hF
    refine q_callV [.ref 54] [] rfl d_X4_comparison_16 v_X4_102 (by omega) rfl (Nat.le_of_ble_eq_true rfl) (rc_rc g16 (by decide) rfl) (R_X4_isAt _ _ _ (by omega) e16) ?_
    refine g_if_eq 26 d_X4_comparison_19 rfl (fun c19 => ?_) (fun c19 => ?_)
    · have hF := x_t hF c19
      refine g_aloadn d_X4_comparison_26 rfl ?_
      refine g_ldcwS (i := 28) d_X4_comparison_27 rfl ?_
      obtain ⟨_, g30, hF⟩ := Option.bind_eq_some_iff.mp hF
      obtain ⟨⟨r30, h30⟩, e30, hF⟩ := Option.bind_eq_some_iff.mp hF
      try dsimp only at hF
      refine q_callV [.ref 56] [] rfl d_X4_comparison_30 v_X4_102 (by omega) rfl (Nat.le_of_ble_eq_true rfl) (rc_rc g30 (by decide) rfl) (R_X4_isAt _ _ _ (by omega) e30) ?_
      refine g_if_eq 42 d_X4_comparison_33 rfl (fun c33 => ?_) (fun c33 => ?_)
      · have hF := x_t hF c33
        refine g_ic (-1) d_X4_comparison_42 ic_m1 ?_
        obtain ⟨rfl, rfl⟩ := x_inj hF
        exact g_iret d_X4_comparison_43 rfl hq
      · have hF := x_f hF c33
        refine g_si (2005) d_X4_comparison_36 si_2005 ?_
        refine g_goto 43 d_X4_comparison_39 rfl ?_
        obtain ⟨rfl, rfl⟩ := x_inj hF
        exact g_iret d_X4_comparison_43 rfl hq
    · have hF := x_f hF c19
      refine g_si (2004) d_X4_comparison_22 si_2004 ?_
      obtain ⟨rfl, rfl⟩ := x_inj hF
      exact g_iret d_X4_comparison_25 rfl hq
  · have hF := x_f hF c6
    refine g_si (2003) d_X4_comparison_9 si_2003 ?_
    obtain ⟨rfl, rfl⟩ := x_inj hF
    exact g_iret d_X4_comparison_12 rfl hq
theorem d_X4_readTruth_0 : decode cX4_readTruth 0 = .ok (.iload_n 2, 1) := by decide +kernel
theorem d_X4_readTruth_1 : decode cX4_readTruth 1 = .ok (.iconst 1, 1) := by decide +kernel
theorem d_X4_readTruth_2 : decode cX4_readTruth 2 = .ok (.if_icmp .le 9, 3) := by decide +kernel
theorem d_X4_readTruth_5 : decode cX4_readTruth 5 = .ok (.aload_n 0, 1) := by decide +kernel
theorem d_X4_readTruth_6 : decode cX4_readTruth 6 = .ok (.iload_n 1, 1) := by decide +kernel
theorem d_X4_readTruth_7 : decode cX4_readTruth 7 = .ok (.invokevirtual 230, 3) := by decide +kernel
theorem d_X4_readTruth_10 : decode cX4_readTruth 10 = .ok (.return_, 1) := by decide +kernel
theorem d_X4_readTruth_11 : decode cX4_readTruth 11 = .ok (.iload_n 2, 1) := by decide +kernel
theorem d_X4_readTruth_12 : decode cX4_readTruth 12 = .ok (.ifCond .ne 8, 3) := by decide +kernel
theorem d_X4_readTruth_15 : decode cX4_readTruth 15 = .ok (.ldc 233, 2) := by decide +kernel
theorem d_X4_readTruth_17 : decode cX4_readTruth 17 = .ok (.goto 5, 3) := by decide +kernel
theorem d_X4_readTruth_20 : decode cX4_readTruth 20 = .ok (.ldc 235, 2) := by decide +kernel
theorem d_X4_readTruth_22 : decode cX4_readTruth 22 = .ok (.astore_n 3, 1) := by decide +kernel
theorem d_X4_readTruth_23 : decode cX4_readTruth 23 = .ok (.aload_n 0, 1) := by decide +kernel
theorem d_X4_readTruth_24 : decode cX4_readTruth 24 = .ok (.iload_n 1, 1) := by decide +kernel
theorem d_X4_readTruth_25 : decode cX4_readTruth 25 = .ok (.iload_n 2, 1) := by decide +kernel
theorem d_X4_readTruth_26 : decode cX4_readTruth 26 = .ok (.iconst 1, 1) := by decide +kernel
theorem d_X4_readTruth_27 : decode cX4_readTruth 27 = .ok (.iadd, 1) := by decide +kernel
theorem d_X4_readTruth_28 : decode cX4_readTruth 28 = .ok (.invokevirtual 149, 3) := by decide +kernel
theorem d_X4_readTruth_31 : decode cX4_readTruth 31 = .ok (.iconst 0, 1) := by decide +kernel
theorem d_X4_readTruth_32 : decode cX4_readTruth 32 = .ok (.istore 4, 2) := by decide +kernel
theorem d_X4_readTruth_34 : decode cX4_readTruth 34 = .ok (.iload 4, 2) := by decide +kernel
theorem d_X4_readTruth_36 : decode cX4_readTruth 36 = .ok (.aload_n 0, 1) := by decide +kernel
theorem d_X4_readTruth_37 : decode cX4_readTruth 37 = .ok (.getfield 26, 3) := by decide +kernel
theorem d_X4_readTruth_40 : decode cX4_readTruth 40 = .ok (.if_icmp .ge 53, 3) := by decide +kernel
theorem d_X4_readTruth_43 : decode cX4_readTruth 43 = .ok (.aload_n 0, 1) := by decide +kernel
theorem d_X4_readTruth_44 : decode cX4_readTruth 44 = .ok (.getfield 52, 3) := by decide +kernel
theorem d_X4_readTruth_47 : decode cX4_readTruth 47 = .ok (.ifCond .ne 46, 3) := by decide +kernel
theorem d_X4_readTruth_50 : decode cX4_readTruth 50 = .ok (.aload_n 0, 1) := by decide +kernel
theorem d_X4_readTruth_51 : decode cX4_readTruth 51 = .ok (.aload_n 3, 1) := by decide +kernel
theorem d_X4_readTruth_52 : decode cX4_readTruth 52 = .ok (.invokevirtual 102, 3) := by decide +kernel
theorem d_X4_readTruth_55 : decode cX4_readTruth 55 = .ok (.ifCond .eq 38, 3) := by decide +kernel
theorem d_X4_readTruth_58 : decode cX4_readTruth 58 = .ok (.aload_n 0, 1) := by decide +kernel
theorem d_X4_readTruth_59 : decode cX4_readTruth 59 = .ok (.invokevirtual 64, 3) := by decide +kernel
theorem d_X4_readTruth_62 : decode cX4_readTruth 62 = .ok (.aload_n 0, 1) := by decide +kernel
theorem d_X4_readTruth_63 : decode cX4_readTruth 63 = .ok (.iload_n 1, 1) := by decide +kernel
theorem d_X4_readTruth_64 : decode cX4_readTruth 64 = .ok (.iload_n 2, 1) := by decide +kernel
theorem d_X4_readTruth_65 : decode cX4_readTruth 65 = .ok (.iconst 1, 1) := by decide +kernel
theorem d_X4_readTruth_66 : decode cX4_readTruth 66 = .ok (.iadd, 1) := by decide +kernel
theorem d_X4_readTruth_67 : decode cX4_readTruth 67 = .ok (.invokevirtual 149, 3) := by decide +kernel
theorem d_X4_readTruth_70 : decode cX4_readTruth 70 = .ok (.aload_n 0, 1) := by decide +kernel
theorem d_X4_readTruth_71 : decode cX4_readTruth 71 = .ok (.iload_n 2, 1) := by decide +kernel
theorem d_X4_readTruth_72 : decode cX4_readTruth 72 = .ok (.ifCond .ne 9, 3) := by decide +kernel
theorem d_X4_readTruth_75 : decode cX4_readTruth 75 = .ok (.sipush 2002, 3) := by decide +kernel
theorem d_X4_readTruth_78 : decode cX4_readTruth 78 = .ok (.goto 6, 3) := by decide +kernel
theorem d_X4_readTruth_81 : decode cX4_readTruth 81 = .ok (.sipush 2001, 3) := by decide +kernel
theorem d_X4_readTruth_84 : decode cX4_readTruth 84 = .ok (.invokevirtual 237, 3) := by decide +kernel
theorem d_X4_readTruth_87 : decode cX4_readTruth 87 = .ok (.iinc 4 1, 3) := by decide +kernel
theorem d_X4_readTruth_90 : decode cX4_readTruth 90 = .ok (.goto (-56), 3) := by decide +kernel
theorem d_X4_readTruth_93 : decode cX4_readTruth 93 = .ok (.return_, 1) := by decide +kernel
def F_X4_readTruth_b84 (f_X4_readUnit : Nat → Int32 → xH → Option (Unit × xH)) (f_X4_readTruth : Nat → Int32 → Int32 → xH → Option (Unit × xH)) (k34 : Nat → Int32 → Int32 → Nat → Int32 → xH → Option (Unit × xH)) (x0 : Nat) (x1 : Int32) (x2 : Int32) (x3 : Nat) (x4 : Int32) (s0 : Nat) (s1 : Int32) (h : xH) : Option (Unit × xH) := (rc h s0 3).bind fun _ => (F_X4_emit s0 s1 h).bind fun z84 => k34 x0 x1 x2 x3 (x4 + 1) z84.2
theorem R_X4_readTruth_b84 {Γ : xG} {l : Launch} {d : Nat} {Q : Option Value → xH → Prop} {r : Unit} {h' : xH} {f_X4_readUnit : Nat → Int32 → xH → Option (Unit × xH)} {f_X4_readTruth : Nat → Int32 → Int32 → xH → Option (Unit × xH)} {k34 : Nat → Int32 → Int32 → Nat → Int32 → xH → Option (Unit × xH)} (K_X4_readUnit : ∀ (y0 : Nat) (y1 : Int32) (u : xH) (q : Unit) (u' : xH), f_X4_readUnit y0 y1 u = some (q, u') → Gm Γ l (d - 1) 0 0 m_X4_readUnit [.ref y0, .int y1] u (fun a w => a = none ∧ w = u')) (K_X4_readTruth : ∀ (y0 : Nat) (y1 : Int32) (y2 : Int32) (u : xH) (q : Unit) (u' : xH), f_X4_readTruth y0 y1 y2 u = some (q, u') → Gm Γ l (d - 1) 0 0 m_X4_readTruth [.ref y0, .int y1, .int y2] u (fun a w => a = none ∧ w = u')) (K34 : ∀ (x0 : Nat) (x1 : Int32) (x2 : Int32) (x3 : Nat) (x4 : Int32)  (h : xH), k34 x0 x1 x2 x3 x4 h = some (r, h') → Gd Γ l d m_X4_readTruth 34 [.ref x0, .int x1, .int x2, .ref x3, .int x4] [] h 0 0 Q) (hdp : 8 ≤ d) (hq : Q (none) h') : ∀ (x0 : Nat) (x1 : Int32) (x2 : Int32) (x3 : Nat) (x4 : Int32) (s0 : Nat) (s1 : Int32) (h : xH), F_X4_readTruth_b84 f_X4_readUnit f_X4_readTruth k34 x0 x1 x2 x3 x4 s0 s1 h = some (r, h') → Gd Γ l d m_X4_readTruth 84 [.ref x0, .int x1, .int x2, .ref x3, .int x4] [.int s1, .ref s0] h 0 0 Q := by
  intro x0 x1 x2 x3 x4 s0 s1 h hF
  unfold F_X4_readTruth_b84 at hF
  obtain ⟨_, g84, hF⟩ := Option.bind_eq_some_iff.mp hF
  obtain ⟨⟨r84, h84⟩, e84, hF⟩ := Option.bind_eq_some_iff.mp hF
  try dsimp only at hF
  refine q_callV [.int s1] [] rfl d_X4_readTruth_84 v_X4_237 (by omega) rfl (Nat.le_of_ble_eq_true rfl) (rc_rc g84 (by decide) rfl) (R_X4_emit _ _ _ (by omega) e84) ?_
  refine q_iinc (1) [.ref x0, .int x1, .int x2, .ref x3, .int (x4 + 1)] d_X4_readTruth_87 ic_1 rfl (by decide) rfl ?_
  refine g_goto 34 d_X4_readTruth_90 rfl ?_
  exact q_to (xs_r (xs_r (xs_r (xs_r (xs_r xs_n))))) (K34 _ _ _ _ _ _ hF)
def F_X4_readTruth_b34 (f_X4_readUnit : Nat → Int32 → xH → Option (Unit × xH)) (f_X4_readTruth : Nat → Int32 → Int32 → xH → Option (Unit × xH)) : Nat → Nat → Int32 → Int32 → Nat → Int32 → xH → Option (Unit × xH)
  | 0, _, _, _, _, _, _ => none
  | n + 1, x0, x1, x2, x3, x4, h => (fI h x0 3 4).bind fun v37 => if v37 ≤ x4 then some ((), h) else (fI h x0 3 11).bind fun v44 => if ¬ v44 = 0 then some ((), h) else (rc h x0 3).bind fun _ => (F_X4_isAt x0 x3 h).bind fun z52 => if z52.1 = 0 then some ((), z52.2) else (rc z52.2 x0 3).bind fun _ => (F_X4_advance x0 z52.2).bind fun z59 => (rc z59.2 x0 3).bind fun _ => (f_X4_readTruth x0 x1 (x2 + 1) z59.2).bind fun z67 => if ¬ x2 = 0 then F_X4_readTruth_b84 f_X4_readUnit f_X4_readTruth (F_X4_readTruth_b34 f_X4_readUnit f_X4_readTruth n) x0 x1 x2 x3 x4 x0 2001 z67.2 else F_X4_readTruth_b84 f_X4_readUnit f_X4_readTruth (F_X4_readTruth_b34 f_X4_readUnit f_X4_readTruth n) x0 x1 x2 x3 x4 x0 2002 z67.2
theorem R_X4_readTruth_b34 {Γ : xG} {l : Launch} {d : Nat} {Q : Option Value → xH → Prop} {r : Unit} {h' : xH} {f_X4_readUnit : Nat → Int32 → xH → Option (Unit × xH)} {f_X4_readTruth : Nat → Int32 → Int32 → xH → Option (Unit × xH)} (K_X4_readUnit : ∀ (y0 : Nat) (y1 : Int32) (u : xH) (q : Unit) (u' : xH), f_X4_readUnit y0 y1 u = some (q, u') → Gm Γ l (d - 1) 0 0 m_X4_readUnit [.ref y0, .int y1] u (fun a w => a = none ∧ w = u')) (K_X4_readTruth : ∀ (y0 : Nat) (y1 : Int32) (y2 : Int32) (u : xH) (q : Unit) (u' : xH), f_X4_readTruth y0 y1 y2 u = some (q, u') → Gm Γ l (d - 1) 0 0 m_X4_readTruth [.ref y0, .int y1, .int y2] u (fun a w => a = none ∧ w = u')) (hdp : 8 ≤ d) (hq : Q (none) h') : ∀ (n : Nat) (x0 : Nat) (x1 : Int32) (x2 : Int32) (x3 : Nat) (x4 : Int32) (h : xH), F_X4_readTruth_b34 f_X4_readUnit f_X4_readTruth n x0 x1 x2 x3 x4 h = some (r, h') → Gd Γ l d m_X4_readTruth 34 [.ref x0, .int x1, .int x2, .ref x3, .int x4] [] h 0 0 Q := by
  intro n
  induction n with
  | zero => intro x0 x1 x2 x3 x4 h hF; cases hF
  | succ n ih =>
  intro x0 x1 x2 x3 x4 h hF
  rw [F_X4_readTruth_b34] at hF
  refine g_iload d_X4_readTruth_34 rfl ?_
  refine g_aloadn d_X4_readTruth_36 rfl ?_
  obtain ⟨v37, e37, hF⟩ := Option.bind_eq_some_iff.mp hF
  refine q_fI d_X4_readTruth_37 f_X4_26 e37 ?_
  refine g_icmp_ge 93 d_X4_readTruth_40 rfl (fun c40 => ?_) (fun c40 => ?_)
  · have hF := x_t hF c40
    obtain ⟨rfl, rfl⟩ := x_inj hF
    exact g_vret d_X4_readTruth_93 rfl hq
  · have hF := x_f hF c40
    refine g_aloadn d_X4_readTruth_43 rfl ?_
    obtain ⟨v44, e44, hF⟩ := Option.bind_eq_some_iff.mp hF
    refine q_fI d_X4_readTruth_44 f_X4_52 e44 ?_
    refine g_if_ne 93 d_X4_readTruth_47 rfl (fun c47 => ?_) (fun c47 => ?_)
    · have hF := x_t hF c47
      obtain ⟨rfl, rfl⟩ := x_inj hF
      exact g_vret d_X4_readTruth_93 rfl hq
    · have hF := x_f hF (not_not_intro c47)
      refine g_aloadn d_X4_readTruth_50 rfl ?_
      refine g_aloadn d_X4_readTruth_51 rfl ?_
      obtain ⟨_, g52, hF⟩ := Option.bind_eq_some_iff.mp hF
      obtain ⟨⟨r52, h52⟩, e52, hF⟩ := Option.bind_eq_some_iff.mp hF
      try dsimp only at hF
      refine q_callV [.ref x3] [] rfl d_X4_readTruth_52 v_X4_102 (by omega) rfl (Nat.le_of_ble_eq_true rfl) (rc_rc g52 (by decide) rfl) (R_X4_isAt _ _ _ (by omega) e52) ?_
      refine g_if_eq 93 d_X4_readTruth_55 rfl (fun c55 => ?_) (fun c55 => ?_)
      · have hF := x_t hF c55
        obtain ⟨rfl, rfl⟩ := x_inj hF
        exact g_vret d_X4_readTruth_93 rfl hq
      · have hF := x_f hF c55
        refine g_aloadn d_X4_readTruth_58 rfl ?_
        obtain ⟨_, g59, hF⟩ := Option.bind_eq_some_iff.mp hF
        obtain ⟨⟨r59, h59⟩, e59, hF⟩ := Option.bind_eq_some_iff.mp hF
        try dsimp only at hF
        refine q_callV [] [] rfl d_X4_readTruth_59 v_X4_64 (by omega) rfl (Nat.le_of_ble_eq_true rfl) (rc_rc g59 (by decide) rfl) (R_X4_advance _ _ (by omega) e59) ?_
        refine g_aloadn d_X4_readTruth_62 rfl ?_
        refine g_iloadn d_X4_readTruth_63 rfl ?_
        refine g_iloadn d_X4_readTruth_64 rfl ?_
        refine g_ic (1) d_X4_readTruth_65 ic_1 ?_
        refine g_iadd d_X4_readTruth_66 ?_
        obtain ⟨_, g67, hF⟩ := Option.bind_eq_some_iff.mp hF
        obtain ⟨⟨r67, h67⟩, e67, hF⟩ := Option.bind_eq_some_iff.mp hF
        try dsimp only at hF
        refine q_callV [.int x1, .int (x2 + 1)] [] rfl d_X4_readTruth_67 v_X4_149 (by omega) rfl (Nat.le_of_ble_eq_true rfl) (rc_rc g67 (by decide) rfl) (K_X4_readTruth _ _ _ _ _ _ e67) ?_
        refine g_aloadn d_X4_readTruth_70 rfl ?_
        refine g_iloadn d_X4_readTruth_71 rfl ?_
        refine g_if_ne 81 d_X4_readTruth_72 rfl (fun c72 => ?_) (fun c72 => ?_)
        · have hF := x_t hF c72
          refine g_si (2001) d_X4_readTruth_81 si_2001 ?_
          exact q_to (xs_r (xs_r (xs_r (xs_r (xs_r xs_n))))) (R_X4_readTruth_b84 K_X4_readUnit K_X4_readTruth ih hdp hq _ _ _ _ _ _ _ _ hF)
        · have hF := x_f hF (not_not_intro c72)
          refine g_si (2002) d_X4_readTruth_75 si_2002 ?_
          refine g_goto 84 d_X4_readTruth_78 rfl ?_
          exact q_to (xs_r (xs_r (xs_r (xs_r (xs_r xs_n))))) (R_X4_readTruth_b84 K_X4_readUnit K_X4_readTruth ih hdp hq _ _ _ _ _ _ _ _ hF)
def F_X4_readTruth_b22 (f_X4_readUnit : Nat → Int32 → xH → Option (Unit × xH)) (f_X4_readTruth : Nat → Int32 → Int32 → xH → Option (Unit × xH)) (x0 : Nat) (x1 : Int32) (x2 : Int32) (s0 : Nat) (h : xH) : Option (Unit × xH) := (rc h x0 3).bind fun _ => (f_X4_readTruth x0 x1 (x2 + 1) h).bind fun z28 => F_X4_readTruth_b34 f_X4_readUnit f_X4_readTruth FU x0 x1 x2 s0 0 z28.2
theorem R_X4_readTruth_b22 {Γ : xG} {l : Launch} {d : Nat} {Q : Option Value → xH → Prop} {r : Unit} {h' : xH} {f_X4_readUnit : Nat → Int32 → xH → Option (Unit × xH)} {f_X4_readTruth : Nat → Int32 → Int32 → xH → Option (Unit × xH)} (K_X4_readUnit : ∀ (y0 : Nat) (y1 : Int32) (u : xH) (q : Unit) (u' : xH), f_X4_readUnit y0 y1 u = some (q, u') → Gm Γ l (d - 1) 0 0 m_X4_readUnit [.ref y0, .int y1] u (fun a w => a = none ∧ w = u')) (K_X4_readTruth : ∀ (y0 : Nat) (y1 : Int32) (y2 : Int32) (u : xH) (q : Unit) (u' : xH), f_X4_readTruth y0 y1 y2 u = some (q, u') → Gm Γ l (d - 1) 0 0 m_X4_readTruth [.ref y0, .int y1, .int y2] u (fun a w => a = none ∧ w = u')) (hdp : 8 ≤ d) (hq : Q (none) h') : ∀ (x0 : Nat) (x1 : Int32) (x2 : Int32) (s0 : Nat) (h : xH), F_X4_readTruth_b22 f_X4_readUnit f_X4_readTruth x0 x1 x2 s0 h = some (r, h') → Gd Γ l d m_X4_readTruth 22 [.ref x0, .int x1, .int x2, xhole, xhole] [.ref s0] h 0 0 Q := by
  intro x0 x1 x2 s0 h hF
  unfold F_X4_readTruth_b22 at hF
  refine q_astoren [.ref x0, .int x1, .int x2, .ref s0, xhole] d_X4_readTruth_22 (by decide) rfl ?_
  refine g_aloadn d_X4_readTruth_23 rfl ?_
  refine g_iloadn d_X4_readTruth_24 rfl ?_
  refine g_iloadn d_X4_readTruth_25 rfl ?_
  refine g_ic (1) d_X4_readTruth_26 ic_1 ?_
  refine g_iadd d_X4_readTruth_27 ?_
  obtain ⟨_, g28, hF⟩ := Option.bind_eq_some_iff.mp hF
  obtain ⟨⟨r28, h28⟩, e28, hF⟩ := Option.bind_eq_some_iff.mp hF
  try dsimp only at hF
  refine q_callV [.int x1, .int (x2 + 1)] [] rfl d_X4_readTruth_28 v_X4_149 (by omega) rfl (Nat.le_of_ble_eq_true rfl) (rc_rc g28 (by decide) rfl) (K_X4_readTruth _ _ _ _ _ _ e28) ?_
  refine g_ic (0) d_X4_readTruth_31 ic_0 ?_
  refine q_istore [.ref x0, .int x1, .int x2, .ref s0, .int 0] d_X4_readTruth_32 (by decide) rfl ?_
  exact q_to (xs_r (xs_r (xs_r (xs_r (xs_r xs_n))))) (R_X4_readTruth_b34 K_X4_readUnit K_X4_readTruth hdp hq FU _ _ _ _ _ _ hF)
def F_X4_readTruth (f_X4_readUnit : Nat → Int32 → xH → Option (Unit × xH)) (f_X4_readTruth : Nat → Int32 → Int32 → xH → Option (Unit × xH)) (x0 : Nat) (x1 : Int32) (x2 : Int32) (h : xH) : Option (Unit × xH) := if x2 ≤ ((1 : Int32)) then if ¬ x2 = 0 then F_X4_readTruth_b22 f_X4_readUnit f_X4_readTruth x0 x1 x2 60 h else F_X4_readTruth_b22 f_X4_readUnit f_X4_readTruth x0 x1 x2 58 h else (rc h x0 3).bind fun _ => (f_X4_readUnit x0 x1 h).bind fun z7 => some ((), z7.2)
theorem R_X4_readTruth {Γ : xG} {l : Launch} {d : Nat} {r : Unit} {h' : xH} {f_X4_readUnit : Nat → Int32 → xH → Option (Unit × xH)} {f_X4_readTruth : Nat → Int32 → Int32 → xH → Option (Unit × xH)} (K_X4_readUnit : ∀ (y0 : Nat) (y1 : Int32) (u : xH) (q : Unit) (u' : xH), f_X4_readUnit y0 y1 u = some (q, u') → Gm Γ l (d - 1) 0 0 m_X4_readUnit [.ref y0, .int y1] u (fun a w => a = none ∧ w = u')) (K_X4_readTruth : ∀ (y0 : Nat) (y1 : Int32) (y2 : Int32) (u : xH) (q : Unit) (u' : xH), f_X4_readTruth y0 y1 y2 u = some (q, u') → Gm Γ l (d - 1) 0 0 m_X4_readTruth [.ref y0, .int y1, .int y2] u (fun a w => a = none ∧ w = u')) (x0 : Nat) (x1 : Int32) (x2 : Int32) (h : xH) (hdp : 8 ≤ d) (hF : F_X4_readTruth f_X4_readUnit f_X4_readTruth x0 x1 x2 h = some (r, h')) : Gm Γ l d 0 0 m_X4_readTruth [.ref x0, .int x1, .int x2] h (fun a u => a = none ∧ u = h') := by
  refine Gm.of pn_X4 (Nat.le_of_ble_eq_true rfl) ?_
  show Gd Γ l d m_X4_readTruth 0 [.ref x0, .int x1, .int x2, xhole, xhole] [] h 0 0 _
  generalize hQ : (fun (a : Option Value) (u : xH) => a = none ∧ u = h') = Q
  have hq : Q (none) h' := by rw [← hQ]; exact ⟨rfl, rfl⟩
  clear hQ
  unfold F_X4_readTruth at hF
  refine g_iloadn d_X4_readTruth_0 rfl ?_
  refine g_ic (1) d_X4_readTruth_1 ic_1 ?_
  refine g_icmp_le 11 d_X4_readTruth_2 rfl (fun c2 => ?_) (fun c2 => ?_)
  · have hF := x_t hF c2
    refine g_iloadn d_X4_readTruth_11 rfl ?_
    refine g_if_ne 20 d_X4_readTruth_12 rfl (fun c12 => ?_) (fun c12 => ?_)
    · have hF := x_t hF c12
      refine g_ldcS (i := 30) d_X4_readTruth_20 rfl ?_
      exact q_to (xs_r (xs_r (xs_r (xs_h (xs_h xs_n))))) (R_X4_readTruth_b22 K_X4_readUnit K_X4_readTruth hdp hq _ _ _ _ _ hF)
    · have hF := x_f hF (not_not_intro c12)
      refine g_ldcS (i := 29) d_X4_readTruth_15 rfl ?_
      refine g_goto 22 d_X4_readTruth_17 rfl ?_
      exact q_to (xs_r (xs_r (xs_r (xs_h (xs_h xs_n))))) (R_X4_readTruth_b22 K_X4_readUnit K_X4_readTruth hdp hq _ _ _ _ _ hF)
  · have hF := x_f hF c2
    refine g_aloadn d_X4_readTruth_5 rfl ?_
    refine g_iloadn d_X4_readTruth_6 rfl ?_
    obtain ⟨_, g7, hF⟩ := Option.bind_eq_some_iff.mp hF
    obtain ⟨⟨r7, h7⟩, e7, hF⟩ := Option.bind_eq_some_iff.mp hF
    try dsimp only at hF
    refine q_callV [.int x1] [] rfl d_X4_readTruth_7 v_X4_230 (by omega) rfl (Nat.le_of_ble_eq_true rfl) (rc_rc g7 (by decide) rfl) (K_X4_readUnit _ _ _ _ _ e7) ?_
    obtain ⟨rfl, rfl⟩ := x_inj hF
    exact g_vret d_X4_readTruth_10 rfl hq
theorem d_X4_readUnit_0 : decode cX4_readUnit 0 = .ok (.aload_n 0, 1) := by decide +kernel
theorem d_X4_readUnit_1 : decode cX4_readUnit 1 = .ok (.ldc 240, 2) := by decide +kernel
theorem d_X4_readUnit_3 : decode cX4_readUnit 3 = .ok (.invokevirtual 102, 3) := by decide +kernel
theorem d_X4_readUnit_6 : decode cX4_readUnit 6 = .ok (.ifCond .ne 12, 3) := by decide +kernel
theorem d_X4_readUnit_9 : decode cX4_readUnit 9 = .ok (.aload_n 0, 1) := by decide +kernel
theorem d_X4_readUnit_10 : decode cX4_readUnit 10 = .ok (.ldc 242, 2) := by decide +kernel
theorem d_X4_readUnit_12 : decode cX4_readUnit 12 = .ok (.invokevirtual 102, 3) := by decide +kernel
theorem d_X4_readUnit_15 : decode cX4_readUnit 15 = .ok (.ifCond .eq 7, 3) := by decide +kernel
theorem d_X4_readUnit_18 : decode cX4_readUnit 18 = .ok (.iconst 1, 1) := by decide +kernel
theorem d_X4_readUnit_19 : decode cX4_readUnit 19 = .ok (.goto 4, 3) := by decide +kernel
theorem d_X4_readUnit_22 : decode cX4_readUnit 22 = .ok (.iconst 0, 1) := by decide +kernel
theorem d_X4_readUnit_23 : decode cX4_readUnit 23 = .ok (.istore_n 2, 1) := by decide +kernel
theorem d_X4_readUnit_24 : decode cX4_readUnit 24 = .ok (.iload_n 2, 1) := by decide +kernel
theorem d_X4_readUnit_25 : decode cX4_readUnit 25 = .ok (.ifCond .eq 14, 3) := by decide +kernel
theorem d_X4_readUnit_28 : decode cX4_readUnit 28 = .ok (.iload_n 1, 1) := by decide +kernel
theorem d_X4_readUnit_29 : decode cX4_readUnit 29 = .ok (.bipush 6, 2) := by decide +kernel
theorem d_X4_readUnit_31 : decode cX4_readUnit 31 = .ok (.if_icmp .lt 8, 3) := by decide +kernel
theorem d_X4_readUnit_34 : decode cX4_readUnit 34 = .ok (.aload_n 0, 1) := by decide +kernel
theorem d_X4_readUnit_35 : decode cX4_readUnit 35 = .ok (.iconst 4, 1) := by decide +kernel
theorem d_X4_readUnit_36 : decode cX4_readUnit 36 = .ok (.invokevirtual 91, 3) := by decide +kernel
theorem d_X4_readUnit_39 : decode cX4_readUnit 39 = .ok (.aload_n 0, 1) := by decide +kernel
theorem d_X4_readUnit_40 : decode cX4_readUnit 40 = .ok (.getfield 52, 3) := by decide +kernel
theorem d_X4_readUnit_43 : decode cX4_readUnit 43 = .ok (.ifCond .eq 4, 3) := by decide +kernel
theorem d_X4_readUnit_46 : decode cX4_readUnit 46 = .ok (.return_, 1) := by decide +kernel
theorem d_X4_readUnit_47 : decode cX4_readUnit 47 = .ok (.aload_n 0, 1) := by decide +kernel
theorem d_X4_readUnit_48 : decode cX4_readUnit 48 = .ok (.ldc 240, 2) := by decide +kernel
theorem d_X4_readUnit_50 : decode cX4_readUnit 50 = .ok (.invokevirtual 102, 3) := by decide +kernel
theorem d_X4_readUnit_53 : decode cX4_readUnit 53 = .ok (.ifCond .eq 24, 3) := by decide +kernel
theorem d_X4_readUnit_56 : decode cX4_readUnit 56 = .ok (.aload_n 0, 1) := by decide +kernel
theorem d_X4_readUnit_57 : decode cX4_readUnit 57 = .ok (.invokevirtual 64, 3) := by decide +kernel
theorem d_X4_readUnit_60 : decode cX4_readUnit 60 = .ok (.aload_n 0, 1) := by decide +kernel
theorem d_X4_readUnit_61 : decode cX4_readUnit 61 = .ok (.iload_n 1, 1) := by decide +kernel
theorem d_X4_readUnit_62 : decode cX4_readUnit 62 = .ok (.iconst 1, 1) := by decide +kernel
theorem d_X4_readUnit_63 : decode cX4_readUnit 63 = .ok (.iadd, 1) := by decide +kernel
theorem d_X4_readUnit_64 : decode cX4_readUnit 64 = .ok (.invokevirtual 230, 3) := by decide +kernel
theorem d_X4_readUnit_67 : decode cX4_readUnit 67 = .ok (.aload_n 0, 1) := by decide +kernel
theorem d_X4_readUnit_68 : decode cX4_readUnit 68 = .ok (.sipush 2000, 3) := by decide +kernel
theorem d_X4_readUnit_71 : decode cX4_readUnit 71 = .ok (.invokevirtual 237, 3) := by decide +kernel
theorem d_X4_readUnit_74 : decode cX4_readUnit 74 = .ok (.goto 69, 3) := by decide +kernel
theorem d_X4_readUnit_77 : decode cX4_readUnit 77 = .ok (.aload_n 0, 1) := by decide +kernel
theorem d_X4_readUnit_78 : decode cX4_readUnit 78 = .ok (.ldc 242, 2) := by decide +kernel
theorem d_X4_readUnit_80 : decode cX4_readUnit 80 = .ok (.invokevirtual 102, 3) := by decide +kernel
theorem d_X4_readUnit_83 : decode cX4_readUnit 83 = .ok (.ifCond .eq 24, 3) := by decide +kernel
theorem d_X4_readUnit_86 : decode cX4_readUnit 86 = .ok (.aload_n 0, 1) := by decide +kernel
theorem d_X4_readUnit_87 : decode cX4_readUnit 87 = .ok (.invokevirtual 64, 3) := by decide +kernel
theorem d_X4_readUnit_90 : decode cX4_readUnit 90 = .ok (.aload_n 0, 1) := by decide +kernel
theorem d_X4_readUnit_91 : decode cX4_readUnit 91 = .ok (.iload_n 1, 1) := by decide +kernel
theorem d_X4_readUnit_92 : decode cX4_readUnit 92 = .ok (.iconst 1, 1) := by decide +kernel
theorem d_X4_readUnit_93 : decode cX4_readUnit 93 = .ok (.iadd, 1) := by decide +kernel
theorem d_X4_readUnit_94 : decode cX4_readUnit 94 = .ok (.iconst 0, 1) := by decide +kernel
theorem d_X4_readUnit_95 : decode cX4_readUnit 95 = .ok (.invokevirtual 149, 3) := by decide +kernel
theorem d_X4_readUnit_98 : decode cX4_readUnit 98 = .ok (.aload_n 0, 1) := by decide +kernel
theorem d_X4_readUnit_99 : decode cX4_readUnit 99 = .ok (.ldc 244, 2) := by decide +kernel
theorem d_X4_readUnit_101 : decode cX4_readUnit 101 = .ok (.invokevirtual 108, 3) := by decide +kernel
theorem d_X4_readUnit_104 : decode cX4_readUnit 104 = .ok (.goto 39, 3) := by decide +kernel
theorem d_X4_readUnit_107 : decode cX4_readUnit 107 = .ok (.aload_n 0, 1) := by decide +kernel
theorem d_X4_readUnit_108 : decode cX4_readUnit 108 = .ok (.iload_n 1, 1) := by decide +kernel
theorem d_X4_readUnit_109 : decode cX4_readUnit 109 = .ok (.iconst 0, 1) := by decide +kernel
theorem d_X4_readUnit_110 : decode cX4_readUnit 110 = .ok (.invokevirtual 246, 3) := by decide +kernel
theorem d_X4_readUnit_113 : decode cX4_readUnit 113 = .ok (.aload_n 0, 1) := by decide +kernel
theorem d_X4_readUnit_114 : decode cX4_readUnit 114 = .ok (.invokevirtual 249, 3) := by decide +kernel
theorem d_X4_readUnit_117 : decode cX4_readUnit 117 = .ok (.istore_n 3, 1) := by decide +kernel
theorem d_X4_readUnit_118 : decode cX4_readUnit 118 = .ok (.iload_n 3, 1) := by decide +kernel
theorem d_X4_readUnit_119 : decode cX4_readUnit 119 = .ok (.iconst (-1), 1) := by decide +kernel
theorem d_X4_readUnit_120 : decode cX4_readUnit 120 = .ok (.if_icmp .ne 8, 3) := by decide +kernel
theorem d_X4_readUnit_123 : decode cX4_readUnit 123 = .ok (.aload_n 0, 1) := by decide +kernel
theorem d_X4_readUnit_124 : decode cX4_readUnit 124 = .ok (.iconst 2, 1) := by decide +kernel
theorem d_X4_readUnit_125 : decode cX4_readUnit 125 = .ok (.invokevirtual 91, 3) := by decide +kernel
theorem d_X4_readUnit_128 : decode cX4_readUnit 128 = .ok (.aload_n 0, 1) := by decide +kernel
theorem d_X4_readUnit_129 : decode cX4_readUnit 129 = .ok (.invokevirtual 64, 3) := by decide +kernel
theorem d_X4_readUnit_132 : decode cX4_readUnit 132 = .ok (.aload_n 0, 1) := by decide +kernel
theorem d_X4_readUnit_133 : decode cX4_readUnit 133 = .ok (.iload_n 1, 1) := by decide +kernel
theorem d_X4_readUnit_134 : decode cX4_readUnit 134 = .ok (.iconst 0, 1) := by decide +kernel
theorem d_X4_readUnit_135 : decode cX4_readUnit 135 = .ok (.invokevirtual 246, 3) := by decide +kernel
theorem d_X4_readUnit_138 : decode cX4_readUnit 138 = .ok (.aload_n 0, 1) := by decide +kernel
theorem d_X4_readUnit_139 : decode cX4_readUnit 139 = .ok (.iload_n 3, 1) := by decide +kernel
theorem d_X4_readUnit_140 : decode cX4_readUnit 140 = .ok (.invokevirtual 237, 3) := by decide +kernel
theorem d_X4_readUnit_143 : decode cX4_readUnit 143 = .ok (.return_, 1) := by decide +kernel
def F_X4_readUnit_b128 (f_X4_readUnit : Nat → Int32 → xH → Option (Unit × xH)) (f_X4_readTruth : Nat → Int32 → Int32 → xH → Option (Unit × xH)) (x0 : Nat) (x1 : Int32) (x3 : Int32) (h : xH) : Option (Unit × xH) := (rc h x0 3).bind fun _ => (F_X4_advance x0 h).bind fun z129 => (rc z129.2 x0 3).bind fun _ => (C_X4_readSum 100 x0 x1 0 z129.2).bind fun z135 => (rc z135.2 x0 3).bind fun _ => (F_X4_emit x0 x3 z135.2).bind fun z140 => some ((), z140.2)
theorem R_X4_readUnit_b128 {Γ : xG} {l : Launch} {d : Nat} {Q : Option Value → xH → Prop} {r : Unit} {h' : xH} {f_X4_readUnit : Nat → Int32 → xH → Option (Unit × xH)} {f_X4_readTruth : Nat → Int32 → Int32 → xH → Option (Unit × xH)} (K_X4_readUnit : ∀ (y0 : Nat) (y1 : Int32) (u : xH) (q : Unit) (u' : xH), f_X4_readUnit y0 y1 u = some (q, u') → Gm Γ l (d - 1) 0 0 m_X4_readUnit [.ref y0, .int y1] u (fun a w => a = none ∧ w = u')) (K_X4_readTruth : ∀ (y0 : Nat) (y1 : Int32) (y2 : Int32) (u : xH) (q : Unit) (u' : xH), f_X4_readTruth y0 y1 y2 u = some (q, u') → Gm Γ l (d - 1) 0 0 m_X4_readTruth [.ref y0, .int y1, .int y2] u (fun a w => a = none ∧ w = u')) (hdp : 110 ≤ d) (hq : Q (none) h') : ∀ (x0 : Nat) (x1 : Int32) (x3 : Int32) (h : xH), F_X4_readUnit_b128 f_X4_readUnit f_X4_readTruth x0 x1 x3 h = some (r, h') → Gd Γ l d m_X4_readUnit 128 [.ref x0, .int x1, xhole, .int x3] [] h 0 0 Q := by
  intro x0 x1 x3 h hF
  unfold F_X4_readUnit_b128 at hF
  refine g_aloadn d_X4_readUnit_128 rfl ?_
  obtain ⟨_, g129, hF⟩ := Option.bind_eq_some_iff.mp hF
  obtain ⟨⟨r129, h129⟩, e129, hF⟩ := Option.bind_eq_some_iff.mp hF
  try dsimp only at hF
  refine q_callV [] [] rfl d_X4_readUnit_129 v_X4_64 (by omega) rfl (Nat.le_of_ble_eq_true rfl) (rc_rc g129 (by decide) rfl) (R_X4_advance _ _ (by omega) e129) ?_
  refine g_aloadn d_X4_readUnit_132 rfl ?_
  refine g_iloadn d_X4_readUnit_133 rfl ?_
  refine g_ic (0) d_X4_readUnit_134 ic_0 ?_
  obtain ⟨_, g135, hF⟩ := Option.bind_eq_some_iff.mp hF
  obtain ⟨⟨r135, h135⟩, e135, hF⟩ := Option.bind_eq_some_iff.mp hF
  try dsimp only at hF
  refine q_callV [.int x1, .int 0] [] rfl d_X4_readUnit_135 v_X4_246 (by omega) rfl (Nat.le_of_ble_eq_true rfl) (rc_rc g135 (by decide) rfl) (RC_X4_readSum 100 _ _ _ _ (by omega) e135) ?_
  refine g_aloadn d_X4_readUnit_138 rfl ?_
  refine g_iloadn d_X4_readUnit_139 rfl ?_
  obtain ⟨_, g140, hF⟩ := Option.bind_eq_some_iff.mp hF
  obtain ⟨⟨r140, h140⟩, e140, hF⟩ := Option.bind_eq_some_iff.mp hF
  try dsimp only at hF
  refine q_callV [.int x3] [] rfl d_X4_readUnit_140 v_X4_237 (by omega) rfl (Nat.le_of_ble_eq_true rfl) (rc_rc g140 (by decide) rfl) (R_X4_emit _ _ _ (by omega) e140) ?_
  obtain ⟨rfl, rfl⟩ := x_inj hF
  exact g_vret d_X4_readUnit_143 rfl hq
def F_X4_readUnit_b39 (f_X4_readUnit : Nat → Int32 → xH → Option (Unit × xH)) (f_X4_readTruth : Nat → Int32 → Int32 → xH → Option (Unit × xH)) (x0 : Nat) (x1 : Int32) (h : xH) : Option (Unit × xH) := (fI h x0 3 11).bind fun v40 => if v40 = 0 then (rc h x0 3).bind fun _ => (F_X4_isAt x0 26 h).bind fun z50 => if z50.1 = 0 then (rc z50.2 x0 3).bind fun _ => (F_X4_isAt x0 28 z50.2).bind fun z80 => if z80.1 = 0 then (rc z80.2 x0 3).bind fun _ => (C_X4_readSum 100 x0 x1 0 z80.2).bind fun z110 => (rc z110.2 x0 3).bind fun _ => (F_X4_comparison x0 z110.2).bind fun z114 => if ¬ z114.1 = (((-1) : Int32)) then F_X4_readUnit_b128 f_X4_readUnit f_X4_readTruth x0 x1 z114.1 z114.2 else (rc z114.2 x0 3).bind fun _ => (F_X4_fail x0 2 z114.2).bind fun z125 => F_X4_readUnit_b128 f_X4_readUnit f_X4_readTruth x0 x1 z114.1 z125.2 else (rc z80.2 x0 3).bind fun _ => (F_X4_advance x0 z80.2).bind fun z87 => (rc z87.2 x0 3).bind fun _ => (f_X4_readTruth x0 (x1 + 1) 0 z87.2).bind fun z95 => (rc z95.2 x0 3).bind fun _ => (F_X4_pass x0 30 z95.2).bind fun z101 => some ((), z101.2) else (rc z50.2 x0 3).bind fun _ => (F_X4_advance x0 z50.2).bind fun z57 => (rc z57.2 x0 3).bind fun _ => (f_X4_readUnit x0 (x1 + 1) z57.2).bind fun z64 => (rc z64.2 x0 3).bind fun _ => (F_X4_emit x0 2000 z64.2).bind fun z71 => some ((), z71.2) else some ((), h)
theorem R_X4_readUnit_b39 {Γ : xG} {l : Launch} {d : Nat} {Q : Option Value → xH → Prop} {r : Unit} {h' : xH} {f_X4_readUnit : Nat → Int32 → xH → Option (Unit × xH)} {f_X4_readTruth : Nat → Int32 → Int32 → xH → Option (Unit × xH)} (K_X4_readUnit : ∀ (y0 : Nat) (y1 : Int32) (u : xH) (q : Unit) (u' : xH), f_X4_readUnit y0 y1 u = some (q, u') → Gm Γ l (d - 1) 0 0 m_X4_readUnit [.ref y0, .int y1] u (fun a w => a = none ∧ w = u')) (K_X4_readTruth : ∀ (y0 : Nat) (y1 : Int32) (y2 : Int32) (u : xH) (q : Unit) (u' : xH), f_X4_readTruth y0 y1 y2 u = some (q, u') → Gm Γ l (d - 1) 0 0 m_X4_readTruth [.ref y0, .int y1, .int y2] u (fun a w => a = none ∧ w = u')) (hdp : 110 ≤ d) (hq : Q (none) h') : ∀ (x0 : Nat) (x1 : Int32) (h : xH), F_X4_readUnit_b39 f_X4_readUnit f_X4_readTruth x0 x1 h = some (r, h') → Gd Γ l d m_X4_readUnit 39 [.ref x0, .int x1, xhole, xhole] [] h 0 0 Q := by
  intro x0 x1 h hF
  unfold F_X4_readUnit_b39 at hF
  refine g_aloadn d_X4_readUnit_39 rfl ?_
  obtain ⟨v40, e40, hF⟩ := Option.bind_eq_some_iff.mp hF
  refine q_fI d_X4_readUnit_40 f_X4_52 e40 ?_
  refine g_if_eq 47 d_X4_readUnit_43 rfl (fun c43 => ?_) (fun c43 => ?_)
  · have hF := x_t hF c43
    refine g_aloadn d_X4_readUnit_47 rfl ?_
    refine g_ldcS (i := 13) d_X4_readUnit_48 rfl ?_
    obtain ⟨_, g50, hF⟩ := Option.bind_eq_some_iff.mp hF
    obtain ⟨⟨r50, h50⟩, e50, hF⟩ := Option.bind_eq_some_iff.mp hF
    try dsimp only at hF
    refine q_callV [.ref 26] [] rfl d_X4_readUnit_50 v_X4_102 (by omega) rfl (Nat.le_of_ble_eq_true rfl) (rc_rc g50 (by decide) rfl) (R_X4_isAt _ _ _ (by omega) e50) ?_
    refine g_if_eq 77 d_X4_readUnit_53 rfl (fun c53 => ?_) (fun c53 => ?_)
    · have hF := x_t hF c53
      refine g_aloadn d_X4_readUnit_77 rfl ?_
      refine g_ldcS (i := 14) d_X4_readUnit_78 rfl ?_
      obtain ⟨_, g80, hF⟩ := Option.bind_eq_some_iff.mp hF
      obtain ⟨⟨r80, h80⟩, e80, hF⟩ := Option.bind_eq_some_iff.mp hF
      try dsimp only at hF
      refine q_callV [.ref 28] [] rfl d_X4_readUnit_80 v_X4_102 (by omega) rfl (Nat.le_of_ble_eq_true rfl) (rc_rc g80 (by decide) rfl) (R_X4_isAt _ _ _ (by omega) e80) ?_
      refine g_if_eq 107 d_X4_readUnit_83 rfl (fun c83 => ?_) (fun c83 => ?_)
      · have hF := x_t hF c83
        refine g_aloadn d_X4_readUnit_107 rfl ?_
        refine g_iloadn d_X4_readUnit_108 rfl ?_
        refine g_ic (0) d_X4_readUnit_109 ic_0 ?_
        obtain ⟨_, g110, hF⟩ := Option.bind_eq_some_iff.mp hF
        obtain ⟨⟨r110, h110⟩, e110, hF⟩ := Option.bind_eq_some_iff.mp hF
        try dsimp only at hF
        refine q_callV [.int x1, .int 0] [] rfl d_X4_readUnit_110 v_X4_246 (by omega) rfl (Nat.le_of_ble_eq_true rfl) (rc_rc g110 (by decide) rfl) (RC_X4_readSum 100 _ _ _ _ (by omega) e110) ?_
        refine g_aloadn d_X4_readUnit_113 rfl ?_
        obtain ⟨_, g114, hF⟩ := Option.bind_eq_some_iff.mp hF
        obtain ⟨⟨r114, h114⟩, e114, hF⟩ := Option.bind_eq_some_iff.mp hF
        try dsimp only at hF
        refine q_callV [] [] rfl d_X4_readUnit_114 v_X4_249 (by omega) rfl (Nat.le_of_ble_eq_true rfl) (rc_rc g114 (by decide) rfl) (R_X4_comparison _ _ (by omega) e114) ?_
        refine q_istoren [.ref x0, .int x1, xhole, .int (r114)] d_X4_readUnit_117 (by decide) rfl ?_
        refine g_iloadn d_X4_readUnit_118 rfl ?_
        refine g_ic (-1) d_X4_readUnit_119 ic_m1 ?_
        refine g_icmp_ne 128 d_X4_readUnit_120 rfl (fun c120 => ?_) (fun c120 => ?_)
        · have hF := x_t hF c120
          exact q_to (xs_r (xs_r (xs_h (xs_r xs_n)))) (R_X4_readUnit_b128 K_X4_readUnit K_X4_readTruth hdp hq _ _ _ _ hF)
        · have hF := x_f hF (not_not_intro c120)
          refine g_aloadn d_X4_readUnit_123 rfl ?_
          refine g_ic (2) d_X4_readUnit_124 ic_2 ?_
          obtain ⟨_, g125, hF⟩ := Option.bind_eq_some_iff.mp hF
          obtain ⟨⟨r125, h125⟩, e125, hF⟩ := Option.bind_eq_some_iff.mp hF
          try dsimp only at hF
          refine q_callV [.int 2] [] rfl d_X4_readUnit_125 v_X4_91 (by omega) rfl (Nat.le_of_ble_eq_true rfl) (rc_rc g125 (by decide) rfl) (R_X4_fail _ _ _ (by omega) e125) ?_
          exact q_to (xs_r (xs_r (xs_h (xs_r xs_n)))) (R_X4_readUnit_b128 K_X4_readUnit K_X4_readTruth hdp hq _ _ _ _ hF)
      · have hF := x_f hF c83
        refine g_aloadn d_X4_readUnit_86 rfl ?_
        obtain ⟨_, g87, hF⟩ := Option.bind_eq_some_iff.mp hF
        obtain ⟨⟨r87, h87⟩, e87, hF⟩ := Option.bind_eq_some_iff.mp hF
        try dsimp only at hF
        refine q_callV [] [] rfl d_X4_readUnit_87 v_X4_64 (by omega) rfl (Nat.le_of_ble_eq_true rfl) (rc_rc g87 (by decide) rfl) (R_X4_advance _ _ (by omega) e87) ?_
        refine g_aloadn d_X4_readUnit_90 rfl ?_
        refine g_iloadn d_X4_readUnit_91 rfl ?_
        refine g_ic (1) d_X4_readUnit_92 ic_1 ?_
        refine g_iadd d_X4_readUnit_93 ?_
        refine g_ic (0) d_X4_readUnit_94 ic_0 ?_
        obtain ⟨_, g95, hF⟩ := Option.bind_eq_some_iff.mp hF
        obtain ⟨⟨r95, h95⟩, e95, hF⟩ := Option.bind_eq_some_iff.mp hF
        try dsimp only at hF
        refine q_callV [.int (x1 + 1), .int 0] [] rfl d_X4_readUnit_95 v_X4_149 (by omega) rfl (Nat.le_of_ble_eq_true rfl) (rc_rc g95 (by decide) rfl) (K_X4_readTruth _ _ _ _ _ _ e95) ?_
        refine g_aloadn d_X4_readUnit_98 rfl ?_
        refine g_ldcS (i := 15) d_X4_readUnit_99 rfl ?_
        obtain ⟨_, g101, hF⟩ := Option.bind_eq_some_iff.mp hF
        obtain ⟨⟨r101, h101⟩, e101, hF⟩ := Option.bind_eq_some_iff.mp hF
        try dsimp only at hF
        refine q_callV [.ref 30] [] rfl d_X4_readUnit_101 v_X4_108 (by omega) rfl (Nat.le_of_ble_eq_true rfl) (rc_rc g101 (by decide) rfl) (R_X4_pass _ _ _ (by omega) e101) ?_
        refine g_goto 143 d_X4_readUnit_104 rfl ?_
        obtain ⟨rfl, rfl⟩ := x_inj hF
        exact g_vret d_X4_readUnit_143 rfl hq
    · have hF := x_f hF c53
      refine g_aloadn d_X4_readUnit_56 rfl ?_
      obtain ⟨_, g57, hF⟩ := Option.bind_eq_some_iff.mp hF
      obtain ⟨⟨r57, h57⟩, e57, hF⟩ := Option.bind_eq_some_iff.mp hF
      try dsimp only at hF
      refine q_callV [] [] rfl d_X4_readUnit_57 v_X4_64 (by omega) rfl (Nat.le_of_ble_eq_true rfl) (rc_rc g57 (by decide) rfl) (R_X4_advance _ _ (by omega) e57) ?_
      refine g_aloadn d_X4_readUnit_60 rfl ?_
      refine g_iloadn d_X4_readUnit_61 rfl ?_
      refine g_ic (1) d_X4_readUnit_62 ic_1 ?_
      refine g_iadd d_X4_readUnit_63 ?_
      obtain ⟨_, g64, hF⟩ := Option.bind_eq_some_iff.mp hF
      obtain ⟨⟨r64, h64⟩, e64, hF⟩ := Option.bind_eq_some_iff.mp hF
      try dsimp only at hF
      refine q_callV [.int (x1 + 1)] [] rfl d_X4_readUnit_64 v_X4_230 (by omega) rfl (Nat.le_of_ble_eq_true rfl) (rc_rc g64 (by decide) rfl) (K_X4_readUnit _ _ _ _ _ e64) ?_
      refine g_aloadn d_X4_readUnit_67 rfl ?_
      refine g_si (2000) d_X4_readUnit_68 si_2000 ?_
      obtain ⟨_, g71, hF⟩ := Option.bind_eq_some_iff.mp hF
      obtain ⟨⟨r71, h71⟩, e71, hF⟩ := Option.bind_eq_some_iff.mp hF
      try dsimp only at hF
      refine q_callV [.int 2000] [] rfl d_X4_readUnit_71 v_X4_237 (by omega) rfl (Nat.le_of_ble_eq_true rfl) (rc_rc g71 (by decide) rfl) (R_X4_emit _ _ _ (by omega) e71) ?_
      refine g_goto 143 d_X4_readUnit_74 rfl ?_
      obtain ⟨rfl, rfl⟩ := x_inj hF
      exact g_vret d_X4_readUnit_143 rfl hq
  · have hF := x_f hF c43
    obtain ⟨rfl, rfl⟩ := x_inj hF
    exact g_vret d_X4_readUnit_46 rfl hq
def F_X4_readUnit_b23 (f_X4_readUnit : Nat → Int32 → xH → Option (Unit × xH)) (f_X4_readTruth : Nat → Int32 → Int32 → xH → Option (Unit × xH)) (x0 : Nat) (x1 : Int32) (s0 : Int32) (h : xH) : Option (Unit × xH) := if s0 = 0 then F_X4_readUnit_b39 f_X4_readUnit f_X4_readTruth x0 x1 h else if x1 < ((6 : Int32)) then F_X4_readUnit_b39 f_X4_readUnit f_X4_readTruth x0 x1 h else (rc h x0 3).bind fun _ => (F_X4_fail x0 4 h).bind fun z36 => F_X4_readUnit_b39 f_X4_readUnit f_X4_readTruth x0 x1 z36.2
theorem R_X4_readUnit_b23 {Γ : xG} {l : Launch} {d : Nat} {Q : Option Value → xH → Prop} {r : Unit} {h' : xH} {f_X4_readUnit : Nat → Int32 → xH → Option (Unit × xH)} {f_X4_readTruth : Nat → Int32 → Int32 → xH → Option (Unit × xH)} (K_X4_readUnit : ∀ (y0 : Nat) (y1 : Int32) (u : xH) (q : Unit) (u' : xH), f_X4_readUnit y0 y1 u = some (q, u') → Gm Γ l (d - 1) 0 0 m_X4_readUnit [.ref y0, .int y1] u (fun a w => a = none ∧ w = u')) (K_X4_readTruth : ∀ (y0 : Nat) (y1 : Int32) (y2 : Int32) (u : xH) (q : Unit) (u' : xH), f_X4_readTruth y0 y1 y2 u = some (q, u') → Gm Γ l (d - 1) 0 0 m_X4_readTruth [.ref y0, .int y1, .int y2] u (fun a w => a = none ∧ w = u')) (hdp : 110 ≤ d) (hq : Q (none) h') : ∀ (x0 : Nat) (x1 : Int32) (s0 : Int32) (h : xH), F_X4_readUnit_b23 f_X4_readUnit f_X4_readTruth x0 x1 s0 h = some (r, h') → Gd Γ l d m_X4_readUnit 23 [.ref x0, .int x1, xhole, xhole] [.int s0] h 0 0 Q := by
  intro x0 x1 s0 h hF
  unfold F_X4_readUnit_b23 at hF
  refine q_istoren [.ref x0, .int x1, .int s0, xhole] d_X4_readUnit_23 (by decide) rfl ?_
  refine g_iloadn d_X4_readUnit_24 rfl ?_
  refine g_if_eq 39 d_X4_readUnit_25 rfl (fun c25 => ?_) (fun c25 => ?_)
  · have hF := x_t hF c25
    exact q_to (xs_r (xs_r (xs_h (xs_h xs_n)))) (R_X4_readUnit_b39 K_X4_readUnit K_X4_readTruth hdp hq _ _ _ hF)
  · have hF := x_f hF c25
    refine g_iloadn d_X4_readUnit_28 rfl ?_
    refine g_bi (6) d_X4_readUnit_29 bi_6 ?_
    refine g_icmp_lt 39 d_X4_readUnit_31 rfl (fun c31 => ?_) (fun c31 => ?_)
    · have hF := x_t hF c31
      exact q_to (xs_r (xs_r (xs_h (xs_h xs_n)))) (R_X4_readUnit_b39 K_X4_readUnit K_X4_readTruth hdp hq _ _ _ hF)
    · have hF := x_f hF c31
      refine g_aloadn d_X4_readUnit_34 rfl ?_
      refine g_ic (4) d_X4_readUnit_35 ic_4 ?_
      obtain ⟨_, g36, hF⟩ := Option.bind_eq_some_iff.mp hF
      obtain ⟨⟨r36, h36⟩, e36, hF⟩ := Option.bind_eq_some_iff.mp hF
      try dsimp only at hF
      refine q_callV [.int 4] [] rfl d_X4_readUnit_36 v_X4_91 (by omega) rfl (Nat.le_of_ble_eq_true rfl) (rc_rc g36 (by decide) rfl) (R_X4_fail _ _ _ (by omega) e36) ?_
      exact q_to (xs_r (xs_r (xs_h (xs_h xs_n)))) (R_X4_readUnit_b39 K_X4_readUnit K_X4_readTruth hdp hq _ _ _ hF)
def F_X4_readUnit (f_X4_readUnit : Nat → Int32 → xH → Option (Unit × xH)) (f_X4_readTruth : Nat → Int32 → Int32 → xH → Option (Unit × xH)) (x0 : Nat) (x1 : Int32) (h : xH) : Option (Unit × xH) := (rc h x0 3).bind fun _ => (F_X4_isAt x0 26 h).bind fun z3 => if ¬ z3.1 = 0 then F_X4_readUnit_b23 f_X4_readUnit f_X4_readTruth x0 x1 1 z3.2 else (rc z3.2 x0 3).bind fun _ => (F_X4_isAt x0 28 z3.2).bind fun z12 => if z12.1 = 0 then F_X4_readUnit_b23 f_X4_readUnit f_X4_readTruth x0 x1 0 z12.2 else F_X4_readUnit_b23 f_X4_readUnit f_X4_readTruth x0 x1 1 z12.2
theorem R_X4_readUnit {Γ : xG} {l : Launch} {d : Nat} {r : Unit} {h' : xH} {f_X4_readUnit : Nat → Int32 → xH → Option (Unit × xH)} {f_X4_readTruth : Nat → Int32 → Int32 → xH → Option (Unit × xH)} (K_X4_readUnit : ∀ (y0 : Nat) (y1 : Int32) (u : xH) (q : Unit) (u' : xH), f_X4_readUnit y0 y1 u = some (q, u') → Gm Γ l (d - 1) 0 0 m_X4_readUnit [.ref y0, .int y1] u (fun a w => a = none ∧ w = u')) (K_X4_readTruth : ∀ (y0 : Nat) (y1 : Int32) (y2 : Int32) (u : xH) (q : Unit) (u' : xH), f_X4_readTruth y0 y1 y2 u = some (q, u') → Gm Γ l (d - 1) 0 0 m_X4_readTruth [.ref y0, .int y1, .int y2] u (fun a w => a = none ∧ w = u')) (x0 : Nat) (x1 : Int32) (h : xH) (hdp : 110 ≤ d) (hF : F_X4_readUnit f_X4_readUnit f_X4_readTruth x0 x1 h = some (r, h')) : Gm Γ l d 0 0 m_X4_readUnit [.ref x0, .int x1] h (fun a u => a = none ∧ u = h') := by
  refine Gm.of pn_X4 (Nat.le_of_ble_eq_true rfl) ?_
  show Gd Γ l d m_X4_readUnit 0 [.ref x0, .int x1, xhole, xhole] [] h 0 0 _
  generalize hQ : (fun (a : Option Value) (u : xH) => a = none ∧ u = h') = Q
  have hq : Q (none) h' := by rw [← hQ]; exact ⟨rfl, rfl⟩
  clear hQ
  unfold F_X4_readUnit at hF
  refine g_aloadn d_X4_readUnit_0 rfl ?_
  refine g_ldcS (i := 13) d_X4_readUnit_1 rfl ?_
  obtain ⟨_, g3, hF⟩ := Option.bind_eq_some_iff.mp hF
  obtain ⟨⟨r3, h3⟩, e3, hF⟩ := Option.bind_eq_some_iff.mp hF
  try dsimp only at hF
  refine q_callV [.ref 26] [] rfl d_X4_readUnit_3 v_X4_102 (by omega) rfl (Nat.le_of_ble_eq_true rfl) (rc_rc g3 (by decide) rfl) (R_X4_isAt _ _ _ (by omega) e3) ?_
  refine g_if_ne 18 d_X4_readUnit_6 rfl (fun c6 => ?_) (fun c6 => ?_)
  · have hF := x_t hF c6
    refine g_ic (1) d_X4_readUnit_18 ic_1 ?_
    refine g_goto 23 d_X4_readUnit_19 rfl ?_
    exact q_to (xs_r (xs_r (xs_h (xs_h xs_n)))) (R_X4_readUnit_b23 K_X4_readUnit K_X4_readTruth hdp hq _ _ _ _ hF)
  · have hF := x_f hF (not_not_intro c6)
    refine g_aloadn d_X4_readUnit_9 rfl ?_
    refine g_ldcS (i := 14) d_X4_readUnit_10 rfl ?_
    obtain ⟨_, g12, hF⟩ := Option.bind_eq_some_iff.mp hF
    obtain ⟨⟨r12, h12⟩, e12, hF⟩ := Option.bind_eq_some_iff.mp hF
    try dsimp only at hF
    refine q_callV [.ref 28] [] rfl d_X4_readUnit_12 v_X4_102 (by omega) rfl (Nat.le_of_ble_eq_true rfl) (rc_rc g12 (by decide) rfl) (R_X4_isAt _ _ _ (by omega) e12) ?_
    refine g_if_eq 22 d_X4_readUnit_15 rfl (fun c15 => ?_) (fun c15 => ?_)
    · have hF := x_t hF c15
      refine g_ic (0) d_X4_readUnit_22 ic_0 ?_
      exact q_to (xs_r (xs_r (xs_h (xs_h xs_n)))) (R_X4_readUnit_b23 K_X4_readUnit K_X4_readTruth hdp hq _ _ _ _ hF)
    · have hF := x_f hF c15
      refine g_ic (1) d_X4_readUnit_18 ic_1 ?_
      refine g_goto 23 d_X4_readUnit_19 rfl ?_
      exact q_to (xs_r (xs_r (xs_h (xs_h xs_n)))) (R_X4_readUnit_b23 K_X4_readUnit K_X4_readTruth hdp hq _ _ _ _ hF)
def G_X4_readTruth : Nat → (Nat → Int32 → Int32 → xH → Option (Unit × xH)) × (Nat → Int32 → xH → Option (Unit × xH))
  | 0 => ((fun _ _ _ _ => none), (fun _ _ _ => none))
  | n + 1 => ((F_X4_readTruth (G_X4_readTruth n).2 (G_X4_readTruth n).1), (F_X4_readUnit (G_X4_readTruth n).2 (G_X4_readTruth n).1))
def C_X4_readTruth (n : Nat) : Nat → Int32 → Int32 → xH → Option (Unit × xH) := (G_X4_readTruth n).1
def C_X4_readUnit (n : Nat) : Nat → Int32 → xH → Option (Unit × xH) := (G_X4_readTruth n).2
theorem RG_X4_readTruth {Γ : xG} {l : Launch} : ∀ (n d : Nat), 110 + n ≤ d → (∀ (y0 : Nat) (y1 : Int32) (y2 : Int32) (u : xH) (q : Unit) (u' : xH), (G_X4_readTruth n).1 y0 y1 y2 u = some (q, u') → Gm Γ l d 0 0 m_X4_readTruth [.ref y0, .int y1, .int y2] u (fun a w => a = none ∧ w = u')) ∧ (∀ (y0 : Nat) (y1 : Int32) (u : xH) (q : Unit) (u' : xH), (G_X4_readTruth n).2 y0 y1 u = some (q, u') → Gm Γ l d 0 0 m_X4_readUnit [.ref y0, .int y1] u (fun a w => a = none ∧ w = u')) := by
  intro n
  induction n with
  | zero => intro d hd; exact ⟨(fun _ _ _ _ _ _ hF => by cases (show (none : Option (Unit × xH)) = some _ from hF)), (fun _ _ _ _ _ hF => by cases (show (none : Option (Unit × xH)) = some _ from hF))⟩
  | succ n ih =>
  intro d hd
  have H := ih (d - 1) (by omega)
  exact ⟨(fun y0 y1 y2 u q u' hF => R_X4_readTruth (H.2) (H.1) y0 y1 y2 u (by omega) hF), (fun y0 y1 u q u' hF => R_X4_readUnit (H.2) (H.1) y0 y1 u (by omega) hF)⟩
theorem RC_X4_readTruth {Γ : xG} {l : Launch} {d : Nat} {q : Unit} {u' : xH} (n : Nat) (y0 : Nat) (y1 : Int32) (y2 : Int32) (u : xH) (hd : 110 + n ≤ d) (hF : C_X4_readTruth n y0 y1 y2 u = some (q, u')) : Gm Γ l d 0 0 m_X4_readTruth [.ref y0, .int y1, .int y2] u (fun a w => a = none ∧ w = u') := (RG_X4_readTruth n d hd).1 y0 y1 y2 u q u' hF
theorem RC_X4_readUnit {Γ : xG} {l : Launch} {d : Nat} {q : Unit} {u' : xH} (n : Nat) (y0 : Nat) (y1 : Int32) (u : xH) (hd : 110 + n ≤ d) (hF : C_X4_readUnit n y0 y1 u = some (q, u')) : Gm Γ l d 0 0 m_X4_readUnit [.ref y0, .int y1] u (fun a w => a = none ∧ w = u') := (RG_X4_readTruth n d hd).2 y0 y1 u q u' hF
theorem d_X5_noteAt_0 : decode cX5_noteAt 0 = .ok (.iload_n 1, 1) := by decide +kernel
theorem d_X5_noteAt_1 : decode cX5_noteAt 1 = .ok (.ifCond .lt 11, 3) := by decide +kernel
theorem d_X5_noteAt_4 : decode cX5_noteAt 4 = .ok (.iload_n 1, 1) := by decide +kernel
theorem d_X5_noteAt_5 : decode cX5_noteAt 5 = .ok (.aload_n 0, 1) := by decide +kernel
theorem d_X5_noteAt_6 : decode cX5_noteAt 6 = .ok (.getfield 15, 3) := by decide +kernel
theorem d_X5_noteAt_9 : decode cX5_noteAt 9 = .ok (.if_icmp .lt 7, 3) := by decide +kernel
theorem d_X5_noteAt_12 : decode cX5_noteAt 12 = .ok (.iconst (-1), 1) := by decide +kernel
theorem d_X5_noteAt_13 : decode cX5_noteAt 13 = .ok (.goto 9, 3) := by decide +kernel
theorem d_X5_noteAt_16 : decode cX5_noteAt 16 = .ok (.aload_n 0, 1) := by decide +kernel
theorem d_X5_noteAt_17 : decode cX5_noteAt 17 = .ok (.getfield 11, 3) := by decide +kernel
theorem d_X5_noteAt_20 : decode cX5_noteAt 20 = .ok (.iload_n 1, 1) := by decide +kernel
theorem d_X5_noteAt_21 : decode cX5_noteAt 21 = .ok (.iaload, 1) := by decide +kernel
theorem d_X5_noteAt_22 : decode cX5_noteAt 22 = .ok (.ireturn, 1) := by decide +kernel
def F_X5_noteAt (x0 : Nat) (x1 : Int32) (h : xH) : Option (Int32 × xH) := if x1 < 0 then some ((-1), h) else (fI h x0 4 1).bind fun v6 => if x1 < v6 then (fR h x0 4 0).bind fun v17 => (aI h v17 x1).bind fun v21 => some (v21, h) else some ((-1), h)
theorem R_X5_noteAt {Γ : xG} {l : Launch} {d : Nat} {r : Int32} {h' : xH} (x0 : Nat) (x1 : Int32) (h : xH) (hdp : 0 ≤ d) (hF : F_X5_noteAt x0 x1 h = some (r, h')) : Gm Γ l d 0 0 m_X5_noteAt [.ref x0, .int x1] h (fun a u => a = some (.int r) ∧ u = h') := by
  refine Gm.of pn_X5 (Nat.le_of_ble_eq_true rfl) ?_
  show Gd Γ l d m_X5_noteAt 0 [.ref x0, .int x1] [] h 0 0 _
  generalize hQ : (fun (a : Option Value) (u : xH) => a = some (.int r) ∧ u = h') = Q
  have hq : Q (some (.int r)) h' := by rw [← hQ]; exact ⟨rfl, rfl⟩
  clear hQ
  unfold F_X5_noteAt at hF
  refine g_iloadn d_X5_noteAt_0 rfl ?_
  refine g_if_lt 12 d_X5_noteAt_1 rfl (fun c1 => ?_) (fun c1 => ?_)
  · have hF := x_t hF c1
    refine g_ic (-1) d_X5_noteAt_12 ic_m1 ?_
    refine g_goto 22 d_X5_noteAt_13 rfl ?_
    obtain ⟨rfl, rfl⟩ := x_inj hF
    exact g_iret d_X5_noteAt_22 rfl hq
  · have hF := x_f hF c1
    refine g_iloadn d_X5_noteAt_4 rfl ?_
    refine g_aloadn d_X5_noteAt_5 rfl ?_
    obtain ⟨v6, e6, hF⟩ := Option.bind_eq_some_iff.mp hF
    refine q_fI d_X5_noteAt_6 f_X5_15 e6 ?_
    refine g_icmp_lt 16 d_X5_noteAt_9 rfl (fun c9 => ?_) (fun c9 => ?_)
    · have hF := x_t hF c9
      refine g_aloadn d_X5_noteAt_16 rfl ?_
      obtain ⟨v17, e17, hF⟩ := Option.bind_eq_some_iff.mp hF
      refine q_fR d_X5_noteAt_17 f_X5_11 e17 ?_
      refine g_iloadn d_X5_noteAt_20 rfl ?_
      obtain ⟨v21, e21, hF⟩ := Option.bind_eq_some_iff.mp hF
      refine q_aI d_X5_noteAt_21 e21 ?_
      obtain ⟨rfl, rfl⟩ := x_inj hF
      exact g_iret d_X5_noteAt_22 rfl hq
    · have hF := x_f hF c9
      refine g_ic (-1) d_X5_noteAt_12 ic_m1 ?_
      refine g_goto 22 d_X5_noteAt_13 rfl ?_
      obtain ⟨rfl, rfl⟩ := x_inj hF
      exact g_iret d_X5_noteAt_22 rfl hq
theorem d_X5_without_0 : decode cX5_without 0 = .ok (.iload_n 0, 1) := by decide +kernel
theorem d_X5_without_1 : decode cX5_without 1 = .ok (.iconst 1, 1) := by decide +kernel
theorem d_X5_without_2 : decode cX5_without 2 = .ok (.iload_n 1, 1) := by decide +kernel
theorem d_X5_without_3 : decode cX5_without 3 = .ok (.ishl, 1) := by decide +kernel
theorem d_X5_without_4 : decode cX5_without 4 = .ok (.iconst (-1), 1) := by decide +kernel
theorem d_X5_without_5 : decode cX5_without 5 = .ok (.ixor, 1) := by decide +kernel
theorem d_X5_without_6 : decode cX5_without 6 = .ok (.iand, 1) := by decide +kernel
theorem d_X5_without_7 : decode cX5_without 7 = .ok (.ireturn, 1) := by decide +kernel
def F_X5_without (x0 : Int32) (x1 : Int32) (h : xH) : Option (Int32 × xH) := some (x0 &&& ((((1 : Int32)) <<< (x1 &&& 31)) ^^^ ((-1))), h)
theorem R_X5_without {Γ : xG} {l : Launch} {d : Nat} {r : Int32} {h' : xH} (x0 : Int32) (x1 : Int32) (h : xH) (hdp : 0 ≤ d) (hF : F_X5_without x0 x1 h = some (r, h')) : Gm Γ l d 0 0 m_X5_without [.int x0, .int x1] h (fun a u => a = some (.int r) ∧ u = h') := by
  refine Gm.of pn_X5 (Nat.le_of_ble_eq_true rfl) ?_
  show Gd Γ l d m_X5_without 0 [.int x0, .int x1] [] h 0 0 _
  generalize hQ : (fun (a : Option Value) (u : xH) => a = some (.int r) ∧ u = h') = Q
  have hq : Q (some (.int r)) h' := by rw [← hQ]; exact ⟨rfl, rfl⟩
  clear hQ
  unfold F_X5_without at hF
  refine g_iloadn d_X5_without_0 rfl ?_
  refine g_ic (1) d_X5_without_1 ic_1 ?_
  refine g_iloadn d_X5_without_2 rfl ?_
  refine g_ishl d_X5_without_3 ?_
  refine g_ic (-1) d_X5_without_4 ic_m1 ?_
  refine g_ixor d_X5_without_5 ?_
  refine g_iand d_X5_without_6 ?_
  obtain ⟨rfl, rfl⟩ := x_inj hF
  exact g_iret d_X5_without_7 rfl hq
theorem d_X5_beginningsOf_0 : decode cX5_beginningsOf 0 = .ok (.iload_n 2, 1) := by decide +kernel
theorem d_X5_beginningsOf_1 : decode cX5_beginningsOf 1 = .ok (.iload_n 2, 1) := by decide +kernel
theorem d_X5_beginningsOf_2 : decode cX5_beginningsOf 2 = .ok (.iconst 1, 1) := by decide +kernel
theorem d_X5_beginningsOf_3 : decode cX5_beginningsOf 3 = .ok (.isub, 1) := by decide +kernel
theorem d_X5_beginningsOf_4 : decode cX5_beginningsOf 4 = .ok (.iand, 1) := by decide +kernel
theorem d_X5_beginningsOf_5 : decode cX5_beginningsOf 5 = .ok (.ifCond .ne 5, 3) := by decide +kernel
theorem d_X5_beginningsOf_8 : decode cX5_beginningsOf 8 = .ok (.iload_n 2, 1) := by decide +kernel
theorem d_X5_beginningsOf_9 : decode cX5_beginningsOf 9 = .ok (.ireturn, 1) := by decide +kernel
theorem d_X5_beginningsOf_10 : decode cX5_beginningsOf 10 = .ok (.iconst 0, 1) := by decide +kernel
theorem d_X5_beginningsOf_11 : decode cX5_beginningsOf 11 = .ok (.istore_n 3, 1) := by decide +kernel
theorem d_X5_beginningsOf_12 : decode cX5_beginningsOf 12 = .ok (.iconst 0, 1) := by decide +kernel
theorem d_X5_beginningsOf_13 : decode cX5_beginningsOf 13 = .ok (.istore 4, 2) := by decide +kernel
theorem d_X5_beginningsOf_15 : decode cX5_beginningsOf 15 = .ok (.iload 4, 2) := by decide +kernel
theorem d_X5_beginningsOf_17 : decode cX5_beginningsOf 17 = .ok (.aload_n 1, 1) := by decide +kernel
theorem d_X5_beginningsOf_18 : decode cX5_beginningsOf 18 = .ok (.getfield 35, 3) := by decide +kernel
theorem d_X5_beginningsOf_21 : decode cX5_beginningsOf 21 = .ok (.if_icmp .ge 48, 3) := by decide +kernel
theorem d_X5_beginningsOf_24 : decode cX5_beginningsOf 24 = .ok (.iload_n 2, 1) := by decide +kernel
theorem d_X5_beginningsOf_25 : decode cX5_beginningsOf 25 = .ok (.iload 4, 2) := by decide +kernel
theorem d_X5_beginningsOf_27 : decode cX5_beginningsOf 27 = .ok (.ishr, 1) := by decide +kernel
theorem d_X5_beginningsOf_28 : decode cX5_beginningsOf 28 = .ok (.iconst 1, 1) := by decide +kernel
theorem d_X5_beginningsOf_29 : decode cX5_beginningsOf 29 = .ok (.iand, 1) := by decide +kernel
theorem d_X5_beginningsOf_30 : decode cX5_beginningsOf 30 = .ok (.iconst 1, 1) := by decide +kernel
theorem d_X5_beginningsOf_31 : decode cX5_beginningsOf 31 = .ok (.if_icmp .ne 32, 3) := by decide +kernel
theorem d_X5_beginningsOf_34 : decode cX5_beginningsOf 34 = .ok (.aload_n 1, 1) := by decide +kernel
theorem d_X5_beginningsOf_35 : decode cX5_beginningsOf 35 = .ok (.getfield 63, 3) := by decide +kernel
theorem d_X5_beginningsOf_38 : decode cX5_beginningsOf 38 = .ok (.iload 4, 2) := by decide +kernel
theorem d_X5_beginningsOf_40 : decode cX5_beginningsOf 40 = .ok (.iaload, 1) := by decide +kernel
theorem d_X5_beginningsOf_41 : decode cX5_beginningsOf 41 = .ok (.aload_n 0, 1) := by decide +kernel
theorem d_X5_beginningsOf_42 : decode cX5_beginningsOf 42 = .ok (.getfield 19, 3) := by decide +kernel
theorem d_X5_beginningsOf_45 : decode cX5_beginningsOf 45 = .ok (.iload_n 2, 1) := by decide +kernel
theorem d_X5_beginningsOf_46 : decode cX5_beginningsOf 46 = .ok (.iload 4, 2) := by decide +kernel
theorem d_X5_beginningsOf_48 : decode cX5_beginningsOf 48 = .ok (.invokestatic 66, 3) := by decide +kernel
theorem d_X5_beginningsOf_51 : decode cX5_beginningsOf 51 = .ok (.iaload, 1) := by decide +kernel
theorem d_X5_beginningsOf_52 : decode cX5_beginningsOf 52 = .ok (.iand, 1) := by decide +kernel
theorem d_X5_beginningsOf_53 : decode cX5_beginningsOf 53 = .ok (.ifCond .eq 10, 3) := by decide +kernel
theorem d_X5_beginningsOf_56 : decode cX5_beginningsOf 56 = .ok (.iload_n 3, 1) := by decide +kernel
theorem d_X5_beginningsOf_57 : decode cX5_beginningsOf 57 = .ok (.iconst 1, 1) := by decide +kernel
theorem d_X5_beginningsOf_58 : decode cX5_beginningsOf 58 = .ok (.iload 4, 2) := by decide +kernel
theorem d_X5_beginningsOf_60 : decode cX5_beginningsOf 60 = .ok (.ishl, 1) := by decide +kernel
theorem d_X5_beginningsOf_61 : decode cX5_beginningsOf 61 = .ok (.ior, 1) := by decide +kernel
theorem d_X5_beginningsOf_62 : decode cX5_beginningsOf 62 = .ok (.istore_n 3, 1) := by decide +kernel
theorem d_X5_beginningsOf_63 : decode cX5_beginningsOf 63 = .ok (.iinc 4 1, 3) := by decide +kernel
theorem d_X5_beginningsOf_66 : decode cX5_beginningsOf 66 = .ok (.goto (-51), 3) := by decide +kernel
theorem d_X5_beginningsOf_69 : decode cX5_beginningsOf 69 = .ok (.iload_n 3, 1) := by decide +kernel
theorem d_X5_beginningsOf_70 : decode cX5_beginningsOf 70 = .ok (.ireturn, 1) := by decide +kernel
def F_X5_beginningsOf_b15 : Nat → Nat → Nat → Int32 → Int32 → Int32 → xH → Option (Int32 × xH)
  | 0, _, _, _, _, _, _ => none
  | n + 1, x0, x1, x2, x3, x4, h => (fI h x1 9 0).bind fun v18 => if v18 ≤ x4 then some (x3, h) else if ¬ ((x2 >>> (x4 &&& 31)) &&& 1) = ((1 : Int32)) then F_X5_beginningsOf_b15 n x0 x1 x2 x3 (x4 + 1) h else (fR h x1 9 10).bind fun v35 => (aI h v35 x4).bind fun v40 => (fR h x0 4 2).bind fun v42 => (F_X5_without x2 x4 h).bind fun z48 => (aI z48.2 v42 z48.1).bind fun v51 => if (v40 &&& v51) = 0 then F_X5_beginningsOf_b15 n x0 x1 x2 x3 (x4 + 1) z48.2 else F_X5_beginningsOf_b15 n x0 x1 x2 (x3 ||| (((1 : Int32)) <<< (x4 &&& 31))) (x4 + 1) z48.2
theorem R_X5_beginningsOf_b15 {Γ : xG} {l : Launch} {d : Nat} {Q : Option Value → xH → Prop} {r : Int32} {h' : xH} (hdp : 1 ≤ d) (hq : Q (some (.int r)) h') : ∀ (n : Nat) (x0 : Nat) (x1 : Nat) (x2 : Int32) (x3 : Int32) (x4 : Int32) (h : xH), F_X5_beginningsOf_b15 n x0 x1 x2 x3 x4 h = some (r, h') → Gd Γ l d m_X5_beginningsOf 15 [.ref x0, .ref x1, .int x2, .int x3, .int x4] [] h 0 0 Q := by
  intro n
  induction n with
  | zero => intro x0 x1 x2 x3 x4 h hF; cases hF
  | succ n ih =>
  intro x0 x1 x2 x3 x4 h hF
  rw [F_X5_beginningsOf_b15] at hF
  refine g_iload d_X5_beginningsOf_15 rfl ?_
  refine g_aloadn d_X5_beginningsOf_17 rfl ?_
  obtain ⟨v18, e18, hF⟩ := Option.bind_eq_some_iff.mp hF
  refine q_fI d_X5_beginningsOf_18 f_X5_35 e18 ?_
  refine g_icmp_ge 69 d_X5_beginningsOf_21 rfl (fun c21 => ?_) (fun c21 => ?_)
  · have hF := x_t hF c21
    refine g_iloadn d_X5_beginningsOf_69 rfl ?_
    obtain ⟨rfl, rfl⟩ := x_inj hF
    exact g_iret d_X5_beginningsOf_70 rfl hq
  · have hF := x_f hF c21
    refine g_iloadn d_X5_beginningsOf_24 rfl ?_
    refine g_iload d_X5_beginningsOf_25 rfl ?_
    refine g_ishr d_X5_beginningsOf_27 ?_
    refine g_ic (1) d_X5_beginningsOf_28 ic_1 ?_
    refine g_iand d_X5_beginningsOf_29 ?_
    refine g_ic (1) d_X5_beginningsOf_30 ic_1 ?_
    refine g_icmp_ne 63 d_X5_beginningsOf_31 rfl (fun c31 => ?_) (fun c31 => ?_)
    · have hF := x_t hF c31
      refine q_iinc (1) [.ref x0, .ref x1, .int x2, .int x3, .int (x4 + 1)] d_X5_beginningsOf_63 ic_1 rfl (by decide) rfl ?_
      refine g_goto 15 d_X5_beginningsOf_66 rfl ?_
      exact q_to (xs_r (xs_r (xs_r (xs_r (xs_r xs_n))))) (ih _ _ _ _ _ _ hF)
    · have hF := x_f hF (not_not_intro c31)
      refine g_aloadn d_X5_beginningsOf_34 rfl ?_
      obtain ⟨v35, e35, hF⟩ := Option.bind_eq_some_iff.mp hF
      refine q_fR d_X5_beginningsOf_35 f_X5_63 e35 ?_
      refine g_iload d_X5_beginningsOf_38 rfl ?_
      obtain ⟨v40, e40, hF⟩ := Option.bind_eq_some_iff.mp hF
      refine q_aI d_X5_beginningsOf_40 e40 ?_
      refine g_aloadn d_X5_beginningsOf_41 rfl ?_
      obtain ⟨v42, e42, hF⟩ := Option.bind_eq_some_iff.mp hF
      refine q_fR d_X5_beginningsOf_42 f_X5_19 e42 ?_
      refine g_iloadn d_X5_beginningsOf_45 rfl ?_
      refine g_iload d_X5_beginningsOf_46 rfl ?_
      obtain ⟨⟨r48, h48⟩, e48, hF⟩ := Option.bind_eq_some_iff.mp hF
      try dsimp only at hF
      refine q_callS [.int x2, .int x4] [.ref v42, .int v40] rfl d_X5_beginningsOf_48 s_X5_66 (by omega) rfl (Nat.le_of_ble_eq_true rfl) (R_X5_without _ _ _ (by omega) e48) ?_
      obtain ⟨v51, e51, hF⟩ := Option.bind_eq_some_iff.mp hF
      refine q_aI d_X5_beginningsOf_51 e51 ?_
      refine g_iand d_X5_beginningsOf_52 ?_
      refine g_if_eq 63 d_X5_beginningsOf_53 rfl (fun c53 => ?_) (fun c53 => ?_)
      · have hF := x_t hF c53
        refine q_iinc (1) [.ref x0, .ref x1, .int x2, .int x3, .int (x4 + 1)] d_X5_beginningsOf_63 ic_1 rfl (by decide) rfl ?_
        refine g_goto 15 d_X5_beginningsOf_66 rfl ?_
        exact q_to (xs_r (xs_r (xs_r (xs_r (xs_r xs_n))))) (ih _ _ _ _ _ _ hF)
      · have hF := x_f hF c53
        refine g_iloadn d_X5_beginningsOf_56 rfl ?_
        refine g_ic (1) d_X5_beginningsOf_57 ic_1 ?_
        refine g_iload d_X5_beginningsOf_58 rfl ?_
        refine g_ishl d_X5_beginningsOf_60 ?_
        refine g_ior d_X5_beginningsOf_61 ?_
        refine q_istoren [.ref x0, .ref x1, .int x2, .int (x3 ||| (((1 : Int32)) <<< (x4 &&& 31))), .int x4] d_X5_beginningsOf_62 (by decide) rfl ?_
        refine q_iinc (1) [.ref x0, .ref x1, .int x2, .int (x3 ||| (((1 : Int32)) <<< (x4 &&& 31))), .int (x4 + 1)] d_X5_beginningsOf_63 ic_1 rfl (by decide) rfl ?_
        refine g_goto 15 d_X5_beginningsOf_66 rfl ?_
        exact q_to (xs_r (xs_r (xs_r (xs_r (xs_r xs_n))))) (ih _ _ _ _ _ _ hF)
def F_X5_beginningsOf (x0 : Nat) (x1 : Nat) (x2 : Int32) (h : xH) : Option (Int32 × xH) := if ¬ (x2 &&& (x2 - 1)) = 0 then F_X5_beginningsOf_b15 FU x0 x1 x2 0 0 h else some (x2, h)
theorem R_X5_beginningsOf {Γ : xG} {l : Launch} {d : Nat} {r : Int32} {h' : xH} (x0 : Nat) (x1 : Nat) (x2 : Int32) (h : xH) (hdp : 1 ≤ d) (hF : F_X5_beginningsOf x0 x1 x2 h = some (r, h')) : Gm Γ l d 0 0 m_X5_beginningsOf [.ref x0, .ref x1, .int x2] h (fun a u => a = some (.int r) ∧ u = h') := by
  refine Gm.of pn_X5 (Nat.le_of_ble_eq_true rfl) ?_
  show Gd Γ l d m_X5_beginningsOf 0 [.ref x0, .ref x1, .int x2, xhole, xhole] [] h 0 0 _
  generalize hQ : (fun (a : Option Value) (u : xH) => a = some (.int r) ∧ u = h') = Q
  have hq : Q (some (.int r)) h' := by rw [← hQ]; exact ⟨rfl, rfl⟩
  clear hQ
  unfold F_X5_beginningsOf at hF
  refine g_iloadn d_X5_beginningsOf_0 rfl ?_
  refine g_iloadn d_X5_beginningsOf_1 rfl ?_
  refine g_ic (1) d_X5_beginningsOf_2 ic_1 ?_
  refine g_isub d_X5_beginningsOf_3 ?_
  refine g_iand d_X5_beginningsOf_4 ?_
  refine g_if_ne 10 d_X5_beginningsOf_5 rfl (fun c5 => ?_) (fun c5 => ?_)
  · have hF := x_t hF c5
    refine g_ic (0) d_X5_beginningsOf_10 ic_0 ?_
    refine q_istoren [.ref x0, .ref x1, .int x2, .int 0, xhole] d_X5_beginningsOf_11 (by decide) rfl ?_
    refine g_ic (0) d_X5_beginningsOf_12 ic_0 ?_
    refine q_istore [.ref x0, .ref x1, .int x2, .int 0, .int 0] d_X5_beginningsOf_13 (by decide) rfl ?_
    exact q_to (xs_r (xs_r (xs_r (xs_r (xs_r xs_n))))) (R_X5_beginningsOf_b15 hdp hq FU _ _ _ _ _ _ hF)
  · have hF := x_f hF (not_not_intro c5)
    refine g_iloadn d_X5_beginningsOf_8 rfl ?_
    obtain ⟨rfl, rfl⟩ := x_inj hF
    exact g_iret d_X5_beginningsOf_9 rfl hq
theorem d_X5_beginningsWithout_0 : decode cX5_beginningsWithout 0 = .ok (.iconst 0, 1) := by decide +kernel
theorem d_X5_beginningsWithout_1 : decode cX5_beginningsWithout 1 = .ok (.istore 4, 2) := by decide +kernel
theorem d_X5_beginningsWithout_3 : decode cX5_beginningsWithout 3 = .ok (.iconst 1, 1) := by decide +kernel
theorem d_X5_beginningsWithout_4 : decode cX5_beginningsWithout 4 = .ok (.istore 5, 2) := by decide +kernel
theorem d_X5_beginningsWithout_6 : decode cX5_beginningsWithout 6 = .ok (.iload 5, 2) := by decide +kernel
theorem d_X5_beginningsWithout_8 : decode cX5_beginningsWithout 8 = .ok (.iconst 1, 1) := by decide +kernel
theorem d_X5_beginningsWithout_9 : decode cX5_beginningsWithout 9 = .ok (.iload_n 3, 1) := by decide +kernel
theorem d_X5_beginningsWithout_10 : decode cX5_beginningsWithout 10 = .ok (.ishl, 1) := by decide +kernel
theorem d_X5_beginningsWithout_11 : decode cX5_beginningsWithout 11 = .ok (.if_icmp .ge 47, 3) := by decide +kernel
theorem d_X5_beginningsWithout_14 : decode cX5_beginningsWithout 14 = .ok (.aload_n 0, 1) := by decide +kernel
theorem d_X5_beginningsWithout_15 : decode cX5_beginningsWithout 15 = .ok (.getfield 19, 3) := by decide +kernel
theorem d_X5_beginningsWithout_18 : decode cX5_beginningsWithout 18 = .ok (.iload 5, 2) := by decide +kernel
theorem d_X5_beginningsWithout_20 : decode cX5_beginningsWithout 20 = .ok (.iaload, 1) := by decide +kernel
theorem d_X5_beginningsWithout_21 : decode cX5_beginningsWithout 21 = .ok (.ifCond .eq 31, 3) := by decide +kernel
theorem d_X5_beginningsWithout_24 : decode cX5_beginningsWithout 24 = .ok (.iload 5, 2) := by decide +kernel
theorem d_X5_beginningsWithout_26 : decode cX5_beginningsWithout 26 = .ok (.iload_n 1, 1) := by decide +kernel
theorem d_X5_beginningsWithout_27 : decode cX5_beginningsWithout 27 = .ok (.iand, 1) := by decide +kernel
theorem d_X5_beginningsWithout_28 : decode cX5_beginningsWithout 28 = .ok (.ifCond .ne 24, 3) := by decide +kernel
theorem d_X5_beginningsWithout_31 : decode cX5_beginningsWithout 31 = .ok (.iload 5, 2) := by decide +kernel
theorem d_X5_beginningsWithout_33 : decode cX5_beginningsWithout 33 = .ok (.invokestatic 44, 3) := by decide +kernel
theorem d_X5_beginningsWithout_36 : decode cX5_beginningsWithout 36 = .ok (.iload_n 2, 1) := by decide +kernel
theorem d_X5_beginningsWithout_37 : decode cX5_beginningsWithout 37 = .ok (.if_icmp .ne 15, 3) := by decide +kernel
theorem d_X5_beginningsWithout_40 : decode cX5_beginningsWithout 40 = .ok (.iload 4, 2) := by decide +kernel
theorem d_X5_beginningsWithout_42 : decode cX5_beginningsWithout 42 = .ok (.aload_n 0, 1) := by decide +kernel
theorem d_X5_beginningsWithout_43 : decode cX5_beginningsWithout 43 = .ok (.getfield 19, 3) := by decide +kernel
theorem d_X5_beginningsWithout_46 : decode cX5_beginningsWithout 46 = .ok (.iload 5, 2) := by decide +kernel
theorem d_X5_beginningsWithout_48 : decode cX5_beginningsWithout 48 = .ok (.iaload, 1) := by decide +kernel
theorem d_X5_beginningsWithout_49 : decode cX5_beginningsWithout 49 = .ok (.ior, 1) := by decide +kernel
theorem d_X5_beginningsWithout_50 : decode cX5_beginningsWithout 50 = .ok (.istore 4, 2) := by decide +kernel
theorem d_X5_beginningsWithout_52 : decode cX5_beginningsWithout 52 = .ok (.iinc 5 1, 3) := by decide +kernel
theorem d_X5_beginningsWithout_55 : decode cX5_beginningsWithout 55 = .ok (.goto (-49), 3) := by decide +kernel
theorem d_X5_beginningsWithout_58 : decode cX5_beginningsWithout 58 = .ok (.iload 4, 2) := by decide +kernel
theorem d_X5_beginningsWithout_60 : decode cX5_beginningsWithout 60 = .ok (.ireturn, 1) := by decide +kernel
def F_X5_beginningsWithout_b6 : Nat → Nat → Int32 → Int32 → Int32 → Int32 → Int32 → xH → Option (Int32 × xH)
  | 0, _, _, _, _, _, _, _ => none
  | n + 1, x0, x1, x2, x3, x4, x5, h => if (((1 : Int32)) <<< (x3 &&& 31)) ≤ x5 then some (x4, h) else (fR h x0 4 2).bind fun v15 => (aI h v15 x5).bind fun v20 => if v20 = 0 then F_X5_beginningsWithout_b6 n x0 x1 x2 x3 x4 (x5 + 1) h else if ¬ (x5 &&& x1) = 0 then F_X5_beginningsWithout_b6 n x0 x1 x2 x3 x4 (x5 + 1) h else (F_J6_bitCount_0f7a4 x5 h).bind fun z33 => if ¬ z33.1 = x2 then F_X5_beginningsWithout_b6 n x0 x1 x2 x3 x4 (x5 + 1) z33.2 else (fR z33.2 x0 4 2).bind fun v43 => (aI z33.2 v43 x5).bind fun v48 => F_X5_beginningsWithout_b6 n x0 x1 x2 x3 (x4 ||| v48) (x5 + 1) z33.2
theorem R_X5_beginningsWithout_b6 {Γ : xG} {l : Launch} {d : Nat} {Q : Option Value → xH → Prop} {r : Int32} {h' : xH} (hdp : 1 ≤ d) (hq : Q (some (.int r)) h') : ∀ (n : Nat) (x0 : Nat) (x1 : Int32) (x2 : Int32) (x3 : Int32) (x4 : Int32) (x5 : Int32) (h : xH), F_X5_beginningsWithout_b6 n x0 x1 x2 x3 x4 x5 h = some (r, h') → Gd Γ l d m_X5_beginningsWithout 6 [.ref x0, .int x1, .int x2, .int x3, .int x4, .int x5] [] h 0 0 Q := by
  intro n
  induction n with
  | zero => intro x0 x1 x2 x3 x4 x5 h hF; cases hF
  | succ n ih =>
  intro x0 x1 x2 x3 x4 x5 h hF
  rw [F_X5_beginningsWithout_b6] at hF
  refine g_iload d_X5_beginningsWithout_6 rfl ?_
  refine g_ic (1) d_X5_beginningsWithout_8 ic_1 ?_
  refine g_iloadn d_X5_beginningsWithout_9 rfl ?_
  refine g_ishl d_X5_beginningsWithout_10 ?_
  refine g_icmp_ge 58 d_X5_beginningsWithout_11 rfl (fun c11 => ?_) (fun c11 => ?_)
  · have hF := x_t hF c11
    refine g_iload d_X5_beginningsWithout_58 rfl ?_
    obtain ⟨rfl, rfl⟩ := x_inj hF
    exact g_iret d_X5_beginningsWithout_60 rfl hq
  · have hF := x_f hF c11
    refine g_aloadn d_X5_beginningsWithout_14 rfl ?_
    obtain ⟨v15, e15, hF⟩ := Option.bind_eq_some_iff.mp hF
    refine q_fR d_X5_beginningsWithout_15 f_X5_19 e15 ?_
    refine g_iload d_X5_beginningsWithout_18 rfl ?_
    obtain ⟨v20, e20, hF⟩ := Option.bind_eq_some_iff.mp hF
    refine q_aI d_X5_beginningsWithout_20 e20 ?_
    refine g_if_eq 52 d_X5_beginningsWithout_21 rfl (fun c21 => ?_) (fun c21 => ?_)
    · have hF := x_t hF c21
      refine q_iinc (1) [.ref x0, .int x1, .int x2, .int x3, .int x4, .int (x5 + 1)] d_X5_beginningsWithout_52 ic_1 rfl (by decide) rfl ?_
      refine g_goto 6 d_X5_beginningsWithout_55 rfl ?_
      exact q_to (xs_r (xs_r (xs_r (xs_r (xs_r (xs_r xs_n)))))) (ih _ _ _ _ _ _ _ hF)
    · have hF := x_f hF c21
      refine g_iload d_X5_beginningsWithout_24 rfl ?_
      refine g_iloadn d_X5_beginningsWithout_26 rfl ?_
      refine g_iand d_X5_beginningsWithout_27 ?_
      refine g_if_ne 52 d_X5_beginningsWithout_28 rfl (fun c28 => ?_) (fun c28 => ?_)
      · have hF := x_t hF c28
        refine q_iinc (1) [.ref x0, .int x1, .int x2, .int x3, .int x4, .int (x5 + 1)] d_X5_beginningsWithout_52 ic_1 rfl (by decide) rfl ?_
        refine g_goto 6 d_X5_beginningsWithout_55 rfl ?_
        exact q_to (xs_r (xs_r (xs_r (xs_r (xs_r (xs_r xs_n)))))) (ih _ _ _ _ _ _ _ hF)
      · have hF := x_f hF (not_not_intro c28)
        refine g_iload d_X5_beginningsWithout_31 rfl ?_
        obtain ⟨⟨r33, h33⟩, e33, hF⟩ := Option.bind_eq_some_iff.mp hF
        try dsimp only at hF
        refine q_callS [.int x5] [] rfl d_X5_beginningsWithout_33 s_X5_44 (by omega) rfl (Nat.le_of_ble_eq_true rfl) (R_J6_bitCount_0f7a4 _ _ (by omega) e33) ?_
        refine g_iloadn d_X5_beginningsWithout_36 rfl ?_
        refine g_icmp_ne 52 d_X5_beginningsWithout_37 rfl (fun c37 => ?_) (fun c37 => ?_)
        · have hF := x_t hF c37
          refine q_iinc (1) [.ref x0, .int x1, .int x2, .int x3, .int x4, .int (x5 + 1)] d_X5_beginningsWithout_52 ic_1 rfl (by decide) rfl ?_
          refine g_goto 6 d_X5_beginningsWithout_55 rfl ?_
          exact q_to (xs_r (xs_r (xs_r (xs_r (xs_r (xs_r xs_n)))))) (ih _ _ _ _ _ _ _ hF)
        · have hF := x_f hF (not_not_intro c37)
          refine g_iload d_X5_beginningsWithout_40 rfl ?_
          refine g_aloadn d_X5_beginningsWithout_42 rfl ?_
          obtain ⟨v43, e43, hF⟩ := Option.bind_eq_some_iff.mp hF
          refine q_fR d_X5_beginningsWithout_43 f_X5_19 e43 ?_
          refine g_iload d_X5_beginningsWithout_46 rfl ?_
          obtain ⟨v48, e48, hF⟩ := Option.bind_eq_some_iff.mp hF
          refine q_aI d_X5_beginningsWithout_48 e48 ?_
          refine g_ior d_X5_beginningsWithout_49 ?_
          refine q_istore [.ref x0, .int x1, .int x2, .int x3, .int (x4 ||| v48), .int x5] d_X5_beginningsWithout_50 (by decide) rfl ?_
          refine q_iinc (1) [.ref x0, .int x1, .int x2, .int x3, .int (x4 ||| v48), .int (x5 + 1)] d_X5_beginningsWithout_52 ic_1 rfl (by decide) rfl ?_
          refine g_goto 6 d_X5_beginningsWithout_55 rfl ?_
          exact q_to (xs_r (xs_r (xs_r (xs_r (xs_r (xs_r xs_n)))))) (ih _ _ _ _ _ _ _ hF)
def F_X5_beginningsWithout (x0 : Nat) (x1 : Int32) (x2 : Int32) (x3 : Int32) (h : xH) : Option (Int32 × xH) := F_X5_beginningsWithout_b6 FU x0 x1 x2 x3 0 1 h
theorem R_X5_beginningsWithout {Γ : xG} {l : Launch} {d : Nat} {r : Int32} {h' : xH} (x0 : Nat) (x1 : Int32) (x2 : Int32) (x3 : Int32) (h : xH) (hdp : 1 ≤ d) (hF : F_X5_beginningsWithout x0 x1 x2 x3 h = some (r, h')) : Gm Γ l d 0 0 m_X5_beginningsWithout [.ref x0, .int x1, .int x2, .int x3] h (fun a u => a = some (.int r) ∧ u = h') := by
  refine Gm.of pn_X5 (Nat.le_of_ble_eq_true rfl) ?_
  show Gd Γ l d m_X5_beginningsWithout 0 [.ref x0, .int x1, .int x2, .int x3, xhole, xhole] [] h 0 0 _
  generalize hQ : (fun (a : Option Value) (u : xH) => a = some (.int r) ∧ u = h') = Q
  have hq : Q (some (.int r)) h' := by rw [← hQ]; exact ⟨rfl, rfl⟩
  clear hQ
  unfold F_X5_beginningsWithout at hF
  refine g_ic (0) d_X5_beginningsWithout_0 ic_0 ?_
  refine q_istore [.ref x0, .int x1, .int x2, .int x3, .int 0, xhole] d_X5_beginningsWithout_1 (by decide) rfl ?_
  refine g_ic (1) d_X5_beginningsWithout_3 ic_1 ?_
  refine q_istore [.ref x0, .int x1, .int x2, .int x3, .int 0, .int 1] d_X5_beginningsWithout_4 (by decide) rfl ?_
  exact q_to (xs_r (xs_r (xs_r (xs_r (xs_r (xs_r xs_n)))))) (R_X5_beginningsWithout_b6 hdp hq FU _ _ _ _ _ _ _ hF)
theorem d_X5_findLongest_0 : decode cX5_findLongest 0 = .ok (.aload_n 0, 1) := by decide +kernel
theorem d_X5_findLongest_1 : decode cX5_findLongest 1 = .ok (.iconst 0, 1) := by decide +kernel
theorem d_X5_findLongest_2 : decode cX5_findLongest 2 = .ok (.putfield 15, 3) := by decide +kernel
theorem d_X5_findLongest_5 : decode cX5_findLongest 5 = .ok (.iconst 1, 1) := by decide +kernel
theorem d_X5_findLongest_6 : decode cX5_findLongest 6 = .ok (.istore_n 3, 1) := by decide +kernel
theorem d_X5_findLongest_7 : decode cX5_findLongest 7 = .ok (.iload_n 3, 1) := by decide +kernel
theorem d_X5_findLongest_8 : decode cX5_findLongest 8 = .ok (.iconst 1, 1) := by decide +kernel
theorem d_X5_findLongest_9 : decode cX5_findLongest 9 = .ok (.aload_n 1, 1) := by decide +kernel
theorem d_X5_findLongest_10 : decode cX5_findLongest 10 = .ok (.getfield 35, 3) := by decide +kernel
theorem d_X5_findLongest_13 : decode cX5_findLongest 13 = .ok (.ishl, 1) := by decide +kernel
theorem d_X5_findLongest_14 : decode cX5_findLongest 14 = .ok (.if_icmp .ge 57, 3) := by decide +kernel
theorem d_X5_findLongest_17 : decode cX5_findLongest 17 = .ok (.aload_n 0, 1) := by decide +kernel
theorem d_X5_findLongest_18 : decode cX5_findLongest 18 = .ok (.getfield 19, 3) := by decide +kernel
theorem d_X5_findLongest_21 : decode cX5_findLongest 21 = .ok (.iload_n 3, 1) := by decide +kernel
theorem d_X5_findLongest_22 : decode cX5_findLongest 22 = .ok (.iload_n 3, 1) := by decide +kernel
theorem d_X5_findLongest_23 : decode cX5_findLongest 23 = .ok (.iload_n 2, 1) := by decide +kernel
theorem d_X5_findLongest_24 : decode cX5_findLongest 24 = .ok (.iconst (-1), 1) := by decide +kernel
theorem d_X5_findLongest_25 : decode cX5_findLongest 25 = .ok (.ixor, 1) := by decide +kernel
theorem d_X5_findLongest_26 : decode cX5_findLongest 26 = .ok (.iand, 1) := by decide +kernel
theorem d_X5_findLongest_27 : decode cX5_findLongest 27 = .ok (.ifCond .ne 12, 3) := by decide +kernel
theorem d_X5_findLongest_30 : decode cX5_findLongest 30 = .ok (.aload_n 0, 1) := by decide +kernel
theorem d_X5_findLongest_31 : decode cX5_findLongest 31 = .ok (.aload_n 1, 1) := by decide +kernel
theorem d_X5_findLongest_32 : decode cX5_findLongest 32 = .ok (.iload_n 3, 1) := by decide +kernel
theorem d_X5_findLongest_33 : decode cX5_findLongest 33 = .ok (.invokevirtual 40, 3) := by decide +kernel
theorem d_X5_findLongest_36 : decode cX5_findLongest 36 = .ok (.goto 4, 3) := by decide +kernel
theorem d_X5_findLongest_39 : decode cX5_findLongest 39 = .ok (.iconst 0, 1) := by decide +kernel
theorem d_X5_findLongest_40 : decode cX5_findLongest 40 = .ok (.iastore, 1) := by decide +kernel
theorem d_X5_findLongest_41 : decode cX5_findLongest 41 = .ok (.aload_n 0, 1) := by decide +kernel
theorem d_X5_findLongest_42 : decode cX5_findLongest 42 = .ok (.getfield 19, 3) := by decide +kernel
theorem d_X5_findLongest_45 : decode cX5_findLongest 45 = .ok (.iload_n 3, 1) := by decide +kernel
theorem d_X5_findLongest_46 : decode cX5_findLongest 46 = .ok (.iaload, 1) := by decide +kernel
theorem d_X5_findLongest_47 : decode cX5_findLongest 47 = .ok (.ifCond .eq 18, 3) := by decide +kernel
theorem d_X5_findLongest_50 : decode cX5_findLongest 50 = .ok (.aload_n 0, 1) := by decide +kernel
theorem d_X5_findLongest_51 : decode cX5_findLongest 51 = .ok (.aload_n 0, 1) := by decide +kernel
theorem d_X5_findLongest_52 : decode cX5_findLongest 52 = .ok (.getfield 15, 3) := by decide +kernel
theorem d_X5_findLongest_55 : decode cX5_findLongest 55 = .ok (.iload_n 3, 1) := by decide +kernel
theorem d_X5_findLongest_56 : decode cX5_findLongest 56 = .ok (.invokestatic 44, 3) := by decide +kernel
theorem d_X5_findLongest_59 : decode cX5_findLongest 59 = .ok (.invokestatic 50, 3) := by decide +kernel
theorem d_X5_findLongest_62 : decode cX5_findLongest 62 = .ok (.putfield 15, 3) := by decide +kernel
theorem d_X5_findLongest_65 : decode cX5_findLongest 65 = .ok (.iinc 3 1, 3) := by decide +kernel
theorem d_X5_findLongest_68 : decode cX5_findLongest 68 = .ok (.goto (-61), 3) := by decide +kernel
theorem d_X5_findLongest_71 : decode cX5_findLongest 71 = .ok (.iconst 0, 1) := by decide +kernel
theorem d_X5_findLongest_72 : decode cX5_findLongest 72 = .ok (.istore_n 3, 1) := by decide +kernel
theorem d_X5_findLongest_73 : decode cX5_findLongest 73 = .ok (.iload_n 2, 1) := by decide +kernel
theorem d_X5_findLongest_74 : decode cX5_findLongest 74 = .ok (.istore 4, 2) := by decide +kernel
theorem d_X5_findLongest_76 : decode cX5_findLongest 76 = .ok (.iconst 0, 1) := by decide +kernel
theorem d_X5_findLongest_77 : decode cX5_findLongest 77 = .ok (.istore 5, 2) := by decide +kernel
theorem d_X5_findLongest_79 : decode cX5_findLongest 79 = .ok (.iload 5, 2) := by decide +kernel
theorem d_X5_findLongest_81 : decode cX5_findLongest 81 = .ok (.aload_n 0, 1) := by decide +kernel
theorem d_X5_findLongest_82 : decode cX5_findLongest 82 = .ok (.getfield 15, 3) := by decide +kernel
theorem d_X5_findLongest_85 : decode cX5_findLongest 85 = .ok (.if_icmp .ge 80, 3) := by decide +kernel
theorem d_X5_findLongest_88 : decode cX5_findLongest 88 = .ok (.iload 4, 2) := by decide +kernel
theorem d_X5_findLongest_90 : decode cX5_findLongest 90 = .ok (.aload_n 0, 1) := by decide +kernel
theorem d_X5_findLongest_91 : decode cX5_findLongest 91 = .ok (.iload_n 3, 1) := by decide +kernel
theorem d_X5_findLongest_92 : decode cX5_findLongest 92 = .ok (.aload_n 0, 1) := by decide +kernel
theorem d_X5_findLongest_93 : decode cX5_findLongest 93 = .ok (.getfield 15, 3) := by decide +kernel
theorem d_X5_findLongest_96 : decode cX5_findLongest 96 = .ok (.iload 5, 2) := by decide +kernel
theorem d_X5_findLongest_98 : decode cX5_findLongest 98 = .ok (.isub, 1) := by decide +kernel
theorem d_X5_findLongest_99 : decode cX5_findLongest 99 = .ok (.aload_n 1, 1) := by decide +kernel
theorem d_X5_findLongest_100 : decode cX5_findLongest 100 = .ok (.getfield 35, 3) := by decide +kernel
theorem d_X5_findLongest_103 : decode cX5_findLongest 103 = .ok (.invokevirtual 56, 3) := by decide +kernel
theorem d_X5_findLongest_106 : decode cX5_findLongest 106 = .ok (.iand, 1) := by decide +kernel
theorem d_X5_findLongest_107 : decode cX5_findLongest 107 = .ok (.istore 6, 2) := by decide +kernel
theorem d_X5_findLongest_109 : decode cX5_findLongest 109 = .ok (.iload 6, 2) := by decide +kernel
theorem d_X5_findLongest_111 : decode cX5_findLongest 111 = .ok (.ifCond .ne 10, 3) := by decide +kernel
theorem d_X5_findLongest_114 : decode cX5_findLongest 114 = .ok (.aload_n 0, 1) := by decide +kernel
theorem d_X5_findLongest_115 : decode cX5_findLongest 115 = .ok (.iload 5, 2) := by decide +kernel
theorem d_X5_findLongest_117 : decode cX5_findLongest 117 = .ok (.putfield 15, 3) := by decide +kernel
theorem d_X5_findLongest_120 : decode cX5_findLongest 120 = .ok (.return_, 1) := by decide +kernel
theorem d_X5_findLongest_121 : decode cX5_findLongest 121 = .ok (.aload_n 0, 1) := by decide +kernel
theorem d_X5_findLongest_122 : decode cX5_findLongest 122 = .ok (.getfield 11, 3) := by decide +kernel
theorem d_X5_findLongest_125 : decode cX5_findLongest 125 = .ok (.iload 5, 2) := by decide +kernel
theorem d_X5_findLongest_127 : decode cX5_findLongest 127 = .ok (.iload 6, 2) := by decide +kernel
theorem d_X5_findLongest_129 : decode cX5_findLongest 129 = .ok (.invokestatic 60, 3) := by decide +kernel
theorem d_X5_findLongest_132 : decode cX5_findLongest 132 = .ok (.iastore, 1) := by decide +kernel
theorem d_X5_findLongest_133 : decode cX5_findLongest 133 = .ok (.iload_n 3, 1) := by decide +kernel
theorem d_X5_findLongest_134 : decode cX5_findLongest 134 = .ok (.iconst 1, 1) := by decide +kernel
theorem d_X5_findLongest_135 : decode cX5_findLongest 135 = .ok (.aload_n 0, 1) := by decide +kernel
theorem d_X5_findLongest_136 : decode cX5_findLongest 136 = .ok (.getfield 11, 3) := by decide +kernel
theorem d_X5_findLongest_139 : decode cX5_findLongest 139 = .ok (.iload 5, 2) := by decide +kernel
theorem d_X5_findLongest_141 : decode cX5_findLongest 141 = .ok (.iaload, 1) := by decide +kernel
theorem d_X5_findLongest_142 : decode cX5_findLongest 142 = .ok (.ishl, 1) := by decide +kernel
theorem d_X5_findLongest_143 : decode cX5_findLongest 143 = .ok (.ior, 1) := by decide +kernel
theorem d_X5_findLongest_144 : decode cX5_findLongest 144 = .ok (.istore_n 3, 1) := by decide +kernel
theorem d_X5_findLongest_145 : decode cX5_findLongest 145 = .ok (.aload_n 1, 1) := by decide +kernel
theorem d_X5_findLongest_146 : decode cX5_findLongest 146 = .ok (.getfield 63, 3) := by decide +kernel
theorem d_X5_findLongest_149 : decode cX5_findLongest 149 = .ok (.aload_n 0, 1) := by decide +kernel
theorem d_X5_findLongest_150 : decode cX5_findLongest 150 = .ok (.getfield 11, 3) := by decide +kernel
theorem d_X5_findLongest_153 : decode cX5_findLongest 153 = .ok (.iload 5, 2) := by decide +kernel
theorem d_X5_findLongest_155 : decode cX5_findLongest 155 = .ok (.iaload, 1) := by decide +kernel
theorem d_X5_findLongest_156 : decode cX5_findLongest 156 = .ok (.iaload, 1) := by decide +kernel
theorem d_X5_findLongest_157 : decode cX5_findLongest 157 = .ok (.istore 4, 2) := by decide +kernel
theorem d_X5_findLongest_159 : decode cX5_findLongest 159 = .ok (.iinc 5 1, 3) := by decide +kernel
theorem d_X5_findLongest_162 : decode cX5_findLongest 162 = .ok (.goto (-83), 3) := by decide +kernel
theorem d_X5_findLongest_165 : decode cX5_findLongest 165 = .ok (.return_, 1) := by decide +kernel
def F_X5_findLongest_b40 (k7 : Nat → Nat → Int32 → Int32 → xH → Option (Unit × xH)) (x0 : Nat) (x1 : Nat) (x2 : Int32) (x3 : Int32) (s0 : Nat) (s1 : Int32) (s2 : Int32) (h : xH) : Option (Unit × xH) := (sI h s0 s1 s2).bind fun h40 => (fR h40 x0 4 2).bind fun v42 => (aI h40 v42 x3).bind fun v46 => if v46 = 0 then k7 x0 x1 x2 (x3 + 1) h40 else (fI h40 x0 4 1).bind fun v52 => (F_J6_bitCount_0f7a4 x3 h40).bind fun z56 => (F_J9_max_7cf53 v52 z56.1 z56.2).bind fun z59 => (wI z59.2 x0 4 1 z59.1).bind fun h62 => k7 x0 x1 x2 (x3 + 1) h62
theorem R_X5_findLongest_b40 {Γ : xG} {l : Launch} {d : Nat} {Q : Option Value → xH → Prop} {r : Unit} {h' : xH} {k7 : Nat → Nat → Int32 → Int32 → xH → Option (Unit × xH)} (K7 : ∀ (x0 : Nat) (x1 : Nat) (x2 : Int32) (x3 : Int32)  (h : xH), k7 x0 x1 x2 x3 h = some (r, h') → Gd Γ l d m_X5_findLongest 7 [.ref x0, .ref x1, .int x2, .int x3, xhole, xhole, xhole] [] h 0 0 Q) (hdp : 2 ≤ d) (hq : Q (none) h') : ∀ (x0 : Nat) (x1 : Nat) (x2 : Int32) (x3 : Int32) (s0 : Nat) (s1 : Int32) (s2 : Int32) (h : xH), F_X5_findLongest_b40 k7 x0 x1 x2 x3 s0 s1 s2 h = some (r, h') → Gd Γ l d m_X5_findLongest 40 [.ref x0, .ref x1, .int x2, .int x3, xhole, xhole, xhole] [.int s2, .int s1, .ref s0] h 0 0 Q := by
  intro x0 x1 x2 x3 s0 s1 s2 h hF
  unfold F_X5_findLongest_b40 at hF
  obtain ⟨h40, e40, hF⟩ := Option.bind_eq_some_iff.mp hF
  refine q_sI d_X5_findLongest_40 e40 ?_
  refine g_aloadn d_X5_findLongest_41 rfl ?_
  obtain ⟨v42, e42, hF⟩ := Option.bind_eq_some_iff.mp hF
  refine q_fR d_X5_findLongest_42 f_X5_19 e42 ?_
  refine g_iloadn d_X5_findLongest_45 rfl ?_
  obtain ⟨v46, e46, hF⟩ := Option.bind_eq_some_iff.mp hF
  refine q_aI d_X5_findLongest_46 e46 ?_
  refine g_if_eq 65 d_X5_findLongest_47 rfl (fun c47 => ?_) (fun c47 => ?_)
  · have hF := x_t hF c47
    refine q_iinc (1) [.ref x0, .ref x1, .int x2, .int (x3 + 1), xhole, xhole, xhole] d_X5_findLongest_65 ic_1 rfl (by decide) rfl ?_
    refine g_goto 7 d_X5_findLongest_68 rfl ?_
    exact q_to (xs_r (xs_r (xs_r (xs_r (xs_h (xs_h (xs_h xs_n))))))) (K7 _ _ _ _ _ hF)
  · have hF := x_f hF c47
    refine g_aloadn d_X5_findLongest_50 rfl ?_
    refine g_aloadn d_X5_findLongest_51 rfl ?_
    obtain ⟨v52, e52, hF⟩ := Option.bind_eq_some_iff.mp hF
    refine q_fI d_X5_findLongest_52 f_X5_15 e52 ?_
    refine g_iloadn d_X5_findLongest_55 rfl ?_
    obtain ⟨⟨r56, h56⟩, e56, hF⟩ := Option.bind_eq_some_iff.mp hF
    try dsimp only at hF
    refine q_callS [.int x3] [.int v52, .ref x0] rfl d_X5_findLongest_56 s_X5_44 (by omega) rfl (Nat.le_of_ble_eq_true rfl) (R_J6_bitCount_0f7a4 _ _ (by omega) e56) ?_
    obtain ⟨⟨r59, h59⟩, e59, hF⟩ := Option.bind_eq_some_iff.mp hF
    try dsimp only at hF
    refine q_callS [.int v52, .int (r56)] [.ref x0] rfl d_X5_findLongest_59 s_X5_50 (by omega) rfl (Nat.le_of_ble_eq_true rfl) (R_J9_max_7cf53 _ _ _ (by omega) e59) ?_
    obtain ⟨h62, e62, hF⟩ := Option.bind_eq_some_iff.mp hF
    refine q_wI d_X5_findLongest_62 (w_X5_15 _) e62 ?_
    refine q_iinc (1) [.ref x0, .ref x1, .int x2, .int (x3 + 1), xhole, xhole, xhole] d_X5_findLongest_65 ic_1 rfl (by decide) rfl ?_
    refine g_goto 7 d_X5_findLongest_68 rfl ?_
    exact q_to (xs_r (xs_r (xs_r (xs_r (xs_h (xs_h (xs_h xs_n))))))) (K7 _ _ _ _ _ hF)
def F_X5_findLongest_b79 : Nat → Nat → Nat → Int32 → Int32 → Int32 → xH → Option (Unit × xH)
  | 0, _, _, _, _, _, _ => none
  | n + 1, x0, x1, x3, x4, x5, h => (fI h x0 4 1).bind fun v82 => if v82 ≤ x5 then some ((), h) else (fI h x0 4 1).bind fun v93 => (fI h x1 9 0).bind fun v100 => (rc h x0 4).bind fun _ => (F_X5_beginningsWithout x0 x3 (v93 - x5) v100 h).bind fun z103 => if ¬ (x4 &&& z103.1) = 0 then (fR z103.2 x0 4 0).bind fun v122 => (F_J6_numberOfTrailingZeros_0f7a4 (x4 &&& z103.1) z103.2).bind fun z129 => (sI z129.2 v122 x5 z129.1).bind fun h132 => (fR h132 x0 4 0).bind fun v136 => (aI h132 v136 x5).bind fun v141 => (fR h132 x1 9 10).bind fun v146 => (fR h132 x0 4 0).bind fun v150 => (aI h132 v150 x5).bind fun v155 => (aI h132 v146 v155).bind fun v156 => F_X5_findLongest_b79 n x0 x1 (x3 ||| (((1 : Int32)) <<< (v141 &&& 31))) v156 (x5 + 1) h132 else (wI z103.2 x0 4 1 x5).bind fun h117 => some ((), h117)
theorem R_X5_findLongest_b79 {Γ : xG} {l : Launch} {d : Nat} {Q : Option Value → xH → Prop} {r : Unit} {h' : xH} (hdp : 2 ≤ d) (hq : Q (none) h') : ∀ (n : Nat) (x0 : Nat) (x1 : Nat) (x3 : Int32) (x4 : Int32) (x5 : Int32) (h : xH), F_X5_findLongest_b79 n x0 x1 x3 x4 x5 h = some (r, h') → Gd Γ l d m_X5_findLongest 79 [.ref x0, .ref x1, xhole, .int x3, .int x4, .int x5, xhole] [] h 0 0 Q := by
  intro n
  induction n with
  | zero => intro x0 x1 x3 x4 x5 h hF; cases hF
  | succ n ih =>
  intro x0 x1 x3 x4 x5 h hF
  rw [F_X5_findLongest_b79] at hF
  refine g_iload d_X5_findLongest_79 rfl ?_
  refine g_aloadn d_X5_findLongest_81 rfl ?_
  obtain ⟨v82, e82, hF⟩ := Option.bind_eq_some_iff.mp hF
  refine q_fI d_X5_findLongest_82 f_X5_15 e82 ?_
  refine g_icmp_ge 165 d_X5_findLongest_85 rfl (fun c85 => ?_) (fun c85 => ?_)
  · have hF := x_t hF c85
    obtain ⟨rfl, rfl⟩ := x_inj hF
    exact g_vret d_X5_findLongest_165 rfl hq
  · have hF := x_f hF c85
    refine g_iload d_X5_findLongest_88 rfl ?_
    refine g_aloadn d_X5_findLongest_90 rfl ?_
    refine g_iloadn d_X5_findLongest_91 rfl ?_
    refine g_aloadn d_X5_findLongest_92 rfl ?_
    obtain ⟨v93, e93, hF⟩ := Option.bind_eq_some_iff.mp hF
    refine q_fI d_X5_findLongest_93 f_X5_15 e93 ?_
    refine g_iload d_X5_findLongest_96 rfl ?_
    refine g_isub d_X5_findLongest_98 ?_
    refine g_aloadn d_X5_findLongest_99 rfl ?_
    obtain ⟨v100, e100, hF⟩ := Option.bind_eq_some_iff.mp hF
    refine q_fI d_X5_findLongest_100 f_X5_35 e100 ?_
    obtain ⟨_, g103, hF⟩ := Option.bind_eq_some_iff.mp hF
    obtain ⟨⟨r103, h103⟩, e103, hF⟩ := Option.bind_eq_some_iff.mp hF
    try dsimp only at hF
    refine q_callV [.int x3, .int (v93 - x5), .int v100] [.int x4] rfl d_X5_findLongest_103 v_X5_56 (by omega) rfl (Nat.le_of_ble_eq_true rfl) (rc_rc g103 (by decide) rfl) (R_X5_beginningsWithout _ _ _ _ _ (by omega) e103) ?_
    refine g_iand d_X5_findLongest_106 ?_
    refine q_istore [.ref x0, .ref x1, xhole, .int x3, .int x4, .int x5, .int (x4 &&& r103)] d_X5_findLongest_107 (by decide) rfl ?_
    refine g_iload d_X5_findLongest_109 rfl ?_
    refine g_if_ne 121 d_X5_findLongest_111 rfl (fun c111 => ?_) (fun c111 => ?_)
    · have hF := x_t hF c111
      refine g_aloadn d_X5_findLongest_121 rfl ?_
      obtain ⟨v122, e122, hF⟩ := Option.bind_eq_some_iff.mp hF
      refine q_fR d_X5_findLongest_122 f_X5_11 e122 ?_
      refine g_iload d_X5_findLongest_125 rfl ?_
      refine g_iload d_X5_findLongest_127 rfl ?_
      obtain ⟨⟨r129, h129⟩, e129, hF⟩ := Option.bind_eq_some_iff.mp hF
      try dsimp only at hF
      refine q_callS [.int (x4 &&& r103)] [.int x5, .ref v122] rfl d_X5_findLongest_129 s_X5_60 (by omega) rfl (Nat.le_of_ble_eq_true rfl) (R_J6_numberOfTrailingZeros_0f7a4 _ _ (by omega) e129) ?_
      obtain ⟨h132, e132, hF⟩ := Option.bind_eq_some_iff.mp hF
      refine q_sI d_X5_findLongest_132 e132 ?_
      refine g_iloadn d_X5_findLongest_133 rfl ?_
      refine g_ic (1) d_X5_findLongest_134 ic_1 ?_
      refine g_aloadn d_X5_findLongest_135 rfl ?_
      obtain ⟨v136, e136, hF⟩ := Option.bind_eq_some_iff.mp hF
      refine q_fR d_X5_findLongest_136 f_X5_11 e136 ?_
      refine g_iload d_X5_findLongest_139 rfl ?_
      obtain ⟨v141, e141, hF⟩ := Option.bind_eq_some_iff.mp hF
      refine q_aI d_X5_findLongest_141 e141 ?_
      refine g_ishl d_X5_findLongest_142 ?_
      refine g_ior d_X5_findLongest_143 ?_
      refine q_istoren [.ref x0, .ref x1, xhole, .int (x3 ||| (((1 : Int32)) <<< (v141 &&& 31))), .int x4, .int x5, .int (x4 &&& r103)] d_X5_findLongest_144 (by decide) rfl ?_
      refine g_aloadn d_X5_findLongest_145 rfl ?_
      obtain ⟨v146, e146, hF⟩ := Option.bind_eq_some_iff.mp hF
      refine q_fR d_X5_findLongest_146 f_X5_63 e146 ?_
      refine g_aloadn d_X5_findLongest_149 rfl ?_
      obtain ⟨v150, e150, hF⟩ := Option.bind_eq_some_iff.mp hF
      refine q_fR d_X5_findLongest_150 f_X5_11 e150 ?_
      refine g_iload d_X5_findLongest_153 rfl ?_
      obtain ⟨v155, e155, hF⟩ := Option.bind_eq_some_iff.mp hF
      refine q_aI d_X5_findLongest_155 e155 ?_
      obtain ⟨v156, e156, hF⟩ := Option.bind_eq_some_iff.mp hF
      refine q_aI d_X5_findLongest_156 e156 ?_
      refine q_istore [.ref x0, .ref x1, xhole, .int (x3 ||| (((1 : Int32)) <<< (v141 &&& 31))), .int v156, .int x5, .int (x4 &&& r103)] d_X5_findLongest_157 (by decide) rfl ?_
      refine q_iinc (1) [.ref x0, .ref x1, xhole, .int (x3 ||| (((1 : Int32)) <<< (v141 &&& 31))), .int v156, .int (x5 + 1), .int (x4 &&& r103)] d_X5_findLongest_159 ic_1 rfl (by decide) rfl ?_
      refine g_goto 79 d_X5_findLongest_162 rfl ?_
      exact q_to (xs_r (xs_r (xs_h (xs_r (xs_r (xs_r (xs_h xs_n))))))) (ih _ _ _ _ _ _ hF)
    · have hF := x_f hF (not_not_intro c111)
      refine g_aloadn d_X5_findLongest_114 rfl ?_
      refine g_iload d_X5_findLongest_115 rfl ?_
      obtain ⟨h117, e117, hF⟩ := Option.bind_eq_some_iff.mp hF
      refine q_wI d_X5_findLongest_117 (w_X5_15 _) e117 ?_
      obtain ⟨rfl, rfl⟩ := x_inj hF
      exact g_vret d_X5_findLongest_120 rfl hq
def F_X5_findLongest_b7 : Nat → Nat → Nat → Int32 → Int32 → xH → Option (Unit × xH)
  | 0, _, _, _, _, _ => none
  | n + 1, x0, x1, x2, x3, h => (fI h x1 9 0).bind fun v10 => if (((1 : Int32)) <<< (v10 &&& 31)) ≤ x3 then F_X5_findLongest_b79 FU x0 x1 0 x2 0 h else (fR h x0 4 2).bind fun v18 => if ¬ (x3 &&& (x2 ^^^ ((-1)))) = 0 then F_X5_findLongest_b40 (F_X5_findLongest_b7 n) x0 x1 x2 x3 v18 x3 0 h else (rc h x0 4).bind fun _ => (F_X5_beginningsOf x0 x1 x3 h).bind fun z33 => F_X5_findLongest_b40 (F_X5_findLongest_b7 n) x0 x1 x2 x3 v18 x3 z33.1 z33.2
theorem R_X5_findLongest_b7 {Γ : xG} {l : Launch} {d : Nat} {Q : Option Value → xH → Prop} {r : Unit} {h' : xH} (hdp : 2 ≤ d) (hq : Q (none) h') : ∀ (n : Nat) (x0 : Nat) (x1 : Nat) (x2 : Int32) (x3 : Int32) (h : xH), F_X5_findLongest_b7 n x0 x1 x2 x3 h = some (r, h') → Gd Γ l d m_X5_findLongest 7 [.ref x0, .ref x1, .int x2, .int x3, xhole, xhole, xhole] [] h 0 0 Q := by
  intro n
  induction n with
  | zero => intro x0 x1 x2 x3 h hF; cases hF
  | succ n ih =>
  intro x0 x1 x2 x3 h hF
  rw [F_X5_findLongest_b7] at hF
  refine g_iloadn d_X5_findLongest_7 rfl ?_
  refine g_ic (1) d_X5_findLongest_8 ic_1 ?_
  refine g_aloadn d_X5_findLongest_9 rfl ?_
  obtain ⟨v10, e10, hF⟩ := Option.bind_eq_some_iff.mp hF
  refine q_fI d_X5_findLongest_10 f_X5_35 e10 ?_
  refine g_ishl d_X5_findLongest_13 ?_
  refine g_icmp_ge 71 d_X5_findLongest_14 rfl (fun c14 => ?_) (fun c14 => ?_)
  · have hF := x_t hF c14
    refine g_ic (0) d_X5_findLongest_71 ic_0 ?_
    refine q_istoren [.ref x0, .ref x1, .int x2, .int 0, xhole, xhole, xhole] d_X5_findLongest_72 (by decide) rfl ?_
    refine g_iloadn d_X5_findLongest_73 rfl ?_
    refine q_istore [.ref x0, .ref x1, .int x2, .int 0, .int x2, xhole, xhole] d_X5_findLongest_74 (by decide) rfl ?_
    refine g_ic (0) d_X5_findLongest_76 ic_0 ?_
    refine q_istore [.ref x0, .ref x1, .int x2, .int 0, .int x2, .int 0, xhole] d_X5_findLongest_77 (by decide) rfl ?_
    exact q_to (xs_r (xs_r (xs_h (xs_r (xs_r (xs_r (xs_h xs_n))))))) (R_X5_findLongest_b79 hdp hq FU _ _ _ _ _ _ hF)
  · have hF := x_f hF c14
    refine g_aloadn d_X5_findLongest_17 rfl ?_
    obtain ⟨v18, e18, hF⟩ := Option.bind_eq_some_iff.mp hF
    refine q_fR d_X5_findLongest_18 f_X5_19 e18 ?_
    refine g_iloadn d_X5_findLongest_21 rfl ?_
    refine g_iloadn d_X5_findLongest_22 rfl ?_
    refine g_iloadn d_X5_findLongest_23 rfl ?_
    refine g_ic (-1) d_X5_findLongest_24 ic_m1 ?_
    refine g_ixor d_X5_findLongest_25 ?_
    refine g_iand d_X5_findLongest_26 ?_
    refine g_if_ne 39 d_X5_findLongest_27 rfl (fun c27 => ?_) (fun c27 => ?_)
    · have hF := x_t hF c27
      refine g_ic (0) d_X5_findLongest_39 ic_0 ?_
      exact q_to (xs_r (xs_r (xs_r (xs_r (xs_h (xs_h (xs_h xs_n))))))) (R_X5_findLongest_b40 ih hdp hq _ _ _ _ _ _ _ _ hF)
    · have hF := x_f hF (not_not_intro c27)
      refine g_aloadn d_X5_findLongest_30 rfl ?_
      refine g_aloadn d_X5_findLongest_31 rfl ?_
      refine g_iloadn d_X5_findLongest_32 rfl ?_
      obtain ⟨_, g33, hF⟩ := Option.bind_eq_some_iff.mp hF
      obtain ⟨⟨r33, h33⟩, e33, hF⟩ := Option.bind_eq_some_iff.mp hF
      try dsimp only at hF
      refine q_callV [.ref x1, .int x3] [.int x3, .ref v18] rfl d_X5_findLongest_33 v_X5_40 (by omega) rfl (Nat.le_of_ble_eq_true rfl) (rc_rc g33 (by decide) rfl) (R_X5_beginningsOf _ _ _ _ (by omega) e33) ?_
      refine g_goto 40 d_X5_findLongest_36 rfl ?_
      exact q_to (xs_r (xs_r (xs_r (xs_r (xs_h (xs_h (xs_h xs_n))))))) (R_X5_findLongest_b40 ih hdp hq _ _ _ _ _ _ _ _ hF)
def F_X5_findLongest (x0 : Nat) (x1 : Nat) (x2 : Int32) (h : xH) : Option (Unit × xH) := (wI h x0 4 1 0).bind fun h2 => F_X5_findLongest_b7 FU x0 x1 x2 1 h2
theorem R_X5_findLongest {Γ : xG} {l : Launch} {d : Nat} {r : Unit} {h' : xH} (x0 : Nat) (x1 : Nat) (x2 : Int32) (h : xH) (hdp : 2 ≤ d) (hF : F_X5_findLongest x0 x1 x2 h = some (r, h')) : Gm Γ l d 0 0 m_X5_findLongest [.ref x0, .ref x1, .int x2] h (fun a u => a = none ∧ u = h') := by
  refine Gm.of pn_X5 (Nat.le_of_ble_eq_true rfl) ?_
  show Gd Γ l d m_X5_findLongest 0 [.ref x0, .ref x1, .int x2, xhole, xhole, xhole, xhole] [] h 0 0 _
  generalize hQ : (fun (a : Option Value) (u : xH) => a = none ∧ u = h') = Q
  have hq : Q (none) h' := by rw [← hQ]; exact ⟨rfl, rfl⟩
  clear hQ
  unfold F_X5_findLongest at hF
  refine g_aloadn d_X5_findLongest_0 rfl ?_
  refine g_ic (0) d_X5_findLongest_1 ic_0 ?_
  obtain ⟨h2, e2, hF⟩ := Option.bind_eq_some_iff.mp hF
  refine q_wI d_X5_findLongest_2 (w_X5_15 _) e2 ?_
  refine g_ic (1) d_X5_findLongest_5 ic_1 ?_
  refine q_istoren [.ref x0, .ref x1, .int x2, .int 1, xhole, xhole, xhole] d_X5_findLongest_6 (by decide) rfl ?_
  exact q_to (xs_r (xs_r (xs_r (xs_r (xs_h (xs_h (xs_h xs_n))))))) (R_X5_findLongest_b7 hdp hq FU _ _ _ _ _ hF)
