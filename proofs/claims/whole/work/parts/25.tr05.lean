/-! ===== methods as functions, 5: written by a program out of the listings ===== -/
theorem d_X11_whole_0 : decode cX11_whole 0 = .ok (.aload_n 0, 1) := by decide +kernel
theorem d_X11_whole_1 : decode cX11_whole 1 = .ok (.getfield 19, 3) := by decide +kernel
theorem d_X11_whole_4 : decode cX11_whole 4 = .ok (.iload_n 1, 1) := by decide +kernel
theorem d_X11_whole_5 : decode cX11_whole 5 = .ok (.invokevirtual 169, 3) := by decide +kernel
theorem d_X11_whole_8 : decode cX11_whole 8 = .ok (.ifCond .ne 6, 3) := by decide +kernel
theorem d_X11_whole_11 : decode cX11_whole 11 = .ok (.bipush (-3), 2) := by decide +kernel
theorem d_X11_whole_13 : decode cX11_whole 13 = .ok (.ireturn, 1) := by decide +kernel
theorem d_X11_whole_14 : decode cX11_whole 14 = .ok (.aload_n 0, 1) := by decide +kernel
theorem d_X11_whole_15 : decode cX11_whole 15 = .ok (.getfield 19, 3) := by decide +kernel
theorem d_X11_whole_18 : decode cX11_whole 18 = .ok (.aload_n 0, 1) := by decide +kernel
theorem d_X11_whole_19 : decode cX11_whole 19 = .ok (.getfield 26, 3) := by decide +kernel
theorem d_X11_whole_22 : decode cX11_whole 22 = .ok (.iload_n 1, 1) := by decide +kernel
theorem d_X11_whole_23 : decode cX11_whole 23 = .ok (.invokevirtual 172, 3) := by decide +kernel
theorem d_X11_whole_26 : decode cX11_whole 26 = .ok (.istore_n 2, 1) := by decide +kernel
theorem d_X11_whole_27 : decode cX11_whole 27 = .ok (.iconst 0, 1) := by decide +kernel
theorem d_X11_whole_28 : decode cX11_whole 28 = .ok (.istore_n 3, 1) := by decide +kernel
theorem d_X11_whole_29 : decode cX11_whole 29 = .ok (.iconst 0, 1) := by decide +kernel
theorem d_X11_whole_30 : decode cX11_whole 30 = .ok (.istore 4, 2) := by decide +kernel
theorem d_X11_whole_32 : decode cX11_whole 32 = .ok (.iload 4, 2) := by decide +kernel
theorem d_X11_whole_34 : decode cX11_whole 34 = .ok (.aload_n 0, 1) := by decide +kernel
theorem d_X11_whole_35 : decode cX11_whole 35 = .ok (.getfield 19, 3) := by decide +kernel
theorem d_X11_whole_38 : decode cX11_whole 38 = .ok (.getfield 175, 3) := by decide +kernel
theorem d_X11_whole_41 : decode cX11_whole 41 = .ok (.if_icmp .ge 29, 3) := by decide +kernel
theorem d_X11_whole_44 : decode cX11_whole 44 = .ok (.aload_n 0, 1) := by decide +kernel
theorem d_X11_whole_45 : decode cX11_whole 45 = .ok (.getfield 19, 3) := by decide +kernel
theorem d_X11_whole_48 : decode cX11_whole 48 = .ok (.iload 4, 2) := by decide +kernel
theorem d_X11_whole_50 : decode cX11_whole 50 = .ok (.iload_n 2, 1) := by decide +kernel
theorem d_X11_whole_51 : decode cX11_whole 51 = .ok (.invokevirtual 166, 3) := by decide +kernel
theorem d_X11_whole_54 : decode cX11_whole 54 = .ok (.ifCond .ne 10, 3) := by decide +kernel
theorem d_X11_whole_57 : decode cX11_whole 57 = .ok (.iload_n 3, 1) := by decide +kernel
theorem d_X11_whole_58 : decode cX11_whole 58 = .ok (.iconst 1, 1) := by decide +kernel
theorem d_X11_whole_59 : decode cX11_whole 59 = .ok (.iload 4, 2) := by decide +kernel
theorem d_X11_whole_61 : decode cX11_whole 61 = .ok (.ishl, 1) := by decide +kernel
theorem d_X11_whole_62 : decode cX11_whole 62 = .ok (.ior, 1) := by decide +kernel
theorem d_X11_whole_63 : decode cX11_whole 63 = .ok (.istore_n 3, 1) := by decide +kernel
theorem d_X11_whole_64 : decode cX11_whole 64 = .ok (.iinc 4 1, 3) := by decide +kernel
theorem d_X11_whole_67 : decode cX11_whole 67 = .ok (.goto (-35), 3) := by decide +kernel
theorem d_X11_whole_70 : decode cX11_whole 70 = .ok (.iload_n 3, 1) := by decide +kernel
theorem d_X11_whole_71 : decode cX11_whole 71 = .ok (.ireturn, 1) := by decide +kernel
def F_X11_whole_b32 : Nat → Nat → Int32 → Int32 → Int32 → xH → Option (Int32 × xH)
  | 0, _, _, _, _, _ => none
  | n + 1, x0, x2, x3, x4, h => (fR h x0 10 1).bind fun v35 => (fI h v35 9 2).bind fun v38 => if v38 ≤ x4 then some (x3, h) else (fR h x0 10 1).bind fun v45 => (rc h v45 9).bind fun _ => (F_X10_steppedOver v45 x4 x2 h).bind fun z51 => if ¬ z51.1 = 0 then F_X11_whole_b32 n x0 x2 x3 (x4 + 1) z51.2 else F_X11_whole_b32 n x0 x2 (x3 ||| (((1 : Int32)) <<< (x4 &&& 31))) (x4 + 1) z51.2
theorem R_X11_whole_b32 {Γ : xG} {l : Launch} {d : Nat} {Q : Option Value → xH → Prop} {r : Int32} {h' : xH} (hdp : 7 ≤ d) (hq : Q (some (.int r)) h') : ∀ (n : Nat) (x0 : Nat) (x2 : Int32) (x3 : Int32) (x4 : Int32) (h : xH), F_X11_whole_b32 n x0 x2 x3 x4 h = some (r, h') → Gd Γ l d m_X11_whole 32 [.ref x0, xhole, .int x2, .int x3, .int x4] [] h 0 0 Q := by
  intro n
  induction n with
  | zero => intro x0 x2 x3 x4 h hF; cases hF
  | succ n ih =>
  intro x0 x2 x3 x4 h hF
  rw [F_X11_whole_b32] at hF
  refine g_iload d_X11_whole_32 rfl ?_
  refine g_aloadn d_X11_whole_34 rfl ?_
  obtain ⟨v35, e35, hF⟩ := Option.bind_eq_some_iff.mp hF
  refine q_fR d_X11_whole_35 f_X11_19 e35 ?_
  obtain ⟨v38, e38, hF⟩ := Option.bind_eq_some_iff.mp hF
  refine q_fI d_X11_whole_38 f_X11_175 e38 ?_
  refine g_icmp_ge 70 d_X11_whole_41 rfl (fun c41 => ?_) (fun c41 => ?_)
  · have hF := x_t hF c41
    refine g_iloadn d_X11_whole_70 rfl ?_
    obtain ⟨rfl, rfl⟩ := x_inj hF
    exact g_iret d_X11_whole_71 rfl hq
  · have hF := x_f hF c41
    refine g_aloadn d_X11_whole_44 rfl ?_
    obtain ⟨v45, e45, hF⟩ := Option.bind_eq_some_iff.mp hF
    refine q_fR d_X11_whole_45 f_X11_19 e45 ?_
    refine g_iload d_X11_whole_48 rfl ?_
    refine g_iloadn d_X11_whole_50 rfl ?_
    obtain ⟨_, g51, hF⟩ := Option.bind_eq_some_iff.mp hF
    obtain ⟨⟨r51, h51⟩, e51, hF⟩ := Option.bind_eq_some_iff.mp hF
    try dsimp only at hF
    refine q_callV [.int x4, .int x2] [] rfl d_X11_whole_51 v_X11_166 (by omega) rfl (Nat.le_of_ble_eq_true rfl) (rc_rc g51 (by decide) rfl) (R_X10_steppedOver _ _ _ _ (by omega) e51) ?_
    refine g_if_ne 64 d_X11_whole_54 rfl (fun c54 => ?_) (fun c54 => ?_)
    · have hF := x_t hF c54
      refine q_iinc (1) [.ref x0, xhole, .int x2, .int x3, .int (x4 + 1)] d_X11_whole_64 ic_1 rfl (by decide) rfl ?_
      refine g_goto 32 d_X11_whole_67 rfl ?_
      exact q_to (xs_r (xs_h (xs_r (xs_r (xs_r xs_n))))) (ih _ _ _ _ _ hF)
    · have hF := x_f hF (not_not_intro c54)
      refine g_iloadn d_X11_whole_57 rfl ?_
      refine g_ic (1) d_X11_whole_58 ic_1 ?_
      refine g_iload d_X11_whole_59 rfl ?_
      refine g_ishl d_X11_whole_61 ?_
      refine g_ior d_X11_whole_62 ?_
      refine q_istoren [.ref x0, xhole, .int x2, .int (x3 ||| (((1 : Int32)) <<< (x4 &&& 31))), .int x4] d_X11_whole_63 (by decide) rfl ?_
      refine q_iinc (1) [.ref x0, xhole, .int x2, .int (x3 ||| (((1 : Int32)) <<< (x4 &&& 31))), .int (x4 + 1)] d_X11_whole_64 ic_1 rfl (by decide) rfl ?_
      refine g_goto 32 d_X11_whole_67 rfl ?_
      exact q_to (xs_r (xs_h (xs_r (xs_r (xs_r xs_n))))) (ih _ _ _ _ _ hF)
def F_X11_whole (x0 : Nat) (x1 : Int32) (h : xH) : Option (Int32 × xH) := (fR h x0 10 1).bind fun v1 => (rc h v1 9).bind fun _ => (F_X10_isPeople v1 x1 h).bind fun z5 => if ¬ z5.1 = 0 then (fR z5.2 x0 10 1).bind fun v15 => (fR z5.2 x0 10 2).bind fun v19 => (rc z5.2 v15 9).bind fun _ => (F_X10_heardByAll v15 v19 x1 z5.2).bind fun z23 => F_X11_whole_b32 FU x0 z23.1 0 0 z23.2 else some ((-3), z5.2)
theorem R_X11_whole {Γ : xG} {l : Launch} {d : Nat} {r : Int32} {h' : xH} (x0 : Nat) (x1 : Int32) (h : xH) (hdp : 7 ≤ d) (hF : F_X11_whole x0 x1 h = some (r, h')) : Gm Γ l d 0 0 m_X11_whole [.ref x0, .int x1] h (fun a u => a = some (.int r) ∧ u = h') := by
  refine Gm.of pn_X11 (Nat.le_of_ble_eq_true rfl) ?_
  show Gd Γ l d m_X11_whole 0 [.ref x0, .int x1, xhole, xhole, xhole] [] h 0 0 _
  generalize hQ : (fun (a : Option Value) (u : xH) => a = some (.int r) ∧ u = h') = Q
  have hq : Q (some (.int r)) h' := by rw [← hQ]; exact ⟨rfl, rfl⟩
  clear hQ
  unfold F_X11_whole at hF
  refine g_aloadn d_X11_whole_0 rfl ?_
  obtain ⟨v1, e1, hF⟩ := Option.bind_eq_some_iff.mp hF
  refine q_fR d_X11_whole_1 f_X11_19 e1 ?_
  refine g_iloadn d_X11_whole_4 rfl ?_
  obtain ⟨_, g5, hF⟩ := Option.bind_eq_some_iff.mp hF
  obtain ⟨⟨r5, h5⟩, e5, hF⟩ := Option.bind_eq_some_iff.mp hF
  try dsimp only at hF
  refine q_callV [.int x1] [] rfl d_X11_whole_5 v_X11_169 (by omega) rfl (Nat.le_of_ble_eq_true rfl) (rc_rc g5 (by decide) rfl) (R_X10_isPeople _ _ _ (by omega) e5) ?_
  refine g_if_ne 14 d_X11_whole_8 rfl (fun c8 => ?_) (fun c8 => ?_)
  · have hF := x_t hF c8
    refine g_aloadn d_X11_whole_14 rfl ?_
    obtain ⟨v15, e15, hF⟩ := Option.bind_eq_some_iff.mp hF
    refine q_fR d_X11_whole_15 f_X11_19 e15 ?_
    refine g_aloadn d_X11_whole_18 rfl ?_
    obtain ⟨v19, e19, hF⟩ := Option.bind_eq_some_iff.mp hF
    refine q_fR d_X11_whole_19 f_X11_26 e19 ?_
    refine g_iloadn d_X11_whole_22 rfl ?_
    obtain ⟨_, g23, hF⟩ := Option.bind_eq_some_iff.mp hF
    obtain ⟨⟨r23, h23⟩, e23, hF⟩ := Option.bind_eq_some_iff.mp hF
    try dsimp only at hF
    refine q_callV [.ref v19, .int x1] [] rfl d_X11_whole_23 v_X11_172 (by omega) rfl (Nat.le_of_ble_eq_true rfl) (rc_rc g23 (by decide) rfl) (R_X10_heardByAll _ _ _ _ (by omega) e23) ?_
    refine q_istoren [.ref x0, .int x1, .int (r23), xhole, xhole] d_X11_whole_26 (by decide) rfl ?_
    refine g_ic (0) d_X11_whole_27 ic_0 ?_
    refine q_istoren [.ref x0, .int x1, .int (r23), .int 0, xhole] d_X11_whole_28 (by decide) rfl ?_
    refine g_ic (0) d_X11_whole_29 ic_0 ?_
    refine q_istore [.ref x0, .int x1, .int (r23), .int 0, .int 0] d_X11_whole_30 (by decide) rfl ?_
    exact q_to (xs_r (xs_h (xs_r (xs_r (xs_r xs_n))))) (R_X11_whole_b32 hdp hq FU _ _ _ _ _ hF)
  · have hF := x_f hF (not_not_intro c8)
    refine g_bi (-3) d_X11_whole_11 bi_m3 ?_
    obtain ⟨rfl, rfl⟩ := x_inj hF
    exact g_iret d_X11_whole_13 rfl hq
theorem d_X11_owners_0 : decode cX11_owners 0 = .ok (.aload_n 0, 1) := by decide +kernel
theorem d_X11_owners_1 : decode cX11_owners 1 = .ok (.getfield 19, 3) := by decide +kernel
theorem d_X11_owners_4 : decode cX11_owners 4 = .ok (.iload_n 1, 1) := by decide +kernel
theorem d_X11_owners_5 : decode cX11_owners 5 = .ok (.invokevirtual 178, 3) := by decide +kernel
theorem d_X11_owners_8 : decode cX11_owners 8 = .ok (.ifCond .ne 6, 3) := by decide +kernel
theorem d_X11_owners_11 : decode cX11_owners 11 = .ok (.bipush (-2), 2) := by decide +kernel
theorem d_X11_owners_13 : decode cX11_owners 13 = .ok (.ireturn, 1) := by decide +kernel
theorem d_X11_owners_14 : decode cX11_owners 14 = .ok (.iconst 0, 1) := by decide +kernel
theorem d_X11_owners_15 : decode cX11_owners 15 = .ok (.istore_n 2, 1) := by decide +kernel
theorem d_X11_owners_16 : decode cX11_owners 16 = .ok (.iconst 0, 1) := by decide +kernel
theorem d_X11_owners_17 : decode cX11_owners 17 = .ok (.istore_n 3, 1) := by decide +kernel
theorem d_X11_owners_18 : decode cX11_owners 18 = .ok (.iload_n 3, 1) := by decide +kernel
theorem d_X11_owners_19 : decode cX11_owners 19 = .ok (.aload_n 0, 1) := by decide +kernel
theorem d_X11_owners_20 : decode cX11_owners 20 = .ok (.getfield 19, 3) := by decide +kernel
theorem d_X11_owners_23 : decode cX11_owners 23 = .ok (.getfield 148, 3) := by decide +kernel
theorem d_X11_owners_26 : decode cX11_owners 26 = .ok (.if_icmp .ge 34, 3) := by decide +kernel
theorem d_X11_owners_29 : decode cX11_owners 29 = .ok (.aload_n 0, 1) := by decide +kernel
theorem d_X11_owners_30 : decode cX11_owners 30 = .ok (.getfield 19, 3) := by decide +kernel
theorem d_X11_owners_33 : decode cX11_owners 33 = .ok (.aload_n 0, 1) := by decide +kernel
theorem d_X11_owners_34 : decode cX11_owners 34 = .ok (.getfield 26, 3) := by decide +kernel
theorem d_X11_owners_37 : decode cX11_owners 37 = .ok (.iload_n 3, 1) := by decide +kernel
theorem d_X11_owners_38 : decode cX11_owners 38 = .ok (.invokevirtual 134, 3) := by decide +kernel
theorem d_X11_owners_41 : decode cX11_owners 41 = .ok (.iload_n 1, 1) := by decide +kernel
theorem d_X11_owners_42 : decode cX11_owners 42 = .ok (.ishr, 1) := by decide +kernel
theorem d_X11_owners_43 : decode cX11_owners 43 = .ok (.iconst 1, 1) := by decide +kernel
theorem d_X11_owners_44 : decode cX11_owners 44 = .ok (.iand, 1) := by decide +kernel
theorem d_X11_owners_45 : decode cX11_owners 45 = .ok (.ifCond .ne 9, 3) := by decide +kernel
theorem d_X11_owners_48 : decode cX11_owners 48 = .ok (.iload_n 2, 1) := by decide +kernel
theorem d_X11_owners_49 : decode cX11_owners 49 = .ok (.iconst 1, 1) := by decide +kernel
theorem d_X11_owners_50 : decode cX11_owners 50 = .ok (.iload_n 3, 1) := by decide +kernel
theorem d_X11_owners_51 : decode cX11_owners 51 = .ok (.ishl, 1) := by decide +kernel
theorem d_X11_owners_52 : decode cX11_owners 52 = .ok (.ior, 1) := by decide +kernel
theorem d_X11_owners_53 : decode cX11_owners 53 = .ok (.istore_n 2, 1) := by decide +kernel
theorem d_X11_owners_54 : decode cX11_owners 54 = .ok (.iinc 3 1, 3) := by decide +kernel
theorem d_X11_owners_57 : decode cX11_owners 57 = .ok (.goto (-39), 3) := by decide +kernel
theorem d_X11_owners_60 : decode cX11_owners 60 = .ok (.iload_n 2, 1) := by decide +kernel
theorem d_X11_owners_61 : decode cX11_owners 61 = .ok (.ireturn, 1) := by decide +kernel
def F_X11_owners_b18 : Nat → Nat → Int32 → Int32 → Int32 → xH → Option (Int32 × xH)
  | 0, _, _, _, _, _ => none
  | n + 1, x0, x1, x2, x3, h => (fR h x0 10 1).bind fun v20 => (fI h v20 9 4).bind fun v23 => if v23 ≤ x3 then some (x2, h) else (fR h x0 10 1).bind fun v30 => (fR h x0 10 2).bind fun v34 => (rc h v30 9).bind fun _ => (F_X10_heardBy v30 v34 x3 h).bind fun z38 => if ¬ ((z38.1 >>> (x1 &&& 31)) &&& 1) = 0 then F_X11_owners_b18 n x0 x1 x2 (x3 + 1) z38.2 else F_X11_owners_b18 n x0 x1 (x2 ||| (((1 : Int32)) <<< (x3 &&& 31))) (x3 + 1) z38.2
theorem R_X11_owners_b18 {Γ : xG} {l : Launch} {d : Nat} {Q : Option Value → xH → Prop} {r : Int32} {h' : xH} (hdp : 6 ≤ d) (hq : Q (some (.int r)) h') : ∀ (n : Nat) (x0 : Nat) (x1 : Int32) (x2 : Int32) (x3 : Int32) (h : xH), F_X11_owners_b18 n x0 x1 x2 x3 h = some (r, h') → Gd Γ l d m_X11_owners 18 [.ref x0, .int x1, .int x2, .int x3] [] h 0 0 Q := by
  intro n
  induction n with
  | zero => intro x0 x1 x2 x3 h hF; cases hF
  | succ n ih =>
  intro x0 x1 x2 x3 h hF
  rw [F_X11_owners_b18] at hF
  refine g_iloadn d_X11_owners_18 rfl ?_
  refine g_aloadn d_X11_owners_19 rfl ?_
  obtain ⟨v20, e20, hF⟩ := Option.bind_eq_some_iff.mp hF
  refine q_fR d_X11_owners_20 f_X11_19 e20 ?_
  obtain ⟨v23, e23, hF⟩ := Option.bind_eq_some_iff.mp hF
  refine q_fI d_X11_owners_23 f_X11_148 e23 ?_
  refine g_icmp_ge 60 d_X11_owners_26 rfl (fun c26 => ?_) (fun c26 => ?_)
  · have hF := x_t hF c26
    refine g_iloadn d_X11_owners_60 rfl ?_
    obtain ⟨rfl, rfl⟩ := x_inj hF
    exact g_iret d_X11_owners_61 rfl hq
  · have hF := x_f hF c26
    refine g_aloadn d_X11_owners_29 rfl ?_
    obtain ⟨v30, e30, hF⟩ := Option.bind_eq_some_iff.mp hF
    refine q_fR d_X11_owners_30 f_X11_19 e30 ?_
    refine g_aloadn d_X11_owners_33 rfl ?_
    obtain ⟨v34, e34, hF⟩ := Option.bind_eq_some_iff.mp hF
    refine q_fR d_X11_owners_34 f_X11_26 e34 ?_
    refine g_iloadn d_X11_owners_37 rfl ?_
    obtain ⟨_, g38, hF⟩ := Option.bind_eq_some_iff.mp hF
    obtain ⟨⟨r38, h38⟩, e38, hF⟩ := Option.bind_eq_some_iff.mp hF
    try dsimp only at hF
    refine q_callV [.ref v34, .int x3] [] rfl d_X11_owners_38 v_X11_134 (by omega) rfl (Nat.le_of_ble_eq_true rfl) (rc_rc g38 (by decide) rfl) (R_X10_heardBy _ _ _ _ (by omega) e38) ?_
    refine g_iloadn d_X11_owners_41 rfl ?_
    refine g_ishr d_X11_owners_42 ?_
    refine g_ic (1) d_X11_owners_43 ic_1 ?_
    refine g_iand d_X11_owners_44 ?_
    refine g_if_ne 54 d_X11_owners_45 rfl (fun c45 => ?_) (fun c45 => ?_)
    · have hF := x_t hF c45
      refine q_iinc (1) [.ref x0, .int x1, .int x2, .int (x3 + 1)] d_X11_owners_54 ic_1 rfl (by decide) rfl ?_
      refine g_goto 18 d_X11_owners_57 rfl ?_
      exact q_to (xs_r (xs_r (xs_r (xs_r xs_n)))) (ih _ _ _ _ _ hF)
    · have hF := x_f hF (not_not_intro c45)
      refine g_iloadn d_X11_owners_48 rfl ?_
      refine g_ic (1) d_X11_owners_49 ic_1 ?_
      refine g_iloadn d_X11_owners_50 rfl ?_
      refine g_ishl d_X11_owners_51 ?_
      refine g_ior d_X11_owners_52 ?_
      refine q_istoren [.ref x0, .int x1, .int (x2 ||| (((1 : Int32)) <<< (x3 &&& 31))), .int x3] d_X11_owners_53 (by decide) rfl ?_
      refine q_iinc (1) [.ref x0, .int x1, .int (x2 ||| (((1 : Int32)) <<< (x3 &&& 31))), .int (x3 + 1)] d_X11_owners_54 ic_1 rfl (by decide) rfl ?_
      refine g_goto 18 d_X11_owners_57 rfl ?_
      exact q_to (xs_r (xs_r (xs_r (xs_r xs_n)))) (ih _ _ _ _ _ hF)
def F_X11_owners (x0 : Nat) (x1 : Int32) (h : xH) : Option (Int32 × xH) := (fR h x0 10 1).bind fun v1 => (rc h v1 9).bind fun _ => (F_X10_hasNote v1 x1 h).bind fun z5 => if ¬ z5.1 = 0 then F_X11_owners_b18 FU x0 x1 0 0 z5.2 else some ((-2), z5.2)
theorem R_X11_owners {Γ : xG} {l : Launch} {d : Nat} {r : Int32} {h' : xH} (x0 : Nat) (x1 : Int32) (h : xH) (hdp : 6 ≤ d) (hF : F_X11_owners x0 x1 h = some (r, h')) : Gm Γ l d 0 0 m_X11_owners [.ref x0, .int x1] h (fun a u => a = some (.int r) ∧ u = h') := by
  refine Gm.of pn_X11 (Nat.le_of_ble_eq_true rfl) ?_
  show Gd Γ l d m_X11_owners 0 [.ref x0, .int x1, xhole, xhole] [] h 0 0 _
  generalize hQ : (fun (a : Option Value) (u : xH) => a = some (.int r) ∧ u = h') = Q
  have hq : Q (some (.int r)) h' := by rw [← hQ]; exact ⟨rfl, rfl⟩
  clear hQ
  unfold F_X11_owners at hF
  refine g_aloadn d_X11_owners_0 rfl ?_
  obtain ⟨v1, e1, hF⟩ := Option.bind_eq_some_iff.mp hF
  refine q_fR d_X11_owners_1 f_X11_19 e1 ?_
  refine g_iloadn d_X11_owners_4 rfl ?_
  obtain ⟨_, g5, hF⟩ := Option.bind_eq_some_iff.mp hF
  obtain ⟨⟨r5, h5⟩, e5, hF⟩ := Option.bind_eq_some_iff.mp hF
  try dsimp only at hF
  refine q_callV [.int x1] [] rfl d_X11_owners_5 v_X11_178 (by omega) rfl (Nat.le_of_ble_eq_true rfl) (rc_rc g5 (by decide) rfl) (R_X10_hasNote _ _ _ (by omega) e5) ?_
  refine g_if_ne 14 d_X11_owners_8 rfl (fun c8 => ?_) (fun c8 => ?_)
  · have hF := x_t hF c8
    refine g_ic (0) d_X11_owners_14 ic_0 ?_
    refine q_istoren [.ref x0, .int x1, .int 0, xhole] d_X11_owners_15 (by decide) rfl ?_
    refine g_ic (0) d_X11_owners_16 ic_0 ?_
    refine q_istoren [.ref x0, .int x1, .int 0, .int 0] d_X11_owners_17 (by decide) rfl ?_
    exact q_to (xs_r (xs_r (xs_r (xs_r xs_n)))) (R_X11_owners_b18 hdp hq FU _ _ _ _ _ hF)
  · have hF := x_f hF (not_not_intro c8)
    refine g_bi (-2) d_X11_owners_11 bi_m2 ?_
    obtain ⟨rfl, rfl⟩ := x_inj hF
    exact g_iret d_X11_owners_13 rfl hq
theorem d_X11_go_0 : decode cX11_go 0 = .ok (.aload_n 0, 1) := by decide +kernel
theorem d_X11_go_1 : decode cX11_go 1 = .ok (.getfield 30, 3) := by decide +kernel
theorem d_X11_go_4 : decode cX11_go 4 = .ok (.aload_n 0, 1) := by decide +kernel
theorem d_X11_go_5 : decode cX11_go 5 = .ok (.getfield 26, 3) := by decide +kernel
theorem d_X11_go_8 : decode cX11_go 8 = .ok (.invokevirtual 104, 3) := by decide +kernel
theorem d_X11_go_11 : decode cX11_go 11 = .ok (.aload_n 0, 1) := by decide +kernel
theorem d_X11_go_12 : decode cX11_go 12 = .ok (.getfield 19, 3) := by decide +kernel
theorem d_X11_go_15 : decode cX11_go 15 = .ok (.aload_n 0, 1) := by decide +kernel
theorem d_X11_go_16 : decode cX11_go 16 = .ok (.getfield 26, 3) := by decide +kernel
theorem d_X11_go_19 : decode cX11_go 19 = .ok (.iload_n 1, 1) := by decide +kernel
theorem d_X11_go_20 : decode cX11_go 20 = .ok (.iload_n 2, 1) := by decide +kernel
theorem d_X11_go_21 : decode cX11_go 21 = .ok (.invokestatic 181, 3) := by decide +kernel
theorem d_X11_go_24 : decode cX11_go 24 = .ok (.istore_n 3, 1) := by decide +kernel
theorem d_X11_go_25 : decode cX11_go 25 = .ok (.iload_n 3, 1) := by decide +kernel
theorem d_X11_go_26 : decode cX11_go 26 = .ok (.ifCond .eq 8, 3) := by decide +kernel
theorem d_X11_go_29 : decode cX11_go 29 = .ok (.bipush (-10), 2) := by decide +kernel
theorem d_X11_go_31 : decode cX11_go 31 = .ok (.iload_n 3, 1) := by decide +kernel
theorem d_X11_go_32 : decode cX11_go 32 = .ok (.isub, 1) := by decide +kernel
theorem d_X11_go_33 : decode cX11_go 33 = .ok (.ireturn, 1) := by decide +kernel
theorem d_X11_go_34 : decode cX11_go 34 = .ok (.aload_n 0, 1) := by decide +kernel
theorem d_X11_go_35 : decode cX11_go 35 = .ok (.getfield 36, 3) := by decide +kernel
theorem d_X11_go_38 : decode cX11_go 38 = .ok (.aload_n 0, 1) := by decide +kernel
theorem d_X11_go_39 : decode cX11_go 39 = .ok (.getfield 30, 3) := by decide +kernel
theorem d_X11_go_42 : decode cX11_go 42 = .ok (.invokevirtual 187, 3) := by decide +kernel
theorem d_X11_go_45 : decode cX11_go 45 = .ok (.aload_n 0, 1) := by decide +kernel
theorem d_X11_go_46 : decode cX11_go 46 = .ok (.getfield 19, 3) := by decide +kernel
theorem d_X11_go_49 : decode cX11_go 49 = .ok (.iload_n 2, 1) := by decide +kernel
theorem d_X11_go_50 : decode cX11_go 50 = .ok (.aload_n 0, 1) := by decide +kernel
theorem d_X11_go_51 : decode cX11_go 51 = .ok (.getfield 26, 3) := by decide +kernel
theorem d_X11_go_54 : decode cX11_go 54 = .ok (.getfield 190, 3) := by decide +kernel
theorem d_X11_go_57 : decode cX11_go 57 = .ok (.invokevirtual 141, 3) := by decide +kernel
theorem d_X11_go_60 : decode cX11_go 60 = .ok (.ireturn, 1) := by decide +kernel
def F_X11_go (x0 : Nat) (x1 : Int32) (x2 : Int32) (h : xH) : Option (Int32 × xH) := (fR h x0 10 3).bind fun v1 => (fR h x0 10 2).bind fun v5 => (rc h v1 5).bind fun _ => (F_X6_copyFrom v1 v5 h).bind fun z8 => (fR z8.2 x0 10 1).bind fun v12 => (fR z8.2 x0 10 2).bind fun v16 => (F_X0_move v12 v16 x1 x2 z8.2).bind fun z21 => if z21.1 = 0 then (fR z21.2 x0 10 4).bind fun v35 => (fR z21.2 x0 10 3).bind fun v39 => (rc z21.2 v35 1).bind fun _ => (F_X2_remember v35 v39 z21.2).bind fun z42 => (fR z42.2 x0 10 1).bind fun v46 => (fR z42.2 x0 10 2).bind fun v51 => (fI z42.2 v51 5 4).bind fun v54 => (rc z42.2 v46 9).bind fun _ => (F_X10_soundOn v46 x2 v54 z42.2).bind fun z57 => some (z57.1, z57.2) else some ((((-10) : Int32)) - z21.1, z21.2)
theorem R_X11_go {Γ : xG} {l : Launch} {d : Nat} {r : Int32} {h' : xH} (x0 : Nat) (x1 : Int32) (x2 : Int32) (h : xH) (hdp : 3 ≤ d) (hF : F_X11_go x0 x1 x2 h = some (r, h')) : Gm Γ l d 0 0 m_X11_go [.ref x0, .int x1, .int x2] h (fun a u => a = some (.int r) ∧ u = h') := by
  refine Gm.of pn_X11 (Nat.le_of_ble_eq_true rfl) ?_
  show Gd Γ l d m_X11_go 0 [.ref x0, .int x1, .int x2, xhole] [] h 0 0 _
  generalize hQ : (fun (a : Option Value) (u : xH) => a = some (.int r) ∧ u = h') = Q
  have hq : Q (some (.int r)) h' := by rw [← hQ]; exact ⟨rfl, rfl⟩
  clear hQ
  unfold F_X11_go at hF
  refine g_aloadn d_X11_go_0 rfl ?_
  obtain ⟨v1, e1, hF⟩ := Option.bind_eq_some_iff.mp hF
  refine q_fR d_X11_go_1 f_X11_30 e1 ?_
  refine g_aloadn d_X11_go_4 rfl ?_
  obtain ⟨v5, e5, hF⟩ := Option.bind_eq_some_iff.mp hF
  refine q_fR d_X11_go_5 f_X11_26 e5 ?_
  obtain ⟨_, g8, hF⟩ := Option.bind_eq_some_iff.mp hF
  obtain ⟨⟨r8, h8⟩, e8, hF⟩ := Option.bind_eq_some_iff.mp hF
  try dsimp only at hF
  refine q_callV [.ref v5] [] rfl d_X11_go_8 v_X11_104 (by omega) rfl (Nat.le_of_ble_eq_true rfl) (rc_rc g8 (by decide) rfl) (R_X6_copyFrom _ _ _ (by omega) e8) ?_
  refine g_aloadn d_X11_go_11 rfl ?_
  obtain ⟨v12, e12, hF⟩ := Option.bind_eq_some_iff.mp hF
  refine q_fR d_X11_go_12 f_X11_19 e12 ?_
  refine g_aloadn d_X11_go_15 rfl ?_
  obtain ⟨v16, e16, hF⟩ := Option.bind_eq_some_iff.mp hF
  refine q_fR d_X11_go_16 f_X11_26 e16 ?_
  refine g_iloadn d_X11_go_19 rfl ?_
  refine g_iloadn d_X11_go_20 rfl ?_
  obtain ⟨⟨r21, h21⟩, e21, hF⟩ := Option.bind_eq_some_iff.mp hF
  try dsimp only at hF
  refine q_callS [.ref v12, .ref v16, .int x1, .int x2] [] rfl d_X11_go_21 s_X11_181 (by omega) rfl (Nat.le_of_ble_eq_true rfl) (R_X0_move _ _ _ _ _ (by omega) e21) ?_
  refine q_istoren [.ref x0, .int x1, .int x2, .int (r21)] d_X11_go_24 (by decide) rfl ?_
  refine g_iloadn d_X11_go_25 rfl ?_
  refine g_if_eq 34 d_X11_go_26 rfl (fun c26 => ?_) (fun c26 => ?_)
  · have hF := x_t hF c26
    refine g_aloadn d_X11_go_34 rfl ?_
    obtain ⟨v35, e35, hF⟩ := Option.bind_eq_some_iff.mp hF
    refine q_fR d_X11_go_35 f_X11_36 e35 ?_
    refine g_aloadn d_X11_go_38 rfl ?_
    obtain ⟨v39, e39, hF⟩ := Option.bind_eq_some_iff.mp hF
    refine q_fR d_X11_go_39 f_X11_30 e39 ?_
    obtain ⟨_, g42, hF⟩ := Option.bind_eq_some_iff.mp hF
    obtain ⟨⟨r42, h42⟩, e42, hF⟩ := Option.bind_eq_some_iff.mp hF
    try dsimp only at hF
    refine q_callV [.ref v39] [] rfl d_X11_go_42 v_X11_187 (by omega) rfl (Nat.le_of_ble_eq_true rfl) (rc_rc g42 (by decide) rfl) (R_X2_remember _ _ _ (by omega) e42) ?_
    refine g_aloadn d_X11_go_45 rfl ?_
    obtain ⟨v46, e46, hF⟩ := Option.bind_eq_some_iff.mp hF
    refine q_fR d_X11_go_46 f_X11_19 e46 ?_
    refine g_iloadn d_X11_go_49 rfl ?_
    refine g_aloadn d_X11_go_50 rfl ?_
    obtain ⟨v51, e51, hF⟩ := Option.bind_eq_some_iff.mp hF
    refine q_fR d_X11_go_51 f_X11_26 e51 ?_
    obtain ⟨v54, e54, hF⟩ := Option.bind_eq_some_iff.mp hF
    refine q_fI d_X11_go_54 f_X11_190 e54 ?_
    obtain ⟨_, g57, hF⟩ := Option.bind_eq_some_iff.mp hF
    obtain ⟨⟨r57, h57⟩, e57, hF⟩ := Option.bind_eq_some_iff.mp hF
    try dsimp only at hF
    refine q_callV [.int x2, .int v54] [] rfl d_X11_go_57 v_X11_141 (by omega) rfl (Nat.le_of_ble_eq_true rfl) (rc_rc g57 (by decide) rfl) (R_X10_soundOn _ _ _ _ (by omega) e57) ?_
    obtain ⟨rfl, rfl⟩ := x_inj hF
    exact g_iret d_X11_go_60 rfl hq
  · have hF := x_f hF c26
    refine g_bi (-10) d_X11_go_29 bi_m10 ?_
    refine g_iloadn d_X11_go_31 rfl ?_
    refine g_isub d_X11_go_32 ?_
    obtain ⟨rfl, rfl⟩ := x_inj hF
    exact g_iret d_X11_go_33 rfl hq
theorem d_X11_days_0 : decode cX11_days 0 = .ok (.iload_n 1, 1) := by decide +kernel
theorem d_X11_days_1 : decode cX11_days 1 = .ok (.iconst 1, 1) := by decide +kernel
theorem d_X11_days_2 : decode cX11_days 2 = .ok (.if_icmp .lt 9, 3) := by decide +kernel
theorem d_X11_days_5 : decode cX11_days 5 = .ok (.iload_n 1, 1) := by decide +kernel
theorem d_X11_days_6 : decode cX11_days 6 = .ok (.bipush 99, 2) := by decide +kernel
theorem d_X11_days_8 : decode cX11_days 8 = .ok (.if_icmp .le 6, 3) := by decide +kernel
theorem d_X11_days_11 : decode cX11_days 11 = .ok (.bipush (-3), 2) := by decide +kernel
theorem d_X11_days_13 : decode cX11_days 13 = .ok (.ireturn, 1) := by decide +kernel
theorem d_X11_days_14 : decode cX11_days 14 = .ok (.aload_n 0, 1) := by decide +kernel
theorem d_X11_days_15 : decode cX11_days 15 = .ok (.getfield 36, 3) := by decide +kernel
theorem d_X11_days_18 : decode cX11_days 18 = .ok (.aload_n 0, 1) := by decide +kernel
theorem d_X11_days_19 : decode cX11_days 19 = .ok (.getfield 26, 3) := by decide +kernel
theorem d_X11_days_22 : decode cX11_days 22 = .ok (.invokevirtual 187, 3) := by decide +kernel
theorem d_X11_days_25 : decode cX11_days 25 = .ok (.iconst 0, 1) := by decide +kernel
theorem d_X11_days_26 : decode cX11_days 26 = .ok (.istore_n 2, 1) := by decide +kernel
theorem d_X11_days_27 : decode cX11_days 27 = .ok (.iconst 0, 1) := by decide +kernel
theorem d_X11_days_28 : decode cX11_days 28 = .ok (.istore_n 3, 1) := by decide +kernel
theorem d_X11_days_29 : decode cX11_days 29 = .ok (.iload_n 3, 1) := by decide +kernel
theorem d_X11_days_30 : decode cX11_days 30 = .ok (.iload_n 1, 1) := by decide +kernel
theorem d_X11_days_31 : decode cX11_days 31 = .ok (.if_icmp .ge 23, 3) := by decide +kernel
theorem d_X11_days_34 : decode cX11_days 34 = .ok (.iload_n 2, 1) := by decide +kernel
theorem d_X11_days_35 : decode cX11_days 35 = .ok (.aload_n 0, 1) := by decide +kernel
theorem d_X11_days_36 : decode cX11_days 36 = .ok (.getfield 19, 3) := by decide +kernel
theorem d_X11_days_39 : decode cX11_days 39 = .ok (.aload_n 0, 1) := by decide +kernel
theorem d_X11_days_40 : decode cX11_days 40 = .ok (.getfield 26, 3) := by decide +kernel
theorem d_X11_days_43 : decode cX11_days 43 = .ok (.invokestatic 193, 3) := by decide +kernel
theorem d_X11_days_46 : decode cX11_days 46 = .ok (.ior, 1) := by decide +kernel
theorem d_X11_days_47 : decode cX11_days 47 = .ok (.istore_n 2, 1) := by decide +kernel
theorem d_X11_days_48 : decode cX11_days 48 = .ok (.iinc 3 1, 3) := by decide +kernel
theorem d_X11_days_51 : decode cX11_days 51 = .ok (.goto (-22), 3) := by decide +kernel
theorem d_X11_days_54 : decode cX11_days 54 = .ok (.iload_n 2, 1) := by decide +kernel
theorem d_X11_days_55 : decode cX11_days 55 = .ok (.ireturn, 1) := by decide +kernel
def F_X11_days_b29 : Nat → Nat → Int32 → Int32 → Int32 → xH → Option (Int32 × xH)
  | 0, _, _, _, _, _ => none
  | n + 1, x0, x1, x2, x3, h => if x1 ≤ x3 then some (x2, h) else (fR h x0 10 1).bind fun v36 => (fR h x0 10 2).bind fun v40 => (F_X0_passDay v36 v40 h).bind fun z43 => F_X11_days_b29 n x0 x1 (x2 ||| z43.1) (x3 + 1) z43.2
theorem R_X11_days_b29 {Γ : xG} {l : Launch} {d : Nat} {Q : Option Value → xH → Prop} {r : Int32} {h' : xH} (hdp : 3 ≤ d) (hq : Q (some (.int r)) h') : ∀ (n : Nat) (x0 : Nat) (x1 : Int32) (x2 : Int32) (x3 : Int32) (h : xH), F_X11_days_b29 n x0 x1 x2 x3 h = some (r, h') → Gd Γ l d m_X11_days 29 [.ref x0, .int x1, .int x2, .int x3] [] h 0 0 Q := by
  intro n
  induction n with
  | zero => intro x0 x1 x2 x3 h hF; cases hF
  | succ n ih =>
  intro x0 x1 x2 x3 h hF
  rw [F_X11_days_b29] at hF
  refine g_iloadn d_X11_days_29 rfl ?_
  refine g_iloadn d_X11_days_30 rfl ?_
  refine g_icmp_ge 54 d_X11_days_31 rfl (fun c31 => ?_) (fun c31 => ?_)
  · have hF := x_t hF c31
    refine g_iloadn d_X11_days_54 rfl ?_
    obtain ⟨rfl, rfl⟩ := x_inj hF
    exact g_iret d_X11_days_55 rfl hq
  · have hF := x_f hF c31
    refine g_iloadn d_X11_days_34 rfl ?_
    refine g_aloadn d_X11_days_35 rfl ?_
    obtain ⟨v36, e36, hF⟩ := Option.bind_eq_some_iff.mp hF
    refine q_fR d_X11_days_36 f_X11_19 e36 ?_
    refine g_aloadn d_X11_days_39 rfl ?_
    obtain ⟨v40, e40, hF⟩ := Option.bind_eq_some_iff.mp hF
    refine q_fR d_X11_days_40 f_X11_26 e40 ?_
    obtain ⟨⟨r43, h43⟩, e43, hF⟩ := Option.bind_eq_some_iff.mp hF
    try dsimp only at hF
    refine q_callS [.ref v36, .ref v40] [.int x2] rfl d_X11_days_43 s_X11_193 (by omega) rfl (Nat.le_of_ble_eq_true rfl) (R_X0_passDay _ _ _ (by omega) e43) ?_
    refine g_ior d_X11_days_46 ?_
    refine q_istoren [.ref x0, .int x1, .int (x2 ||| r43), .int x3] d_X11_days_47 (by decide) rfl ?_
    refine q_iinc (1) [.ref x0, .int x1, .int (x2 ||| r43), .int (x3 + 1)] d_X11_days_48 ic_1 rfl (by decide) rfl ?_
    refine g_goto 29 d_X11_days_51 rfl ?_
    exact q_to (xs_r (xs_r (xs_r (xs_r xs_n)))) (ih _ _ _ _ _ hF)
def F_X11_days (x0 : Nat) (x1 : Int32) (h : xH) : Option (Int32 × xH) := if x1 < ((1 : Int32)) then some ((-3), h) else if x1 ≤ ((99 : Int32)) then (fR h x0 10 4).bind fun v15 => (fR h x0 10 2).bind fun v19 => (rc h v15 1).bind fun _ => (F_X2_remember v15 v19 h).bind fun z22 => F_X11_days_b29 FU x0 x1 0 0 z22.2 else some ((-3), h)
theorem R_X11_days {Γ : xG} {l : Launch} {d : Nat} {r : Int32} {h' : xH} (x0 : Nat) (x1 : Int32) (h : xH) (hdp : 3 ≤ d) (hF : F_X11_days x0 x1 h = some (r, h')) : Gm Γ l d 0 0 m_X11_days [.ref x0, .int x1] h (fun a u => a = some (.int r) ∧ u = h') := by
  refine Gm.of pn_X11 (Nat.le_of_ble_eq_true rfl) ?_
  show Gd Γ l d m_X11_days 0 [.ref x0, .int x1, xhole, xhole] [] h 0 0 _
  generalize hQ : (fun (a : Option Value) (u : xH) => a = some (.int r) ∧ u = h') = Q
  have hq : Q (some (.int r)) h' := by rw [← hQ]; exact ⟨rfl, rfl⟩
  clear hQ
  unfold F_X11_days at hF
  refine g_iloadn d_X11_days_0 rfl ?_
  refine g_ic (1) d_X11_days_1 ic_1 ?_
  refine g_icmp_lt 11 d_X11_days_2 rfl (fun c2 => ?_) (fun c2 => ?_)
  · have hF := x_t hF c2
    refine g_bi (-3) d_X11_days_11 bi_m3 ?_
    obtain ⟨rfl, rfl⟩ := x_inj hF
    exact g_iret d_X11_days_13 rfl hq
  · have hF := x_f hF c2
    refine g_iloadn d_X11_days_5 rfl ?_
    refine g_bi (99) d_X11_days_6 bi_99 ?_
    refine g_icmp_le 14 d_X11_days_8 rfl (fun c8 => ?_) (fun c8 => ?_)
    · have hF := x_t hF c8
      refine g_aloadn d_X11_days_14 rfl ?_
      obtain ⟨v15, e15, hF⟩ := Option.bind_eq_some_iff.mp hF
      refine q_fR d_X11_days_15 f_X11_36 e15 ?_
      refine g_aloadn d_X11_days_18 rfl ?_
      obtain ⟨v19, e19, hF⟩ := Option.bind_eq_some_iff.mp hF
      refine q_fR d_X11_days_19 f_X11_26 e19 ?_
      obtain ⟨_, g22, hF⟩ := Option.bind_eq_some_iff.mp hF
      obtain ⟨⟨r22, h22⟩, e22, hF⟩ := Option.bind_eq_some_iff.mp hF
      try dsimp only at hF
      refine q_callV [.ref v19] [] rfl d_X11_days_22 v_X11_187 (by omega) rfl (Nat.le_of_ble_eq_true rfl) (rc_rc g22 (by decide) rfl) (R_X2_remember _ _ _ (by omega) e22) ?_
      refine g_ic (0) d_X11_days_25 ic_0 ?_
      refine q_istoren [.ref x0, .int x1, .int 0, xhole] d_X11_days_26 (by decide) rfl ?_
      refine g_ic (0) d_X11_days_27 ic_0 ?_
      refine q_istoren [.ref x0, .int x1, .int 0, .int 0] d_X11_days_28 (by decide) rfl ?_
      exact q_to (xs_r (xs_r (xs_r (xs_r xs_n)))) (R_X11_days_b29 hdp hq FU _ _ _ _ _ hF)
    · have hF := x_f hF c8
      refine g_bi (-3) d_X11_days_11 bi_m3 ?_
      obtain ⟨rfl, rfl⟩ := x_inj hF
      exact g_iret d_X11_days_13 rfl hq
theorem d_X11_ear_0 : decode cX11_ear 0 = .ok (.aload_n 0, 1) := by decide +kernel
theorem d_X11_ear_1 : decode cX11_ear 1 = .ok (.getfield 30, 3) := by decide +kernel
theorem d_X11_ear_4 : decode cX11_ear 4 = .ok (.aload_n 0, 1) := by decide +kernel
theorem d_X11_ear_5 : decode cX11_ear 5 = .ok (.getfield 26, 3) := by decide +kernel
theorem d_X11_ear_8 : decode cX11_ear 8 = .ok (.invokevirtual 104, 3) := by decide +kernel
theorem d_X11_ear_11 : decode cX11_ear 11 = .ok (.aload_n 0, 1) := by decide +kernel
theorem d_X11_ear_12 : decode cX11_ear 12 = .ok (.getfield 19, 3) := by decide +kernel
theorem d_X11_ear_15 : decode cX11_ear 15 = .ok (.aload_n 0, 1) := by decide +kernel
theorem d_X11_ear_16 : decode cX11_ear 16 = .ok (.getfield 26, 3) := by decide +kernel
theorem d_X11_ear_19 : decode cX11_ear 19 = .ok (.iload_n 1, 1) := by decide +kernel
theorem d_X11_ear_20 : decode cX11_ear 20 = .ok (.iload_n 2, 1) := by decide +kernel
theorem d_X11_ear_21 : decode cX11_ear 21 = .ok (.invokestatic 197, 3) := by decide +kernel
theorem d_X11_ear_24 : decode cX11_ear 24 = .ok (.istore_n 3, 1) := by decide +kernel
theorem d_X11_ear_25 : decode cX11_ear 25 = .ok (.iload_n 3, 1) := by decide +kernel
theorem d_X11_ear_26 : decode cX11_ear 26 = .ok (.ifCond .eq 8, 3) := by decide +kernel
theorem d_X11_ear_29 : decode cX11_ear 29 = .ok (.bipush (-10), 2) := by decide +kernel
theorem d_X11_ear_31 : decode cX11_ear 31 = .ok (.iload_n 3, 1) := by decide +kernel
theorem d_X11_ear_32 : decode cX11_ear 32 = .ok (.isub, 1) := by decide +kernel
theorem d_X11_ear_33 : decode cX11_ear 33 = .ok (.ireturn, 1) := by decide +kernel
theorem d_X11_ear_34 : decode cX11_ear 34 = .ok (.aload_n 0, 1) := by decide +kernel
theorem d_X11_ear_35 : decode cX11_ear 35 = .ok (.getfield 36, 3) := by decide +kernel
theorem d_X11_ear_38 : decode cX11_ear 38 = .ok (.aload_n 0, 1) := by decide +kernel
theorem d_X11_ear_39 : decode cX11_ear 39 = .ok (.getfield 30, 3) := by decide +kernel
theorem d_X11_ear_42 : decode cX11_ear 42 = .ok (.invokevirtual 187, 3) := by decide +kernel
theorem d_X11_ear_45 : decode cX11_ear 45 = .ok (.aload_n 0, 1) := by decide +kernel
theorem d_X11_ear_46 : decode cX11_ear 46 = .ok (.getfield 30, 3) := by decide +kernel
theorem d_X11_ear_49 : decode cX11_ear 49 = .ok (.getfield 128, 3) := by decide +kernel
theorem d_X11_ear_52 : decode cX11_ear 52 = .ok (.iload_n 1, 1) := by decide +kernel
theorem d_X11_ear_53 : decode cX11_ear 53 = .ok (.iaload, 1) := by decide +kernel
theorem d_X11_ear_54 : decode cX11_ear 54 = .ok (.ireturn, 1) := by decide +kernel
def F_X11_ear (x0 : Nat) (x1 : Int32) (x2 : Int32) (h : xH) : Option (Int32 × xH) := (fR h x0 10 3).bind fun v1 => (fR h x0 10 2).bind fun v5 => (rc h v1 5).bind fun _ => (F_X6_copyFrom v1 v5 h).bind fun z8 => (fR z8.2 x0 10 1).bind fun v12 => (fR z8.2 x0 10 2).bind fun v16 => (F_X0_takeEar v12 v16 x1 x2 z8.2).bind fun z21 => if z21.1 = 0 then (fR z21.2 x0 10 4).bind fun v35 => (fR z21.2 x0 10 3).bind fun v39 => (rc z21.2 v35 1).bind fun _ => (F_X2_remember v35 v39 z21.2).bind fun z42 => (fR z42.2 x0 10 3).bind fun v46 => (fR z42.2 v46 5 1).bind fun v49 => (aI z42.2 v49 x1).bind fun v53 => some (v53, z42.2) else some ((((-10) : Int32)) - z21.1, z21.2)
theorem R_X11_ear {Γ : xG} {l : Launch} {d : Nat} {r : Int32} {h' : xH} (x0 : Nat) (x1 : Int32) (x2 : Int32) (h : xH) (hdp : 3 ≤ d) (hF : F_X11_ear x0 x1 x2 h = some (r, h')) : Gm Γ l d 0 0 m_X11_ear [.ref x0, .int x1, .int x2] h (fun a u => a = some (.int r) ∧ u = h') := by
  refine Gm.of pn_X11 (Nat.le_of_ble_eq_true rfl) ?_
  show Gd Γ l d m_X11_ear 0 [.ref x0, .int x1, .int x2, xhole] [] h 0 0 _
  generalize hQ : (fun (a : Option Value) (u : xH) => a = some (.int r) ∧ u = h') = Q
  have hq : Q (some (.int r)) h' := by rw [← hQ]; exact ⟨rfl, rfl⟩
  clear hQ
  unfold F_X11_ear at hF
  refine g_aloadn d_X11_ear_0 rfl ?_
  obtain ⟨v1, e1, hF⟩ := Option.bind_eq_some_iff.mp hF
  refine q_fR d_X11_ear_1 f_X11_30 e1 ?_
  refine g_aloadn d_X11_ear_4 rfl ?_
  obtain ⟨v5, e5, hF⟩ := Option.bind_eq_some_iff.mp hF
  refine q_fR d_X11_ear_5 f_X11_26 e5 ?_
  obtain ⟨_, g8, hF⟩ := Option.bind_eq_some_iff.mp hF
  obtain ⟨⟨r8, h8⟩, e8, hF⟩ := Option.bind_eq_some_iff.mp hF
  try dsimp only at hF
  refine q_callV [.ref v5] [] rfl d_X11_ear_8 v_X11_104 (by omega) rfl (Nat.le_of_ble_eq_true rfl) (rc_rc g8 (by decide) rfl) (R_X6_copyFrom _ _ _ (by omega) e8) ?_
  refine g_aloadn d_X11_ear_11 rfl ?_
  obtain ⟨v12, e12, hF⟩ := Option.bind_eq_some_iff.mp hF
  refine q_fR d_X11_ear_12 f_X11_19 e12 ?_
  refine g_aloadn d_X11_ear_15 rfl ?_
  obtain ⟨v16, e16, hF⟩ := Option.bind_eq_some_iff.mp hF
  refine q_fR d_X11_ear_16 f_X11_26 e16 ?_
  refine g_iloadn d_X11_ear_19 rfl ?_
  refine g_iloadn d_X11_ear_20 rfl ?_
  obtain ⟨⟨r21, h21⟩, e21, hF⟩ := Option.bind_eq_some_iff.mp hF
  try dsimp only at hF
  refine q_callS [.ref v12, .ref v16, .int x1, .int x2] [] rfl d_X11_ear_21 s_X11_197 (by omega) rfl (Nat.le_of_ble_eq_true rfl) (R_X0_takeEar _ _ _ _ _ (by omega) e21) ?_
  refine q_istoren [.ref x0, .int x1, .int x2, .int (r21)] d_X11_ear_24 (by decide) rfl ?_
  refine g_iloadn d_X11_ear_25 rfl ?_
  refine g_if_eq 34 d_X11_ear_26 rfl (fun c26 => ?_) (fun c26 => ?_)
  · have hF := x_t hF c26
    refine g_aloadn d_X11_ear_34 rfl ?_
    obtain ⟨v35, e35, hF⟩ := Option.bind_eq_some_iff.mp hF
    refine q_fR d_X11_ear_35 f_X11_36 e35 ?_
    refine g_aloadn d_X11_ear_38 rfl ?_
    obtain ⟨v39, e39, hF⟩ := Option.bind_eq_some_iff.mp hF
    refine q_fR d_X11_ear_39 f_X11_30 e39 ?_
    obtain ⟨_, g42, hF⟩ := Option.bind_eq_some_iff.mp hF
    obtain ⟨⟨r42, h42⟩, e42, hF⟩ := Option.bind_eq_some_iff.mp hF
    try dsimp only at hF
    refine q_callV [.ref v39] [] rfl d_X11_ear_42 v_X11_187 (by omega) rfl (Nat.le_of_ble_eq_true rfl) (rc_rc g42 (by decide) rfl) (R_X2_remember _ _ _ (by omega) e42) ?_
    refine g_aloadn d_X11_ear_45 rfl ?_
    obtain ⟨v46, e46, hF⟩ := Option.bind_eq_some_iff.mp hF
    refine q_fR d_X11_ear_46 f_X11_30 e46 ?_
    obtain ⟨v49, e49, hF⟩ := Option.bind_eq_some_iff.mp hF
    refine q_fR d_X11_ear_49 f_X11_128 e49 ?_
    refine g_iloadn d_X11_ear_52 rfl ?_
    obtain ⟨v53, e53, hF⟩ := Option.bind_eq_some_iff.mp hF
    refine q_aI d_X11_ear_53 e53 ?_
    obtain ⟨rfl, rfl⟩ := x_inj hF
    exact g_iret d_X11_ear_54 rfl hq
  · have hF := x_f hF c26
    refine g_bi (-10) d_X11_ear_29 bi_m10 ?_
    refine g_iloadn d_X11_ear_31 rfl ?_
    refine g_isub d_X11_ear_32 ?_
    obtain ⟨rfl, rfl⟩ := x_inj hF
    exact g_iret d_X11_ear_33 rfl hq
theorem d_X11_blank_0 : decode cX11_blank 0 = .ok (.aload_n 0, 1) := by decide +kernel
theorem d_X11_blank_1 : decode cX11_blank 1 = .ok (.getfield 30, 3) := by decide +kernel
theorem d_X11_blank_4 : decode cX11_blank 4 = .ok (.aload_n 0, 1) := by decide +kernel
theorem d_X11_blank_5 : decode cX11_blank 5 = .ok (.getfield 26, 3) := by decide +kernel
theorem d_X11_blank_8 : decode cX11_blank 8 = .ok (.invokevirtual 104, 3) := by decide +kernel
theorem d_X11_blank_11 : decode cX11_blank 11 = .ok (.aload_n 0, 1) := by decide +kernel
theorem d_X11_blank_12 : decode cX11_blank 12 = .ok (.getfield 19, 3) := by decide +kernel
theorem d_X11_blank_15 : decode cX11_blank 15 = .ok (.aload_n 0, 1) := by decide +kernel
theorem d_X11_blank_16 : decode cX11_blank 16 = .ok (.getfield 26, 3) := by decide +kernel
theorem d_X11_blank_19 : decode cX11_blank 19 = .ok (.iload_n 1, 1) := by decide +kernel
theorem d_X11_blank_20 : decode cX11_blank 20 = .ok (.iload_n 2, 1) := by decide +kernel
theorem d_X11_blank_21 : decode cX11_blank 21 = .ok (.invokestatic 200, 3) := by decide +kernel
theorem d_X11_blank_24 : decode cX11_blank 24 = .ok (.istore_n 3, 1) := by decide +kernel
theorem d_X11_blank_25 : decode cX11_blank 25 = .ok (.iload_n 3, 1) := by decide +kernel
theorem d_X11_blank_26 : decode cX11_blank 26 = .ok (.ifCond .eq 8, 3) := by decide +kernel
theorem d_X11_blank_29 : decode cX11_blank 29 = .ok (.bipush (-10), 2) := by decide +kernel
theorem d_X11_blank_31 : decode cX11_blank 31 = .ok (.iload_n 3, 1) := by decide +kernel
theorem d_X11_blank_32 : decode cX11_blank 32 = .ok (.isub, 1) := by decide +kernel
theorem d_X11_blank_33 : decode cX11_blank 33 = .ok (.ireturn, 1) := by decide +kernel
theorem d_X11_blank_34 : decode cX11_blank 34 = .ok (.aload_n 0, 1) := by decide +kernel
theorem d_X11_blank_35 : decode cX11_blank 35 = .ok (.getfield 36, 3) := by decide +kernel
theorem d_X11_blank_38 : decode cX11_blank 38 = .ok (.aload_n 0, 1) := by decide +kernel
theorem d_X11_blank_39 : decode cX11_blank 39 = .ok (.getfield 30, 3) := by decide +kernel
theorem d_X11_blank_42 : decode cX11_blank 42 = .ok (.invokevirtual 187, 3) := by decide +kernel
theorem d_X11_blank_45 : decode cX11_blank 45 = .ok (.aload_n 0, 1) := by decide +kernel
theorem d_X11_blank_46 : decode cX11_blank 46 = .ok (.getfield 30, 3) := by decide +kernel
theorem d_X11_blank_49 : decode cX11_blank 49 = .ok (.getfield 125, 3) := by decide +kernel
theorem d_X11_blank_52 : decode cX11_blank 52 = .ok (.iload_n 1, 1) := by decide +kernel
theorem d_X11_blank_53 : decode cX11_blank 53 = .ok (.iaload, 1) := by decide +kernel
theorem d_X11_blank_54 : decode cX11_blank 54 = .ok (.ireturn, 1) := by decide +kernel
def F_X11_blank (x0 : Nat) (x1 : Int32) (x2 : Int32) (h : xH) : Option (Int32 × xH) := (fR h x0 10 3).bind fun v1 => (fR h x0 10 2).bind fun v5 => (rc h v1 5).bind fun _ => (F_X6_copyFrom v1 v5 h).bind fun z8 => (fR z8.2 x0 10 1).bind fun v12 => (fR z8.2 x0 10 2).bind fun v16 => (F_X0_takeBlank v12 v16 x1 x2 z8.2).bind fun z21 => if z21.1 = 0 then (fR z21.2 x0 10 4).bind fun v35 => (fR z21.2 x0 10 3).bind fun v39 => (rc z21.2 v35 1).bind fun _ => (F_X2_remember v35 v39 z21.2).bind fun z42 => (fR z42.2 x0 10 3).bind fun v46 => (fR z42.2 v46 5 2).bind fun v49 => (aI z42.2 v49 x1).bind fun v53 => some (v53, z42.2) else some ((((-10) : Int32)) - z21.1, z21.2)
theorem R_X11_blank {Γ : xG} {l : Launch} {d : Nat} {r : Int32} {h' : xH} (x0 : Nat) (x1 : Int32) (x2 : Int32) (h : xH) (hdp : 3 ≤ d) (hF : F_X11_blank x0 x1 x2 h = some (r, h')) : Gm Γ l d 0 0 m_X11_blank [.ref x0, .int x1, .int x2] h (fun a u => a = some (.int r) ∧ u = h') := by
  refine Gm.of pn_X11 (Nat.le_of_ble_eq_true rfl) ?_
  show Gd Γ l d m_X11_blank 0 [.ref x0, .int x1, .int x2, xhole] [] h 0 0 _
  generalize hQ : (fun (a : Option Value) (u : xH) => a = some (.int r) ∧ u = h') = Q
  have hq : Q (some (.int r)) h' := by rw [← hQ]; exact ⟨rfl, rfl⟩
  clear hQ
  unfold F_X11_blank at hF
  refine g_aloadn d_X11_blank_0 rfl ?_
  obtain ⟨v1, e1, hF⟩ := Option.bind_eq_some_iff.mp hF
  refine q_fR d_X11_blank_1 f_X11_30 e1 ?_
  refine g_aloadn d_X11_blank_4 rfl ?_
  obtain ⟨v5, e5, hF⟩ := Option.bind_eq_some_iff.mp hF
  refine q_fR d_X11_blank_5 f_X11_26 e5 ?_
  obtain ⟨_, g8, hF⟩ := Option.bind_eq_some_iff.mp hF
  obtain ⟨⟨r8, h8⟩, e8, hF⟩ := Option.bind_eq_some_iff.mp hF
  try dsimp only at hF
  refine q_callV [.ref v5] [] rfl d_X11_blank_8 v_X11_104 (by omega) rfl (Nat.le_of_ble_eq_true rfl) (rc_rc g8 (by decide) rfl) (R_X6_copyFrom _ _ _ (by omega) e8) ?_
  refine g_aloadn d_X11_blank_11 rfl ?_
  obtain ⟨v12, e12, hF⟩ := Option.bind_eq_some_iff.mp hF
  refine q_fR d_X11_blank_12 f_X11_19 e12 ?_
  refine g_aloadn d_X11_blank_15 rfl ?_
  obtain ⟨v16, e16, hF⟩ := Option.bind_eq_some_iff.mp hF
  refine q_fR d_X11_blank_16 f_X11_26 e16 ?_
  refine g_iloadn d_X11_blank_19 rfl ?_
  refine g_iloadn d_X11_blank_20 rfl ?_
  obtain ⟨⟨r21, h21⟩, e21, hF⟩ := Option.bind_eq_some_iff.mp hF
  try dsimp only at hF
  refine q_callS [.ref v12, .ref v16, .int x1, .int x2] [] rfl d_X11_blank_21 s_X11_200 (by omega) rfl (Nat.le_of_ble_eq_true rfl) (R_X0_takeBlank _ _ _ _ _ (by omega) e21) ?_
  refine q_istoren [.ref x0, .int x1, .int x2, .int (r21)] d_X11_blank_24 (by decide) rfl ?_
  refine g_iloadn d_X11_blank_25 rfl ?_
  refine g_if_eq 34 d_X11_blank_26 rfl (fun c26 => ?_) (fun c26 => ?_)
  · have hF := x_t hF c26
    refine g_aloadn d_X11_blank_34 rfl ?_
    obtain ⟨v35, e35, hF⟩ := Option.bind_eq_some_iff.mp hF
    refine q_fR d_X11_blank_35 f_X11_36 e35 ?_
    refine g_aloadn d_X11_blank_38 rfl ?_
    obtain ⟨v39, e39, hF⟩ := Option.bind_eq_some_iff.mp hF
    refine q_fR d_X11_blank_39 f_X11_30 e39 ?_
    obtain ⟨_, g42, hF⟩ := Option.bind_eq_some_iff.mp hF
    obtain ⟨⟨r42, h42⟩, e42, hF⟩ := Option.bind_eq_some_iff.mp hF
    try dsimp only at hF
    refine q_callV [.ref v39] [] rfl d_X11_blank_42 v_X11_187 (by omega) rfl (Nat.le_of_ble_eq_true rfl) (rc_rc g42 (by decide) rfl) (R_X2_remember _ _ _ (by omega) e42) ?_
    refine g_aloadn d_X11_blank_45 rfl ?_
    obtain ⟨v46, e46, hF⟩ := Option.bind_eq_some_iff.mp hF
    refine q_fR d_X11_blank_46 f_X11_30 e46 ?_
    obtain ⟨v49, e49, hF⟩ := Option.bind_eq_some_iff.mp hF
    refine q_fR d_X11_blank_49 f_X11_125 e49 ?_
    refine g_iloadn d_X11_blank_52 rfl ?_
    obtain ⟨v53, e53, hF⟩ := Option.bind_eq_some_iff.mp hF
    refine q_aI d_X11_blank_53 e53 ?_
    obtain ⟨rfl, rfl⟩ := x_inj hF
    exact g_iret d_X11_blank_54 rfl hq
  · have hF := x_f hF c26
    refine g_bi (-10) d_X11_blank_29 bi_m10 ?_
    refine g_iloadn d_X11_blank_31 rfl ?_
    refine g_isub d_X11_blank_32 ?_
    obtain ⟨rfl, rfl⟩ := x_inj hF
    exact g_iret d_X11_blank_33 rfl hq
theorem d_X11_undo_0 : decode cX11_undo 0 = .ok (.iload_n 1, 1) := by decide +kernel
theorem d_X11_undo_1 : decode cX11_undo 1 = .ok (.iconst 1, 1) := by decide +kernel
theorem d_X11_undo_2 : decode cX11_undo 2 = .ok (.if_icmp .lt 14, 3) := by decide +kernel
theorem d_X11_undo_5 : decode cX11_undo 5 = .ok (.iload_n 1, 1) := by decide +kernel
theorem d_X11_undo_6 : decode cX11_undo 6 = .ok (.aload_n 0, 1) := by decide +kernel
theorem d_X11_undo_7 : decode cX11_undo 7 = .ok (.getfield 36, 3) := by decide +kernel
theorem d_X11_undo_10 : decode cX11_undo 10 = .ok (.getfield 203, 3) := by decide +kernel
theorem d_X11_undo_13 : decode cX11_undo 13 = .ok (.if_icmp .le 6, 3) := by decide +kernel
theorem d_X11_undo_16 : decode cX11_undo 16 = .ok (.bipush (-3), 2) := by decide +kernel
theorem d_X11_undo_18 : decode cX11_undo 18 = .ok (.ireturn, 1) := by decide +kernel
theorem d_X11_undo_19 : decode cX11_undo 19 = .ok (.aload_n 0, 1) := by decide +kernel
theorem d_X11_undo_20 : decode cX11_undo 20 = .ok (.getfield 36, 3) := by decide +kernel
theorem d_X11_undo_23 : decode cX11_undo 23 = .ok (.iload_n 1, 1) := by decide +kernel
theorem d_X11_undo_24 : decode cX11_undo 24 = .ok (.aload_n 0, 1) := by decide +kernel
theorem d_X11_undo_25 : decode cX11_undo 25 = .ok (.getfield 26, 3) := by decide +kernel
theorem d_X11_undo_28 : decode cX11_undo 28 = .ok (.invokevirtual 206, 3) := by decide +kernel
theorem d_X11_undo_31 : decode cX11_undo 31 = .ok (.aload_n 0, 1) := by decide +kernel
theorem d_X11_undo_32 : decode cX11_undo 32 = .ok (.getfield 36, 3) := by decide +kernel
theorem d_X11_undo_35 : decode cX11_undo 35 = .ok (.getfield 203, 3) := by decide +kernel
theorem d_X11_undo_38 : decode cX11_undo 38 = .ok (.ireturn, 1) := by decide +kernel
def F_X11_undo (x0 : Nat) (x1 : Int32) (h : xH) : Option (Int32 × xH) := if x1 < ((1 : Int32)) then some ((-3), h) else (fR h x0 10 4).bind fun v7 => (fI h v7 1 2).bind fun v10 => if x1 ≤ v10 then (fR h x0 10 4).bind fun v20 => (fR h x0 10 2).bind fun v25 => (rc h v20 1).bind fun _ => (F_X2_bringBack v20 x1 v25 h).bind fun z28 => (fR z28.2 x0 10 4).bind fun v32 => (fI z28.2 v32 1 2).bind fun v35 => some (v35, z28.2) else some ((-3), h)
theorem R_X11_undo {Γ : xG} {l : Launch} {d : Nat} {r : Int32} {h' : xH} (x0 : Nat) (x1 : Int32) (h : xH) (hdp : 3 ≤ d) (hF : F_X11_undo x0 x1 h = some (r, h')) : Gm Γ l d 0 0 m_X11_undo [.ref x0, .int x1] h (fun a u => a = some (.int r) ∧ u = h') := by
  refine Gm.of pn_X11 (Nat.le_of_ble_eq_true rfl) ?_
  show Gd Γ l d m_X11_undo 0 [.ref x0, .int x1] [] h 0 0 _
  generalize hQ : (fun (a : Option Value) (u : xH) => a = some (.int r) ∧ u = h') = Q
  have hq : Q (some (.int r)) h' := by rw [← hQ]; exact ⟨rfl, rfl⟩
  clear hQ
  unfold F_X11_undo at hF
  refine g_iloadn d_X11_undo_0 rfl ?_
  refine g_ic (1) d_X11_undo_1 ic_1 ?_
  refine g_icmp_lt 16 d_X11_undo_2 rfl (fun c2 => ?_) (fun c2 => ?_)
  · have hF := x_t hF c2
    refine g_bi (-3) d_X11_undo_16 bi_m3 ?_
    obtain ⟨rfl, rfl⟩ := x_inj hF
    exact g_iret d_X11_undo_18 rfl hq
  · have hF := x_f hF c2
    refine g_iloadn d_X11_undo_5 rfl ?_
    refine g_aloadn d_X11_undo_6 rfl ?_
    obtain ⟨v7, e7, hF⟩ := Option.bind_eq_some_iff.mp hF
    refine q_fR d_X11_undo_7 f_X11_36 e7 ?_
    obtain ⟨v10, e10, hF⟩ := Option.bind_eq_some_iff.mp hF
    refine q_fI d_X11_undo_10 f_X11_203 e10 ?_
    refine g_icmp_le 19 d_X11_undo_13 rfl (fun c13 => ?_) (fun c13 => ?_)
    · have hF := x_t hF c13
      refine g_aloadn d_X11_undo_19 rfl ?_
      obtain ⟨v20, e20, hF⟩ := Option.bind_eq_some_iff.mp hF
      refine q_fR d_X11_undo_20 f_X11_36 e20 ?_
      refine g_iloadn d_X11_undo_23 rfl ?_
      refine g_aloadn d_X11_undo_24 rfl ?_
      obtain ⟨v25, e25, hF⟩ := Option.bind_eq_some_iff.mp hF
      refine q_fR d_X11_undo_25 f_X11_26 e25 ?_
      obtain ⟨_, g28, hF⟩ := Option.bind_eq_some_iff.mp hF
      obtain ⟨⟨r28, h28⟩, e28, hF⟩ := Option.bind_eq_some_iff.mp hF
      try dsimp only at hF
      refine q_callV [.int x1, .ref v25] [] rfl d_X11_undo_28 v_X11_206 (by omega) rfl (Nat.le_of_ble_eq_true rfl) (rc_rc g28 (by decide) rfl) (R_X2_bringBack _ _ _ _ (by omega) e28) ?_
      refine g_aloadn d_X11_undo_31 rfl ?_
      obtain ⟨v32, e32, hF⟩ := Option.bind_eq_some_iff.mp hF
      refine q_fR d_X11_undo_32 f_X11_36 e32 ?_
      obtain ⟨v35, e35, hF⟩ := Option.bind_eq_some_iff.mp hF
      refine q_fI d_X11_undo_35 f_X11_203 e35 ?_
      obtain ⟨rfl, rfl⟩ := x_inj hF
      exact g_iret d_X11_undo_38 rfl hq
    · have hF := x_f hF c13
      refine g_bi (-3) d_X11_undo_16 bi_m3 ?_
      obtain ⟨rfl, rfl⟩ := x_inj hF
      exact g_iret d_X11_undo_18 rfl hq
theorem d_X11_trayAt_0 : decode cX11_trayAt 0 = .ok (.iload_n 1, 1) := by decide +kernel
theorem d_X11_trayAt_1 : decode cX11_trayAt 1 = .ok (.ifCond .lt 8, 3) := by decide +kernel
theorem d_X11_trayAt_4 : decode cX11_trayAt 4 = .ok (.iload_n 1, 1) := by decide +kernel
theorem d_X11_trayAt_5 : decode cX11_trayAt 5 = .ok (.iconst 4, 1) := by decide +kernel
theorem d_X11_trayAt_6 : decode cX11_trayAt 6 = .ok (.if_icmp .lt 7, 3) := by decide +kernel
theorem d_X11_trayAt_9 : decode cX11_trayAt 9 = .ok (.aconst_null, 1) := by decide +kernel
theorem d_X11_trayAt_10 : decode cX11_trayAt 10 = .ok (.goto 9, 3) := by decide +kernel
theorem d_X11_trayAt_13 : decode cX11_trayAt 13 = .ok (.aload_n 0, 1) := by decide +kernel
theorem d_X11_trayAt_14 : decode cX11_trayAt 14 = .ok (.getfield 42, 3) := by decide +kernel
theorem d_X11_trayAt_17 : decode cX11_trayAt 17 = .ok (.iload_n 1, 1) := by decide +kernel
theorem d_X11_trayAt_18 : decode cX11_trayAt 18 = .ok (.aaload, 1) := by decide +kernel
theorem d_X11_trayAt_19 : decode cX11_trayAt 19 = .ok (.areturn, 1) := by decide +kernel
def F_X11_trayAt (x0 : Nat) (x1 : Int32) (h : xH) : Option (Option Nat × xH) := if x1 < 0 then some (none, h) else if x1 < ((4 : Int32)) then (fR h x0 10 5).bind fun v14 => (aR h v14 x1).bind fun v18 => some ((some v18), h) else some (none, h)
theorem R_X11_trayAt {Γ : xG} {l : Launch} {d : Nat} {r : Option Nat} {h' : xH} (x0 : Nat) (x1 : Int32) (h : xH) (hdp : 0 ≤ d) (hF : F_X11_trayAt x0 x1 h = some (r, h')) : Gm Γ l d 0 0 m_X11_trayAt [.ref x0, .int x1] h (fun a u => a = some (va_rf r) ∧ u = h') := by
  refine Gm.of pn_X11 (Nat.le_of_ble_eq_true rfl) ?_
  show Gd Γ l d m_X11_trayAt 0 [.ref x0, .int x1] [] h 0 0 _
  generalize hQ : (fun (a : Option Value) (u : xH) => a = some (va_rf r) ∧ u = h') = Q
  have hq : Q (some (va_rf r)) h' := by rw [← hQ]; exact ⟨rfl, rfl⟩
  clear hQ
  unfold F_X11_trayAt at hF
  refine g_iloadn d_X11_trayAt_0 rfl ?_
  refine g_if_lt 9 d_X11_trayAt_1 rfl (fun c1 => ?_) (fun c1 => ?_)
  · have hF := x_t hF c1
    refine g_null d_X11_trayAt_9 ?_
    refine g_goto 19 d_X11_trayAt_10 rfl ?_
    obtain ⟨rfl, rfl⟩ := x_inj hF
    exact g_aretN d_X11_trayAt_19 rfl (Or.inl ⟨_, rfl⟩) hq
  · have hF := x_f hF c1
    refine g_iloadn d_X11_trayAt_4 rfl ?_
    refine g_ic (4) d_X11_trayAt_5 ic_4 ?_
    refine g_icmp_lt 13 d_X11_trayAt_6 rfl (fun c6 => ?_) (fun c6 => ?_)
    · have hF := x_t hF c6
      refine g_aloadn d_X11_trayAt_13 rfl ?_
      obtain ⟨v14, e14, hF⟩ := Option.bind_eq_some_iff.mp hF
      refine q_fR d_X11_trayAt_14 f_X11_42 e14 ?_
      refine g_iloadn d_X11_trayAt_17 rfl ?_
      obtain ⟨v18, e18, hF⟩ := Option.bind_eq_some_iff.mp hF
      refine q_aR d_X11_trayAt_18 e18 ?_
      obtain ⟨rfl, rfl⟩ := x_inj hF
      exact g_aret d_X11_trayAt_19 rfl (Or.inl ⟨_, rfl⟩) hq
    · have hF := x_f hF c6
      refine g_null d_X11_trayAt_9 ?_
      refine g_goto 19 d_X11_trayAt_10 rfl ?_
      obtain ⟨rfl, rfl⟩ := x_inj hF
      exact g_aretN d_X11_trayAt_19 rfl (Or.inl ⟨_, rfl⟩) hq
theorem d_X11_judge_0 : decode cX11_judge 0 = .ok (.aload_n 0, 1) := by decide +kernel
theorem d_X11_judge_1 : decode cX11_judge 1 = .ok (.iload_n 1, 1) := by decide +kernel
theorem d_X11_judge_2 : decode cX11_judge 2 = .ok (.invokevirtual 210, 3) := by decide +kernel
theorem d_X11_judge_5 : decode cX11_judge 5 = .ok (.astore_n 3, 1) := by decide +kernel
theorem d_X11_judge_6 : decode cX11_judge 6 = .ok (.aload_n 3, 1) := by decide +kernel
theorem d_X11_judge_7 : decode cX11_judge 7 = .ok (.ifnull 12, 3) := by decide +kernel
theorem d_X11_judge_10 : decode cX11_judge 10 = .ok (.iload_n 2, 1) := by decide +kernel
theorem d_X11_judge_11 : decode cX11_judge 11 = .ok (.ifCond .lt 8, 3) := by decide +kernel
theorem d_X11_judge_14 : decode cX11_judge 14 = .ok (.iload_n 2, 1) := by decide +kernel
theorem d_X11_judge_15 : decode cX11_judge 15 = .ok (.iconst 3, 1) := by decide +kernel
theorem d_X11_judge_16 : decode cX11_judge 16 = .ok (.if_icmp .le 6, 3) := by decide +kernel
theorem d_X11_judge_19 : decode cX11_judge 19 = .ok (.bipush (-2), 2) := by decide +kernel
theorem d_X11_judge_21 : decode cX11_judge 21 = .ok (.ireturn, 1) := by decide +kernel
theorem d_X11_judge_22 : decode cX11_judge 22 = .ok (.aload_n 3, 1) := by decide +kernel
theorem d_X11_judge_23 : decode cX11_judge 23 = .ok (.getfield 214, 3) := by decide +kernel
theorem d_X11_judge_26 : decode cX11_judge 26 = .ok (.ifCond .ge 6, 3) := by decide +kernel
theorem d_X11_judge_29 : decode cX11_judge 29 = .ok (.bipush (-6), 2) := by decide +kernel
theorem d_X11_judge_31 : decode cX11_judge 31 = .ok (.ireturn, 1) := by decide +kernel
theorem d_X11_judge_32 : decode cX11_judge 32 = .ok (.aload_n 0, 1) := by decide +kernel
theorem d_X11_judge_33 : decode cX11_judge 33 = .ok (.getfield 30, 3) := by decide +kernel
theorem d_X11_judge_36 : decode cX11_judge 36 = .ok (.aload_n 0, 1) := by decide +kernel
theorem d_X11_judge_37 : decode cX11_judge 37 = .ok (.getfield 26, 3) := by decide +kernel
theorem d_X11_judge_40 : decode cX11_judge 40 = .ok (.invokevirtual 104, 3) := by decide +kernel
theorem d_X11_judge_43 : decode cX11_judge 43 = .ok (.aload_n 0, 1) := by decide +kernel
theorem d_X11_judge_44 : decode cX11_judge 44 = .ok (.getfield 19, 3) := by decide +kernel
theorem d_X11_judge_47 : decode cX11_judge 47 = .ok (.aload_n 0, 1) := by decide +kernel
theorem d_X11_judge_48 : decode cX11_judge 48 = .ok (.getfield 30, 3) := by decide +kernel
theorem d_X11_judge_51 : decode cX11_judge 51 = .ok (.aload_n 3, 1) := by decide +kernel
theorem d_X11_judge_52 : decode cX11_judge 52 = .ok (.invokestatic 215, 3) := by decide +kernel
theorem d_X11_judge_55 : decode cX11_judge 55 = .ok (.istore 4, 2) := by decide +kernel
theorem d_X11_judge_57 : decode cX11_judge 57 = .ok (.iload_n 2, 1) := by decide +kernel
theorem d_X11_judge_58 : decode cX11_judge 58 = .ok (.tableswitch 82 0 2 #[26, 42, 74], 26) := by decide +kernel
theorem d_X11_judge_84 : decode cX11_judge 84 = .ok (.iload 4, 2) := by decide +kernel
theorem d_X11_judge_86 : decode cX11_judge 86 = .ok (.aload_n 3, 1) := by decide +kernel
theorem d_X11_judge_87 : decode cX11_judge 87 = .ok (.getfield 214, 3) := by decide +kernel
theorem d_X11_judge_90 : decode cX11_judge 90 = .ok (.if_icmp .ge 8, 3) := by decide +kernel
theorem d_X11_judge_93 : decode cX11_judge 93 = .ok (.iload 4, 2) := by decide +kernel
theorem d_X11_judge_95 : decode cX11_judge 95 = .ok (.goto 4, 3) := by decide +kernel
theorem d_X11_judge_98 : decode cX11_judge 98 = .ok (.iconst (-1), 1) := by decide +kernel
theorem d_X11_judge_99 : decode cX11_judge 99 = .ok (.ireturn, 1) := by decide +kernel
theorem d_X11_judge_100 : decode cX11_judge 100 = .ok (.iload 4, 2) := by decide +kernel
theorem d_X11_judge_102 : decode cX11_judge 102 = .ok (.aload_n 3, 1) := by decide +kernel
theorem d_X11_judge_103 : decode cX11_judge 103 = .ok (.getfield 214, 3) := by decide +kernel
theorem d_X11_judge_106 : decode cX11_judge 106 = .ok (.if_icmp .ge 24, 3) := by decide +kernel
theorem d_X11_judge_109 : decode cX11_judge 109 = .ok (.aload_n 0, 1) := by decide +kernel
theorem d_X11_judge_110 : decode cX11_judge 110 = .ok (.getfield 19, 3) := by decide +kernel
theorem d_X11_judge_113 : decode cX11_judge 113 = .ok (.aload_n 0, 1) := by decide +kernel
theorem d_X11_judge_114 : decode cX11_judge 114 = .ok (.getfield 30, 3) := by decide +kernel
theorem d_X11_judge_117 : decode cX11_judge 117 = .ok (.aload_n 3, 1) := by decide +kernel
theorem d_X11_judge_118 : decode cX11_judge 118 = .ok (.getfield 219, 3) := by decide +kernel
theorem d_X11_judge_121 : decode cX11_judge 121 = .ok (.iload 4, 2) := by decide +kernel
theorem d_X11_judge_123 : decode cX11_judge 123 = .ok (.laload, 1) := by decide +kernel
theorem d_X11_judge_124 : decode cX11_judge 124 = .ok (.invokestatic 223, 3) := by decide +kernel
theorem d_X11_judge_127 : decode cX11_judge 127 = .ok (.goto 4, 3) := by decide +kernel
theorem d_X11_judge_130 : decode cX11_judge 130 = .ok (.iconst 0, 1) := by decide +kernel
theorem d_X11_judge_131 : decode cX11_judge 131 = .ok (.ireturn, 1) := by decide +kernel
theorem d_X11_judge_132 : decode cX11_judge 132 = .ok (.aload_n 0, 1) := by decide +kernel
theorem d_X11_judge_133 : decode cX11_judge 133 = .ok (.getfield 30, 3) := by decide +kernel
theorem d_X11_judge_136 : decode cX11_judge 136 = .ok (.getfield 131, 3) := by decide +kernel
theorem d_X11_judge_139 : decode cX11_judge 139 = .ok (.ireturn, 1) := by decide +kernel
theorem d_X11_judge_140 : decode cX11_judge 140 = .ok (.aload_n 0, 1) := by decide +kernel
theorem d_X11_judge_141 : decode cX11_judge 141 = .ok (.getfield 30, 3) := by decide +kernel
theorem d_X11_judge_144 : decode cX11_judge 144 = .ok (.aload_n 0, 1) := by decide +kernel
theorem d_X11_judge_145 : decode cX11_judge 145 = .ok (.getfield 19, 3) := by decide +kernel
theorem d_X11_judge_148 : decode cX11_judge 148 = .ok (.getfield 148, 3) := by decide +kernel
theorem d_X11_judge_151 : decode cX11_judge 151 = .ok (.invokevirtual 227, 3) := by decide +kernel
theorem d_X11_judge_154 : decode cX11_judge 154 = .ok (.ireturn, 1) := by decide +kernel
def F_X11_judge (x0 : Nat) (x1 : Int32) (x2 : Int32) (h : xH) : Option (Int32 × xH) := (rc h x0 10).bind fun _ => (F_X11_trayAt x0 x1 h).bind fun z2 => (match z2.1 with | none => some ((-2), z2.2) | some q7 => if x2 < 0 then some ((-2), z2.2) else if x2 ≤ ((3 : Int32)) then (fI z2.2 q7 7 1).bind fun v23 => if 0 ≤ v23 then (fR z2.2 x0 10 3).bind fun v33 => (fR z2.2 x0 10 2).bind fun v37 => (rc z2.2 v33 5).bind fun _ => (F_X6_copyFrom v33 v37 z2.2).bind fun z40 => (fR z40.2 x0 10 1).bind fun v44 => (fR z40.2 x0 10 3).bind fun v48 => (F_X0_doAll v44 v48 q7 z40.2).bind fun z52 => if x2 = 0 then (fI z52.2 q7 7 1).bind fun v87 => if v87 ≤ z52.1 then some ((-1), z52.2) else some (z52.1, z52.2) else if x2 = 1 then (fI z52.2 q7 7 1).bind fun v103 => if v103 ≤ z52.1 then some (0, z52.2) else (fR z52.2 x0 10 1).bind fun v110 => (fR z52.2 x0 10 3).bind fun v114 => (fR z52.2 q7 7 0).bind fun v118 => (aJ z52.2 v118 z52.1).bind fun v123 => (F_X0_doOne v110 v114 v123 z52.2).bind fun z124 => some (z124.1, z124.2) else if x2 = 2 then (fR z52.2 x0 10 3).bind fun v133 => (fI z52.2 v133 5 3).bind fun v136 => some (v136, z52.2) else (fR z52.2 x0 10 3).bind fun v141 => (fR z52.2 x0 10 1).bind fun v145 => (fI z52.2 v145 9 4).bind fun v148 => (rc z52.2 v141 5).bind fun _ => (F_X6_placesOfAll v141 v148 z52.2).bind fun z151 => some (z151.1, z151.2) else some ((-6), z2.2) else some ((-2), z2.2))
theorem R_X11_judge {Γ : xG} {l : Launch} {d : Nat} {r : Int32} {h' : xH} (x0 : Nat) (x1 : Int32) (x2 : Int32) (h : xH) (hdp : 4 ≤ d) (hF : F_X11_judge x0 x1 x2 h = some (r, h')) : Gm Γ l d 0 0 m_X11_judge [.ref x0, .int x1, .int x2] h (fun a u => a = some (.int r) ∧ u = h') := by
  refine Gm.of pn_X11 (Nat.le_of_ble_eq_true rfl) ?_
  show Gd Γ l d m_X11_judge 0 [.ref x0, .int x1, .int x2, xhole, xhole] [] h 0 0 _
  generalize hQ : (fun (a : Option Value) (u : xH) => a = some (.int r) ∧ u = h') = Q
  have hq : Q (some (.int r)) h' := by rw [← hQ]; exact ⟨rfl, rfl⟩
  clear hQ
  unfold F_X11_judge at hF
  refine g_aloadn d_X11_judge_0 rfl ?_
  refine g_iloadn d_X11_judge_1 rfl ?_
  obtain ⟨_, g2, hF⟩ := Option.bind_eq_some_iff.mp hF
  obtain ⟨⟨r2, h2⟩, e2, hF⟩ := Option.bind_eq_some_iff.mp hF
  try dsimp only at hF
  refine q_callV [.int x1] [] rfl d_X11_judge_2 v_X11_210 (by omega) rfl (Nat.le_of_ble_eq_true rfl) (rc_rc g2 (by decide) rfl) (R_X11_trayAt _ _ _ (by omega) e2) ?_
  refine q_astorenQ [.ref x0, .int x1, .int x2, va_rf (r2), xhole] d_X11_judge_5 (by decide) rfl ?_
  refine q_aloadnQ d_X11_judge_6 rfl ?_
  cases r2 with
  | none =>
    try dsimp only at hF
    refine g_ifnullN 19 d_X11_judge_7 rfl ?_
    refine g_bi (-2) d_X11_judge_19 bi_m2 ?_
    obtain ⟨rfl, rfl⟩ := x_inj hF
    exact g_iret d_X11_judge_21 rfl hq
  | some q7 =>
    try dsimp only at hF
    refine g_ifnull d_X11_judge_7 ?_
    refine g_iloadn d_X11_judge_10 rfl ?_
    refine g_if_lt 19 d_X11_judge_11 rfl (fun c11 => ?_) (fun c11 => ?_)
    · have hF := x_t hF c11
      refine g_bi (-2) d_X11_judge_19 bi_m2 ?_
      obtain ⟨rfl, rfl⟩ := x_inj hF
      exact g_iret d_X11_judge_21 rfl hq
    · have hF := x_f hF c11
      refine g_iloadn d_X11_judge_14 rfl ?_
      refine g_ic (3) d_X11_judge_15 ic_3 ?_
      refine g_icmp_le 22 d_X11_judge_16 rfl (fun c16 => ?_) (fun c16 => ?_)
      · have hF := x_t hF c16
        refine g_aloadn d_X11_judge_22 rfl ?_
        obtain ⟨v23, e23, hF⟩ := Option.bind_eq_some_iff.mp hF
        refine q_fI d_X11_judge_23 f_X11_214 e23 ?_
        refine g_if_ge 32 d_X11_judge_26 rfl (fun c26 => ?_) (fun c26 => ?_)
        · have hF := x_t hF c26
          refine g_aloadn d_X11_judge_32 rfl ?_
          obtain ⟨v33, e33, hF⟩ := Option.bind_eq_some_iff.mp hF
          refine q_fR d_X11_judge_33 f_X11_30 e33 ?_
          refine g_aloadn d_X11_judge_36 rfl ?_
          obtain ⟨v37, e37, hF⟩ := Option.bind_eq_some_iff.mp hF
          refine q_fR d_X11_judge_37 f_X11_26 e37 ?_
          obtain ⟨_, g40, hF⟩ := Option.bind_eq_some_iff.mp hF
          obtain ⟨⟨r40, h40⟩, e40, hF⟩ := Option.bind_eq_some_iff.mp hF
          try dsimp only at hF
          refine q_callV [.ref v37] [] rfl d_X11_judge_40 v_X11_104 (by omega) rfl (Nat.le_of_ble_eq_true rfl) (rc_rc g40 (by decide) rfl) (R_X6_copyFrom _ _ _ (by omega) e40) ?_
          refine g_aloadn d_X11_judge_43 rfl ?_
          obtain ⟨v44, e44, hF⟩ := Option.bind_eq_some_iff.mp hF
          refine q_fR d_X11_judge_44 f_X11_19 e44 ?_
          refine g_aloadn d_X11_judge_47 rfl ?_
          obtain ⟨v48, e48, hF⟩ := Option.bind_eq_some_iff.mp hF
          refine q_fR d_X11_judge_48 f_X11_30 e48 ?_
          refine g_aloadn d_X11_judge_51 rfl ?_
          obtain ⟨⟨r52, h52⟩, e52, hF⟩ := Option.bind_eq_some_iff.mp hF
          try dsimp only at hF
          refine q_callS [.ref v44, .ref v48, .ref q7] [] rfl d_X11_judge_52 s_X11_215 (by omega) rfl (Nat.le_of_ble_eq_true rfl) (R_X0_doAll _ _ _ _ (by omega) e52) ?_
          refine q_istore [.ref x0, .int x1, .int x2, .ref q7, .int (r52)] d_X11_judge_55 (by decide) rfl ?_
          refine g_iloadn d_X11_judge_57 rfl ?_
          rcases Classical.em (x2 = 0) with c58_0 | c58_0
          · have hF := x_t hF c58_0
            refine q_tabIn 84 d_X11_judge_58 c58_0 (by decide) (by decide) rfl rfl ?_
            refine g_iload d_X11_judge_84 rfl ?_
            refine g_aloadn d_X11_judge_86 rfl ?_
            obtain ⟨v87, e87, hF⟩ := Option.bind_eq_some_iff.mp hF
            refine q_fI d_X11_judge_87 f_X11_214 e87 ?_
            refine g_icmp_ge 98 d_X11_judge_90 rfl (fun c90 => ?_) (fun c90 => ?_)
            · have hF := x_t hF c90
              refine g_ic (-1) d_X11_judge_98 ic_m1 ?_
              obtain ⟨rfl, rfl⟩ := x_inj hF
              exact g_iret d_X11_judge_99 rfl hq
            · have hF := x_f hF c90
              refine g_iload d_X11_judge_93 rfl ?_
              refine g_goto 99 d_X11_judge_95 rfl ?_
              obtain ⟨rfl, rfl⟩ := x_inj hF
              exact g_iret d_X11_judge_99 rfl hq
          have hF := x_f hF c58_0
          rcases Classical.em (x2 = 1) with c58_1 | c58_1
          · have hF := x_t hF c58_1
            refine q_tabIn 100 d_X11_judge_58 c58_1 (by decide) (by decide) rfl rfl ?_
            refine g_iload d_X11_judge_100 rfl ?_
            refine g_aloadn d_X11_judge_102 rfl ?_
            obtain ⟨v103, e103, hF⟩ := Option.bind_eq_some_iff.mp hF
            refine q_fI d_X11_judge_103 f_X11_214 e103 ?_
            refine g_icmp_ge 130 d_X11_judge_106 rfl (fun c106 => ?_) (fun c106 => ?_)
            · have hF := x_t hF c106
              refine g_ic (0) d_X11_judge_130 ic_0 ?_
              obtain ⟨rfl, rfl⟩ := x_inj hF
              exact g_iret d_X11_judge_131 rfl hq
            · have hF := x_f hF c106
              refine g_aloadn d_X11_judge_109 rfl ?_
              obtain ⟨v110, e110, hF⟩ := Option.bind_eq_some_iff.mp hF
              refine q_fR d_X11_judge_110 f_X11_19 e110 ?_
              refine g_aloadn d_X11_judge_113 rfl ?_
              obtain ⟨v114, e114, hF⟩ := Option.bind_eq_some_iff.mp hF
              refine q_fR d_X11_judge_114 f_X11_30 e114 ?_
              refine g_aloadn d_X11_judge_117 rfl ?_
              obtain ⟨v118, e118, hF⟩ := Option.bind_eq_some_iff.mp hF
              refine q_fR d_X11_judge_118 f_X11_219 e118 ?_
              refine g_iload d_X11_judge_121 rfl ?_
              obtain ⟨v123, e123, hF⟩ := Option.bind_eq_some_iff.mp hF
              refine q_aJ d_X11_judge_123 e123 ?_
              obtain ⟨⟨r124, h124⟩, e124, hF⟩ := Option.bind_eq_some_iff.mp hF
              try dsimp only at hF
              refine q_callS [.ref v110, .ref v114, .long v123] [] rfl d_X11_judge_124 s_X11_223 (by omega) rfl (Nat.le_of_ble_eq_true rfl) (R_X0_doOne _ _ _ _ (by omega) e124) ?_
              refine g_goto 131 d_X11_judge_127 rfl ?_
              obtain ⟨rfl, rfl⟩ := x_inj hF
              exact g_iret d_X11_judge_131 rfl hq
          have hF := x_f hF c58_1
          rcases Classical.em (x2 = 2) with c58_2 | c58_2
          · have hF := x_t hF c58_2
            refine q_tabIn 132 d_X11_judge_58 c58_2 (by decide) (by decide) rfl rfl ?_
            refine g_aloadn d_X11_judge_132 rfl ?_
            obtain ⟨v133, e133, hF⟩ := Option.bind_eq_some_iff.mp hF
            refine q_fR d_X11_judge_133 f_X11_30 e133 ?_
            obtain ⟨v136, e136, hF⟩ := Option.bind_eq_some_iff.mp hF
            refine q_fI d_X11_judge_136 f_X11_131 e136 ?_
            obtain ⟨rfl, rfl⟩ := x_inj hF
            exact g_iret d_X11_judge_139 rfl hq
          have hF := x_f hF c58_2
          refine g_tabOut 140 d_X11_judge_58 (by have a0 := sw_ne c58_0 (k := 0) (by decide); have a1 := sw_ne c58_1 (k := 1) (by decide); have a2 := sw_ne c58_2 (k := 2) (by decide); omega) rfl ?_
          refine g_aloadn d_X11_judge_140 rfl ?_
          obtain ⟨v141, e141, hF⟩ := Option.bind_eq_some_iff.mp hF
          refine q_fR d_X11_judge_141 f_X11_30 e141 ?_
          refine g_aloadn d_X11_judge_144 rfl ?_
          obtain ⟨v145, e145, hF⟩ := Option.bind_eq_some_iff.mp hF
          refine q_fR d_X11_judge_145 f_X11_19 e145 ?_
          obtain ⟨v148, e148, hF⟩ := Option.bind_eq_some_iff.mp hF
          refine q_fI d_X11_judge_148 f_X11_148 e148 ?_
          obtain ⟨_, g151, hF⟩ := Option.bind_eq_some_iff.mp hF
          obtain ⟨⟨r151, h151⟩, e151, hF⟩ := Option.bind_eq_some_iff.mp hF
          try dsimp only at hF
          refine q_callV [.int v148] [] rfl d_X11_judge_151 v_X11_227 (by omega) rfl (Nat.le_of_ble_eq_true rfl) (rc_rc g151 (by decide) rfl) (R_X6_placesOfAll _ _ _ (by omega) e151) ?_
          obtain ⟨rfl, rfl⟩ := x_inj hF
          exact g_iret d_X11_judge_154 rfl hq
        · have hF := x_f hF c26
          refine g_bi (-6) d_X11_judge_29 bi_m6 ?_
          obtain ⟨rfl, rfl⟩ := x_inj hF
          exact g_iret d_X11_judge_31 rfl hq
      · have hF := x_f hF c16
        refine g_bi (-2) d_X11_judge_19 bi_m2 ?_
        obtain ⟨rfl, rfl⟩ := x_inj hF
        exact g_iret d_X11_judge_21 rfl hq
theorem d_X11_perform_0 : decode cX11_perform 0 = .ok (.aload_n 0, 1) := by decide +kernel
theorem d_X11_perform_1 : decode cX11_perform 1 = .ok (.iload_n 1, 1) := by decide +kernel
theorem d_X11_perform_2 : decode cX11_perform 2 = .ok (.invokevirtual 210, 3) := by decide +kernel
theorem d_X11_perform_5 : decode cX11_perform 5 = .ok (.astore_n 2, 1) := by decide +kernel
theorem d_X11_perform_6 : decode cX11_perform 6 = .ok (.aload_n 2, 1) := by decide +kernel
theorem d_X11_perform_7 : decode cX11_perform 7 = .ok (.ifnonnull 6, 3) := by decide +kernel
theorem d_X11_perform_10 : decode cX11_perform 10 = .ok (.bipush (-2), 2) := by decide +kernel
theorem d_X11_perform_12 : decode cX11_perform 12 = .ok (.ireturn, 1) := by decide +kernel
theorem d_X11_perform_13 : decode cX11_perform 13 = .ok (.aload_n 2, 1) := by decide +kernel
theorem d_X11_perform_14 : decode cX11_perform 14 = .ok (.getfield 214, 3) := by decide +kernel
theorem d_X11_perform_17 : decode cX11_perform 17 = .ok (.ifCond .ge 6, 3) := by decide +kernel
theorem d_X11_perform_20 : decode cX11_perform 20 = .ok (.bipush (-6), 2) := by decide +kernel
theorem d_X11_perform_22 : decode cX11_perform 22 = .ok (.ireturn, 1) := by decide +kernel
theorem d_X11_perform_23 : decode cX11_perform 23 = .ok (.aload_n 0, 1) := by decide +kernel
theorem d_X11_perform_24 : decode cX11_perform 24 = .ok (.getfield 30, 3) := by decide +kernel
theorem d_X11_perform_27 : decode cX11_perform 27 = .ok (.aload_n 0, 1) := by decide +kernel
theorem d_X11_perform_28 : decode cX11_perform 28 = .ok (.getfield 26, 3) := by decide +kernel
theorem d_X11_perform_31 : decode cX11_perform 31 = .ok (.invokevirtual 104, 3) := by decide +kernel
theorem d_X11_perform_34 : decode cX11_perform 34 = .ok (.aload_n 0, 1) := by decide +kernel
theorem d_X11_perform_35 : decode cX11_perform 35 = .ok (.getfield 19, 3) := by decide +kernel
theorem d_X11_perform_38 : decode cX11_perform 38 = .ok (.aload_n 0, 1) := by decide +kernel
theorem d_X11_perform_39 : decode cX11_perform 39 = .ok (.getfield 26, 3) := by decide +kernel
theorem d_X11_perform_42 : decode cX11_perform 42 = .ok (.aload_n 2, 1) := by decide +kernel
theorem d_X11_perform_43 : decode cX11_perform 43 = .ok (.invokestatic 215, 3) := by decide +kernel
theorem d_X11_perform_46 : decode cX11_perform 46 = .ok (.istore_n 3, 1) := by decide +kernel
theorem d_X11_perform_47 : decode cX11_perform 47 = .ok (.iload_n 3, 1) := by decide +kernel
theorem d_X11_perform_48 : decode cX11_perform 48 = .ok (.ifCond .le 14, 3) := by decide +kernel
theorem d_X11_perform_51 : decode cX11_perform 51 = .ok (.aload_n 0, 1) := by decide +kernel
theorem d_X11_perform_52 : decode cX11_perform 52 = .ok (.getfield 36, 3) := by decide +kernel
theorem d_X11_perform_55 : decode cX11_perform 55 = .ok (.aload_n 0, 1) := by decide +kernel
theorem d_X11_perform_56 : decode cX11_perform 56 = .ok (.getfield 30, 3) := by decide +kernel
theorem d_X11_perform_59 : decode cX11_perform 59 = .ok (.invokevirtual 187, 3) := by decide +kernel
theorem d_X11_perform_62 : decode cX11_perform 62 = .ok (.iload_n 3, 1) := by decide +kernel
theorem d_X11_perform_63 : decode cX11_perform 63 = .ok (.ireturn, 1) := by decide +kernel
def F_X11_perform (x0 : Nat) (x1 : Int32) (h : xH) : Option (Int32 × xH) := (rc h x0 10).bind fun _ => (F_X11_trayAt x0 x1 h).bind fun z2 => (match z2.1 with | none => some ((-2), z2.2) | some q7 => (fI z2.2 q7 7 1).bind fun v14 => if 0 ≤ v14 then (fR z2.2 x0 10 3).bind fun v24 => (fR z2.2 x0 10 2).bind fun v28 => (rc z2.2 v24 5).bind fun _ => (F_X6_copyFrom v24 v28 z2.2).bind fun z31 => (fR z31.2 x0 10 1).bind fun v35 => (fR z31.2 x0 10 2).bind fun v39 => (F_X0_doAll v35 v39 q7 z31.2).bind fun z43 => if z43.1 ≤ 0 then some (z43.1, z43.2) else (fR z43.2 x0 10 4).bind fun v52 => (fR z43.2 x0 10 3).bind fun v56 => (rc z43.2 v52 1).bind fun _ => (F_X2_remember v52 v56 z43.2).bind fun z59 => some (z43.1, z59.2) else some ((-6), z2.2))
theorem R_X11_perform {Γ : xG} {l : Launch} {d : Nat} {r : Int32} {h' : xH} (x0 : Nat) (x1 : Int32) (h : xH) (hdp : 4 ≤ d) (hF : F_X11_perform x0 x1 h = some (r, h')) : Gm Γ l d 0 0 m_X11_perform [.ref x0, .int x1] h (fun a u => a = some (.int r) ∧ u = h') := by
  refine Gm.of pn_X11 (Nat.le_of_ble_eq_true rfl) ?_
  show Gd Γ l d m_X11_perform 0 [.ref x0, .int x1, xhole, xhole] [] h 0 0 _
  generalize hQ : (fun (a : Option Value) (u : xH) => a = some (.int r) ∧ u = h') = Q
  have hq : Q (some (.int r)) h' := by rw [← hQ]; exact ⟨rfl, rfl⟩
  clear hQ
  unfold F_X11_perform at hF
  refine g_aloadn d_X11_perform_0 rfl ?_
  refine g_iloadn d_X11_perform_1 rfl ?_
  obtain ⟨_, g2, hF⟩ := Option.bind_eq_some_iff.mp hF
  obtain ⟨⟨r2, h2⟩, e2, hF⟩ := Option.bind_eq_some_iff.mp hF
  try dsimp only at hF
  refine q_callV [.int x1] [] rfl d_X11_perform_2 v_X11_210 (by omega) rfl (Nat.le_of_ble_eq_true rfl) (rc_rc g2 (by decide) rfl) (R_X11_trayAt _ _ _ (by omega) e2) ?_
  refine q_astorenQ [.ref x0, .int x1, va_rf (r2), xhole] d_X11_perform_5 (by decide) rfl ?_
  refine q_aloadnQ d_X11_perform_6 rfl ?_
  cases r2 with
  | none =>
    try dsimp only at hF
    refine g_ifnonnullN d_X11_perform_7 ?_
    refine g_bi (-2) d_X11_perform_10 bi_m2 ?_
    obtain ⟨rfl, rfl⟩ := x_inj hF
    exact g_iret d_X11_perform_12 rfl hq
  | some q7 =>
    try dsimp only at hF
    refine g_ifnonnull 13 d_X11_perform_7 rfl ?_
    refine g_aloadn d_X11_perform_13 rfl ?_
    obtain ⟨v14, e14, hF⟩ := Option.bind_eq_some_iff.mp hF
    refine q_fI d_X11_perform_14 f_X11_214 e14 ?_
    refine g_if_ge 23 d_X11_perform_17 rfl (fun c17 => ?_) (fun c17 => ?_)
    · have hF := x_t hF c17
      refine g_aloadn d_X11_perform_23 rfl ?_
      obtain ⟨v24, e24, hF⟩ := Option.bind_eq_some_iff.mp hF
      refine q_fR d_X11_perform_24 f_X11_30 e24 ?_
      refine g_aloadn d_X11_perform_27 rfl ?_
      obtain ⟨v28, e28, hF⟩ := Option.bind_eq_some_iff.mp hF
      refine q_fR d_X11_perform_28 f_X11_26 e28 ?_
      obtain ⟨_, g31, hF⟩ := Option.bind_eq_some_iff.mp hF
      obtain ⟨⟨r31, h31⟩, e31, hF⟩ := Option.bind_eq_some_iff.mp hF
      try dsimp only at hF
      refine q_callV [.ref v28] [] rfl d_X11_perform_31 v_X11_104 (by omega) rfl (Nat.le_of_ble_eq_true rfl) (rc_rc g31 (by decide) rfl) (R_X6_copyFrom _ _ _ (by omega) e31) ?_
      refine g_aloadn d_X11_perform_34 rfl ?_
      obtain ⟨v35, e35, hF⟩ := Option.bind_eq_some_iff.mp hF
      refine q_fR d_X11_perform_35 f_X11_19 e35 ?_
      refine g_aloadn d_X11_perform_38 rfl ?_
      obtain ⟨v39, e39, hF⟩ := Option.bind_eq_some_iff.mp hF
      refine q_fR d_X11_perform_39 f_X11_26 e39 ?_
      refine g_aloadn d_X11_perform_42 rfl ?_
      obtain ⟨⟨r43, h43⟩, e43, hF⟩ := Option.bind_eq_some_iff.mp hF
      try dsimp only at hF
      refine q_callS [.ref v35, .ref v39, .ref q7] [] rfl d_X11_perform_43 s_X11_215 (by omega) rfl (Nat.le_of_ble_eq_true rfl) (R_X0_doAll _ _ _ _ (by omega) e43) ?_
      refine q_istoren [.ref x0, .int x1, .ref q7, .int (r43)] d_X11_perform_46 (by decide) rfl ?_
      refine g_iloadn d_X11_perform_47 rfl ?_
      refine g_if_le 62 d_X11_perform_48 rfl (fun c48 => ?_) (fun c48 => ?_)
      · have hF := x_t hF c48
        refine g_iloadn d_X11_perform_62 rfl ?_
        obtain ⟨rfl, rfl⟩ := x_inj hF
        exact g_iret d_X11_perform_63 rfl hq
      · have hF := x_f hF c48
        refine g_aloadn d_X11_perform_51 rfl ?_
        obtain ⟨v52, e52, hF⟩ := Option.bind_eq_some_iff.mp hF
        refine q_fR d_X11_perform_52 f_X11_36 e52 ?_
        refine g_aloadn d_X11_perform_55 rfl ?_
        obtain ⟨v56, e56, hF⟩ := Option.bind_eq_some_iff.mp hF
        refine q_fR d_X11_perform_56 f_X11_30 e56 ?_
        obtain ⟨_, g59, hF⟩ := Option.bind_eq_some_iff.mp hF
        obtain ⟨⟨r59, h59⟩, e59, hF⟩ := Option.bind_eq_some_iff.mp hF
        try dsimp only at hF
        refine q_callV [.ref v56] [] rfl d_X11_perform_59 v_X11_187 (by omega) rfl (Nat.le_of_ble_eq_true rfl) (rc_rc g59 (by decide) rfl) (R_X2_remember _ _ _ (by omega) e59) ?_
        refine g_iloadn d_X11_perform_62 rfl ?_
        obtain ⟨rfl, rfl⟩ := x_inj hF
        exact g_iret d_X11_perform_63 rfl hq
    · have hF := x_f hF c17
      refine g_bi (-6) d_X11_perform_20 bi_m6 ?_
      obtain ⟨rfl, rfl⟩ := x_inj hF
      exact g_iret d_X11_perform_22 rfl hq
theorem d_X11_year_0 : decode cX11_year 0 = .ok (.iload_n 2, 1) := by decide +kernel
theorem d_X11_year_1 : decode cX11_year 1 = .ok (.iconst 1, 1) := by decide +kernel
theorem d_X11_year_2 : decode cX11_year 2 = .ok (.if_icmp .lt 9, 3) := by decide +kernel
theorem d_X11_year_5 : decode cX11_year 5 = .ok (.iload_n 2, 1) := by decide +kernel
theorem d_X11_year_6 : decode cX11_year 6 = .ok (.bipush 40, 2) := by decide +kernel
theorem d_X11_year_8 : decode cX11_year 8 = .ok (.if_icmp .le 6, 3) := by decide +kernel
theorem d_X11_year_11 : decode cX11_year 11 = .ok (.bipush (-3), 2) := by decide +kernel
theorem d_X11_year_13 : decode cX11_year 13 = .ok (.ireturn, 1) := by decide +kernel
theorem d_X11_year_14 : decode cX11_year 14 = .ok (.aload_n 0, 1) := by decide +kernel
theorem d_X11_year_15 : decode cX11_year 15 = .ok (.getfield 30, 3) := by decide +kernel
theorem d_X11_year_18 : decode cX11_year 18 = .ok (.aload_n 0, 1) := by decide +kernel
theorem d_X11_year_19 : decode cX11_year 19 = .ok (.getfield 26, 3) := by decide +kernel
theorem d_X11_year_22 : decode cX11_year 22 = .ok (.invokevirtual 104, 3) := by decide +kernel
theorem d_X11_year_25 : decode cX11_year 25 = .ok (.aload_n 0, 1) := by decide +kernel
theorem d_X11_year_26 : decode cX11_year 26 = .ok (.getfield 19, 3) := by decide +kernel
theorem d_X11_year_29 : decode cX11_year 29 = .ok (.aload_n 0, 1) := by decide +kernel
theorem d_X11_year_30 : decode cX11_year 30 = .ok (.getfield 26, 3) := by decide +kernel
theorem d_X11_year_33 : decode cX11_year 33 = .ok (.iload_n 1, 1) := by decide +kernel
theorem d_X11_year_34 : decode cX11_year 34 = .ok (.iload_n 2, 1) := by decide +kernel
theorem d_X11_year_35 : decode cX11_year 35 = .ok (.invokestatic 231, 3) := by decide +kernel
theorem d_X11_year_38 : decode cX11_year 38 = .ok (.istore_n 3, 1) := by decide +kernel
theorem d_X11_year_39 : decode cX11_year 39 = .ok (.iload_n 3, 1) := by decide +kernel
theorem d_X11_year_40 : decode cX11_year 40 = .ok (.ifCond .le 14, 3) := by decide +kernel
theorem d_X11_year_43 : decode cX11_year 43 = .ok (.aload_n 0, 1) := by decide +kernel
theorem d_X11_year_44 : decode cX11_year 44 = .ok (.getfield 36, 3) := by decide +kernel
theorem d_X11_year_47 : decode cX11_year 47 = .ok (.aload_n 0, 1) := by decide +kernel
theorem d_X11_year_48 : decode cX11_year 48 = .ok (.getfield 30, 3) := by decide +kernel
theorem d_X11_year_51 : decode cX11_year 51 = .ok (.invokevirtual 187, 3) := by decide +kernel
theorem d_X11_year_54 : decode cX11_year 54 = .ok (.iload_n 3, 1) := by decide +kernel
theorem d_X11_year_55 : decode cX11_year 55 = .ok (.ireturn, 1) := by decide +kernel
def F_X11_year (x0 : Nat) (x1 : Int32) (x2 : Int32) (h : xH) : Option (Int32 × xH) := if x2 < ((1 : Int32)) then some ((-3), h) else if x2 ≤ ((40 : Int32)) then (fR h x0 10 3).bind fun v15 => (fR h x0 10 2).bind fun v19 => (rc h v15 5).bind fun _ => (F_X6_copyFrom v15 v19 h).bind fun z22 => (fR z22.2 x0 10 1).bind fun v26 => (fR z22.2 x0 10 2).bind fun v30 => (F_X0_doByDraws v26 v30 x1 x2 z22.2).bind fun z35 => if z35.1 ≤ 0 then some (z35.1, z35.2) else (fR z35.2 x0 10 4).bind fun v44 => (fR z35.2 x0 10 3).bind fun v48 => (rc z35.2 v44 1).bind fun _ => (F_X2_remember v44 v48 z35.2).bind fun z51 => some (z35.1, z51.2) else some ((-3), h)
theorem R_X11_year {Γ : xG} {l : Launch} {d : Nat} {r : Int32} {h' : xH} (x0 : Nat) (x1 : Int32) (x2 : Int32) (h : xH) (hdp : 4 ≤ d) (hF : F_X11_year x0 x1 x2 h = some (r, h')) : Gm Γ l d 0 0 m_X11_year [.ref x0, .int x1, .int x2] h (fun a u => a = some (.int r) ∧ u = h') := by
  refine Gm.of pn_X11 (Nat.le_of_ble_eq_true rfl) ?_
  show Gd Γ l d m_X11_year 0 [.ref x0, .int x1, .int x2, xhole] [] h 0 0 _
  generalize hQ : (fun (a : Option Value) (u : xH) => a = some (.int r) ∧ u = h') = Q
  have hq : Q (some (.int r)) h' := by rw [← hQ]; exact ⟨rfl, rfl⟩
  clear hQ
  unfold F_X11_year at hF
  refine g_iloadn d_X11_year_0 rfl ?_
  refine g_ic (1) d_X11_year_1 ic_1 ?_
  refine g_icmp_lt 11 d_X11_year_2 rfl (fun c2 => ?_) (fun c2 => ?_)
  · have hF := x_t hF c2
    refine g_bi (-3) d_X11_year_11 bi_m3 ?_
    obtain ⟨rfl, rfl⟩ := x_inj hF
    exact g_iret d_X11_year_13 rfl hq
  · have hF := x_f hF c2
    refine g_iloadn d_X11_year_5 rfl ?_
    refine g_bi (40) d_X11_year_6 bi_40 ?_
    refine g_icmp_le 14 d_X11_year_8 rfl (fun c8 => ?_) (fun c8 => ?_)
    · have hF := x_t hF c8
      refine g_aloadn d_X11_year_14 rfl ?_
      obtain ⟨v15, e15, hF⟩ := Option.bind_eq_some_iff.mp hF
      refine q_fR d_X11_year_15 f_X11_30 e15 ?_
      refine g_aloadn d_X11_year_18 rfl ?_
      obtain ⟨v19, e19, hF⟩ := Option.bind_eq_some_iff.mp hF
      refine q_fR d_X11_year_19 f_X11_26 e19 ?_
      obtain ⟨_, g22, hF⟩ := Option.bind_eq_some_iff.mp hF
      obtain ⟨⟨r22, h22⟩, e22, hF⟩ := Option.bind_eq_some_iff.mp hF
      try dsimp only at hF
      refine q_callV [.ref v19] [] rfl d_X11_year_22 v_X11_104 (by omega) rfl (Nat.le_of_ble_eq_true rfl) (rc_rc g22 (by decide) rfl) (R_X6_copyFrom _ _ _ (by omega) e22) ?_
      refine g_aloadn d_X11_year_25 rfl ?_
      obtain ⟨v26, e26, hF⟩ := Option.bind_eq_some_iff.mp hF
      refine q_fR d_X11_year_26 f_X11_19 e26 ?_
      refine g_aloadn d_X11_year_29 rfl ?_
      obtain ⟨v30, e30, hF⟩ := Option.bind_eq_some_iff.mp hF
      refine q_fR d_X11_year_30 f_X11_26 e30 ?_
      refine g_iloadn d_X11_year_33 rfl ?_
      refine g_iloadn d_X11_year_34 rfl ?_
      obtain ⟨⟨r35, h35⟩, e35, hF⟩ := Option.bind_eq_some_iff.mp hF
      try dsimp only at hF
      refine q_callS [.ref v26, .ref v30, .int x1, .int x2] [] rfl d_X11_year_35 s_X11_231 (by omega) rfl (Nat.le_of_ble_eq_true rfl) (R_X0_doByDraws _ _ _ _ _ (by omega) e35) ?_
      refine q_istoren [.ref x0, .int x1, .int x2, .int (r35)] d_X11_year_38 (by decide) rfl ?_
      refine g_iloadn d_X11_year_39 rfl ?_
      refine g_if_le 54 d_X11_year_40 rfl (fun c40 => ?_) (fun c40 => ?_)
      · have hF := x_t hF c40
        refine g_iloadn d_X11_year_54 rfl ?_
        obtain ⟨rfl, rfl⟩ := x_inj hF
        exact g_iret d_X11_year_55 rfl hq
      · have hF := x_f hF c40
        refine g_aloadn d_X11_year_43 rfl ?_
        obtain ⟨v44, e44, hF⟩ := Option.bind_eq_some_iff.mp hF
        refine q_fR d_X11_year_44 f_X11_36 e44 ?_
        refine g_aloadn d_X11_year_47 rfl ?_
        obtain ⟨v48, e48, hF⟩ := Option.bind_eq_some_iff.mp hF
        refine q_fR d_X11_year_48 f_X11_30 e48 ?_
        obtain ⟨_, g51, hF⟩ := Option.bind_eq_some_iff.mp hF
        obtain ⟨⟨r51, h51⟩, e51, hF⟩ := Option.bind_eq_some_iff.mp hF
        try dsimp only at hF
        refine q_callV [.ref v48] [] rfl d_X11_year_51 v_X11_187 (by omega) rfl (Nat.le_of_ble_eq_true rfl) (rc_rc g51 (by decide) rfl) (R_X2_remember _ _ _ (by omega) e51) ?_
        refine g_iloadn d_X11_year_54 rfl ?_
        obtain ⟨rfl, rfl⟩ := x_inj hF
        exact g_iret d_X11_year_55 rfl hq
    · have hF := x_f hF c8
      refine g_bi (-3) d_X11_year_11 bi_m3 ?_
      obtain ⟨rfl, rfl⟩ := x_inj hF
      exact g_iret d_X11_year_13 rfl hq
theorem d_X11_whyNoAnswers_0 : decode cX11_whyNoAnswers 0 = .ok (.aload_n 0, 1) := by decide +kernel
theorem d_X11_whyNoAnswers_1 : decode cX11_whyNoAnswers 1 = .ok (.iload_n 1, 1) := by decide +kernel
theorem d_X11_whyNoAnswers_2 : decode cX11_whyNoAnswers 2 = .ok (.invokevirtual 210, 3) := by decide +kernel
theorem d_X11_whyNoAnswers_5 : decode cX11_whyNoAnswers 5 = .ok (.astore_n 3, 1) := by decide +kernel
theorem d_X11_whyNoAnswers_6 : decode cX11_whyNoAnswers 6 = .ok (.aload_n 3, 1) := by decide +kernel
theorem d_X11_whyNoAnswers_7 : decode cX11_whyNoAnswers 7 = .ok (.ifnull 14, 3) := by decide +kernel
theorem d_X11_whyNoAnswers_10 : decode cX11_whyNoAnswers 10 = .ok (.aload_n 0, 1) := by decide +kernel
theorem d_X11_whyNoAnswers_11 : decode cX11_whyNoAnswers 11 = .ok (.getfield 19, 3) := by decide +kernel
theorem d_X11_whyNoAnswers_14 : decode cX11_whyNoAnswers 14 = .ok (.iload_n 2, 1) := by decide +kernel
theorem d_X11_whyNoAnswers_15 : decode cX11_whyNoAnswers 15 = .ok (.invokevirtual 117, 3) := by decide +kernel
theorem d_X11_whyNoAnswers_18 : decode cX11_whyNoAnswers 18 = .ok (.ifCond .ne 6, 3) := by decide +kernel
theorem d_X11_whyNoAnswers_21 : decode cX11_whyNoAnswers 21 = .ok (.bipush (-2), 2) := by decide +kernel
theorem d_X11_whyNoAnswers_23 : decode cX11_whyNoAnswers 23 = .ok (.ireturn, 1) := by decide +kernel
theorem d_X11_whyNoAnswers_24 : decode cX11_whyNoAnswers 24 = .ok (.aload_n 3, 1) := by decide +kernel
theorem d_X11_whyNoAnswers_25 : decode cX11_whyNoAnswers 25 = .ok (.getfield 214, 3) := by decide +kernel
theorem d_X11_whyNoAnswers_28 : decode cX11_whyNoAnswers 28 = .ok (.ifCond .ge 6, 3) := by decide +kernel
theorem d_X11_whyNoAnswers_31 : decode cX11_whyNoAnswers 31 = .ok (.bipush (-6), 2) := by decide +kernel
theorem d_X11_whyNoAnswers_33 : decode cX11_whyNoAnswers 33 = .ok (.ireturn, 1) := by decide +kernel
theorem d_X11_whyNoAnswers_34 : decode cX11_whyNoAnswers 34 = .ok (.aload_n 3, 1) := by decide +kernel
theorem d_X11_whyNoAnswers_35 : decode cX11_whyNoAnswers 35 = .ok (.getfield 214, 3) := by decide +kernel
theorem d_X11_whyNoAnswers_38 : decode cX11_whyNoAnswers 38 = .ok (.iconst 1, 1) := by decide +kernel
theorem d_X11_whyNoAnswers_39 : decode cX11_whyNoAnswers 39 = .ok (.if_icmp .lt 12, 3) := by decide +kernel
theorem d_X11_whyNoAnswers_42 : decode cX11_whyNoAnswers 42 = .ok (.aload_n 3, 1) := by decide +kernel
theorem d_X11_whyNoAnswers_43 : decode cX11_whyNoAnswers 43 = .ok (.getfield 214, 3) := by decide +kernel
theorem d_X11_whyNoAnswers_46 : decode cX11_whyNoAnswers 46 = .ok (.bipush 20, 2) := by decide +kernel
theorem d_X11_whyNoAnswers_48 : decode cX11_whyNoAnswers 48 = .ok (.if_icmp .le 6, 3) := by decide +kernel
theorem d_X11_whyNoAnswers_51 : decode cX11_whyNoAnswers 51 = .ok (.bipush (-4), 2) := by decide +kernel
theorem d_X11_whyNoAnswers_53 : decode cX11_whyNoAnswers 53 = .ok (.ireturn, 1) := by decide +kernel
theorem d_X11_whyNoAnswers_54 : decode cX11_whyNoAnswers 54 = .ok (.aload_n 3, 1) := by decide +kernel
theorem d_X11_whyNoAnswers_55 : decode cX11_whyNoAnswers 55 = .ok (.iconst 2, 1) := by decide +kernel
theorem d_X11_whyNoAnswers_56 : decode cX11_whyNoAnswers 56 = .ok (.aload_n 0, 1) := by decide +kernel
theorem d_X11_whyNoAnswers_57 : decode cX11_whyNoAnswers 57 = .ok (.getfield 19, 3) := by decide +kernel
theorem d_X11_whyNoAnswers_60 : decode cX11_whyNoAnswers 60 = .ok (.getfield 351, 3) := by decide +kernel
theorem d_X11_whyNoAnswers_63 : decode cX11_whyNoAnswers 63 = .ok (.imul, 1) := by decide +kernel
theorem d_X11_whyNoAnswers_64 : decode cX11_whyNoAnswers 64 = .ok (.invokevirtual 360, 3) := by decide +kernel
theorem d_X11_whyNoAnswers_67 : decode cX11_whyNoAnswers 67 = .ok (.ifCond .eq 7, 3) := by decide +kernel
theorem d_X11_whyNoAnswers_70 : decode cX11_whyNoAnswers 70 = .ok (.iconst 0, 1) := by decide +kernel
theorem d_X11_whyNoAnswers_71 : decode cX11_whyNoAnswers 71 = .ok (.goto 5, 3) := by decide +kernel
theorem d_X11_whyNoAnswers_74 : decode cX11_whyNoAnswers 74 = .ok (.bipush (-3), 2) := by decide +kernel
theorem d_X11_whyNoAnswers_76 : decode cX11_whyNoAnswers 76 = .ok (.ireturn, 1) := by decide +kernel
def F_X11_whyNoAnswers (x0 : Nat) (x1 : Int32) (x2 : Int32) (h : xH) : Option (Int32 × xH) := (rc h x0 10).bind fun _ => (F_X11_trayAt x0 x1 h).bind fun z2 => (match z2.1 with | none => some ((-2), z2.2) | some q7 => (fR z2.2 x0 10 1).bind fun v11 => (rc z2.2 v11 9).bind fun _ => (F_X10_hasPerson v11 x2 z2.2).bind fun z15 => if ¬ z15.1 = 0 then (fI z15.2 q7 7 1).bind fun v25 => if 0 ≤ v25 then (fI z15.2 q7 7 1).bind fun v35 => if v35 < ((1 : Int32)) then some ((-4), z15.2) else (fI z15.2 q7 7 1).bind fun v43 => if v43 ≤ ((20 : Int32)) then (fR z15.2 x0 10 1).bind fun v57 => (fI z15.2 v57 9 0).bind fun v60 => (rc z15.2 q7 7).bind fun _ => (F_X8_allFrom0Below q7 (((2 : Int32)) * v60) z15.2).bind fun z64 => if z64.1 = 0 then some ((-3), z64.2) else some (0, z64.2) else some ((-4), z15.2) else some ((-6), z15.2) else some ((-2), z15.2))
theorem R_X11_whyNoAnswers {Γ : xG} {l : Launch} {d : Nat} {r : Int32} {h' : xH} (x0 : Nat) (x1 : Int32) (x2 : Int32) (h : xH) (hdp : 1 ≤ d) (hF : F_X11_whyNoAnswers x0 x1 x2 h = some (r, h')) : Gm Γ l d 0 0 m_X11_whyNoAnswers [.ref x0, .int x1, .int x2] h (fun a u => a = some (.int r) ∧ u = h') := by
  refine Gm.of pn_X11 (Nat.le_of_ble_eq_true rfl) ?_
  show Gd Γ l d m_X11_whyNoAnswers 0 [.ref x0, .int x1, .int x2, xhole] [] h 0 0 _
  generalize hQ : (fun (a : Option Value) (u : xH) => a = some (.int r) ∧ u = h') = Q
  have hq : Q (some (.int r)) h' := by rw [← hQ]; exact ⟨rfl, rfl⟩
  clear hQ
  unfold F_X11_whyNoAnswers at hF
  refine g_aloadn d_X11_whyNoAnswers_0 rfl ?_
  refine g_iloadn d_X11_whyNoAnswers_1 rfl ?_
  obtain ⟨_, g2, hF⟩ := Option.bind_eq_some_iff.mp hF
  obtain ⟨⟨r2, h2⟩, e2, hF⟩ := Option.bind_eq_some_iff.mp hF
  try dsimp only at hF
  refine q_callV [.int x1] [] rfl d_X11_whyNoAnswers_2 v_X11_210 (by omega) rfl (Nat.le_of_ble_eq_true rfl) (rc_rc g2 (by decide) rfl) (R_X11_trayAt _ _ _ (by omega) e2) ?_
  refine q_astorenQ [.ref x0, .int x1, .int x2, va_rf (r2)] d_X11_whyNoAnswers_5 (by decide) rfl ?_
  refine q_aloadnQ d_X11_whyNoAnswers_6 rfl ?_
  cases r2 with
  | none =>
    try dsimp only at hF
    refine g_ifnullN 21 d_X11_whyNoAnswers_7 rfl ?_
    refine g_bi (-2) d_X11_whyNoAnswers_21 bi_m2 ?_
    obtain ⟨rfl, rfl⟩ := x_inj hF
    exact g_iret d_X11_whyNoAnswers_23 rfl hq
  | some q7 =>
    try dsimp only at hF
    refine g_ifnull d_X11_whyNoAnswers_7 ?_
    refine g_aloadn d_X11_whyNoAnswers_10 rfl ?_
    obtain ⟨v11, e11, hF⟩ := Option.bind_eq_some_iff.mp hF
    refine q_fR d_X11_whyNoAnswers_11 f_X11_19 e11 ?_
    refine g_iloadn d_X11_whyNoAnswers_14 rfl ?_
    obtain ⟨_, g15, hF⟩ := Option.bind_eq_some_iff.mp hF
    obtain ⟨⟨r15, h15⟩, e15, hF⟩ := Option.bind_eq_some_iff.mp hF
    try dsimp only at hF
    refine q_callV [.int x2] [] rfl d_X11_whyNoAnswers_15 v_X11_117 (by omega) rfl (Nat.le_of_ble_eq_true rfl) (rc_rc g15 (by decide) rfl) (R_X10_hasPerson _ _ _ (by omega) e15) ?_
    refine g_if_ne 24 d_X11_whyNoAnswers_18 rfl (fun c18 => ?_) (fun c18 => ?_)
    · have hF := x_t hF c18
      refine g_aloadn d_X11_whyNoAnswers_24 rfl ?_
      obtain ⟨v25, e25, hF⟩ := Option.bind_eq_some_iff.mp hF
      refine q_fI d_X11_whyNoAnswers_25 f_X11_214 e25 ?_
      refine g_if_ge 34 d_X11_whyNoAnswers_28 rfl (fun c28 => ?_) (fun c28 => ?_)
      · have hF := x_t hF c28
        refine g_aloadn d_X11_whyNoAnswers_34 rfl ?_
        obtain ⟨v35, e35, hF⟩ := Option.bind_eq_some_iff.mp hF
        refine q_fI d_X11_whyNoAnswers_35 f_X11_214 e35 ?_
        refine g_ic (1) d_X11_whyNoAnswers_38 ic_1 ?_
        refine g_icmp_lt 51 d_X11_whyNoAnswers_39 rfl (fun c39 => ?_) (fun c39 => ?_)
        · have hF := x_t hF c39
          refine g_bi (-4) d_X11_whyNoAnswers_51 bi_m4 ?_
          obtain ⟨rfl, rfl⟩ := x_inj hF
          exact g_iret d_X11_whyNoAnswers_53 rfl hq
        · have hF := x_f hF c39
          refine g_aloadn d_X11_whyNoAnswers_42 rfl ?_
          obtain ⟨v43, e43, hF⟩ := Option.bind_eq_some_iff.mp hF
          refine q_fI d_X11_whyNoAnswers_43 f_X11_214 e43 ?_
          refine g_bi (20) d_X11_whyNoAnswers_46 bi_20 ?_
          refine g_icmp_le 54 d_X11_whyNoAnswers_48 rfl (fun c48 => ?_) (fun c48 => ?_)
          · have hF := x_t hF c48
            refine g_aloadn d_X11_whyNoAnswers_54 rfl ?_
            refine g_ic (2) d_X11_whyNoAnswers_55 ic_2 ?_
            refine g_aloadn d_X11_whyNoAnswers_56 rfl ?_
            obtain ⟨v57, e57, hF⟩ := Option.bind_eq_some_iff.mp hF
            refine q_fR d_X11_whyNoAnswers_57 f_X11_19 e57 ?_
            obtain ⟨v60, e60, hF⟩ := Option.bind_eq_some_iff.mp hF
            refine q_fI d_X11_whyNoAnswers_60 f_X11_351 e60 ?_
            refine g_imul d_X11_whyNoAnswers_63 ?_
            obtain ⟨_, g64, hF⟩ := Option.bind_eq_some_iff.mp hF
            obtain ⟨⟨r64, h64⟩, e64, hF⟩ := Option.bind_eq_some_iff.mp hF
            try dsimp only at hF
            refine q_callV [.int (((2 : Int32)) * v60)] [] rfl d_X11_whyNoAnswers_64 v_X11_360 (by omega) rfl (Nat.le_of_ble_eq_true rfl) (rc_rc g64 (by decide) rfl) (R_X8_allFrom0Below _ _ _ (by omega) e64) ?_
            refine g_if_eq 74 d_X11_whyNoAnswers_67 rfl (fun c67 => ?_) (fun c67 => ?_)
            · have hF := x_t hF c67
              refine g_bi (-3) d_X11_whyNoAnswers_74 bi_m3 ?_
              obtain ⟨rfl, rfl⟩ := x_inj hF
              exact g_iret d_X11_whyNoAnswers_76 rfl hq
            · have hF := x_f hF c67
              refine g_ic (0) d_X11_whyNoAnswers_70 ic_0 ?_
              refine g_goto 76 d_X11_whyNoAnswers_71 rfl ?_
              obtain ⟨rfl, rfl⟩ := x_inj hF
              exact g_iret d_X11_whyNoAnswers_76 rfl hq
          · have hF := x_f hF c48
            refine g_bi (-4) d_X11_whyNoAnswers_51 bi_m4 ?_
            obtain ⟨rfl, rfl⟩ := x_inj hF
            exact g_iret d_X11_whyNoAnswers_53 rfl hq
      · have hF := x_f hF c28
        refine g_bi (-6) d_X11_whyNoAnswers_31 bi_m6 ?_
        obtain ⟨rfl, rfl⟩ := x_inj hF
        exact g_iret d_X11_whyNoAnswers_33 rfl hq
    · have hF := x_f hF (not_not_intro c18)
      refine g_bi (-2) d_X11_whyNoAnswers_21 bi_m2 ?_
      obtain ⟨rfl, rfl⟩ := x_inj hF
      exact g_iret d_X11_whyNoAnswers_23 rfl hq
theorem d_X11_blanks_0 : decode cX11_blanks 0 = .ok (.aload_n 0, 1) := by decide +kernel
theorem d_X11_blanks_1 : decode cX11_blanks 1 = .ok (.iload_n 1, 1) := by decide +kernel
theorem d_X11_blanks_2 : decode cX11_blanks 2 = .ok (.iload_n 2, 1) := by decide +kernel
theorem d_X11_blanks_3 : decode cX11_blanks 3 = .ok (.invokevirtual 234, 3) := by decide +kernel
theorem d_X11_blanks_6 : decode cX11_blanks 6 = .ok (.istore_n 3, 1) := by decide +kernel
theorem d_X11_blanks_7 : decode cX11_blanks 7 = .ok (.iload_n 3, 1) := by decide +kernel
theorem d_X11_blanks_8 : decode cX11_blanks 8 = .ok (.ifCond .eq 5, 3) := by decide +kernel
theorem d_X11_blanks_11 : decode cX11_blanks 11 = .ok (.iload_n 3, 1) := by decide +kernel
theorem d_X11_blanks_12 : decode cX11_blanks 12 = .ok (.ireturn, 1) := by decide +kernel
theorem d_X11_blanks_13 : decode cX11_blanks 13 = .ok (.aload_n 0, 1) := by decide +kernel
theorem d_X11_blanks_14 : decode cX11_blanks 14 = .ok (.getfield 57, 3) := by decide +kernel
theorem d_X11_blanks_17 : decode cX11_blanks 17 = .ok (.aload_n 0, 1) := by decide +kernel
theorem d_X11_blanks_18 : decode cX11_blanks 18 = .ok (.getfield 19, 3) := by decide +kernel
theorem d_X11_blanks_21 : decode cX11_blanks 21 = .ok (.aload_n 0, 1) := by decide +kernel
theorem d_X11_blanks_22 : decode cX11_blanks 22 = .ok (.getfield 26, 3) := by decide +kernel
theorem d_X11_blanks_25 : decode cX11_blanks 25 = .ok (.iload_n 2, 1) := by decide +kernel
theorem d_X11_blanks_26 : decode cX11_blanks 26 = .ok (.invokevirtual 237, 3) := by decide +kernel
theorem d_X11_blanks_29 : decode cX11_blanks 29 = .ok (.aload_n 0, 1) := by decide +kernel
theorem d_X11_blanks_30 : decode cX11_blanks 30 = .ok (.getfield 57, 3) := by decide +kernel
theorem d_X11_blanks_33 : decode cX11_blanks 33 = .ok (.aload_n 0, 1) := by decide +kernel
theorem d_X11_blanks_34 : decode cX11_blanks 34 = .ok (.getfield 42, 3) := by decide +kernel
theorem d_X11_blanks_37 : decode cX11_blanks 37 = .ok (.iload_n 1, 1) := by decide +kernel
theorem d_X11_blanks_38 : decode cX11_blanks 38 = .ok (.aaload, 1) := by decide +kernel
theorem d_X11_blanks_39 : decode cX11_blanks 39 = .ok (.invokevirtual 241, 3) := by decide +kernel
theorem d_X11_blanks_42 : decode cX11_blanks 42 = .ok (.ireturn, 1) := by decide +kernel
def F_X11_blanks (x0 : Nat) (x1 : Int32) (x2 : Int32) (h : xH) : Option (Int32 × xH) := (rc h x0 10).bind fun _ => (F_X11_whyNoAnswers x0 x1 x2 h).bind fun z3 => if z3.1 = 0 then (fR z3.2 x0 10 8).bind fun v14 => (fR z3.2 x0 10 1).bind fun v18 => (fR z3.2 x0 10 2).bind fun v22 => (rc z3.2 v14 8).bind fun _ => (F_X9_gather v14 v18 v22 x2 z3.2).bind fun z26 => (fR z26.2 x0 10 8).bind fun v30 => (fR z26.2 x0 10 5).bind fun v34 => (aR z26.2 v34 x1).bind fun v38 => (rc z26.2 v30 8).bind fun _ => (F_X9_blanksBy v30 v38 z26.2).bind fun z39 => some (z39.1, z39.2) else some (z3.1, z3.2)
theorem R_X11_blanks {Γ : xG} {l : Launch} {d : Nat} {r : Int32} {h' : xH} (x0 : Nat) (x1 : Int32) (x2 : Int32) (h : xH) (hdp : 6 ≤ d) (hF : F_X11_blanks x0 x1 x2 h = some (r, h')) : Gm Γ l d 0 0 m_X11_blanks [.ref x0, .int x1, .int x2] h (fun a u => a = some (.int r) ∧ u = h') := by
  refine Gm.of pn_X11 (Nat.le_of_ble_eq_true rfl) ?_
  show Gd Γ l d m_X11_blanks 0 [.ref x0, .int x1, .int x2, xhole] [] h 0 0 _
  generalize hQ : (fun (a : Option Value) (u : xH) => a = some (.int r) ∧ u = h') = Q
  have hq : Q (some (.int r)) h' := by rw [← hQ]; exact ⟨rfl, rfl⟩
  clear hQ
  unfold F_X11_blanks at hF
  refine g_aloadn d_X11_blanks_0 rfl ?_
  refine g_iloadn d_X11_blanks_1 rfl ?_
  refine g_iloadn d_X11_blanks_2 rfl ?_
  obtain ⟨_, g3, hF⟩ := Option.bind_eq_some_iff.mp hF
  obtain ⟨⟨r3, h3⟩, e3, hF⟩ := Option.bind_eq_some_iff.mp hF
  try dsimp only at hF
  refine q_callV [.int x1, .int x2] [] rfl d_X11_blanks_3 v_X11_234 (by omega) rfl (Nat.le_of_ble_eq_true rfl) (rc_rc g3 (by decide) rfl) (R_X11_whyNoAnswers _ _ _ _ (by omega) e3) ?_
  refine q_istoren [.ref x0, .int x1, .int x2, .int (r3)] d_X11_blanks_6 (by decide) rfl ?_
  refine g_iloadn d_X11_blanks_7 rfl ?_
  refine g_if_eq 13 d_X11_blanks_8 rfl (fun c8 => ?_) (fun c8 => ?_)
  · have hF := x_t hF c8
    refine g_aloadn d_X11_blanks_13 rfl ?_
    obtain ⟨v14, e14, hF⟩ := Option.bind_eq_some_iff.mp hF
    refine q_fR d_X11_blanks_14 f_X11_57 e14 ?_
    refine g_aloadn d_X11_blanks_17 rfl ?_
    obtain ⟨v18, e18, hF⟩ := Option.bind_eq_some_iff.mp hF
    refine q_fR d_X11_blanks_18 f_X11_19 e18 ?_
    refine g_aloadn d_X11_blanks_21 rfl ?_
    obtain ⟨v22, e22, hF⟩ := Option.bind_eq_some_iff.mp hF
    refine q_fR d_X11_blanks_22 f_X11_26 e22 ?_
    refine g_iloadn d_X11_blanks_25 rfl ?_
    obtain ⟨_, g26, hF⟩ := Option.bind_eq_some_iff.mp hF
    obtain ⟨⟨r26, h26⟩, e26, hF⟩ := Option.bind_eq_some_iff.mp hF
    try dsimp only at hF
    refine q_callV [.ref v18, .ref v22, .int x2] [] rfl d_X11_blanks_26 v_X11_237 (by omega) rfl (Nat.le_of_ble_eq_true rfl) (rc_rc g26 (by decide) rfl) (R_X9_gather _ _ _ _ _ (by omega) e26) ?_
    refine g_aloadn d_X11_blanks_29 rfl ?_
    obtain ⟨v30, e30, hF⟩ := Option.bind_eq_some_iff.mp hF
    refine q_fR d_X11_blanks_30 f_X11_57 e30 ?_
    refine g_aloadn d_X11_blanks_33 rfl ?_
    obtain ⟨v34, e34, hF⟩ := Option.bind_eq_some_iff.mp hF
    refine q_fR d_X11_blanks_34 f_X11_42 e34 ?_
    refine g_iloadn d_X11_blanks_37 rfl ?_
    obtain ⟨v38, e38, hF⟩ := Option.bind_eq_some_iff.mp hF
    refine q_aR d_X11_blanks_38 e38 ?_
    obtain ⟨_, g39, hF⟩ := Option.bind_eq_some_iff.mp hF
    obtain ⟨⟨r39, h39⟩, e39, hF⟩ := Option.bind_eq_some_iff.mp hF
    try dsimp only at hF
    refine q_callV [.ref v38] [] rfl d_X11_blanks_39 v_X11_241 (by omega) rfl (Nat.le_of_ble_eq_true rfl) (rc_rc g39 (by decide) rfl) (R_X9_blanksBy _ _ _ (by omega) e39) ?_
    obtain ⟨rfl, rfl⟩ := x_inj hF
    exact g_iret d_X11_blanks_42 rfl hq
  · have hF := x_f hF c8
    refine g_iloadn d_X11_blanks_11 rfl ?_
    obtain ⟨rfl, rfl⟩ := x_inj hF
    exact g_iret d_X11_blanks_12 rfl hq
theorem d_X11_attempt_0 : decode cX11_attempt 0 = .ok (.aload_n 0, 1) := by decide +kernel
theorem d_X11_attempt_1 : decode cX11_attempt 1 = .ok (.iload_n 1, 1) := by decide +kernel
theorem d_X11_attempt_2 : decode cX11_attempt 2 = .ok (.iload_n 2, 1) := by decide +kernel
theorem d_X11_attempt_3 : decode cX11_attempt 3 = .ok (.invokevirtual 234, 3) := by decide +kernel
theorem d_X11_attempt_6 : decode cX11_attempt 6 = .ok (.istore_n 3, 1) := by decide +kernel
theorem d_X11_attempt_7 : decode cX11_attempt 7 = .ok (.iload_n 3, 1) := by decide +kernel
theorem d_X11_attempt_8 : decode cX11_attempt 8 = .ok (.ifCond .eq 5, 3) := by decide +kernel
theorem d_X11_attempt_11 : decode cX11_attempt 11 = .ok (.iload_n 3, 1) := by decide +kernel
theorem d_X11_attempt_12 : decode cX11_attempt 12 = .ok (.ireturn, 1) := by decide +kernel
theorem d_X11_attempt_13 : decode cX11_attempt 13 = .ok (.aload_n 0, 1) := by decide +kernel
theorem d_X11_attempt_14 : decode cX11_attempt 14 = .ok (.getfield 57, 3) := by decide +kernel
theorem d_X11_attempt_17 : decode cX11_attempt 17 = .ok (.aload_n 0, 1) := by decide +kernel
theorem d_X11_attempt_18 : decode cX11_attempt 18 = .ok (.getfield 19, 3) := by decide +kernel
theorem d_X11_attempt_21 : decode cX11_attempt 21 = .ok (.aload_n 0, 1) := by decide +kernel
theorem d_X11_attempt_22 : decode cX11_attempt 22 = .ok (.getfield 26, 3) := by decide +kernel
theorem d_X11_attempt_25 : decode cX11_attempt 25 = .ok (.iload_n 2, 1) := by decide +kernel
theorem d_X11_attempt_26 : decode cX11_attempt 26 = .ok (.invokevirtual 237, 3) := by decide +kernel
theorem d_X11_attempt_29 : decode cX11_attempt 29 = .ok (.aload_n 0, 1) := by decide +kernel
theorem d_X11_attempt_30 : decode cX11_attempt 30 = .ok (.getfield 57, 3) := by decide +kernel
theorem d_X11_attempt_33 : decode cX11_attempt 33 = .ok (.aload_n 0, 1) := by decide +kernel
theorem d_X11_attempt_34 : decode cX11_attempt 34 = .ok (.getfield 57, 3) := by decide +kernel
theorem d_X11_attempt_37 : decode cX11_attempt 37 = .ok (.aload_n 0, 1) := by decide +kernel
theorem d_X11_attempt_38 : decode cX11_attempt 38 = .ok (.getfield 42, 3) := by decide +kernel
theorem d_X11_attempt_41 : decode cX11_attempt 41 = .ok (.iload_n 1, 1) := by decide +kernel
theorem d_X11_attempt_42 : decode cX11_attempt 42 = .ok (.aaload, 1) := by decide +kernel
theorem d_X11_attempt_43 : decode cX11_attempt 43 = .ok (.invokevirtual 241, 3) := by decide +kernel
theorem d_X11_attempt_46 : decode cX11_attempt 46 = .ok (.invokevirtual 245, 3) := by decide +kernel
theorem d_X11_attempt_49 : decode cX11_attempt 49 = .ok (.ireturn, 1) := by decide +kernel
def F_X11_attempt (x0 : Nat) (x1 : Int32) (x2 : Int32) (h : xH) : Option (Int32 × xH) := (rc h x0 10).bind fun _ => (F_X11_whyNoAnswers x0 x1 x2 h).bind fun z3 => if z3.1 = 0 then (fR z3.2 x0 10 8).bind fun v14 => (fR z3.2 x0 10 1).bind fun v18 => (fR z3.2 x0 10 2).bind fun v22 => (rc z3.2 v14 8).bind fun _ => (F_X9_gather v14 v18 v22 x2 z3.2).bind fun z26 => (fR z26.2 x0 10 8).bind fun v30 => (fR z26.2 x0 10 8).bind fun v34 => (fR z26.2 x0 10 5).bind fun v38 => (aR z26.2 v38 x1).bind fun v42 => (rc z26.2 v34 8).bind fun _ => (F_X9_blanksBy v34 v42 z26.2).bind fun z43 => (rc z43.2 v30 8).bind fun _ => (F_X9_nextNote v30 z43.1 z43.2).bind fun z46 => some (z46.1, z46.2) else some (z3.1, z3.2)
theorem R_X11_attempt {Γ : xG} {l : Launch} {d : Nat} {r : Int32} {h' : xH} (x0 : Nat) (x1 : Int32) (x2 : Int32) (h : xH) (hdp : 6 ≤ d) (hF : F_X11_attempt x0 x1 x2 h = some (r, h')) : Gm Γ l d 0 0 m_X11_attempt [.ref x0, .int x1, .int x2] h (fun a u => a = some (.int r) ∧ u = h') := by
  refine Gm.of pn_X11 (Nat.le_of_ble_eq_true rfl) ?_
  show Gd Γ l d m_X11_attempt 0 [.ref x0, .int x1, .int x2, xhole] [] h 0 0 _
  generalize hQ : (fun (a : Option Value) (u : xH) => a = some (.int r) ∧ u = h') = Q
  have hq : Q (some (.int r)) h' := by rw [← hQ]; exact ⟨rfl, rfl⟩
  clear hQ
  unfold F_X11_attempt at hF
  refine g_aloadn d_X11_attempt_0 rfl ?_
  refine g_iloadn d_X11_attempt_1 rfl ?_
  refine g_iloadn d_X11_attempt_2 rfl ?_
  obtain ⟨_, g3, hF⟩ := Option.bind_eq_some_iff.mp hF
  obtain ⟨⟨r3, h3⟩, e3, hF⟩ := Option.bind_eq_some_iff.mp hF
  try dsimp only at hF
  refine q_callV [.int x1, .int x2] [] rfl d_X11_attempt_3 v_X11_234 (by omega) rfl (Nat.le_of_ble_eq_true rfl) (rc_rc g3 (by decide) rfl) (R_X11_whyNoAnswers _ _ _ _ (by omega) e3) ?_
  refine q_istoren [.ref x0, .int x1, .int x2, .int (r3)] d_X11_attempt_6 (by decide) rfl ?_
  refine g_iloadn d_X11_attempt_7 rfl ?_
  refine g_if_eq 13 d_X11_attempt_8 rfl (fun c8 => ?_) (fun c8 => ?_)
  · have hF := x_t hF c8
    refine g_aloadn d_X11_attempt_13 rfl ?_
    obtain ⟨v14, e14, hF⟩ := Option.bind_eq_some_iff.mp hF
    refine q_fR d_X11_attempt_14 f_X11_57 e14 ?_
    refine g_aloadn d_X11_attempt_17 rfl ?_
    obtain ⟨v18, e18, hF⟩ := Option.bind_eq_some_iff.mp hF
    refine q_fR d_X11_attempt_18 f_X11_19 e18 ?_
    refine g_aloadn d_X11_attempt_21 rfl ?_
    obtain ⟨v22, e22, hF⟩ := Option.bind_eq_some_iff.mp hF
    refine q_fR d_X11_attempt_22 f_X11_26 e22 ?_
    refine g_iloadn d_X11_attempt_25 rfl ?_
    obtain ⟨_, g26, hF⟩ := Option.bind_eq_some_iff.mp hF
    obtain ⟨⟨r26, h26⟩, e26, hF⟩ := Option.bind_eq_some_iff.mp hF
    try dsimp only at hF
    refine q_callV [.ref v18, .ref v22, .int x2] [] rfl d_X11_attempt_26 v_X11_237 (by omega) rfl (Nat.le_of_ble_eq_true rfl) (rc_rc g26 (by decide) rfl) (R_X9_gather _ _ _ _ _ (by omega) e26) ?_
    refine g_aloadn d_X11_attempt_29 rfl ?_
    obtain ⟨v30, e30, hF⟩ := Option.bind_eq_some_iff.mp hF
    refine q_fR d_X11_attempt_30 f_X11_57 e30 ?_
    refine g_aloadn d_X11_attempt_33 rfl ?_
    obtain ⟨v34, e34, hF⟩ := Option.bind_eq_some_iff.mp hF
    refine q_fR d_X11_attempt_34 f_X11_57 e34 ?_
    refine g_aloadn d_X11_attempt_37 rfl ?_
    obtain ⟨v38, e38, hF⟩ := Option.bind_eq_some_iff.mp hF
    refine q_fR d_X11_attempt_38 f_X11_42 e38 ?_
    refine g_iloadn d_X11_attempt_41 rfl ?_
    obtain ⟨v42, e42, hF⟩ := Option.bind_eq_some_iff.mp hF
    refine q_aR d_X11_attempt_42 e42 ?_
    obtain ⟨_, g43, hF⟩ := Option.bind_eq_some_iff.mp hF
    obtain ⟨⟨r43, h43⟩, e43, hF⟩ := Option.bind_eq_some_iff.mp hF
    try dsimp only at hF
    refine q_callV [.ref v42] [.ref v30] rfl d_X11_attempt_43 v_X11_241 (by omega) rfl (Nat.le_of_ble_eq_true rfl) (rc_rc g43 (by decide) rfl) (R_X9_blanksBy _ _ _ (by omega) e43) ?_
    obtain ⟨_, g46, hF⟩ := Option.bind_eq_some_iff.mp hF
    obtain ⟨⟨r46, h46⟩, e46, hF⟩ := Option.bind_eq_some_iff.mp hF
    try dsimp only at hF
    refine q_callV [.int (r43)] [] rfl d_X11_attempt_46 v_X11_245 (by omega) rfl (Nat.le_of_ble_eq_true rfl) (rc_rc g46 (by decide) rfl) (R_X9_nextNote _ _ _ (by omega) e46) ?_
    obtain ⟨rfl, rfl⟩ := x_inj hF
    exact g_iret d_X11_attempt_49 rfl hq
  · have hF := x_f hF c8
    refine g_iloadn d_X11_attempt_11 rfl ?_
    obtain ⟨rfl, rfl⟩ := x_inj hF
    exact g_iret d_X11_attempt_12 rfl hq
theorem d_X11_knowing_0 : decode cX11_knowing 0 = .ok (.aload_n 0, 1) := by decide +kernel
theorem d_X11_knowing_1 : decode cX11_knowing 1 = .ok (.getfield 19, 3) := by decide +kernel
theorem d_X11_knowing_4 : decode cX11_knowing 4 = .ok (.iload_n 1, 1) := by decide +kernel
theorem d_X11_knowing_5 : decode cX11_knowing 5 = .ok (.invokevirtual 117, 3) := by decide +kernel
theorem d_X11_knowing_8 : decode cX11_knowing 8 = .ok (.ifCond .ne 6, 3) := by decide +kernel
theorem d_X11_knowing_11 : decode cX11_knowing 11 = .ok (.bipush (-2), 2) := by decide +kernel
theorem d_X11_knowing_13 : decode cX11_knowing 13 = .ok (.ireturn, 1) := by decide +kernel
theorem d_X11_knowing_14 : decode cX11_knowing 14 = .ok (.aload_n 0, 1) := by decide +kernel
theorem d_X11_knowing_15 : decode cX11_knowing 15 = .ok (.getfield 57, 3) := by decide +kernel
theorem d_X11_knowing_18 : decode cX11_knowing 18 = .ok (.aload_n 0, 1) := by decide +kernel
theorem d_X11_knowing_19 : decode cX11_knowing 19 = .ok (.getfield 19, 3) := by decide +kernel
theorem d_X11_knowing_22 : decode cX11_knowing 22 = .ok (.aload_n 0, 1) := by decide +kernel
theorem d_X11_knowing_23 : decode cX11_knowing 23 = .ok (.getfield 26, 3) := by decide +kernel
theorem d_X11_knowing_26 : decode cX11_knowing 26 = .ok (.iload_n 1, 1) := by decide +kernel
theorem d_X11_knowing_27 : decode cX11_knowing 27 = .ok (.invokevirtual 237, 3) := by decide +kernel
theorem d_X11_knowing_30 : decode cX11_knowing 30 = .ok (.aload_n 0, 1) := by decide +kernel
theorem d_X11_knowing_31 : decode cX11_knowing 31 = .ok (.getfield 57, 3) := by decide +kernel
theorem d_X11_knowing_34 : decode cX11_knowing 34 = .ok (.invokevirtual 248, 3) := by decide +kernel
theorem d_X11_knowing_37 : decode cX11_knowing 37 = .ok (.ireturn, 1) := by decide +kernel
def F_X11_knowing (x0 : Nat) (x1 : Int32) (h : xH) : Option (Int32 × xH) := (fR h x0 10 1).bind fun v1 => (rc h v1 9).bind fun _ => (F_X10_hasPerson v1 x1 h).bind fun z5 => if ¬ z5.1 = 0 then (fR z5.2 x0 10 8).bind fun v15 => (fR z5.2 x0 10 1).bind fun v19 => (fR z5.2 x0 10 2).bind fun v23 => (rc z5.2 v15 8).bind fun _ => (F_X9_gather v15 v19 v23 x1 z5.2).bind fun z27 => (fR z27.2 x0 10 8).bind fun v31 => (rc z27.2 v31 8).bind fun _ => (F_X9_fewestAtWorst v31 z27.2).bind fun z34 => some (z34.1, z34.2) else some ((-2), z5.2)
theorem R_X11_knowing {Γ : xG} {l : Launch} {d : Nat} {r : Int32} {h' : xH} (x0 : Nat) (x1 : Int32) (h : xH) (hdp : 6 ≤ d) (hF : F_X11_knowing x0 x1 h = some (r, h')) : Gm Γ l d 0 0 m_X11_knowing [.ref x0, .int x1] h (fun a u => a = some (.int r) ∧ u = h') := by
  refine Gm.of pn_X11 (Nat.le_of_ble_eq_true rfl) ?_
  show Gd Γ l d m_X11_knowing 0 [.ref x0, .int x1] [] h 0 0 _
  generalize hQ : (fun (a : Option Value) (u : xH) => a = some (.int r) ∧ u = h') = Q
  have hq : Q (some (.int r)) h' := by rw [← hQ]; exact ⟨rfl, rfl⟩
  clear hQ
  unfold F_X11_knowing at hF
  refine g_aloadn d_X11_knowing_0 rfl ?_
  obtain ⟨v1, e1, hF⟩ := Option.bind_eq_some_iff.mp hF
  refine q_fR d_X11_knowing_1 f_X11_19 e1 ?_
  refine g_iloadn d_X11_knowing_4 rfl ?_
  obtain ⟨_, g5, hF⟩ := Option.bind_eq_some_iff.mp hF
  obtain ⟨⟨r5, h5⟩, e5, hF⟩ := Option.bind_eq_some_iff.mp hF
  try dsimp only at hF
  refine q_callV [.int x1] [] rfl d_X11_knowing_5 v_X11_117 (by omega) rfl (Nat.le_of_ble_eq_true rfl) (rc_rc g5 (by decide) rfl) (R_X10_hasPerson _ _ _ (by omega) e5) ?_
  refine g_if_ne 14 d_X11_knowing_8 rfl (fun c8 => ?_) (fun c8 => ?_)
  · have hF := x_t hF c8
    refine g_aloadn d_X11_knowing_14 rfl ?_
    obtain ⟨v15, e15, hF⟩ := Option.bind_eq_some_iff.mp hF
    refine q_fR d_X11_knowing_15 f_X11_57 e15 ?_
    refine g_aloadn d_X11_knowing_18 rfl ?_
    obtain ⟨v19, e19, hF⟩ := Option.bind_eq_some_iff.mp hF
    refine q_fR d_X11_knowing_19 f_X11_19 e19 ?_
    refine g_aloadn d_X11_knowing_22 rfl ?_
    obtain ⟨v23, e23, hF⟩ := Option.bind_eq_some_iff.mp hF
    refine q_fR d_X11_knowing_23 f_X11_26 e23 ?_
    refine g_iloadn d_X11_knowing_26 rfl ?_
    obtain ⟨_, g27, hF⟩ := Option.bind_eq_some_iff.mp hF
    obtain ⟨⟨r27, h27⟩, e27, hF⟩ := Option.bind_eq_some_iff.mp hF
    try dsimp only at hF
    refine q_callV [.ref v19, .ref v23, .int x1] [] rfl d_X11_knowing_27 v_X11_237 (by omega) rfl (Nat.le_of_ble_eq_true rfl) (rc_rc g27 (by decide) rfl) (R_X9_gather _ _ _ _ _ (by omega) e27) ?_
    refine g_aloadn d_X11_knowing_30 rfl ?_
    obtain ⟨v31, e31, hF⟩ := Option.bind_eq_some_iff.mp hF
    refine q_fR d_X11_knowing_31 f_X11_57 e31 ?_
    obtain ⟨_, g34, hF⟩ := Option.bind_eq_some_iff.mp hF
    obtain ⟨⟨r34, h34⟩, e34, hF⟩ := Option.bind_eq_some_iff.mp hF
    try dsimp only at hF
    refine q_callV [] [] rfl d_X11_knowing_34 v_X11_248 (by omega) rfl (Nat.le_of_ble_eq_true rfl) (rc_rc g34 (by decide) rfl) (R_X9_fewestAtWorst _ _ (by omega) e34) ?_
    obtain ⟨rfl, rfl⟩ := x_inj hF
    exact g_iret d_X11_knowing_37 rfl hq
  · have hF := x_f hF (not_not_intro c8)
    refine g_bi (-2) d_X11_knowing_11 bi_m2 ?_
    obtain ⟨rfl, rfl⟩ := x_inj hF
    exact g_iret d_X11_knowing_13 rfl hq
theorem d_X11_begins_0 : decode cX11_begins 0 = .ok (.aload_n 0, 1) := by decide +kernel
theorem d_X11_begins_1 : decode cX11_begins 1 = .ok (.getfield 19, 3) := by decide +kernel
theorem d_X11_begins_4 : decode cX11_begins 4 = .ok (.iload_n 1, 1) := by decide +kernel
theorem d_X11_begins_5 : decode cX11_begins 5 = .ok (.invokevirtual 117, 3) := by decide +kernel
theorem d_X11_begins_8 : decode cX11_begins 8 = .ok (.ifCond .ne 6, 3) := by decide +kernel
theorem d_X11_begins_11 : decode cX11_begins 11 = .ok (.bipush (-2), 2) := by decide +kernel
theorem d_X11_begins_13 : decode cX11_begins 13 = .ok (.ireturn, 1) := by decide +kernel
theorem d_X11_begins_14 : decode cX11_begins 14 = .ok (.aload_n 0, 1) := by decide +kernel
theorem d_X11_begins_15 : decode cX11_begins 15 = .ok (.getfield 57, 3) := by decide +kernel
theorem d_X11_begins_18 : decode cX11_begins 18 = .ok (.aload_n 0, 1) := by decide +kernel
theorem d_X11_begins_19 : decode cX11_begins 19 = .ok (.getfield 19, 3) := by decide +kernel
theorem d_X11_begins_22 : decode cX11_begins 22 = .ok (.aload_n 0, 1) := by decide +kernel
theorem d_X11_begins_23 : decode cX11_begins 23 = .ok (.getfield 26, 3) := by decide +kernel
theorem d_X11_begins_26 : decode cX11_begins 26 = .ok (.iload_n 1, 1) := by decide +kernel
theorem d_X11_begins_27 : decode cX11_begins 27 = .ok (.invokevirtual 237, 3) := by decide +kernel
theorem d_X11_begins_30 : decode cX11_begins 30 = .ok (.aload_n 0, 1) := by decide +kernel
theorem d_X11_begins_31 : decode cX11_begins 31 = .ok (.getfield 57, 3) := by decide +kernel
theorem d_X11_begins_34 : decode cX11_begins 34 = .ok (.invokevirtual 252, 3) := by decide +kernel
theorem d_X11_begins_37 : decode cX11_begins 37 = .ok (.ireturn, 1) := by decide +kernel
def F_X11_begins (x0 : Nat) (x1 : Int32) (h : xH) : Option (Int32 × xH) := (fR h x0 10 1).bind fun v1 => (rc h v1 9).bind fun _ => (F_X10_hasPerson v1 x1 h).bind fun z5 => if ¬ z5.1 = 0 then (fR z5.2 x0 10 8).bind fun v15 => (fR z5.2 x0 10 1).bind fun v19 => (fR z5.2 x0 10 2).bind fun v23 => (rc z5.2 v15 8).bind fun _ => (F_X9_gather v15 v19 v23 x1 z5.2).bind fun z27 => (fR z27.2 x0 10 8).bind fun v31 => (rc z27.2 v31 8).bind fun _ => (F_X9_firstNote v31 z27.2).bind fun z34 => some (z34.1, z34.2) else some ((-2), z5.2)
theorem R_X11_begins {Γ : xG} {l : Launch} {d : Nat} {r : Int32} {h' : xH} (x0 : Nat) (x1 : Int32) (h : xH) (hdp : 6 ≤ d) (hF : F_X11_begins x0 x1 h = some (r, h')) : Gm Γ l d 0 0 m_X11_begins [.ref x0, .int x1] h (fun a u => a = some (.int r) ∧ u = h') := by
  refine Gm.of pn_X11 (Nat.le_of_ble_eq_true rfl) ?_
  show Gd Γ l d m_X11_begins 0 [.ref x0, .int x1] [] h 0 0 _
  generalize hQ : (fun (a : Option Value) (u : xH) => a = some (.int r) ∧ u = h') = Q
  have hq : Q (some (.int r)) h' := by rw [← hQ]; exact ⟨rfl, rfl⟩
  clear hQ
  unfold F_X11_begins at hF
  refine g_aloadn d_X11_begins_0 rfl ?_
  obtain ⟨v1, e1, hF⟩ := Option.bind_eq_some_iff.mp hF
  refine q_fR d_X11_begins_1 f_X11_19 e1 ?_
  refine g_iloadn d_X11_begins_4 rfl ?_
  obtain ⟨_, g5, hF⟩ := Option.bind_eq_some_iff.mp hF
  obtain ⟨⟨r5, h5⟩, e5, hF⟩ := Option.bind_eq_some_iff.mp hF
  try dsimp only at hF
  refine q_callV [.int x1] [] rfl d_X11_begins_5 v_X11_117 (by omega) rfl (Nat.le_of_ble_eq_true rfl) (rc_rc g5 (by decide) rfl) (R_X10_hasPerson _ _ _ (by omega) e5) ?_
  refine g_if_ne 14 d_X11_begins_8 rfl (fun c8 => ?_) (fun c8 => ?_)
  · have hF := x_t hF c8
    refine g_aloadn d_X11_begins_14 rfl ?_
    obtain ⟨v15, e15, hF⟩ := Option.bind_eq_some_iff.mp hF
    refine q_fR d_X11_begins_15 f_X11_57 e15 ?_
    refine g_aloadn d_X11_begins_18 rfl ?_
    obtain ⟨v19, e19, hF⟩ := Option.bind_eq_some_iff.mp hF
    refine q_fR d_X11_begins_19 f_X11_19 e19 ?_
    refine g_aloadn d_X11_begins_22 rfl ?_
    obtain ⟨v23, e23, hF⟩ := Option.bind_eq_some_iff.mp hF
    refine q_fR d_X11_begins_23 f_X11_26 e23 ?_
    refine g_iloadn d_X11_begins_26 rfl ?_
    obtain ⟨_, g27, hF⟩ := Option.bind_eq_some_iff.mp hF
    obtain ⟨⟨r27, h27⟩, e27, hF⟩ := Option.bind_eq_some_iff.mp hF
    try dsimp only at hF
    refine q_callV [.ref v19, .ref v23, .int x1] [] rfl d_X11_begins_27 v_X11_237 (by omega) rfl (Nat.le_of_ble_eq_true rfl) (rc_rc g27 (by decide) rfl) (R_X9_gather _ _ _ _ _ (by omega) e27) ?_
    refine g_aloadn d_X11_begins_30 rfl ?_
    obtain ⟨v31, e31, hF⟩ := Option.bind_eq_some_iff.mp hF
    refine q_fR d_X11_begins_31 f_X11_57 e31 ?_
    obtain ⟨_, g34, hF⟩ := Option.bind_eq_some_iff.mp hF
    obtain ⟨⟨r34, h34⟩, e34, hF⟩ := Option.bind_eq_some_iff.mp hF
    try dsimp only at hF
    refine q_callV [] [] rfl d_X11_begins_34 v_X11_252 (by omega) rfl (Nat.le_of_ble_eq_true rfl) (rc_rc g34 (by decide) rfl) (R_X9_firstNote _ _ (by omega) e34) ?_
    obtain ⟨rfl, rfl⟩ := x_inj hF
    exact g_iret d_X11_begins_37 rfl hq
  · have hF := x_f hF (not_not_intro c8)
    refine g_bi (-2) d_X11_begins_11 bi_m2 ?_
    obtain ⟨rfl, rfl⟩ := x_inj hF
    exact g_iret d_X11_begins_13 rfl hq
theorem d_X11_atOnce_0 : decode cX11_atOnce 0 = .ok (.aload_n 0, 1) := by decide +kernel
theorem d_X11_atOnce_1 : decode cX11_atOnce 1 = .ok (.getfield 19, 3) := by decide +kernel
theorem d_X11_atOnce_4 : decode cX11_atOnce 4 = .ok (.iload_n 1, 1) := by decide +kernel
theorem d_X11_atOnce_5 : decode cX11_atOnce 5 = .ok (.invokevirtual 117, 3) := by decide +kernel
theorem d_X11_atOnce_8 : decode cX11_atOnce 8 = .ok (.ifCond .ne 6, 3) := by decide +kernel
theorem d_X11_atOnce_11 : decode cX11_atOnce 11 = .ok (.bipush (-2), 2) := by decide +kernel
theorem d_X11_atOnce_13 : decode cX11_atOnce 13 = .ok (.ireturn, 1) := by decide +kernel
theorem d_X11_atOnce_14 : decode cX11_atOnce 14 = .ok (.aload_n 0, 1) := by decide +kernel
theorem d_X11_atOnce_15 : decode cX11_atOnce 15 = .ok (.getfield 57, 3) := by decide +kernel
theorem d_X11_atOnce_18 : decode cX11_atOnce 18 = .ok (.aload_n 0, 1) := by decide +kernel
theorem d_X11_atOnce_19 : decode cX11_atOnce 19 = .ok (.getfield 19, 3) := by decide +kernel
theorem d_X11_atOnce_22 : decode cX11_atOnce 22 = .ok (.aload_n 0, 1) := by decide +kernel
theorem d_X11_atOnce_23 : decode cX11_atOnce 23 = .ok (.getfield 26, 3) := by decide +kernel
theorem d_X11_atOnce_26 : decode cX11_atOnce 26 = .ok (.iload_n 1, 1) := by decide +kernel
theorem d_X11_atOnce_27 : decode cX11_atOnce 27 = .ok (.invokevirtual 237, 3) := by decide +kernel
theorem d_X11_atOnce_30 : decode cX11_atOnce 30 = .ok (.aload_n 0, 1) := by decide +kernel
theorem d_X11_atOnce_31 : decode cX11_atOnce 31 = .ok (.getfield 57, 3) := by decide +kernel
theorem d_X11_atOnce_34 : decode cX11_atOnce 34 = .ok (.invokevirtual 255, 3) := by decide +kernel
theorem d_X11_atOnce_37 : decode cX11_atOnce 37 = .ok (.ireturn, 1) := by decide +kernel
def F_X11_atOnce (x0 : Nat) (x1 : Int32) (h : xH) : Option (Int32 × xH) := (fR h x0 10 1).bind fun v1 => (rc h v1 9).bind fun _ => (F_X10_hasPerson v1 x1 h).bind fun z5 => if ¬ z5.1 = 0 then (fR z5.2 x0 10 8).bind fun v15 => (fR z5.2 x0 10 1).bind fun v19 => (fR z5.2 x0 10 2).bind fun v23 => (rc z5.2 v15 8).bind fun _ => (F_X9_gather v15 v19 v23 x1 z5.2).bind fun z27 => (fR z27.2 x0 10 8).bind fun v31 => (rc z27.2 v31 8).bind fun _ => (F_X9_leastSet v31 z27.2).bind fun z34 => some (z34.1, z34.2) else some ((-2), z5.2)
theorem R_X11_atOnce {Γ : xG} {l : Launch} {d : Nat} {r : Int32} {h' : xH} (x0 : Nat) (x1 : Int32) (h : xH) (hdp : 6 ≤ d) (hF : F_X11_atOnce x0 x1 h = some (r, h')) : Gm Γ l d 0 0 m_X11_atOnce [.ref x0, .int x1] h (fun a u => a = some (.int r) ∧ u = h') := by
  refine Gm.of pn_X11 (Nat.le_of_ble_eq_true rfl) ?_
  show Gd Γ l d m_X11_atOnce 0 [.ref x0, .int x1] [] h 0 0 _
  generalize hQ : (fun (a : Option Value) (u : xH) => a = some (.int r) ∧ u = h') = Q
  have hq : Q (some (.int r)) h' := by rw [← hQ]; exact ⟨rfl, rfl⟩
  clear hQ
  unfold F_X11_atOnce at hF
  refine g_aloadn d_X11_atOnce_0 rfl ?_
  obtain ⟨v1, e1, hF⟩ := Option.bind_eq_some_iff.mp hF
  refine q_fR d_X11_atOnce_1 f_X11_19 e1 ?_
  refine g_iloadn d_X11_atOnce_4 rfl ?_
  obtain ⟨_, g5, hF⟩ := Option.bind_eq_some_iff.mp hF
  obtain ⟨⟨r5, h5⟩, e5, hF⟩ := Option.bind_eq_some_iff.mp hF
  try dsimp only at hF
  refine q_callV [.int x1] [] rfl d_X11_atOnce_5 v_X11_117 (by omega) rfl (Nat.le_of_ble_eq_true rfl) (rc_rc g5 (by decide) rfl) (R_X10_hasPerson _ _ _ (by omega) e5) ?_
  refine g_if_ne 14 d_X11_atOnce_8 rfl (fun c8 => ?_) (fun c8 => ?_)
  · have hF := x_t hF c8
    refine g_aloadn d_X11_atOnce_14 rfl ?_
    obtain ⟨v15, e15, hF⟩ := Option.bind_eq_some_iff.mp hF
    refine q_fR d_X11_atOnce_15 f_X11_57 e15 ?_
    refine g_aloadn d_X11_atOnce_18 rfl ?_
    obtain ⟨v19, e19, hF⟩ := Option.bind_eq_some_iff.mp hF
    refine q_fR d_X11_atOnce_19 f_X11_19 e19 ?_
    refine g_aloadn d_X11_atOnce_22 rfl ?_
    obtain ⟨v23, e23, hF⟩ := Option.bind_eq_some_iff.mp hF
    refine q_fR d_X11_atOnce_23 f_X11_26 e23 ?_
    refine g_iloadn d_X11_atOnce_26 rfl ?_
    obtain ⟨_, g27, hF⟩ := Option.bind_eq_some_iff.mp hF
    obtain ⟨⟨r27, h27⟩, e27, hF⟩ := Option.bind_eq_some_iff.mp hF
    try dsimp only at hF
    refine q_callV [.ref v19, .ref v23, .int x1] [] rfl d_X11_atOnce_27 v_X11_237 (by omega) rfl (Nat.le_of_ble_eq_true rfl) (rc_rc g27 (by decide) rfl) (R_X9_gather _ _ _ _ _ (by omega) e27) ?_
    refine g_aloadn d_X11_atOnce_30 rfl ?_
    obtain ⟨v31, e31, hF⟩ := Option.bind_eq_some_iff.mp hF
    refine q_fR d_X11_atOnce_31 f_X11_57 e31 ?_
    obtain ⟨_, g34, hF⟩ := Option.bind_eq_some_iff.mp hF
    obtain ⟨⟨r34, h34⟩, e34, hF⟩ := Option.bind_eq_some_iff.mp hF
    try dsimp only at hF
    refine q_callV [] [] rfl d_X11_atOnce_34 v_X11_255 (by omega) rfl (Nat.le_of_ble_eq_true rfl) (rc_rc g34 (by decide) rfl) (R_X9_leastSet _ _ (by omega) e34) ?_
    obtain ⟨rfl, rfl⟩ := x_inj hF
    exact g_iret d_X11_atOnce_37 rfl hq
  · have hF := x_f hF (not_not_intro c8)
    refine g_bi (-2) d_X11_atOnce_11 bi_m2 ?_
    obtain ⟨rfl, rfl⟩ := x_inj hF
    exact g_iret d_X11_atOnce_13 rfl hq
theorem d_X11_choir_0 : decode cX11_choir 0 = .ok (.iload_n 3, 1) := by decide +kernel
theorem d_X11_choir_1 : decode cX11_choir 1 = .ok (.ifCond .eq 11, 3) := by decide +kernel
theorem d_X11_choir_4 : decode cX11_choir 4 = .ok (.iload_n 3, 1) := by decide +kernel
theorem d_X11_choir_5 : decode cX11_choir 5 = .ok (.iconst 1, 1) := by decide +kernel
theorem d_X11_choir_6 : decode cX11_choir 6 = .ok (.if_icmp .eq 6, 3) := by decide +kernel
theorem d_X11_choir_9 : decode cX11_choir 9 = .ok (.bipush (-2), 2) := by decide +kernel
theorem d_X11_choir_11 : decode cX11_choir 11 = .ok (.ireturn, 1) := by decide +kernel
theorem d_X11_choir_12 : decode cX11_choir 12 = .ok (.aload_n 0, 1) := by decide +kernel
theorem d_X11_choir_13 : decode cX11_choir 13 = .ok (.getfield 19, 3) := by decide +kernel
theorem d_X11_choir_16 : decode cX11_choir 16 = .ok (.iload_n 1, 1) := by decide +kernel
theorem d_X11_choir_17 : decode cX11_choir 17 = .ok (.invokevirtual 258, 3) := by decide +kernel
theorem d_X11_choir_20 : decode cX11_choir 20 = .ok (.ifCond .eq 14, 3) := by decide +kernel
theorem d_X11_choir_23 : decode cX11_choir 23 = .ok (.iload_n 2, 1) := by decide +kernel
theorem d_X11_choir_24 : decode cX11_choir 24 = .ok (.iconst 1, 1) := by decide +kernel
theorem d_X11_choir_25 : decode cX11_choir 25 = .ok (.if_icmp .lt 9, 3) := by decide +kernel
theorem d_X11_choir_28 : decode cX11_choir 28 = .ok (.iload_n 2, 1) := by decide +kernel
theorem d_X11_choir_29 : decode cX11_choir 29 = .ok (.bipush 6, 2) := by decide +kernel
theorem d_X11_choir_31 : decode cX11_choir 31 = .ok (.if_icmp .le 6, 3) := by decide +kernel
theorem d_X11_choir_34 : decode cX11_choir 34 = .ok (.bipush (-3), 2) := by decide +kernel
theorem d_X11_choir_36 : decode cX11_choir 36 = .ok (.ireturn, 1) := by decide +kernel
theorem d_X11_choir_37 : decode cX11_choir 37 = .ok (.aload_n 0, 1) := by decide +kernel
theorem d_X11_choir_38 : decode cX11_choir 38 = .ok (.getfield 64, 3) := by decide +kernel
theorem d_X11_choir_41 : decode cX11_choir 41 = .ok (.aload_n 0, 1) := by decide +kernel
theorem d_X11_choir_42 : decode cX11_choir 42 = .ok (.getfield 19, 3) := by decide +kernel
theorem d_X11_choir_45 : decode cX11_choir 45 = .ok (.aload_n 0, 1) := by decide +kernel
theorem d_X11_choir_46 : decode cX11_choir 46 = .ok (.getfield 26, 3) := by decide +kernel
theorem d_X11_choir_49 : decode cX11_choir 49 = .ok (.iload_n 1, 1) := by decide +kernel
theorem d_X11_choir_50 : decode cX11_choir 50 = .ok (.invokevirtual 261, 3) := by decide +kernel
theorem d_X11_choir_53 : decode cX11_choir 53 = .ok (.aload_n 0, 1) := by decide +kernel
theorem d_X11_choir_54 : decode cX11_choir 54 = .ok (.getfield 64, 3) := by decide +kernel
theorem d_X11_choir_57 : decode cX11_choir 57 = .ok (.iload_n 2, 1) := by decide +kernel
theorem d_X11_choir_58 : decode cX11_choir 58 = .ok (.invokevirtual 262, 3) := by decide +kernel
theorem d_X11_choir_61 : decode cX11_choir 61 = .ok (.istore 4, 2) := by decide +kernel
theorem d_X11_choir_63 : decode cX11_choir 63 = .ok (.iload_n 3, 1) := by decide +kernel
theorem d_X11_choir_64 : decode cX11_choir 64 = .ok (.ifCond .ne 17, 3) := by decide +kernel
theorem d_X11_choir_67 : decode cX11_choir 67 = .ok (.iload 4, 2) := by decide +kernel
theorem d_X11_choir_69 : decode cX11_choir 69 = .ok (.iconst (-1), 1) := by decide +kernel
theorem d_X11_choir_70 : decode cX11_choir 70 = .ok (.if_icmp .eq 11, 3) := by decide +kernel
theorem d_X11_choir_73 : decode cX11_choir 73 = .ok (.iload 4, 2) := by decide +kernel
theorem d_X11_choir_75 : decode cX11_choir 75 = .ok (.invokestatic 265, 3) := by decide +kernel
theorem d_X11_choir_78 : decode cX11_choir 78 = .ok (.goto 5, 3) := by decide +kernel
theorem d_X11_choir_81 : decode cX11_choir 81 = .ok (.iload 4, 2) := by decide +kernel
theorem d_X11_choir_83 : decode cX11_choir 83 = .ok (.ireturn, 1) := by decide +kernel
def F_X11_choir_b12 (x0 : Nat) (x1 : Int32) (x2 : Int32) (x3 : Int32) (h : xH) : Option (Int32 × xH) := (fR h x0 10 1).bind fun v13 => (rc h v13 9).bind fun _ => (F_X10_isNotes v13 x1 h).bind fun z17 => if z17.1 = 0 then some ((-3), z17.2) else if x2 < ((1 : Int32)) then some ((-3), z17.2) else if x2 ≤ ((6 : Int32)) then (fR z17.2 x0 10 9).bind fun v38 => (fR z17.2 x0 10 1).bind fun v42 => (fR z17.2 x0 10 2).bind fun v46 => (rc z17.2 v38 6).bind fun _ => (F_X7_gather v38 v42 v46 x1 z17.2).bind fun z50 => (fR z50.2 x0 10 9).bind fun v54 => (rc z50.2 v54 6).bind fun _ => (F_X7_leastChoir v54 x2 z50.2).bind fun z58 => if ¬ x3 = 0 then some (z58.1, z58.2) else if z58.1 = (((-1) : Int32)) then some (z58.1, z58.2) else (F_J6_bitCount_0f7a4 z58.1 z58.2).bind fun z75 => some (z75.1, z75.2) else some ((-3), z17.2)
theorem R_X11_choir_b12 {Γ : xG} {l : Launch} {d : Nat} {Q : Option Value → xH → Prop} {r : Int32} {h' : xH} (hdp : 7 ≤ d) (hq : Q (some (.int r)) h') : ∀ (x0 : Nat) (x1 : Int32) (x2 : Int32) (x3 : Int32) (h : xH), F_X11_choir_b12 x0 x1 x2 x3 h = some (r, h') → Gd Γ l d m_X11_choir 12 [.ref x0, .int x1, .int x2, .int x3, xhole] [] h 0 0 Q := by
  intro x0 x1 x2 x3 h hF
  unfold F_X11_choir_b12 at hF
  refine g_aloadn d_X11_choir_12 rfl ?_
  obtain ⟨v13, e13, hF⟩ := Option.bind_eq_some_iff.mp hF
  refine q_fR d_X11_choir_13 f_X11_19 e13 ?_
  refine g_iloadn d_X11_choir_16 rfl ?_
  obtain ⟨_, g17, hF⟩ := Option.bind_eq_some_iff.mp hF
  obtain ⟨⟨r17, h17⟩, e17, hF⟩ := Option.bind_eq_some_iff.mp hF
  try dsimp only at hF
  refine q_callV [.int x1] [] rfl d_X11_choir_17 v_X11_258 (by omega) rfl (Nat.le_of_ble_eq_true rfl) (rc_rc g17 (by decide) rfl) (R_X10_isNotes _ _ _ (by omega) e17) ?_
  refine g_if_eq 34 d_X11_choir_20 rfl (fun c20 => ?_) (fun c20 => ?_)
  · have hF := x_t hF c20
    refine g_bi (-3) d_X11_choir_34 bi_m3 ?_
    obtain ⟨rfl, rfl⟩ := x_inj hF
    exact g_iret d_X11_choir_36 rfl hq
  · have hF := x_f hF c20
    refine g_iloadn d_X11_choir_23 rfl ?_
    refine g_ic (1) d_X11_choir_24 ic_1 ?_
    refine g_icmp_lt 34 d_X11_choir_25 rfl (fun c25 => ?_) (fun c25 => ?_)
    · have hF := x_t hF c25
      refine g_bi (-3) d_X11_choir_34 bi_m3 ?_
      obtain ⟨rfl, rfl⟩ := x_inj hF
      exact g_iret d_X11_choir_36 rfl hq
    · have hF := x_f hF c25
      refine g_iloadn d_X11_choir_28 rfl ?_
      refine g_bi (6) d_X11_choir_29 bi_6 ?_
      refine g_icmp_le 37 d_X11_choir_31 rfl (fun c31 => ?_) (fun c31 => ?_)
      · have hF := x_t hF c31
        refine g_aloadn d_X11_choir_37 rfl ?_
        obtain ⟨v38, e38, hF⟩ := Option.bind_eq_some_iff.mp hF
        refine q_fR d_X11_choir_38 f_X11_64 e38 ?_
        refine g_aloadn d_X11_choir_41 rfl ?_
        obtain ⟨v42, e42, hF⟩ := Option.bind_eq_some_iff.mp hF
        refine q_fR d_X11_choir_42 f_X11_19 e42 ?_
        refine g_aloadn d_X11_choir_45 rfl ?_
        obtain ⟨v46, e46, hF⟩ := Option.bind_eq_some_iff.mp hF
        refine q_fR d_X11_choir_46 f_X11_26 e46 ?_
        refine g_iloadn d_X11_choir_49 rfl ?_
        obtain ⟨_, g50, hF⟩ := Option.bind_eq_some_iff.mp hF
        obtain ⟨⟨r50, h50⟩, e50, hF⟩ := Option.bind_eq_some_iff.mp hF
        try dsimp only at hF
        refine q_callV [.ref v42, .ref v46, .int x1] [] rfl d_X11_choir_50 v_X11_261 (by omega) rfl (Nat.le_of_ble_eq_true rfl) (rc_rc g50 (by decide) rfl) (R_X7_gather _ _ _ _ _ (by omega) e50) ?_
        refine g_aloadn d_X11_choir_53 rfl ?_
        obtain ⟨v54, e54, hF⟩ := Option.bind_eq_some_iff.mp hF
        refine q_fR d_X11_choir_54 f_X11_64 e54 ?_
        refine g_iloadn d_X11_choir_57 rfl ?_
        obtain ⟨_, g58, hF⟩ := Option.bind_eq_some_iff.mp hF
        obtain ⟨⟨r58, h58⟩, e58, hF⟩ := Option.bind_eq_some_iff.mp hF
        try dsimp only at hF
        refine q_callV [.int x2] [] rfl d_X11_choir_58 v_X11_262 (by omega) rfl (Nat.le_of_ble_eq_true rfl) (rc_rc g58 (by decide) rfl) (R_X7_leastChoir _ _ _ (by omega) e58) ?_
        refine q_istore [.ref x0, .int x1, .int x2, .int x3, .int (r58)] d_X11_choir_61 (by decide) rfl ?_
        refine g_iloadn d_X11_choir_63 rfl ?_
        refine g_if_ne 81 d_X11_choir_64 rfl (fun c64 => ?_) (fun c64 => ?_)
        · have hF := x_t hF c64
          refine g_iload d_X11_choir_81 rfl ?_
          obtain ⟨rfl, rfl⟩ := x_inj hF
          exact g_iret d_X11_choir_83 rfl hq
        · have hF := x_f hF (not_not_intro c64)
          refine g_iload d_X11_choir_67 rfl ?_
          refine g_ic (-1) d_X11_choir_69 ic_m1 ?_
          refine g_icmp_eq 81 d_X11_choir_70 rfl (fun c70 => ?_) (fun c70 => ?_)
          · have hF := x_t hF c70
            refine g_iload d_X11_choir_81 rfl ?_
            obtain ⟨rfl, rfl⟩ := x_inj hF
            exact g_iret d_X11_choir_83 rfl hq
          · have hF := x_f hF c70
            refine g_iload d_X11_choir_73 rfl ?_
            obtain ⟨⟨r75, h75⟩, e75, hF⟩ := Option.bind_eq_some_iff.mp hF
            try dsimp only at hF
            refine q_callS [.int (r58)] [] rfl d_X11_choir_75 s_X11_265 (by omega) rfl (Nat.le_of_ble_eq_true rfl) (R_J6_bitCount_0f7a4 _ _ (by omega) e75) ?_
            refine g_goto 83 d_X11_choir_78 rfl ?_
            obtain ⟨rfl, rfl⟩ := x_inj hF
            exact g_iret d_X11_choir_83 rfl hq
      · have hF := x_f hF c31
        refine g_bi (-3) d_X11_choir_34 bi_m3 ?_
        obtain ⟨rfl, rfl⟩ := x_inj hF
        exact g_iret d_X11_choir_36 rfl hq
def F_X11_choir (x0 : Nat) (x1 : Int32) (x2 : Int32) (x3 : Int32) (h : xH) : Option (Int32 × xH) := if x3 = 0 then F_X11_choir_b12 x0 x1 x2 x3 h else if x3 = ((1 : Int32)) then F_X11_choir_b12 x0 x1 x2 x3 h else some ((-2), h)
theorem R_X11_choir {Γ : xG} {l : Launch} {d : Nat} {r : Int32} {h' : xH} (x0 : Nat) (x1 : Int32) (x2 : Int32) (x3 : Int32) (h : xH) (hdp : 7 ≤ d) (hF : F_X11_choir x0 x1 x2 x3 h = some (r, h')) : Gm Γ l d 0 0 m_X11_choir [.ref x0, .int x1, .int x2, .int x3] h (fun a u => a = some (.int r) ∧ u = h') := by
  refine Gm.of pn_X11 (Nat.le_of_ble_eq_true rfl) ?_
  show Gd Γ l d m_X11_choir 0 [.ref x0, .int x1, .int x2, .int x3, xhole] [] h 0 0 _
  generalize hQ : (fun (a : Option Value) (u : xH) => a = some (.int r) ∧ u = h') = Q
  have hq : Q (some (.int r)) h' := by rw [← hQ]; exact ⟨rfl, rfl⟩
  clear hQ
  unfold F_X11_choir at hF
  refine g_iloadn d_X11_choir_0 rfl ?_
  refine g_if_eq 12 d_X11_choir_1 rfl (fun c1 => ?_) (fun c1 => ?_)
  · have hF := x_t hF c1
    exact q_to (xs_r (xs_r (xs_r (xs_r (xs_h xs_n))))) (R_X11_choir_b12 hdp hq _ _ _ _ _ hF)
  · have hF := x_f hF c1
    refine g_iloadn d_X11_choir_4 rfl ?_
    refine g_ic (1) d_X11_choir_5 ic_1 ?_
    refine g_icmp_eq 12 d_X11_choir_6 rfl (fun c6 => ?_) (fun c6 => ?_)
    · have hF := x_t hF c6
      exact q_to (xs_r (xs_r (xs_r (xs_r (xs_h xs_n))))) (R_X11_choir_b12 hdp hq _ _ _ _ _ hF)
    · have hF := x_f hF c6
      refine g_bi (-2) d_X11_choir_9 bi_m2 ?_
      obtain ⟨rfl, rfl⟩ := x_inj hF
      exact g_iret d_X11_choir_11 rfl hq
theorem d_X11_row_0 : decode cX11_row 0 = .ok (.aload_n 0, 1) := by decide +kernel
theorem d_X11_row_1 : decode cX11_row 1 = .ok (.getfield 19, 3) := by decide +kernel
theorem d_X11_row_4 : decode cX11_row 4 = .ok (.iload_n 1, 1) := by decide +kernel
theorem d_X11_row_5 : decode cX11_row 5 = .ok (.invokevirtual 258, 3) := by decide +kernel
theorem d_X11_row_8 : decode cX11_row 8 = .ok (.ifCond .eq 7, 3) := by decide +kernel
theorem d_X11_row_11 : decode cX11_row 11 = .ok (.iload_n 2, 1) := by decide +kernel
theorem d_X11_row_12 : decode cX11_row 12 = .ok (.ifCond .ge 6, 3) := by decide +kernel
theorem d_X11_row_15 : decode cX11_row 15 = .ok (.bipush (-3), 2) := by decide +kernel
theorem d_X11_row_17 : decode cX11_row 17 = .ok (.ireturn, 1) := by decide +kernel
theorem d_X11_row_18 : decode cX11_row 18 = .ok (.aload_n 0, 1) := by decide +kernel
theorem d_X11_row_19 : decode cX11_row 19 = .ok (.getfield 64, 3) := by decide +kernel
theorem d_X11_row_22 : decode cX11_row 22 = .ok (.aload_n 0, 1) := by decide +kernel
theorem d_X11_row_23 : decode cX11_row 23 = .ok (.getfield 19, 3) := by decide +kernel
theorem d_X11_row_26 : decode cX11_row 26 = .ok (.aload_n 0, 1) := by decide +kernel
theorem d_X11_row_27 : decode cX11_row 27 = .ok (.getfield 26, 3) := by decide +kernel
theorem d_X11_row_30 : decode cX11_row 30 = .ok (.iload_n 1, 1) := by decide +kernel
theorem d_X11_row_31 : decode cX11_row 31 = .ok (.invokevirtual 261, 3) := by decide +kernel
theorem d_X11_row_34 : decode cX11_row 34 = .ok (.aload_n 0, 1) := by decide +kernel
theorem d_X11_row_35 : decode cX11_row 35 = .ok (.getfield 64, 3) := by decide +kernel
theorem d_X11_row_38 : decode cX11_row 38 = .ok (.iload_n 2, 1) := by decide +kernel
theorem d_X11_row_39 : decode cX11_row 39 = .ok (.invokevirtual 270, 3) := by decide +kernel
theorem d_X11_row_42 : decode cX11_row 42 = .ok (.ireturn, 1) := by decide +kernel
def F_X11_row (x0 : Nat) (x1 : Int32) (x2 : Int32) (h : xH) : Option (Int32 × xH) := (fR h x0 10 1).bind fun v1 => (rc h v1 9).bind fun _ => (F_X10_isNotes v1 x1 h).bind fun z5 => if z5.1 = 0 then some ((-3), z5.2) else if 0 ≤ x2 then (fR z5.2 x0 10 9).bind fun v19 => (fR z5.2 x0 10 1).bind fun v23 => (fR z5.2 x0 10 2).bind fun v27 => (rc z5.2 v19 6).bind fun _ => (F_X7_gather v19 v23 v27 x1 z5.2).bind fun z31 => (fR z31.2 x0 10 9).bind fun v35 => (rc z31.2 v35 6).bind fun _ => (F_X7_inFirstOrder v35 x2 z31.2).bind fun z39 => some (z39.1, z39.2) else some ((-3), z5.2)
theorem R_X11_row {Γ : xG} {l : Launch} {d : Nat} {r : Int32} {h' : xH} (x0 : Nat) (x1 : Int32) (x2 : Int32) (h : xH) (hdp : 7 ≤ d) (hF : F_X11_row x0 x1 x2 h = some (r, h')) : Gm Γ l d 0 0 m_X11_row [.ref x0, .int x1, .int x2] h (fun a u => a = some (.int r) ∧ u = h') := by
  refine Gm.of pn_X11 (Nat.le_of_ble_eq_true rfl) ?_
  show Gd Γ l d m_X11_row 0 [.ref x0, .int x1, .int x2] [] h 0 0 _
  generalize hQ : (fun (a : Option Value) (u : xH) => a = some (.int r) ∧ u = h') = Q
  have hq : Q (some (.int r)) h' := by rw [← hQ]; exact ⟨rfl, rfl⟩
  clear hQ
  unfold F_X11_row at hF
  refine g_aloadn d_X11_row_0 rfl ?_
  obtain ⟨v1, e1, hF⟩ := Option.bind_eq_some_iff.mp hF
  refine q_fR d_X11_row_1 f_X11_19 e1 ?_
  refine g_iloadn d_X11_row_4 rfl ?_
  obtain ⟨_, g5, hF⟩ := Option.bind_eq_some_iff.mp hF
  obtain ⟨⟨r5, h5⟩, e5, hF⟩ := Option.bind_eq_some_iff.mp hF
  try dsimp only at hF
  refine q_callV [.int x1] [] rfl d_X11_row_5 v_X11_258 (by omega) rfl (Nat.le_of_ble_eq_true rfl) (rc_rc g5 (by decide) rfl) (R_X10_isNotes _ _ _ (by omega) e5) ?_
  refine g_if_eq 15 d_X11_row_8 rfl (fun c8 => ?_) (fun c8 => ?_)
  · have hF := x_t hF c8
    refine g_bi (-3) d_X11_row_15 bi_m3 ?_
    obtain ⟨rfl, rfl⟩ := x_inj hF
    exact g_iret d_X11_row_17 rfl hq
  · have hF := x_f hF c8
    refine g_iloadn d_X11_row_11 rfl ?_
    refine g_if_ge 18 d_X11_row_12 rfl (fun c12 => ?_) (fun c12 => ?_)
    · have hF := x_t hF c12
      refine g_aloadn d_X11_row_18 rfl ?_
      obtain ⟨v19, e19, hF⟩ := Option.bind_eq_some_iff.mp hF
      refine q_fR d_X11_row_19 f_X11_64 e19 ?_
      refine g_aloadn d_X11_row_22 rfl ?_
      obtain ⟨v23, e23, hF⟩ := Option.bind_eq_some_iff.mp hF
      refine q_fR d_X11_row_23 f_X11_19 e23 ?_
      refine g_aloadn d_X11_row_26 rfl ?_
      obtain ⟨v27, e27, hF⟩ := Option.bind_eq_some_iff.mp hF
      refine q_fR d_X11_row_27 f_X11_26 e27 ?_
      refine g_iloadn d_X11_row_30 rfl ?_
      obtain ⟨_, g31, hF⟩ := Option.bind_eq_some_iff.mp hF
      obtain ⟨⟨r31, h31⟩, e31, hF⟩ := Option.bind_eq_some_iff.mp hF
      try dsimp only at hF
      refine q_callV [.ref v23, .ref v27, .int x1] [] rfl d_X11_row_31 v_X11_261 (by omega) rfl (Nat.le_of_ble_eq_true rfl) (rc_rc g31 (by decide) rfl) (R_X7_gather _ _ _ _ _ (by omega) e31) ?_
      refine g_aloadn d_X11_row_34 rfl ?_
      obtain ⟨v35, e35, hF⟩ := Option.bind_eq_some_iff.mp hF
      refine q_fR d_X11_row_35 f_X11_64 e35 ?_
      refine g_iloadn d_X11_row_38 rfl ?_
      obtain ⟨_, g39, hF⟩ := Option.bind_eq_some_iff.mp hF
      obtain ⟨⟨r39, h39⟩, e39, hF⟩ := Option.bind_eq_some_iff.mp hF
      try dsimp only at hF
      refine q_callV [.int x2] [] rfl d_X11_row_39 v_X11_270 (by omega) rfl (Nat.le_of_ble_eq_true rfl) (rc_rc g39 (by decide) rfl) (R_X7_inFirstOrder _ _ _ (by omega) e39) ?_
      obtain ⟨rfl, rfl⟩ := x_inj hF
      exact g_iret d_X11_row_42 rfl hq
    · have hF := x_f hF c12
      refine g_bi (-3) d_X11_row_15 bi_m3 ?_
      obtain ⟨rfl, rfl⟩ := x_inj hF
      exact g_iret d_X11_row_17 rfl hq
theorem d_X11_rows_0 : decode cX11_rows 0 = .ok (.aload_n 0, 1) := by decide +kernel
theorem d_X11_rows_1 : decode cX11_rows 1 = .ok (.getfield 19, 3) := by decide +kernel
theorem d_X11_rows_4 : decode cX11_rows 4 = .ok (.iload_n 1, 1) := by decide +kernel
theorem d_X11_rows_5 : decode cX11_rows 5 = .ok (.invokevirtual 258, 3) := by decide +kernel
theorem d_X11_rows_8 : decode cX11_rows 8 = .ok (.ifCond .ne 6, 3) := by decide +kernel
theorem d_X11_rows_11 : decode cX11_rows 11 = .ok (.bipush (-3), 2) := by decide +kernel
theorem d_X11_rows_13 : decode cX11_rows 13 = .ok (.ireturn, 1) := by decide +kernel
theorem d_X11_rows_14 : decode cX11_rows 14 = .ok (.aload_n 0, 1) := by decide +kernel
theorem d_X11_rows_15 : decode cX11_rows 15 = .ok (.getfield 64, 3) := by decide +kernel
theorem d_X11_rows_18 : decode cX11_rows 18 = .ok (.aload_n 0, 1) := by decide +kernel
theorem d_X11_rows_19 : decode cX11_rows 19 = .ok (.getfield 19, 3) := by decide +kernel
theorem d_X11_rows_22 : decode cX11_rows 22 = .ok (.aload_n 0, 1) := by decide +kernel
theorem d_X11_rows_23 : decode cX11_rows 23 = .ok (.getfield 26, 3) := by decide +kernel
theorem d_X11_rows_26 : decode cX11_rows 26 = .ok (.iload_n 1, 1) := by decide +kernel
theorem d_X11_rows_27 : decode cX11_rows 27 = .ok (.invokevirtual 261, 3) := by decide +kernel
theorem d_X11_rows_30 : decode cX11_rows 30 = .ok (.aload_n 0, 1) := by decide +kernel
theorem d_X11_rows_31 : decode cX11_rows 31 = .ok (.getfield 64, 3) := by decide +kernel
theorem d_X11_rows_34 : decode cX11_rows 34 = .ok (.invokevirtual 273, 3) := by decide +kernel
theorem d_X11_rows_37 : decode cX11_rows 37 = .ok (.ireturn, 1) := by decide +kernel
def F_X11_rows (x0 : Nat) (x1 : Int32) (h : xH) : Option (Int32 × xH) := (fR h x0 10 1).bind fun v1 => (rc h v1 9).bind fun _ => (F_X10_isNotes v1 x1 h).bind fun z5 => if ¬ z5.1 = 0 then (fR z5.2 x0 10 9).bind fun v15 => (fR z5.2 x0 10 1).bind fun v19 => (fR z5.2 x0 10 2).bind fun v23 => (rc z5.2 v15 6).bind fun _ => (F_X7_gather v15 v19 v23 x1 z5.2).bind fun z27 => (fR z27.2 x0 10 9).bind fun v31 => (rc z27.2 v31 6).bind fun _ => (F_X7_countOrders v31 z27.2).bind fun z34 => some (z34.1, z34.2) else some ((-3), z5.2)
theorem R_X11_rows {Γ : xG} {l : Launch} {d : Nat} {r : Int32} {h' : xH} (x0 : Nat) (x1 : Int32) (h : xH) (hdp : 7 ≤ d) (hF : F_X11_rows x0 x1 h = some (r, h')) : Gm Γ l d 0 0 m_X11_rows [.ref x0, .int x1] h (fun a u => a = some (.int r) ∧ u = h') := by
  refine Gm.of pn_X11 (Nat.le_of_ble_eq_true rfl) ?_
  show Gd Γ l d m_X11_rows 0 [.ref x0, .int x1] [] h 0 0 _
  generalize hQ : (fun (a : Option Value) (u : xH) => a = some (.int r) ∧ u = h') = Q
  have hq : Q (some (.int r)) h' := by rw [← hQ]; exact ⟨rfl, rfl⟩
  clear hQ
  unfold F_X11_rows at hF
  refine g_aloadn d_X11_rows_0 rfl ?_
  obtain ⟨v1, e1, hF⟩ := Option.bind_eq_some_iff.mp hF
  refine q_fR d_X11_rows_1 f_X11_19 e1 ?_
  refine g_iloadn d_X11_rows_4 rfl ?_
  obtain ⟨_, g5, hF⟩ := Option.bind_eq_some_iff.mp hF
  obtain ⟨⟨r5, h5⟩, e5, hF⟩ := Option.bind_eq_some_iff.mp hF
  try dsimp only at hF
  refine q_callV [.int x1] [] rfl d_X11_rows_5 v_X11_258 (by omega) rfl (Nat.le_of_ble_eq_true rfl) (rc_rc g5 (by decide) rfl) (R_X10_isNotes _ _ _ (by omega) e5) ?_
  refine g_if_ne 14 d_X11_rows_8 rfl (fun c8 => ?_) (fun c8 => ?_)
  · have hF := x_t hF c8
    refine g_aloadn d_X11_rows_14 rfl ?_
    obtain ⟨v15, e15, hF⟩ := Option.bind_eq_some_iff.mp hF
    refine q_fR d_X11_rows_15 f_X11_64 e15 ?_
    refine g_aloadn d_X11_rows_18 rfl ?_
    obtain ⟨v19, e19, hF⟩ := Option.bind_eq_some_iff.mp hF
    refine q_fR d_X11_rows_19 f_X11_19 e19 ?_
    refine g_aloadn d_X11_rows_22 rfl ?_
    obtain ⟨v23, e23, hF⟩ := Option.bind_eq_some_iff.mp hF
    refine q_fR d_X11_rows_23 f_X11_26 e23 ?_
    refine g_iloadn d_X11_rows_26 rfl ?_
    obtain ⟨_, g27, hF⟩ := Option.bind_eq_some_iff.mp hF
    obtain ⟨⟨r27, h27⟩, e27, hF⟩ := Option.bind_eq_some_iff.mp hF
    try dsimp only at hF
    refine q_callV [.ref v19, .ref v23, .int x1] [] rfl d_X11_rows_27 v_X11_261 (by omega) rfl (Nat.le_of_ble_eq_true rfl) (rc_rc g27 (by decide) rfl) (R_X7_gather _ _ _ _ _ (by omega) e27) ?_
    refine g_aloadn d_X11_rows_30 rfl ?_
    obtain ⟨v31, e31, hF⟩ := Option.bind_eq_some_iff.mp hF
    refine q_fR d_X11_rows_31 f_X11_64 e31 ?_
    obtain ⟨_, g34, hF⟩ := Option.bind_eq_some_iff.mp hF
    obtain ⟨⟨r34, h34⟩, e34, hF⟩ := Option.bind_eq_some_iff.mp hF
    try dsimp only at hF
    refine q_callV [] [] rfl d_X11_rows_34 v_X11_273 (by omega) rfl (Nat.le_of_ble_eq_true rfl) (rc_rc g34 (by decide) rfl) (R_X7_countOrders _ _ (by omega) e34) ?_
    obtain ⟨rfl, rfl⟩ := x_inj hF
    exact g_iret d_X11_rows_37 rfl hq
  · have hF := x_f hF (not_not_intro c8)
    refine g_bi (-3) d_X11_rows_11 bi_m3 ?_
    obtain ⟨rfl, rfl⟩ := x_inj hF
    exact g_iret d_X11_rows_13 rfl hq
theorem d_X11_pairs_0 : decode cX11_pairs 0 = .ok (.iload_n 2, 1) := by decide +kernel
theorem d_X11_pairs_1 : decode cX11_pairs 1 = .ok (.ifCond .eq 26, 3) := by decide +kernel
theorem d_X11_pairs_4 : decode cX11_pairs 4 = .ok (.iload_n 2, 1) := by decide +kernel
theorem d_X11_pairs_5 : decode cX11_pairs 5 = .ok (.bipush 10, 2) := by decide +kernel
theorem d_X11_pairs_7 : decode cX11_pairs 7 = .ok (.if_icmp .lt 17, 3) := by decide +kernel
theorem d_X11_pairs_10 : decode cX11_pairs 10 = .ok (.aload_n 0, 1) := by decide +kernel
theorem d_X11_pairs_11 : decode cX11_pairs 11 = .ok (.getfield 19, 3) := by decide +kernel
theorem d_X11_pairs_14 : decode cX11_pairs 14 = .ok (.iload_n 2, 1) := by decide +kernel
theorem d_X11_pairs_15 : decode cX11_pairs 15 = .ok (.bipush 10, 2) := by decide +kernel
theorem d_X11_pairs_17 : decode cX11_pairs 17 = .ok (.isub, 1) := by decide +kernel
theorem d_X11_pairs_18 : decode cX11_pairs 18 = .ok (.invokevirtual 117, 3) := by decide +kernel
theorem d_X11_pairs_21 : decode cX11_pairs 21 = .ok (.ifCond .ne 6, 3) := by decide +kernel
theorem d_X11_pairs_24 : decode cX11_pairs 24 = .ok (.bipush (-2), 2) := by decide +kernel
theorem d_X11_pairs_26 : decode cX11_pairs 26 = .ok (.ireturn, 1) := by decide +kernel
theorem d_X11_pairs_27 : decode cX11_pairs 27 = .ok (.aload_n 0, 1) := by decide +kernel
theorem d_X11_pairs_28 : decode cX11_pairs 28 = .ok (.getfield 19, 3) := by decide +kernel
theorem d_X11_pairs_31 : decode cX11_pairs 31 = .ok (.iload_n 1, 1) := by decide +kernel
theorem d_X11_pairs_32 : decode cX11_pairs 32 = .ok (.invokevirtual 258, 3) := by decide +kernel
theorem d_X11_pairs_35 : decode cX11_pairs 35 = .ok (.ifCond .ne 6, 3) := by decide +kernel
theorem d_X11_pairs_38 : decode cX11_pairs 38 = .ok (.bipush (-3), 2) := by decide +kernel
theorem d_X11_pairs_40 : decode cX11_pairs 40 = .ok (.ireturn, 1) := by decide +kernel
theorem d_X11_pairs_41 : decode cX11_pairs 41 = .ok (.aload_n 0, 1) := by decide +kernel
theorem d_X11_pairs_42 : decode cX11_pairs 42 = .ok (.getfield 64, 3) := by decide +kernel
theorem d_X11_pairs_45 : decode cX11_pairs 45 = .ok (.aload_n 0, 1) := by decide +kernel
theorem d_X11_pairs_46 : decode cX11_pairs 46 = .ok (.getfield 19, 3) := by decide +kernel
theorem d_X11_pairs_49 : decode cX11_pairs 49 = .ok (.aload_n 0, 1) := by decide +kernel
theorem d_X11_pairs_50 : decode cX11_pairs 50 = .ok (.getfield 26, 3) := by decide +kernel
theorem d_X11_pairs_53 : decode cX11_pairs 53 = .ok (.iload_n 1, 1) := by decide +kernel
theorem d_X11_pairs_54 : decode cX11_pairs 54 = .ok (.invokevirtual 261, 3) := by decide +kernel
theorem d_X11_pairs_57 : decode cX11_pairs 57 = .ok (.aload_n 0, 1) := by decide +kernel
theorem d_X11_pairs_58 : decode cX11_pairs 58 = .ok (.getfield 64, 3) := by decide +kernel
theorem d_X11_pairs_61 : decode cX11_pairs 61 = .ok (.invokevirtual 276, 3) := by decide +kernel
theorem d_X11_pairs_64 : decode cX11_pairs 64 = .ok (.istore_n 3, 1) := by decide +kernel
theorem d_X11_pairs_65 : decode cX11_pairs 65 = .ok (.iload_n 2, 1) := by decide +kernel
theorem d_X11_pairs_66 : decode cX11_pairs 66 = .ok (.ifCond .ne 7, 3) := by decide +kernel
theorem d_X11_pairs_69 : decode cX11_pairs 69 = .ok (.iload_n 3, 1) := by decide +kernel
theorem d_X11_pairs_70 : decode cX11_pairs 70 = .ok (.goto 14, 3) := by decide +kernel
theorem d_X11_pairs_73 : decode cX11_pairs 73 = .ok (.aload_n 0, 1) := by decide +kernel
theorem d_X11_pairs_74 : decode cX11_pairs 74 = .ok (.getfield 64, 3) := by decide +kernel
theorem d_X11_pairs_77 : decode cX11_pairs 77 = .ok (.iload_n 2, 1) := by decide +kernel
theorem d_X11_pairs_78 : decode cX11_pairs 78 = .ok (.bipush 10, 2) := by decide +kernel
theorem d_X11_pairs_80 : decode cX11_pairs 80 = .ok (.isub, 1) := by decide +kernel
theorem d_X11_pairs_81 : decode cX11_pairs 81 = .ok (.invokevirtual 279, 3) := by decide +kernel
theorem d_X11_pairs_84 : decode cX11_pairs 84 = .ok (.ireturn, 1) := by decide +kernel
def F_X11_pairs_b27 (x0 : Nat) (x1 : Int32) (x2 : Int32) (h : xH) : Option (Int32 × xH) := (fR h x0 10 1).bind fun v28 => (rc h v28 9).bind fun _ => (F_X10_isNotes v28 x1 h).bind fun z32 => if ¬ z32.1 = 0 then (fR z32.2 x0 10 9).bind fun v42 => (fR z32.2 x0 10 1).bind fun v46 => (fR z32.2 x0 10 2).bind fun v50 => (rc z32.2 v42 6).bind fun _ => (F_X7_gather v42 v46 v50 x1 z32.2).bind fun z54 => (fR z54.2 x0 10 9).bind fun v58 => (rc z54.2 v58 6).bind fun _ => (F_X7_countPairs v58 z54.2).bind fun z61 => if ¬ x2 = 0 then (fR z61.2 x0 10 9).bind fun v74 => (rc z61.2 v74 6).bind fun _ => (F_X7_partnerOf v74 (x2 - 10) z61.2).bind fun z81 => some (z81.1, z81.2) else some (z61.1, z61.2) else some ((-3), z32.2)
theorem R_X11_pairs_b27 {Γ : xG} {l : Launch} {d : Nat} {Q : Option Value → xH → Prop} {r : Int32} {h' : xH} (hdp : 7 ≤ d) (hq : Q (some (.int r)) h') : ∀ (x0 : Nat) (x1 : Int32) (x2 : Int32) (h : xH), F_X11_pairs_b27 x0 x1 x2 h = some (r, h') → Gd Γ l d m_X11_pairs 27 [.ref x0, .int x1, .int x2, xhole] [] h 0 0 Q := by
  intro x0 x1 x2 h hF
  unfold F_X11_pairs_b27 at hF
  refine g_aloadn d_X11_pairs_27 rfl ?_
  obtain ⟨v28, e28, hF⟩ := Option.bind_eq_some_iff.mp hF
  refine q_fR d_X11_pairs_28 f_X11_19 e28 ?_
  refine g_iloadn d_X11_pairs_31 rfl ?_
  obtain ⟨_, g32, hF⟩ := Option.bind_eq_some_iff.mp hF
  obtain ⟨⟨r32, h32⟩, e32, hF⟩ := Option.bind_eq_some_iff.mp hF
  try dsimp only at hF
  refine q_callV [.int x1] [] rfl d_X11_pairs_32 v_X11_258 (by omega) rfl (Nat.le_of_ble_eq_true rfl) (rc_rc g32 (by decide) rfl) (R_X10_isNotes _ _ _ (by omega) e32) ?_
  refine g_if_ne 41 d_X11_pairs_35 rfl (fun c35 => ?_) (fun c35 => ?_)
  · have hF := x_t hF c35
    refine g_aloadn d_X11_pairs_41 rfl ?_
    obtain ⟨v42, e42, hF⟩ := Option.bind_eq_some_iff.mp hF
    refine q_fR d_X11_pairs_42 f_X11_64 e42 ?_
    refine g_aloadn d_X11_pairs_45 rfl ?_
    obtain ⟨v46, e46, hF⟩ := Option.bind_eq_some_iff.mp hF
    refine q_fR d_X11_pairs_46 f_X11_19 e46 ?_
    refine g_aloadn d_X11_pairs_49 rfl ?_
    obtain ⟨v50, e50, hF⟩ := Option.bind_eq_some_iff.mp hF
    refine q_fR d_X11_pairs_50 f_X11_26 e50 ?_
    refine g_iloadn d_X11_pairs_53 rfl ?_
    obtain ⟨_, g54, hF⟩ := Option.bind_eq_some_iff.mp hF
    obtain ⟨⟨r54, h54⟩, e54, hF⟩ := Option.bind_eq_some_iff.mp hF
    try dsimp only at hF
    refine q_callV [.ref v46, .ref v50, .int x1] [] rfl d_X11_pairs_54 v_X11_261 (by omega) rfl (Nat.le_of_ble_eq_true rfl) (rc_rc g54 (by decide) rfl) (R_X7_gather _ _ _ _ _ (by omega) e54) ?_
    refine g_aloadn d_X11_pairs_57 rfl ?_
    obtain ⟨v58, e58, hF⟩ := Option.bind_eq_some_iff.mp hF
    refine q_fR d_X11_pairs_58 f_X11_64 e58 ?_
    obtain ⟨_, g61, hF⟩ := Option.bind_eq_some_iff.mp hF
    obtain ⟨⟨r61, h61⟩, e61, hF⟩ := Option.bind_eq_some_iff.mp hF
    try dsimp only at hF
    refine q_callV [] [] rfl d_X11_pairs_61 v_X11_276 (by omega) rfl (Nat.le_of_ble_eq_true rfl) (rc_rc g61 (by decide) rfl) (R_X7_countPairs _ _ (by omega) e61) ?_
    refine q_istoren [.ref x0, .int x1, .int x2, .int (r61)] d_X11_pairs_64 (by decide) rfl ?_
    refine g_iloadn d_X11_pairs_65 rfl ?_
    refine g_if_ne 73 d_X11_pairs_66 rfl (fun c66 => ?_) (fun c66 => ?_)
    · have hF := x_t hF c66
      refine g_aloadn d_X11_pairs_73 rfl ?_
      obtain ⟨v74, e74, hF⟩ := Option.bind_eq_some_iff.mp hF
      refine q_fR d_X11_pairs_74 f_X11_64 e74 ?_
      refine g_iloadn d_X11_pairs_77 rfl ?_
      refine g_bi (10) d_X11_pairs_78 bi_10 ?_
      refine g_isub d_X11_pairs_80 ?_
      obtain ⟨_, g81, hF⟩ := Option.bind_eq_some_iff.mp hF
      obtain ⟨⟨r81, h81⟩, e81, hF⟩ := Option.bind_eq_some_iff.mp hF
      try dsimp only at hF
      refine q_callV [.int (x2 - 10)] [] rfl d_X11_pairs_81 v_X11_279 (by omega) rfl (Nat.le_of_ble_eq_true rfl) (rc_rc g81 (by decide) rfl) (R_X7_partnerOf _ _ _ (by omega) e81) ?_
      obtain ⟨rfl, rfl⟩ := x_inj hF
      exact g_iret d_X11_pairs_84 rfl hq
    · have hF := x_f hF (not_not_intro c66)
      refine g_iloadn d_X11_pairs_69 rfl ?_
      refine g_goto 84 d_X11_pairs_70 rfl ?_
      obtain ⟨rfl, rfl⟩ := x_inj hF
      exact g_iret d_X11_pairs_84 rfl hq
  · have hF := x_f hF (not_not_intro c35)
    refine g_bi (-3) d_X11_pairs_38 bi_m3 ?_
    obtain ⟨rfl, rfl⟩ := x_inj hF
    exact g_iret d_X11_pairs_40 rfl hq
def F_X11_pairs (x0 : Nat) (x1 : Int32) (x2 : Int32) (h : xH) : Option (Int32 × xH) := if x2 = 0 then F_X11_pairs_b27 x0 x1 x2 h else if x2 < ((10 : Int32)) then some ((-2), h) else (fR h x0 10 1).bind fun v11 => (rc h v11 9).bind fun _ => (F_X10_hasPerson v11 (x2 - 10) h).bind fun z18 => if ¬ z18.1 = 0 then F_X11_pairs_b27 x0 x1 x2 z18.2 else some ((-2), z18.2)
theorem R_X11_pairs {Γ : xG} {l : Launch} {d : Nat} {r : Int32} {h' : xH} (x0 : Nat) (x1 : Int32) (x2 : Int32) (h : xH) (hdp : 7 ≤ d) (hF : F_X11_pairs x0 x1 x2 h = some (r, h')) : Gm Γ l d 0 0 m_X11_pairs [.ref x0, .int x1, .int x2] h (fun a u => a = some (.int r) ∧ u = h') := by
  refine Gm.of pn_X11 (Nat.le_of_ble_eq_true rfl) ?_
  show Gd Γ l d m_X11_pairs 0 [.ref x0, .int x1, .int x2, xhole] [] h 0 0 _
  generalize hQ : (fun (a : Option Value) (u : xH) => a = some (.int r) ∧ u = h') = Q
  have hq : Q (some (.int r)) h' := by rw [← hQ]; exact ⟨rfl, rfl⟩
  clear hQ
  unfold F_X11_pairs at hF
  refine g_iloadn d_X11_pairs_0 rfl ?_
  refine g_if_eq 27 d_X11_pairs_1 rfl (fun c1 => ?_) (fun c1 => ?_)
  · have hF := x_t hF c1
    exact q_to (xs_r (xs_r (xs_r (xs_h xs_n)))) (R_X11_pairs_b27 hdp hq _ _ _ _ hF)
  · have hF := x_f hF c1
    refine g_iloadn d_X11_pairs_4 rfl ?_
    refine g_bi (10) d_X11_pairs_5 bi_10 ?_
    refine g_icmp_lt 24 d_X11_pairs_7 rfl (fun c7 => ?_) (fun c7 => ?_)
    · have hF := x_t hF c7
      refine g_bi (-2) d_X11_pairs_24 bi_m2 ?_
      obtain ⟨rfl, rfl⟩ := x_inj hF
      exact g_iret d_X11_pairs_26 rfl hq
    · have hF := x_f hF c7
      refine g_aloadn d_X11_pairs_10 rfl ?_
      obtain ⟨v11, e11, hF⟩ := Option.bind_eq_some_iff.mp hF
      refine q_fR d_X11_pairs_11 f_X11_19 e11 ?_
      refine g_iloadn d_X11_pairs_14 rfl ?_
      refine g_bi (10) d_X11_pairs_15 bi_10 ?_
      refine g_isub d_X11_pairs_17 ?_
      obtain ⟨_, g18, hF⟩ := Option.bind_eq_some_iff.mp hF
      obtain ⟨⟨r18, h18⟩, e18, hF⟩ := Option.bind_eq_some_iff.mp hF
      try dsimp only at hF
      refine q_callV [.int (x2 - 10)] [] rfl d_X11_pairs_18 v_X11_117 (by omega) rfl (Nat.le_of_ble_eq_true rfl) (rc_rc g18 (by decide) rfl) (R_X10_hasPerson _ _ _ (by omega) e18) ?_
      refine g_if_ne 27 d_X11_pairs_21 rfl (fun c21 => ?_) (fun c21 => ?_)
      · have hF := x_t hF c21
        exact q_to (xs_r (xs_r (xs_r (xs_h xs_n)))) (R_X11_pairs_b27 hdp hq _ _ _ _ hF)
      · have hF := x_f hF (not_not_intro c21)
        refine g_bi (-2) d_X11_pairs_24 bi_m2 ?_
        obtain ⟨rfl, rfl⟩ := x_inj hF
        exact g_iret d_X11_pairs_26 rfl hq
theorem d_X11_longest_0 : decode cX11_longest 0 = .ok (.aload_n 0, 1) := by decide +kernel
theorem d_X11_longest_1 : decode cX11_longest 1 = .ok (.getfield 19, 3) := by decide +kernel
theorem d_X11_longest_4 : decode cX11_longest 4 = .ok (.iload_n 1, 1) := by decide +kernel
theorem d_X11_longest_5 : decode cX11_longest 5 = .ok (.invokevirtual 169, 3) := by decide +kernel
theorem d_X11_longest_8 : decode cX11_longest 8 = .ok (.ifCond .ne 6, 3) := by decide +kernel
theorem d_X11_longest_11 : decode cX11_longest 11 = .ok (.bipush (-3), 2) := by decide +kernel
theorem d_X11_longest_13 : decode cX11_longest 13 = .ok (.ireturn, 1) := by decide +kernel
theorem d_X11_longest_14 : decode cX11_longest 14 = .ok (.aload_n 0, 1) := by decide +kernel
theorem d_X11_longest_15 : decode cX11_longest 15 = .ok (.getfield 71, 3) := by decide +kernel
theorem d_X11_longest_18 : decode cX11_longest 18 = .ok (.aload_n 0, 1) := by decide +kernel
theorem d_X11_longest_19 : decode cX11_longest 19 = .ok (.getfield 19, 3) := by decide +kernel
theorem d_X11_longest_22 : decode cX11_longest 22 = .ok (.aload_n 0, 1) := by decide +kernel
theorem d_X11_longest_23 : decode cX11_longest 23 = .ok (.getfield 19, 3) := by decide +kernel
theorem d_X11_longest_26 : decode cX11_longest 26 = .ok (.aload_n 0, 1) := by decide +kernel
theorem d_X11_longest_27 : decode cX11_longest 27 = .ok (.getfield 26, 3) := by decide +kernel
theorem d_X11_longest_30 : decode cX11_longest 30 = .ok (.iload_n 1, 1) := by decide +kernel
theorem d_X11_longest_31 : decode cX11_longest 31 = .ok (.invokevirtual 172, 3) := by decide +kernel
theorem d_X11_longest_34 : decode cX11_longest 34 = .ok (.invokevirtual 282, 3) := by decide +kernel
theorem d_X11_longest_37 : decode cX11_longest 37 = .ok (.aload_n 0, 1) := by decide +kernel
theorem d_X11_longest_38 : decode cX11_longest 38 = .ok (.getfield 71, 3) := by decide +kernel
theorem d_X11_longest_41 : decode cX11_longest 41 = .ok (.getfield 286, 3) := by decide +kernel
theorem d_X11_longest_44 : decode cX11_longest 44 = .ok (.ireturn, 1) := by decide +kernel
def F_X11_longest (x0 : Nat) (x1 : Int32) (h : xH) : Option (Int32 × xH) := (fR h x0 10 1).bind fun v1 => (rc h v1 9).bind fun _ => (F_X10_isPeople v1 x1 h).bind fun z5 => if ¬ z5.1 = 0 then (fR z5.2 x0 10 10).bind fun v15 => (fR z5.2 x0 10 1).bind fun v19 => (fR z5.2 x0 10 1).bind fun v23 => (fR z5.2 x0 10 2).bind fun v27 => (rc z5.2 v23 9).bind fun _ => (F_X10_heardByAll v23 v27 x1 z5.2).bind fun z31 => (rc z31.2 v15 4).bind fun _ => (F_X5_findLongest v15 v19 z31.1 z31.2).bind fun z34 => (fR z34.2 x0 10 10).bind fun v38 => (fI z34.2 v38 4 1).bind fun v41 => some (v41, z34.2) else some ((-3), z5.2)
theorem R_X11_longest {Γ : xG} {l : Launch} {d : Nat} {r : Int32} {h' : xH} (x0 : Nat) (x1 : Int32) (h : xH) (hdp : 7 ≤ d) (hF : F_X11_longest x0 x1 h = some (r, h')) : Gm Γ l d 0 0 m_X11_longest [.ref x0, .int x1] h (fun a u => a = some (.int r) ∧ u = h') := by
  refine Gm.of pn_X11 (Nat.le_of_ble_eq_true rfl) ?_
  show Gd Γ l d m_X11_longest 0 [.ref x0, .int x1] [] h 0 0 _
  generalize hQ : (fun (a : Option Value) (u : xH) => a = some (.int r) ∧ u = h') = Q
  have hq : Q (some (.int r)) h' := by rw [← hQ]; exact ⟨rfl, rfl⟩
  clear hQ
  unfold F_X11_longest at hF
  refine g_aloadn d_X11_longest_0 rfl ?_
  obtain ⟨v1, e1, hF⟩ := Option.bind_eq_some_iff.mp hF
  refine q_fR d_X11_longest_1 f_X11_19 e1 ?_
  refine g_iloadn d_X11_longest_4 rfl ?_
  obtain ⟨_, g5, hF⟩ := Option.bind_eq_some_iff.mp hF
  obtain ⟨⟨r5, h5⟩, e5, hF⟩ := Option.bind_eq_some_iff.mp hF
  try dsimp only at hF
  refine q_callV [.int x1] [] rfl d_X11_longest_5 v_X11_169 (by omega) rfl (Nat.le_of_ble_eq_true rfl) (rc_rc g5 (by decide) rfl) (R_X10_isPeople _ _ _ (by omega) e5) ?_
  refine g_if_ne 14 d_X11_longest_8 rfl (fun c8 => ?_) (fun c8 => ?_)
  · have hF := x_t hF c8
    refine g_aloadn d_X11_longest_14 rfl ?_
    obtain ⟨v15, e15, hF⟩ := Option.bind_eq_some_iff.mp hF
    refine q_fR d_X11_longest_15 f_X11_71 e15 ?_
    refine g_aloadn d_X11_longest_18 rfl ?_
    obtain ⟨v19, e19, hF⟩ := Option.bind_eq_some_iff.mp hF
    refine q_fR d_X11_longest_19 f_X11_19 e19 ?_
    refine g_aloadn d_X11_longest_22 rfl ?_
    obtain ⟨v23, e23, hF⟩ := Option.bind_eq_some_iff.mp hF
    refine q_fR d_X11_longest_23 f_X11_19 e23 ?_
    refine g_aloadn d_X11_longest_26 rfl ?_
    obtain ⟨v27, e27, hF⟩ := Option.bind_eq_some_iff.mp hF
    refine q_fR d_X11_longest_27 f_X11_26 e27 ?_
    refine g_iloadn d_X11_longest_30 rfl ?_
    obtain ⟨_, g31, hF⟩ := Option.bind_eq_some_iff.mp hF
    obtain ⟨⟨r31, h31⟩, e31, hF⟩ := Option.bind_eq_some_iff.mp hF
    try dsimp only at hF
    refine q_callV [.ref v27, .int x1] [.ref v19, .ref v15] rfl d_X11_longest_31 v_X11_172 (by omega) rfl (Nat.le_of_ble_eq_true rfl) (rc_rc g31 (by decide) rfl) (R_X10_heardByAll _ _ _ _ (by omega) e31) ?_
    obtain ⟨_, g34, hF⟩ := Option.bind_eq_some_iff.mp hF
    obtain ⟨⟨r34, h34⟩, e34, hF⟩ := Option.bind_eq_some_iff.mp hF
    try dsimp only at hF
    refine q_callV [.ref v19, .int (r31)] [] rfl d_X11_longest_34 v_X11_282 (by omega) rfl (Nat.le_of_ble_eq_true rfl) (rc_rc g34 (by decide) rfl) (R_X5_findLongest _ _ _ _ (by omega) e34) ?_
    refine g_aloadn d_X11_longest_37 rfl ?_
    obtain ⟨v38, e38, hF⟩ := Option.bind_eq_some_iff.mp hF
    refine q_fR d_X11_longest_38 f_X11_71 e38 ?_
    obtain ⟨v41, e41, hF⟩ := Option.bind_eq_some_iff.mp hF
    refine q_fI d_X11_longest_41 f_X11_286 e41 ?_
    obtain ⟨rfl, rfl⟩ := x_inj hF
    exact g_iret d_X11_longest_44 rfl hq
  · have hF := x_f hF (not_not_intro c8)
    refine g_bi (-3) d_X11_longest_11 bi_m3 ?_
    obtain ⟨rfl, rfl⟩ := x_inj hF
    exact g_iret d_X11_longest_13 rfl hq
theorem d_X11_longNote_0 : decode cX11_longNote 0 = .ok (.aload_n 0, 1) := by decide +kernel
theorem d_X11_longNote_1 : decode cX11_longNote 1 = .ok (.getfield 19, 3) := by decide +kernel
theorem d_X11_longNote_4 : decode cX11_longNote 4 = .ok (.iload_n 1, 1) := by decide +kernel
theorem d_X11_longNote_5 : decode cX11_longNote 5 = .ok (.invokevirtual 169, 3) := by decide +kernel
theorem d_X11_longNote_8 : decode cX11_longNote 8 = .ok (.ifCond .eq 7, 3) := by decide +kernel
theorem d_X11_longNote_11 : decode cX11_longNote 11 = .ok (.iload_n 2, 1) := by decide +kernel
theorem d_X11_longNote_12 : decode cX11_longNote 12 = .ok (.ifCond .ge 6, 3) := by decide +kernel
theorem d_X11_longNote_15 : decode cX11_longNote 15 = .ok (.bipush (-3), 2) := by decide +kernel
theorem d_X11_longNote_17 : decode cX11_longNote 17 = .ok (.ireturn, 1) := by decide +kernel
theorem d_X11_longNote_18 : decode cX11_longNote 18 = .ok (.aload_n 0, 1) := by decide +kernel
theorem d_X11_longNote_19 : decode cX11_longNote 19 = .ok (.getfield 71, 3) := by decide +kernel
theorem d_X11_longNote_22 : decode cX11_longNote 22 = .ok (.aload_n 0, 1) := by decide +kernel
theorem d_X11_longNote_23 : decode cX11_longNote 23 = .ok (.getfield 19, 3) := by decide +kernel
theorem d_X11_longNote_26 : decode cX11_longNote 26 = .ok (.aload_n 0, 1) := by decide +kernel
theorem d_X11_longNote_27 : decode cX11_longNote 27 = .ok (.getfield 19, 3) := by decide +kernel
theorem d_X11_longNote_30 : decode cX11_longNote 30 = .ok (.aload_n 0, 1) := by decide +kernel
theorem d_X11_longNote_31 : decode cX11_longNote 31 = .ok (.getfield 26, 3) := by decide +kernel
theorem d_X11_longNote_34 : decode cX11_longNote 34 = .ok (.iload_n 1, 1) := by decide +kernel
theorem d_X11_longNote_35 : decode cX11_longNote 35 = .ok (.invokevirtual 172, 3) := by decide +kernel
theorem d_X11_longNote_38 : decode cX11_longNote 38 = .ok (.invokevirtual 282, 3) := by decide +kernel
theorem d_X11_longNote_41 : decode cX11_longNote 41 = .ok (.aload_n 0, 1) := by decide +kernel
theorem d_X11_longNote_42 : decode cX11_longNote 42 = .ok (.getfield 71, 3) := by decide +kernel
theorem d_X11_longNote_45 : decode cX11_longNote 45 = .ok (.iload_n 2, 1) := by decide +kernel
theorem d_X11_longNote_46 : decode cX11_longNote 46 = .ok (.invokevirtual 289, 3) := by decide +kernel
theorem d_X11_longNote_49 : decode cX11_longNote 49 = .ok (.ireturn, 1) := by decide +kernel
def F_X11_longNote (x0 : Nat) (x1 : Int32) (x2 : Int32) (h : xH) : Option (Int32 × xH) := (fR h x0 10 1).bind fun v1 => (rc h v1 9).bind fun _ => (F_X10_isPeople v1 x1 h).bind fun z5 => if z5.1 = 0 then some ((-3), z5.2) else if 0 ≤ x2 then (fR z5.2 x0 10 10).bind fun v19 => (fR z5.2 x0 10 1).bind fun v23 => (fR z5.2 x0 10 1).bind fun v27 => (fR z5.2 x0 10 2).bind fun v31 => (rc z5.2 v27 9).bind fun _ => (F_X10_heardByAll v27 v31 x1 z5.2).bind fun z35 => (rc z35.2 v19 4).bind fun _ => (F_X5_findLongest v19 v23 z35.1 z35.2).bind fun z38 => (fR z38.2 x0 10 10).bind fun v42 => (rc z38.2 v42 4).bind fun _ => (F_X5_noteAt v42 x2 z38.2).bind fun z46 => some (z46.1, z46.2) else some ((-3), z5.2)
theorem R_X11_longNote {Γ : xG} {l : Launch} {d : Nat} {r : Int32} {h' : xH} (x0 : Nat) (x1 : Int32) (x2 : Int32) (h : xH) (hdp : 7 ≤ d) (hF : F_X11_longNote x0 x1 x2 h = some (r, h')) : Gm Γ l d 0 0 m_X11_longNote [.ref x0, .int x1, .int x2] h (fun a u => a = some (.int r) ∧ u = h') := by
  refine Gm.of pn_X11 (Nat.le_of_ble_eq_true rfl) ?_
  show Gd Γ l d m_X11_longNote 0 [.ref x0, .int x1, .int x2] [] h 0 0 _
  generalize hQ : (fun (a : Option Value) (u : xH) => a = some (.int r) ∧ u = h') = Q
  have hq : Q (some (.int r)) h' := by rw [← hQ]; exact ⟨rfl, rfl⟩
  clear hQ
  unfold F_X11_longNote at hF
  refine g_aloadn d_X11_longNote_0 rfl ?_
  obtain ⟨v1, e1, hF⟩ := Option.bind_eq_some_iff.mp hF
  refine q_fR d_X11_longNote_1 f_X11_19 e1 ?_
  refine g_iloadn d_X11_longNote_4 rfl ?_
  obtain ⟨_, g5, hF⟩ := Option.bind_eq_some_iff.mp hF
  obtain ⟨⟨r5, h5⟩, e5, hF⟩ := Option.bind_eq_some_iff.mp hF
  try dsimp only at hF
  refine q_callV [.int x1] [] rfl d_X11_longNote_5 v_X11_169 (by omega) rfl (Nat.le_of_ble_eq_true rfl) (rc_rc g5 (by decide) rfl) (R_X10_isPeople _ _ _ (by omega) e5) ?_
  refine g_if_eq 15 d_X11_longNote_8 rfl (fun c8 => ?_) (fun c8 => ?_)
  · have hF := x_t hF c8
    refine g_bi (-3) d_X11_longNote_15 bi_m3 ?_
    obtain ⟨rfl, rfl⟩ := x_inj hF
    exact g_iret d_X11_longNote_17 rfl hq
  · have hF := x_f hF c8
    refine g_iloadn d_X11_longNote_11 rfl ?_
    refine g_if_ge 18 d_X11_longNote_12 rfl (fun c12 => ?_) (fun c12 => ?_)
    · have hF := x_t hF c12
      refine g_aloadn d_X11_longNote_18 rfl ?_
      obtain ⟨v19, e19, hF⟩ := Option.bind_eq_some_iff.mp hF
      refine q_fR d_X11_longNote_19 f_X11_71 e19 ?_
      refine g_aloadn d_X11_longNote_22 rfl ?_
      obtain ⟨v23, e23, hF⟩ := Option.bind_eq_some_iff.mp hF
      refine q_fR d_X11_longNote_23 f_X11_19 e23 ?_
      refine g_aloadn d_X11_longNote_26 rfl ?_
      obtain ⟨v27, e27, hF⟩ := Option.bind_eq_some_iff.mp hF
      refine q_fR d_X11_longNote_27 f_X11_19 e27 ?_
      refine g_aloadn d_X11_longNote_30 rfl ?_
      obtain ⟨v31, e31, hF⟩ := Option.bind_eq_some_iff.mp hF
      refine q_fR d_X11_longNote_31 f_X11_26 e31 ?_
      refine g_iloadn d_X11_longNote_34 rfl ?_
      obtain ⟨_, g35, hF⟩ := Option.bind_eq_some_iff.mp hF
      obtain ⟨⟨r35, h35⟩, e35, hF⟩ := Option.bind_eq_some_iff.mp hF
      try dsimp only at hF
      refine q_callV [.ref v31, .int x1] [.ref v23, .ref v19] rfl d_X11_longNote_35 v_X11_172 (by omega) rfl (Nat.le_of_ble_eq_true rfl) (rc_rc g35 (by decide) rfl) (R_X10_heardByAll _ _ _ _ (by omega) e35) ?_
      obtain ⟨_, g38, hF⟩ := Option.bind_eq_some_iff.mp hF
      obtain ⟨⟨r38, h38⟩, e38, hF⟩ := Option.bind_eq_some_iff.mp hF
      try dsimp only at hF
      refine q_callV [.ref v23, .int (r35)] [] rfl d_X11_longNote_38 v_X11_282 (by omega) rfl (Nat.le_of_ble_eq_true rfl) (rc_rc g38 (by decide) rfl) (R_X5_findLongest _ _ _ _ (by omega) e38) ?_
      refine g_aloadn d_X11_longNote_41 rfl ?_
      obtain ⟨v42, e42, hF⟩ := Option.bind_eq_some_iff.mp hF
      refine q_fR d_X11_longNote_42 f_X11_71 e42 ?_
      refine g_iloadn d_X11_longNote_45 rfl ?_
      obtain ⟨_, g46, hF⟩ := Option.bind_eq_some_iff.mp hF
      obtain ⟨⟨r46, h46⟩, e46, hF⟩ := Option.bind_eq_some_iff.mp hF
      try dsimp only at hF
      refine q_callV [.int x2] [] rfl d_X11_longNote_46 v_X11_289 (by omega) rfl (Nat.le_of_ble_eq_true rfl) (rc_rc g46 (by decide) rfl) (R_X5_noteAt _ _ _ (by omega) e46) ?_
      obtain ⟨rfl, rfl⟩ := x_inj hF
      exact g_iret d_X11_longNote_49 rfl hq
    · have hF := x_f hF c12
      refine g_bi (-3) d_X11_longNote_15 bi_m3 ?_
      obtain ⟨rfl, rfl⟩ := x_inj hF
      exact g_iret d_X11_longNote_17 rfl hq
theorem d_X11_tunes_0 : decode cX11_tunes 0 = .ok (.aload_n 0, 1) := by decide +kernel
theorem d_X11_tunes_1 : decode cX11_tunes 1 = .ok (.getfield 19, 3) := by decide +kernel
theorem d_X11_tunes_4 : decode cX11_tunes 4 = .ok (.iload_n 1, 1) := by decide +kernel
theorem d_X11_tunes_5 : decode cX11_tunes 5 = .ok (.invokevirtual 169, 3) := by decide +kernel
theorem d_X11_tunes_8 : decode cX11_tunes 8 = .ok (.ifCond .eq 14, 3) := by decide +kernel
theorem d_X11_tunes_11 : decode cX11_tunes 11 = .ok (.iload_n 2, 1) := by decide +kernel
theorem d_X11_tunes_12 : decode cX11_tunes 12 = .ok (.iconst 1, 1) := by decide +kernel
theorem d_X11_tunes_13 : decode cX11_tunes 13 = .ok (.if_icmp .lt 9, 3) := by decide +kernel
theorem d_X11_tunes_16 : decode cX11_tunes 16 = .ok (.iload_n 2, 1) := by decide +kernel
theorem d_X11_tunes_17 : decode cX11_tunes 17 = .ok (.bipush 15, 2) := by decide +kernel
theorem d_X11_tunes_19 : decode cX11_tunes 19 = .ok (.if_icmp .le 7, 3) := by decide +kernel
theorem d_X11_tunes_22 : decode cX11_tunes 22 = .ok (.ldc2_w 296, 3) := by decide +kernel
theorem d_X11_tunes_25 : decode cX11_tunes 25 = .ok (.lreturn, 1) := by decide +kernel
theorem d_X11_tunes_26 : decode cX11_tunes 26 = .ok (.aload_n 0, 1) := by decide +kernel
theorem d_X11_tunes_27 : decode cX11_tunes 27 = .ok (.getfield 71, 3) := by decide +kernel
theorem d_X11_tunes_30 : decode cX11_tunes 30 = .ok (.aload_n 0, 1) := by decide +kernel
theorem d_X11_tunes_31 : decode cX11_tunes 31 = .ok (.getfield 19, 3) := by decide +kernel
theorem d_X11_tunes_34 : decode cX11_tunes 34 = .ok (.aload_n 0, 1) := by decide +kernel
theorem d_X11_tunes_35 : decode cX11_tunes 35 = .ok (.getfield 19, 3) := by decide +kernel
theorem d_X11_tunes_38 : decode cX11_tunes 38 = .ok (.aload_n 0, 1) := by decide +kernel
theorem d_X11_tunes_39 : decode cX11_tunes 39 = .ok (.getfield 26, 3) := by decide +kernel
theorem d_X11_tunes_42 : decode cX11_tunes 42 = .ok (.iload_n 1, 1) := by decide +kernel
theorem d_X11_tunes_43 : decode cX11_tunes 43 = .ok (.invokevirtual 172, 3) := by decide +kernel
theorem d_X11_tunes_46 : decode cX11_tunes 46 = .ok (.iload_n 2, 1) := by decide +kernel
theorem d_X11_tunes_47 : decode cX11_tunes 47 = .ok (.invokevirtual 298, 3) := by decide +kernel
theorem d_X11_tunes_50 : decode cX11_tunes 50 = .ok (.lreturn, 1) := by decide +kernel
def F_X11_tunes (x0 : Nat) (x1 : Int32) (x2 : Int32) (h : xH) : Option (Int64 × xH) := (fR h x0 10 1).bind fun v1 => (rc h v1 9).bind fun _ => (F_X10_isPeople v1 x1 h).bind fun z5 => if z5.1 = 0 then some ((-3), z5.2) else if x2 < ((1 : Int32)) then some ((-3), z5.2) else if x2 ≤ ((15 : Int32)) then (fR z5.2 x0 10 10).bind fun v27 => (fR z5.2 x0 10 1).bind fun v31 => (fR z5.2 x0 10 1).bind fun v35 => (fR z5.2 x0 10 2).bind fun v39 => (rc z5.2 v35 9).bind fun _ => (F_X10_heardByAll v35 v39 x1 z5.2).bind fun z43 => (rc z43.2 v27 4).bind fun _ => (F_X5_countOf v27 v31 z43.1 x2 z43.2).bind fun z47 => some (z47.1, z47.2) else some ((-3), z5.2)
theorem R_X11_tunes {Γ : xG} {l : Launch} {d : Nat} {r : Int64} {h' : xH} (x0 : Nat) (x1 : Int32) (x2 : Int32) (h : xH) (hdp : 7 ≤ d) (hF : F_X11_tunes x0 x1 x2 h = some (r, h')) : Gm Γ l d 0 0 m_X11_tunes [.ref x0, .int x1, .int x2] h (fun a u => a = some (.long r) ∧ u = h') := by
  refine Gm.of pn_X11 (Nat.le_of_ble_eq_true rfl) ?_
  show Gd Γ l d m_X11_tunes 0 [.ref x0, .int x1, .int x2] [] h 0 0 _
  generalize hQ : (fun (a : Option Value) (u : xH) => a = some (.long r) ∧ u = h') = Q
  have hq : Q (some (.long r)) h' := by rw [← hQ]; exact ⟨rfl, rfl⟩
  clear hQ
  unfold F_X11_tunes at hF
  refine g_aloadn d_X11_tunes_0 rfl ?_
  obtain ⟨v1, e1, hF⟩ := Option.bind_eq_some_iff.mp hF
  refine q_fR d_X11_tunes_1 f_X11_19 e1 ?_
  refine g_iloadn d_X11_tunes_4 rfl ?_
  obtain ⟨_, g5, hF⟩ := Option.bind_eq_some_iff.mp hF
  obtain ⟨⟨r5, h5⟩, e5, hF⟩ := Option.bind_eq_some_iff.mp hF
  try dsimp only at hF
  refine q_callV [.int x1] [] rfl d_X11_tunes_5 v_X11_169 (by omega) rfl (Nat.le_of_ble_eq_true rfl) (rc_rc g5 (by decide) rfl) (R_X10_isPeople _ _ _ (by omega) e5) ?_
  refine g_if_eq 22 d_X11_tunes_8 rfl (fun c8 => ?_) (fun c8 => ?_)
  · have hF := x_t hF c8
    refine g_ldc2 d_X11_tunes_22 k_X11_296 ?_
    obtain ⟨rfl, rfl⟩ := x_inj hF
    exact g_lret d_X11_tunes_25 rfl hq
  · have hF := x_f hF c8
    refine g_iloadn d_X11_tunes_11 rfl ?_
    refine g_ic (1) d_X11_tunes_12 ic_1 ?_
    refine g_icmp_lt 22 d_X11_tunes_13 rfl (fun c13 => ?_) (fun c13 => ?_)
    · have hF := x_t hF c13
      refine g_ldc2 d_X11_tunes_22 k_X11_296 ?_
      obtain ⟨rfl, rfl⟩ := x_inj hF
      exact g_lret d_X11_tunes_25 rfl hq
    · have hF := x_f hF c13
      refine g_iloadn d_X11_tunes_16 rfl ?_
      refine g_bi (15) d_X11_tunes_17 bi_15 ?_
      refine g_icmp_le 26 d_X11_tunes_19 rfl (fun c19 => ?_) (fun c19 => ?_)
      · have hF := x_t hF c19
        refine g_aloadn d_X11_tunes_26 rfl ?_
        obtain ⟨v27, e27, hF⟩ := Option.bind_eq_some_iff.mp hF
        refine q_fR d_X11_tunes_27 f_X11_71 e27 ?_
        refine g_aloadn d_X11_tunes_30 rfl ?_
        obtain ⟨v31, e31, hF⟩ := Option.bind_eq_some_iff.mp hF
        refine q_fR d_X11_tunes_31 f_X11_19 e31 ?_
        refine g_aloadn d_X11_tunes_34 rfl ?_
        obtain ⟨v35, e35, hF⟩ := Option.bind_eq_some_iff.mp hF
        refine q_fR d_X11_tunes_35 f_X11_19 e35 ?_
        refine g_aloadn d_X11_tunes_38 rfl ?_
        obtain ⟨v39, e39, hF⟩ := Option.bind_eq_some_iff.mp hF
        refine q_fR d_X11_tunes_39 f_X11_26 e39 ?_
        refine g_iloadn d_X11_tunes_42 rfl ?_
        obtain ⟨_, g43, hF⟩ := Option.bind_eq_some_iff.mp hF
        obtain ⟨⟨r43, h43⟩, e43, hF⟩ := Option.bind_eq_some_iff.mp hF
        try dsimp only at hF
        refine q_callV [.ref v39, .int x1] [.ref v31, .ref v27] rfl d_X11_tunes_43 v_X11_172 (by omega) rfl (Nat.le_of_ble_eq_true rfl) (rc_rc g43 (by decide) rfl) (R_X10_heardByAll _ _ _ _ (by omega) e43) ?_
        refine g_iloadn d_X11_tunes_46 rfl ?_
        obtain ⟨_, g47, hF⟩ := Option.bind_eq_some_iff.mp hF
        obtain ⟨⟨r47, h47⟩, e47, hF⟩ := Option.bind_eq_some_iff.mp hF
        try dsimp only at hF
        refine q_callV [.ref v31, .int (r43), .int x2] [] rfl d_X11_tunes_47 v_X11_298 (by omega) rfl (Nat.le_of_ble_eq_true rfl) (rc_rc g47 (by decide) rfl) (R_X5_countOf _ _ _ _ _ (by omega) e47) ?_
        obtain ⟨rfl, rfl⟩ := x_inj hF
        exact g_lret d_X11_tunes_50 rfl hq
      · have hF := x_f hF c19
        refine g_ldc2 d_X11_tunes_22 k_X11_296 ?_
        obtain ⟨rfl, rfl⟩ := x_inj hF
        exact g_lret d_X11_tunes_25 rfl hq
theorem d_X11_finds_0 : decode cX11_finds 0 = .ok (.aload_n 0, 1) := by decide +kernel
theorem d_X11_finds_1 : decode cX11_finds 1 = .ok (.getfield 19, 3) := by decide +kernel
theorem d_X11_finds_4 : decode cX11_finds 4 = .ok (.iload_n 1, 1) := by decide +kernel
theorem d_X11_finds_5 : decode cX11_finds 5 = .ok (.invokevirtual 117, 3) := by decide +kernel
theorem d_X11_finds_8 : decode cX11_finds 8 = .ok (.ifCond .eq 22, 3) := by decide +kernel
theorem d_X11_finds_11 : decode cX11_finds 11 = .ok (.aload_n 0, 1) := by decide +kernel
theorem d_X11_finds_12 : decode cX11_finds 12 = .ok (.getfield 78, 3) := by decide +kernel
theorem d_X11_finds_15 : decode cX11_finds 15 = .ok (.aload_n 0, 1) := by decide +kernel
theorem d_X11_finds_16 : decode cX11_finds 16 = .ok (.getfield 19, 3) := by decide +kernel
theorem d_X11_finds_19 : decode cX11_finds 19 = .ok (.aload_n 0, 1) := by decide +kernel
theorem d_X11_finds_20 : decode cX11_finds 20 = .ok (.getfield 26, 3) := by decide +kernel
theorem d_X11_finds_23 : decode cX11_finds 23 = .ok (.iload_n 1, 1) := by decide +kernel
theorem d_X11_finds_24 : decode cX11_finds 24 = .ok (.invokevirtual 302, 3) := by decide +kernel
theorem d_X11_finds_27 : decode cX11_finds 27 = .ok (.goto 5, 3) := by decide +kernel
theorem d_X11_finds_30 : decode cX11_finds 30 = .ok (.bipush (-2), 2) := by decide +kernel
theorem d_X11_finds_32 : decode cX11_finds 32 = .ok (.ireturn, 1) := by decide +kernel
def F_X11_finds (x0 : Nat) (x1 : Int32) (h : xH) : Option (Int32 × xH) := (fR h x0 10 1).bind fun v1 => (rc h v1 9).bind fun _ => (F_X10_hasPerson v1 x1 h).bind fun z5 => if z5.1 = 0 then some ((-2), z5.2) else (fR z5.2 x0 10 11).bind fun v12 => (fR z5.2 x0 10 1).bind fun v16 => (fR z5.2 x0 10 2).bind fun v20 => (rc z5.2 v12 0).bind fun _ => (F_X1_soonest v12 v16 v20 x1 z5.2).bind fun z24 => some (z24.1, z24.2)
theorem R_X11_finds {Γ : xG} {l : Launch} {d : Nat} {r : Int32} {h' : xH} (x0 : Nat) (x1 : Int32) (h : xH) (hdp : 3 ≤ d) (hF : F_X11_finds x0 x1 h = some (r, h')) : Gm Γ l d 0 0 m_X11_finds [.ref x0, .int x1] h (fun a u => a = some (.int r) ∧ u = h') := by
  refine Gm.of pn_X11 (Nat.le_of_ble_eq_true rfl) ?_
  show Gd Γ l d m_X11_finds 0 [.ref x0, .int x1] [] h 0 0 _
  generalize hQ : (fun (a : Option Value) (u : xH) => a = some (.int r) ∧ u = h') = Q
  have hq : Q (some (.int r)) h' := by rw [← hQ]; exact ⟨rfl, rfl⟩
  clear hQ
  unfold F_X11_finds at hF
  refine g_aloadn d_X11_finds_0 rfl ?_
  obtain ⟨v1, e1, hF⟩ := Option.bind_eq_some_iff.mp hF
  refine q_fR d_X11_finds_1 f_X11_19 e1 ?_
  refine g_iloadn d_X11_finds_4 rfl ?_
  obtain ⟨_, g5, hF⟩ := Option.bind_eq_some_iff.mp hF
  obtain ⟨⟨r5, h5⟩, e5, hF⟩ := Option.bind_eq_some_iff.mp hF
  try dsimp only at hF
  refine q_callV [.int x1] [] rfl d_X11_finds_5 v_X11_117 (by omega) rfl (Nat.le_of_ble_eq_true rfl) (rc_rc g5 (by decide) rfl) (R_X10_hasPerson _ _ _ (by omega) e5) ?_
  refine g_if_eq 30 d_X11_finds_8 rfl (fun c8 => ?_) (fun c8 => ?_)
  · have hF := x_t hF c8
    refine g_bi (-2) d_X11_finds_30 bi_m2 ?_
    obtain ⟨rfl, rfl⟩ := x_inj hF
    exact g_iret d_X11_finds_32 rfl hq
  · have hF := x_f hF c8
    refine g_aloadn d_X11_finds_11 rfl ?_
    obtain ⟨v12, e12, hF⟩ := Option.bind_eq_some_iff.mp hF
    refine q_fR d_X11_finds_12 f_X11_78 e12 ?_
    refine g_aloadn d_X11_finds_15 rfl ?_
    obtain ⟨v16, e16, hF⟩ := Option.bind_eq_some_iff.mp hF
    refine q_fR d_X11_finds_16 f_X11_19 e16 ?_
    refine g_aloadn d_X11_finds_19 rfl ?_
    obtain ⟨v20, e20, hF⟩ := Option.bind_eq_some_iff.mp hF
    refine q_fR d_X11_finds_20 f_X11_26 e20 ?_
    refine g_iloadn d_X11_finds_23 rfl ?_
    obtain ⟨_, g24, hF⟩ := Option.bind_eq_some_iff.mp hF
    obtain ⟨⟨r24, h24⟩, e24, hF⟩ := Option.bind_eq_some_iff.mp hF
    try dsimp only at hF
    refine q_callV [.ref v16, .ref v20, .int x1] [] rfl d_X11_finds_24 v_X11_302 (by omega) rfl (Nat.le_of_ble_eq_true rfl) (rc_rc g24 (by decide) rfl) (R_X1_soonest _ _ _ _ _ (by omega) e24) ?_
    refine g_goto 32 d_X11_finds_27 rfl ?_
    obtain ⟨rfl, rfl⟩ := x_inj hF
    exact g_iret d_X11_finds_32 rfl hq
theorem d_X11_route_0 : decode cX11_route 0 = .ok (.aload_n 0, 1) := by decide +kernel
theorem d_X11_route_1 : decode cX11_route 1 = .ok (.getfield 19, 3) := by decide +kernel
theorem d_X11_route_4 : decode cX11_route 4 = .ok (.iload_n 1, 1) := by decide +kernel
theorem d_X11_route_5 : decode cX11_route 5 = .ok (.invokevirtual 117, 3) := by decide +kernel
theorem d_X11_route_8 : decode cX11_route 8 = .ok (.ifCond .ne 6, 3) := by decide +kernel
theorem d_X11_route_11 : decode cX11_route 11 = .ok (.bipush (-2), 2) := by decide +kernel
theorem d_X11_route_13 : decode cX11_route 13 = .ok (.ireturn, 1) := by decide +kernel
theorem d_X11_route_14 : decode cX11_route 14 = .ok (.iload_n 2, 1) := by decide +kernel
theorem d_X11_route_15 : decode cX11_route 15 = .ok (.ifCond .ge 8, 3) := by decide +kernel
theorem d_X11_route_18 : decode cX11_route 18 = .ok (.bipush (-3), 2) := by decide +kernel
theorem d_X11_route_20 : decode cX11_route 20 = .ok (.goto 20, 3) := by decide +kernel
theorem d_X11_route_23 : decode cX11_route 23 = .ok (.aload_n 0, 1) := by decide +kernel
theorem d_X11_route_24 : decode cX11_route 24 = .ok (.getfield 78, 3) := by decide +kernel
theorem d_X11_route_27 : decode cX11_route 27 = .ok (.aload_n 0, 1) := by decide +kernel
theorem d_X11_route_28 : decode cX11_route 28 = .ok (.getfield 19, 3) := by decide +kernel
theorem d_X11_route_31 : decode cX11_route 31 = .ok (.aload_n 0, 1) := by decide +kernel
theorem d_X11_route_32 : decode cX11_route 32 = .ok (.getfield 26, 3) := by decide +kernel
theorem d_X11_route_35 : decode cX11_route 35 = .ok (.iload_n 1, 1) := by decide +kernel
theorem d_X11_route_36 : decode cX11_route 36 = .ok (.iload_n 2, 1) := by decide +kernel
theorem d_X11_route_37 : decode cX11_route 37 = .ok (.invokevirtual 306, 3) := by decide +kernel
theorem d_X11_route_40 : decode cX11_route 40 = .ok (.ireturn, 1) := by decide +kernel
def F_X11_route (x0 : Nat) (x1 : Int32) (x2 : Int32) (h : xH) : Option (Int32 × xH) := (fR h x0 10 1).bind fun v1 => (rc h v1 9).bind fun _ => (F_X10_hasPerson v1 x1 h).bind fun z5 => if ¬ z5.1 = 0 then if 0 ≤ x2 then (fR z5.2 x0 10 11).bind fun v24 => (fR z5.2 x0 10 1).bind fun v28 => (fR z5.2 x0 10 2).bind fun v32 => (rc z5.2 v24 0).bind fun _ => (F_X1_placeOnDay v24 v28 v32 x1 x2 z5.2).bind fun z37 => some (z37.1, z37.2) else some ((-3), z5.2) else some ((-2), z5.2)
theorem R_X11_route {Γ : xG} {l : Launch} {d : Nat} {r : Int32} {h' : xH} (x0 : Nat) (x1 : Int32) (x2 : Int32) (h : xH) (hdp : 4 ≤ d) (hF : F_X11_route x0 x1 x2 h = some (r, h')) : Gm Γ l d 0 0 m_X11_route [.ref x0, .int x1, .int x2] h (fun a u => a = some (.int r) ∧ u = h') := by
  refine Gm.of pn_X11 (Nat.le_of_ble_eq_true rfl) ?_
  show Gd Γ l d m_X11_route 0 [.ref x0, .int x1, .int x2] [] h 0 0 _
  generalize hQ : (fun (a : Option Value) (u : xH) => a = some (.int r) ∧ u = h') = Q
  have hq : Q (some (.int r)) h' := by rw [← hQ]; exact ⟨rfl, rfl⟩
  clear hQ
  unfold F_X11_route at hF
  refine g_aloadn d_X11_route_0 rfl ?_
  obtain ⟨v1, e1, hF⟩ := Option.bind_eq_some_iff.mp hF
  refine q_fR d_X11_route_1 f_X11_19 e1 ?_
  refine g_iloadn d_X11_route_4 rfl ?_
  obtain ⟨_, g5, hF⟩ := Option.bind_eq_some_iff.mp hF
  obtain ⟨⟨r5, h5⟩, e5, hF⟩ := Option.bind_eq_some_iff.mp hF
  try dsimp only at hF
  refine q_callV [.int x1] [] rfl d_X11_route_5 v_X11_117 (by omega) rfl (Nat.le_of_ble_eq_true rfl) (rc_rc g5 (by decide) rfl) (R_X10_hasPerson _ _ _ (by omega) e5) ?_
  refine g_if_ne 14 d_X11_route_8 rfl (fun c8 => ?_) (fun c8 => ?_)
  · have hF := x_t hF c8
    refine g_iloadn d_X11_route_14 rfl ?_
    refine g_if_ge 23 d_X11_route_15 rfl (fun c15 => ?_) (fun c15 => ?_)
    · have hF := x_t hF c15
      refine g_aloadn d_X11_route_23 rfl ?_
      obtain ⟨v24, e24, hF⟩ := Option.bind_eq_some_iff.mp hF
      refine q_fR d_X11_route_24 f_X11_78 e24 ?_
      refine g_aloadn d_X11_route_27 rfl ?_
      obtain ⟨v28, e28, hF⟩ := Option.bind_eq_some_iff.mp hF
      refine q_fR d_X11_route_28 f_X11_19 e28 ?_
      refine g_aloadn d_X11_route_31 rfl ?_
      obtain ⟨v32, e32, hF⟩ := Option.bind_eq_some_iff.mp hF
      refine q_fR d_X11_route_32 f_X11_26 e32 ?_
      refine g_iloadn d_X11_route_35 rfl ?_
      refine g_iloadn d_X11_route_36 rfl ?_
      obtain ⟨_, g37, hF⟩ := Option.bind_eq_some_iff.mp hF
      obtain ⟨⟨r37, h37⟩, e37, hF⟩ := Option.bind_eq_some_iff.mp hF
      try dsimp only at hF
      refine q_callV [.ref v28, .ref v32, .int x1, .int x2] [] rfl d_X11_route_37 v_X11_306 (by omega) rfl (Nat.le_of_ble_eq_true rfl) (rc_rc g37 (by decide) rfl) (R_X1_placeOnDay _ _ _ _ _ _ (by omega) e37) ?_
      obtain ⟨rfl, rfl⟩ := x_inj hF
      exact g_iret d_X11_route_40 rfl hq
    · have hF := x_f hF c15
      refine g_bi (-3) d_X11_route_18 bi_m3 ?_
      refine g_goto 40 d_X11_route_20 rfl ?_
      obtain ⟨rfl, rfl⟩ := x_inj hF
      exact g_iret d_X11_route_40 rfl hq
  · have hF := x_f hF (not_not_intro c8)
    refine g_bi (-2) d_X11_route_11 bi_m2 ?_
    obtain ⟨rfl, rfl⟩ := x_inj hF
    exact g_iret d_X11_route_13 rfl hq
theorem d_X11_all_0 : decode cX11_all 0 = .ok (.iconst 0, 1) := by decide +kernel
theorem d_X11_all_1 : decode cX11_all 1 = .ok (.istore_n 1, 1) := by decide +kernel
theorem d_X11_all_2 : decode cX11_all 2 = .ok (.iconst 0, 1) := by decide +kernel
theorem d_X11_all_3 : decode cX11_all 3 = .ok (.istore_n 2, 1) := by decide +kernel
theorem d_X11_all_4 : decode cX11_all 4 = .ok (.iload_n 2, 1) := by decide +kernel
theorem d_X11_all_5 : decode cX11_all 5 = .ok (.aload_n 0, 1) := by decide +kernel
theorem d_X11_all_6 : decode cX11_all 6 = .ok (.getfield 19, 3) := by decide +kernel
theorem d_X11_all_9 : decode cX11_all 9 = .ok (.getfield 148, 3) := by decide +kernel
theorem d_X11_all_12 : decode cX11_all 12 = .ok (.if_icmp .ge 30, 3) := by decide +kernel
theorem d_X11_all_15 : decode cX11_all 15 = .ok (.iload_n 1, 1) := by decide +kernel
theorem d_X11_all_16 : decode cX11_all 16 = .ok (.aload_n 0, 1) := by decide +kernel
theorem d_X11_all_17 : decode cX11_all 17 = .ok (.getfield 78, 3) := by decide +kernel
theorem d_X11_all_20 : decode cX11_all 20 = .ok (.aload_n 0, 1) := by decide +kernel
theorem d_X11_all_21 : decode cX11_all 21 = .ok (.getfield 19, 3) := by decide +kernel
theorem d_X11_all_24 : decode cX11_all 24 = .ok (.aload_n 0, 1) := by decide +kernel
theorem d_X11_all_25 : decode cX11_all 25 = .ok (.getfield 26, 3) := by decide +kernel
theorem d_X11_all_28 : decode cX11_all 28 = .ok (.iload_n 2, 1) := by decide +kernel
theorem d_X11_all_29 : decode cX11_all 29 = .ok (.invokevirtual 302, 3) := by decide +kernel
theorem d_X11_all_32 : decode cX11_all 32 = .ok (.invokestatic 309, 3) := by decide +kernel
theorem d_X11_all_35 : decode cX11_all 35 = .ok (.istore_n 1, 1) := by decide +kernel
theorem d_X11_all_36 : decode cX11_all 36 = .ok (.iinc 2 1, 3) := by decide +kernel
theorem d_X11_all_39 : decode cX11_all 39 = .ok (.goto (-35), 3) := by decide +kernel
theorem d_X11_all_42 : decode cX11_all 42 = .ok (.iload_n 1, 1) := by decide +kernel
theorem d_X11_all_43 : decode cX11_all 43 = .ok (.ireturn, 1) := by decide +kernel
def F_X11_all_b4 : Nat → Nat → Int32 → Int32 → xH → Option (Int32 × xH)
  | 0, _, _, _, _ => none
  | n + 1, x0, x1, x2, h => (fR h x0 10 1).bind fun v6 => (fI h v6 9 4).bind fun v9 => if v9 ≤ x2 then some (x1, h) else (fR h x0 10 11).bind fun v17 => (fR h x0 10 1).bind fun v21 => (fR h x0 10 2).bind fun v25 => (rc h v17 0).bind fun _ => (F_X1_soonest v17 v21 v25 x2 h).bind fun z29 => (F_J9_max_7cf53 x1 z29.1 z29.2).bind fun z32 => F_X11_all_b4 n x0 z32.1 (x2 + 1) z32.2
theorem R_X11_all_b4 {Γ : xG} {l : Launch} {d : Nat} {Q : Option Value → xH → Prop} {r : Int32} {h' : xH} (hdp : 3 ≤ d) (hq : Q (some (.int r)) h') : ∀ (n : Nat) (x0 : Nat) (x1 : Int32) (x2 : Int32) (h : xH), F_X11_all_b4 n x0 x1 x2 h = some (r, h') → Gd Γ l d m_X11_all 4 [.ref x0, .int x1, .int x2] [] h 0 0 Q := by
  intro n
  induction n with
  | zero => intro x0 x1 x2 h hF; cases hF
  | succ n ih =>
  intro x0 x1 x2 h hF
  rw [F_X11_all_b4] at hF
  refine g_iloadn d_X11_all_4 rfl ?_
  refine g_aloadn d_X11_all_5 rfl ?_
  obtain ⟨v6, e6, hF⟩ := Option.bind_eq_some_iff.mp hF
  refine q_fR d_X11_all_6 f_X11_19 e6 ?_
  obtain ⟨v9, e9, hF⟩ := Option.bind_eq_some_iff.mp hF
  refine q_fI d_X11_all_9 f_X11_148 e9 ?_
  refine g_icmp_ge 42 d_X11_all_12 rfl (fun c12 => ?_) (fun c12 => ?_)
  · have hF := x_t hF c12
    refine g_iloadn d_X11_all_42 rfl ?_
    obtain ⟨rfl, rfl⟩ := x_inj hF
    exact g_iret d_X11_all_43 rfl hq
  · have hF := x_f hF c12
    refine g_iloadn d_X11_all_15 rfl ?_
    refine g_aloadn d_X11_all_16 rfl ?_
    obtain ⟨v17, e17, hF⟩ := Option.bind_eq_some_iff.mp hF
    refine q_fR d_X11_all_17 f_X11_78 e17 ?_
    refine g_aloadn d_X11_all_20 rfl ?_
    obtain ⟨v21, e21, hF⟩ := Option.bind_eq_some_iff.mp hF
    refine q_fR d_X11_all_21 f_X11_19 e21 ?_
    refine g_aloadn d_X11_all_24 rfl ?_
    obtain ⟨v25, e25, hF⟩ := Option.bind_eq_some_iff.mp hF
    refine q_fR d_X11_all_25 f_X11_26 e25 ?_
    refine g_iloadn d_X11_all_28 rfl ?_
    obtain ⟨_, g29, hF⟩ := Option.bind_eq_some_iff.mp hF
    obtain ⟨⟨r29, h29⟩, e29, hF⟩ := Option.bind_eq_some_iff.mp hF
    try dsimp only at hF
    refine q_callV [.ref v21, .ref v25, .int x2] [.int x1] rfl d_X11_all_29 v_X11_302 (by omega) rfl (Nat.le_of_ble_eq_true rfl) (rc_rc g29 (by decide) rfl) (R_X1_soonest _ _ _ _ _ (by omega) e29) ?_
    obtain ⟨⟨r32, h32⟩, e32, hF⟩ := Option.bind_eq_some_iff.mp hF
    try dsimp only at hF
    refine q_callS [.int x1, .int (r29)] [] rfl d_X11_all_32 s_X11_309 (by omega) rfl (Nat.le_of_ble_eq_true rfl) (R_J9_max_7cf53 _ _ _ (by omega) e32) ?_
    refine q_istoren [.ref x0, .int (r32), .int x2] d_X11_all_35 (by decide) rfl ?_
    refine q_iinc (1) [.ref x0, .int (r32), .int (x2 + 1)] d_X11_all_36 ic_1 rfl (by decide) rfl ?_
    refine g_goto 4 d_X11_all_39 rfl ?_
    exact q_to (xs_r (xs_r (xs_r xs_n))) (ih _ _ _ _ hF)
def F_X11_all (x0 : Nat) (h : xH) : Option (Int32 × xH) := F_X11_all_b4 FU x0 0 0 h
theorem R_X11_all {Γ : xG} {l : Launch} {d : Nat} {r : Int32} {h' : xH} (x0 : Nat) (h : xH) (hdp : 3 ≤ d) (hF : F_X11_all x0 h = some (r, h')) : Gm Γ l d 0 0 m_X11_all [.ref x0] h (fun a u => a = some (.int r) ∧ u = h') := by
  refine Gm.of pn_X11 (Nat.le_of_ble_eq_true rfl) ?_
  show Gd Γ l d m_X11_all 0 [.ref x0, xhole, xhole] [] h 0 0 _
  generalize hQ : (fun (a : Option Value) (u : xH) => a = some (.int r) ∧ u = h') = Q
  have hq : Q (some (.int r)) h' := by rw [← hQ]; exact ⟨rfl, rfl⟩
  clear hQ
  unfold F_X11_all at hF
  refine g_ic (0) d_X11_all_0 ic_0 ?_
  refine q_istoren [.ref x0, .int 0, xhole] d_X11_all_1 (by decide) rfl ?_
  refine g_ic (0) d_X11_all_2 ic_0 ?_
  refine q_istoren [.ref x0, .int 0, .int 0] d_X11_all_3 (by decide) rfl ?_
  exact q_to (xs_r (xs_r (xs_r xs_n))) (R_X11_all_b4 hdp hq FU _ _ _ _ hF)
theorem d_X11_near_0 : decode cX11_near 0 = .ok (.aload_n 0, 1) := by decide +kernel
theorem d_X11_near_1 : decode cX11_near 1 = .ok (.getfield 19, 3) := by decide +kernel
theorem d_X11_near_4 : decode cX11_near 4 = .ok (.iload_n 1, 1) := by decide +kernel
theorem d_X11_near_5 : decode cX11_near 5 = .ok (.invokevirtual 117, 3) := by decide +kernel
theorem d_X11_near_8 : decode cX11_near 8 = .ok (.ifCond .ne 6, 3) := by decide +kernel
theorem d_X11_near_11 : decode cX11_near 11 = .ok (.bipush (-2), 2) := by decide +kernel
theorem d_X11_near_13 : decode cX11_near 13 = .ok (.ireturn, 1) := by decide +kernel
theorem d_X11_near_14 : decode cX11_near 14 = .ok (.iload_n 2, 1) := by decide +kernel
theorem d_X11_near_15 : decode cX11_near 15 = .ok (.iconst 1, 1) := by decide +kernel
theorem d_X11_near_16 : decode cX11_near 16 = .ok (.if_icmp .lt 9, 3) := by decide +kernel
theorem d_X11_near_19 : decode cX11_near 19 = .ok (.iload_n 2, 1) := by decide +kernel
theorem d_X11_near_20 : decode cX11_near 20 = .ok (.bipush 99, 2) := by decide +kernel
theorem d_X11_near_22 : decode cX11_near 22 = .ok (.if_icmp .le 6, 3) := by decide +kernel
theorem d_X11_near_25 : decode cX11_near 25 = .ok (.bipush (-3), 2) := by decide +kernel
theorem d_X11_near_27 : decode cX11_near 27 = .ok (.ireturn, 1) := by decide +kernel
theorem d_X11_near_28 : decode cX11_near 28 = .ok (.aload_n 0, 1) := by decide +kernel
theorem d_X11_near_29 : decode cX11_near 29 = .ok (.getfield 78, 3) := by decide +kernel
theorem d_X11_near_32 : decode cX11_near 32 = .ok (.aload_n 0, 1) := by decide +kernel
theorem d_X11_near_33 : decode cX11_near 33 = .ok (.getfield 19, 3) := by decide +kernel
theorem d_X11_near_36 : decode cX11_near 36 = .ok (.aload_n 0, 1) := by decide +kernel
theorem d_X11_near_37 : decode cX11_near 37 = .ok (.getfield 26, 3) := by decide +kernel
theorem d_X11_near_40 : decode cX11_near 40 = .ok (.iload_n 1, 1) := by decide +kernel
theorem d_X11_near_41 : decode cX11_near 41 = .ok (.iload_n 2, 1) := by decide +kernel
theorem d_X11_near_42 : decode cX11_near 42 = .ok (.invokevirtual 314, 3) := by decide +kernel
theorem d_X11_near_45 : decode cX11_near 45 = .ok (.ireturn, 1) := by decide +kernel
def F_X11_near (x0 : Nat) (x1 : Int32) (x2 : Int32) (h : xH) : Option (Int32 × xH) := (fR h x0 10 1).bind fun v1 => (rc h v1 9).bind fun _ => (F_X10_hasPerson v1 x1 h).bind fun z5 => if ¬ z5.1 = 0 then if x2 < ((1 : Int32)) then some ((-3), z5.2) else if x2 ≤ ((99 : Int32)) then (fR z5.2 x0 10 11).bind fun v29 => (fR z5.2 x0 10 1).bind fun v33 => (fR z5.2 x0 10 2).bind fun v37 => (rc z5.2 v29 0).bind fun _ => (F_X1_placesWithin v29 v33 v37 x1 x2 z5.2).bind fun z42 => some (z42.1, z42.2) else some ((-3), z5.2) else some ((-2), z5.2)
theorem R_X11_near {Γ : xG} {l : Launch} {d : Nat} {r : Int32} {h' : xH} (x0 : Nat) (x1 : Int32) (x2 : Int32) (h : xH) (hdp : 3 ≤ d) (hF : F_X11_near x0 x1 x2 h = some (r, h')) : Gm Γ l d 0 0 m_X11_near [.ref x0, .int x1, .int x2] h (fun a u => a = some (.int r) ∧ u = h') := by
  refine Gm.of pn_X11 (Nat.le_of_ble_eq_true rfl) ?_
  show Gd Γ l d m_X11_near 0 [.ref x0, .int x1, .int x2] [] h 0 0 _
  generalize hQ : (fun (a : Option Value) (u : xH) => a = some (.int r) ∧ u = h') = Q
  have hq : Q (some (.int r)) h' := by rw [← hQ]; exact ⟨rfl, rfl⟩
  clear hQ
  unfold F_X11_near at hF
  refine g_aloadn d_X11_near_0 rfl ?_
  obtain ⟨v1, e1, hF⟩ := Option.bind_eq_some_iff.mp hF
  refine q_fR d_X11_near_1 f_X11_19 e1 ?_
  refine g_iloadn d_X11_near_4 rfl ?_
  obtain ⟨_, g5, hF⟩ := Option.bind_eq_some_iff.mp hF
  obtain ⟨⟨r5, h5⟩, e5, hF⟩ := Option.bind_eq_some_iff.mp hF
  try dsimp only at hF
  refine q_callV [.int x1] [] rfl d_X11_near_5 v_X11_117 (by omega) rfl (Nat.le_of_ble_eq_true rfl) (rc_rc g5 (by decide) rfl) (R_X10_hasPerson _ _ _ (by omega) e5) ?_
  refine g_if_ne 14 d_X11_near_8 rfl (fun c8 => ?_) (fun c8 => ?_)
  · have hF := x_t hF c8
    refine g_iloadn d_X11_near_14 rfl ?_
    refine g_ic (1) d_X11_near_15 ic_1 ?_
    refine g_icmp_lt 25 d_X11_near_16 rfl (fun c16 => ?_) (fun c16 => ?_)
    · have hF := x_t hF c16
      refine g_bi (-3) d_X11_near_25 bi_m3 ?_
      obtain ⟨rfl, rfl⟩ := x_inj hF
      exact g_iret d_X11_near_27 rfl hq
    · have hF := x_f hF c16
      refine g_iloadn d_X11_near_19 rfl ?_
      refine g_bi (99) d_X11_near_20 bi_99 ?_
      refine g_icmp_le 28 d_X11_near_22 rfl (fun c22 => ?_) (fun c22 => ?_)
      · have hF := x_t hF c22
        refine g_aloadn d_X11_near_28 rfl ?_
        obtain ⟨v29, e29, hF⟩ := Option.bind_eq_some_iff.mp hF
        refine q_fR d_X11_near_29 f_X11_78 e29 ?_
        refine g_aloadn d_X11_near_32 rfl ?_
        obtain ⟨v33, e33, hF⟩ := Option.bind_eq_some_iff.mp hF
        refine q_fR d_X11_near_33 f_X11_19 e33 ?_
        refine g_aloadn d_X11_near_36 rfl ?_
        obtain ⟨v37, e37, hF⟩ := Option.bind_eq_some_iff.mp hF
        refine q_fR d_X11_near_37 f_X11_26 e37 ?_
        refine g_iloadn d_X11_near_40 rfl ?_
        refine g_iloadn d_X11_near_41 rfl ?_
        obtain ⟨_, g42, hF⟩ := Option.bind_eq_some_iff.mp hF
        obtain ⟨⟨r42, h42⟩, e42, hF⟩ := Option.bind_eq_some_iff.mp hF
        try dsimp only at hF
        refine q_callV [.ref v33, .ref v37, .int x1, .int x2] [] rfl d_X11_near_42 v_X11_314 (by omega) rfl (Nat.le_of_ble_eq_true rfl) (rc_rc g42 (by decide) rfl) (R_X1_placesWithin _ _ _ _ _ _ (by omega) e42) ?_
        obtain ⟨rfl, rfl⟩ := x_inj hF
        exact g_iret d_X11_near_45 rfl hq
      · have hF := x_f hF c22
        refine g_bi (-3) d_X11_near_25 bi_m3 ?_
        obtain ⟨rfl, rfl⟩ := x_inj hF
        exact g_iret d_X11_near_27 rfl hq
  · have hF := x_f hF (not_not_intro c8)
    refine g_bi (-2) d_X11_near_11 bi_m2 ?_
    obtain ⟨rfl, rfl⟩ := x_inj hF
    exact g_iret d_X11_near_13 rfl hq
theorem d_X11_chance_0 : decode cX11_chance 0 = .ok (.aload_n 0, 1) := by decide +kernel
theorem d_X11_chance_1 : decode cX11_chance 1 = .ok (.getfield 19, 3) := by decide +kernel
theorem d_X11_chance_4 : decode cX11_chance 4 = .ok (.iload_n 1, 1) := by decide +kernel
theorem d_X11_chance_5 : decode cX11_chance 5 = .ok (.invokevirtual 117, 3) := by decide +kernel
theorem d_X11_chance_8 : decode cX11_chance 8 = .ok (.ifCond .eq 12, 3) := by decide +kernel
theorem d_X11_chance_11 : decode cX11_chance 11 = .ok (.iload_n 3, 1) := by decide +kernel
theorem d_X11_chance_12 : decode cX11_chance 12 = .ok (.ifCond .eq 12, 3) := by decide +kernel
theorem d_X11_chance_15 : decode cX11_chance 15 = .ok (.iload_n 3, 1) := by decide +kernel
theorem d_X11_chance_16 : decode cX11_chance 16 = .ok (.iconst 1, 1) := by decide +kernel
theorem d_X11_chance_17 : decode cX11_chance 17 = .ok (.if_icmp .eq 7, 3) := by decide +kernel
theorem d_X11_chance_20 : decode cX11_chance 20 = .ok (.ldc2_w 317, 3) := by decide +kernel
theorem d_X11_chance_23 : decode cX11_chance 23 = .ok (.lreturn, 1) := by decide +kernel
theorem d_X11_chance_24 : decode cX11_chance 24 = .ok (.iload_n 2, 1) := by decide +kernel
theorem d_X11_chance_25 : decode cX11_chance 25 = .ok (.ifCond .lt 9, 3) := by decide +kernel
theorem d_X11_chance_28 : decode cX11_chance 28 = .ok (.iload_n 2, 1) := by decide +kernel
theorem d_X11_chance_29 : decode cX11_chance 29 = .ok (.bipush 6, 2) := by decide +kernel
theorem d_X11_chance_31 : decode cX11_chance 31 = .ok (.if_icmp .le 7, 3) := by decide +kernel
theorem d_X11_chance_34 : decode cX11_chance 34 = .ok (.ldc2_w 296, 3) := by decide +kernel
theorem d_X11_chance_37 : decode cX11_chance 37 = .ok (.lreturn, 1) := by decide +kernel
theorem d_X11_chance_38 : decode cX11_chance 38 = .ok (.aload_n 0, 1) := by decide +kernel
theorem d_X11_chance_39 : decode cX11_chance 39 = .ok (.getfield 78, 3) := by decide +kernel
theorem d_X11_chance_42 : decode cX11_chance 42 = .ok (.aload_n 0, 1) := by decide +kernel
theorem d_X11_chance_43 : decode cX11_chance 43 = .ok (.getfield 19, 3) := by decide +kernel
theorem d_X11_chance_46 : decode cX11_chance 46 = .ok (.aload_n 0, 1) := by decide +kernel
theorem d_X11_chance_47 : decode cX11_chance 47 = .ok (.getfield 26, 3) := by decide +kernel
theorem d_X11_chance_50 : decode cX11_chance 50 = .ok (.iload_n 1, 1) := by decide +kernel
theorem d_X11_chance_51 : decode cX11_chance 51 = .ok (.iload_n 2, 1) := by decide +kernel
theorem d_X11_chance_52 : decode cX11_chance 52 = .ok (.invokevirtual 319, 3) := by decide +kernel
theorem d_X11_chance_55 : decode cX11_chance 55 = .ok (.lstore 4, 2) := by decide +kernel
theorem d_X11_chance_57 : decode cX11_chance 57 = .ok (.iload_n 2, 1) := by decide +kernel
theorem d_X11_chance_58 : decode cX11_chance 58 = .ok (.invokestatic 323, 3) := by decide +kernel
theorem d_X11_chance_61 : decode cX11_chance 61 = .ok (.lstore 6, 2) := by decide +kernel
theorem d_X11_chance_63 : decode cX11_chance 63 = .ok (.lload 4, 2) := by decide +kernel
theorem d_X11_chance_65 : decode cX11_chance 65 = .ok (.lload 6, 2) := by decide +kernel
theorem d_X11_chance_67 : decode cX11_chance 67 = .ok (.invokestatic 327, 3) := by decide +kernel
theorem d_X11_chance_70 : decode cX11_chance 70 = .ok (.lstore 8, 2) := by decide +kernel
theorem d_X11_chance_72 : decode cX11_chance 72 = .ok (.lload 8, 2) := by decide +kernel
theorem d_X11_chance_74 : decode cX11_chance 74 = .ok (.lconst 1, 1) := by decide +kernel
theorem d_X11_chance_75 : decode cX11_chance 75 = .ok (.lcmp, 1) := by decide +kernel
theorem d_X11_chance_76 : decode cX11_chance 76 = .ok (.ifCond .ge 9, 3) := by decide +kernel
theorem d_X11_chance_79 : decode cX11_chance 79 = .ok (.ldc2_w 331, 3) := by decide +kernel
theorem d_X11_chance_82 : decode cX11_chance 82 = .ok (.goto 17, 3) := by decide +kernel
theorem d_X11_chance_85 : decode cX11_chance 85 = .ok (.iload_n 3, 1) := by decide +kernel
theorem d_X11_chance_86 : decode cX11_chance 86 = .ok (.ifCond .ne 8, 3) := by decide +kernel
theorem d_X11_chance_89 : decode cX11_chance 89 = .ok (.lload 4, 2) := by decide +kernel
theorem d_X11_chance_91 : decode cX11_chance 91 = .ok (.goto 5, 3) := by decide +kernel
theorem d_X11_chance_94 : decode cX11_chance 94 = .ok (.lload 6, 2) := by decide +kernel
theorem d_X11_chance_96 : decode cX11_chance 96 = .ok (.lload 8, 2) := by decide +kernel
theorem d_X11_chance_98 : decode cX11_chance 98 = .ok (.ldiv, 1) := by decide +kernel
theorem d_X11_chance_99 : decode cX11_chance 99 = .ok (.lreturn, 1) := by decide +kernel
def F_X11_chance_b24 (x0 : Nat) (x1 : Int32) (x2 : Int32) (x3 : Int32) (h : xH) : Option (Int64 × xH) := if x2 < 0 then some ((-3), h) else if x2 ≤ ((6 : Int32)) then (fR h x0 10 11).bind fun v39 => (fR h x0 10 1).bind fun v43 => (fR h x0 10 2).bind fun v47 => (rc h v39 0).bind fun _ => (F_X1_partsFound v39 v43 v47 x1 x2 h).bind fun z52 => (F_X1_partsInAll x2 z52.2).bind fun z58 => (F_X1_greatestShared z52.1 z58.1 z58.2).bind fun z67 => if 0 ≤ (lg_cmp z67.1 1) then if ¬ x3 = 0 then if z67.1 = 0 then none else some (ldv z58.1 z67.1, z67.2) else if z67.1 = 0 then none else some (ldv z52.1 z67.1, z67.2) else some ((-1), z67.2) else some ((-3), h)
theorem R_X11_chance_b24 {Γ : xG} {l : Launch} {d : Nat} {Q : Option Value → xH → Prop} {r : Int64} {h' : xH} (hdp : 3 ≤ d) (hq : Q (some (.long r)) h') : ∀ (x0 : Nat) (x1 : Int32) (x2 : Int32) (x3 : Int32) (h : xH), F_X11_chance_b24 x0 x1 x2 x3 h = some (r, h') → Gd Γ l d m_X11_chance 24 [.ref x0, .int x1, .int x2, .int x3, xhole, xhole, xhole, xhole, xhole, xhole] [] h 0 0 Q := by
  intro x0 x1 x2 x3 h hF
  unfold F_X11_chance_b24 at hF
  refine g_iloadn d_X11_chance_24 rfl ?_
  refine g_if_lt 34 d_X11_chance_25 rfl (fun c25 => ?_) (fun c25 => ?_)
  · have hF := x_t hF c25
    refine g_ldc2 d_X11_chance_34 k_X11_296 ?_
    obtain ⟨rfl, rfl⟩ := x_inj hF
    exact g_lret d_X11_chance_37 rfl hq
  · have hF := x_f hF c25
    refine g_iloadn d_X11_chance_28 rfl ?_
    refine g_bi (6) d_X11_chance_29 bi_6 ?_
    refine g_icmp_le 38 d_X11_chance_31 rfl (fun c31 => ?_) (fun c31 => ?_)
    · have hF := x_t hF c31
      refine g_aloadn d_X11_chance_38 rfl ?_
      obtain ⟨v39, e39, hF⟩ := Option.bind_eq_some_iff.mp hF
      refine q_fR d_X11_chance_39 f_X11_78 e39 ?_
      refine g_aloadn d_X11_chance_42 rfl ?_
      obtain ⟨v43, e43, hF⟩ := Option.bind_eq_some_iff.mp hF
      refine q_fR d_X11_chance_43 f_X11_19 e43 ?_
      refine g_aloadn d_X11_chance_46 rfl ?_
      obtain ⟨v47, e47, hF⟩ := Option.bind_eq_some_iff.mp hF
      refine q_fR d_X11_chance_47 f_X11_26 e47 ?_
      refine g_iloadn d_X11_chance_50 rfl ?_
      refine g_iloadn d_X11_chance_51 rfl ?_
      obtain ⟨_, g52, hF⟩ := Option.bind_eq_some_iff.mp hF
      obtain ⟨⟨r52, h52⟩, e52, hF⟩ := Option.bind_eq_some_iff.mp hF
      try dsimp only at hF
      refine q_callV [.ref v43, .ref v47, .int x1, .int x2] [] rfl d_X11_chance_52 v_X11_319 (by omega) rfl (Nat.le_of_ble_eq_true rfl) (rc_rc g52 (by decide) rfl) (R_X1_partsFound _ _ _ _ _ _ (by omega) e52) ?_
      refine q_lstore [.ref x0, .int x1, .int x2, .int x3, .long (r52), xhole, xhole, xhole, xhole, xhole] d_X11_chance_55 (by decide) rfl ?_
      refine g_iloadn d_X11_chance_57 rfl ?_
      obtain ⟨⟨r58, h58⟩, e58, hF⟩ := Option.bind_eq_some_iff.mp hF
      try dsimp only at hF
      refine q_callS [.int x2] [] rfl d_X11_chance_58 s_X11_323 (by omega) rfl (Nat.le_of_ble_eq_true rfl) (R_X1_partsInAll _ _ (by omega) e58) ?_
      refine q_lstore [.ref x0, .int x1, .int x2, .int x3, .long (r52), xhole, .long (r58), xhole, xhole, xhole] d_X11_chance_61 (by decide) rfl ?_
      refine g_lload d_X11_chance_63 rfl ?_
      refine g_lload d_X11_chance_65 rfl ?_
      obtain ⟨⟨r67, h67⟩, e67, hF⟩ := Option.bind_eq_some_iff.mp hF
      try dsimp only at hF
      refine q_callS [.long (r52), .long (r58)] [] rfl d_X11_chance_67 s_X11_327 (by omega) rfl (Nat.le_of_ble_eq_true rfl) (R_X1_greatestShared _ _ _ (by omega) e67) ?_
      refine q_lstore [.ref x0, .int x1, .int x2, .int x3, .long (r52), xhole, .long (r58), xhole, .long (r67), xhole] d_X11_chance_70 (by decide) rfl ?_
      refine g_lload d_X11_chance_72 rfl ?_
      refine g_lc 1 d_X11_chance_74 rfl ?_
      refine g_lcmp d_X11_chance_75 ?_
      refine g_if_ge 85 d_X11_chance_76 rfl (fun c76 => ?_) (fun c76 => ?_)
      · have hF := x_t hF c76
        refine g_iloadn d_X11_chance_85 rfl ?_
        refine g_if_ne 94 d_X11_chance_86 rfl (fun c86 => ?_) (fun c86 => ?_)
        · have hF := x_t hF c86
          refine g_lload d_X11_chance_94 rfl ?_
          refine g_lload d_X11_chance_96 rfl ?_
          rcases x_nz hF with ⟨z98, hF⟩
          refine q_ldiv d_X11_chance_98 z98 ?_
          obtain ⟨rfl, rfl⟩ := x_inj hF
          exact g_lret d_X11_chance_99 rfl hq
        · have hF := x_f hF (not_not_intro c86)
          refine g_lload d_X11_chance_89 rfl ?_
          refine g_goto 96 d_X11_chance_91 rfl ?_
          refine g_lload d_X11_chance_96 rfl ?_
          rcases x_nz hF with ⟨z98, hF⟩
          refine q_ldiv d_X11_chance_98 z98 ?_
          obtain ⟨rfl, rfl⟩ := x_inj hF
          exact g_lret d_X11_chance_99 rfl hq
      · have hF := x_f hF c76
        refine g_ldc2 d_X11_chance_79 k_X11_331 ?_
        refine g_goto 99 d_X11_chance_82 rfl ?_
        obtain ⟨rfl, rfl⟩ := x_inj hF
        exact g_lret d_X11_chance_99 rfl hq
    · have hF := x_f hF c31
      refine g_ldc2 d_X11_chance_34 k_X11_296 ?_
      obtain ⟨rfl, rfl⟩ := x_inj hF
      exact g_lret d_X11_chance_37 rfl hq
def F_X11_chance (x0 : Nat) (x1 : Int32) (x2 : Int32) (x3 : Int32) (h : xH) : Option (Int64 × xH) := (fR h x0 10 1).bind fun v1 => (rc h v1 9).bind fun _ => (F_X10_hasPerson v1 x1 h).bind fun z5 => if z5.1 = 0 then some ((-2), z5.2) else if x3 = 0 then F_X11_chance_b24 x0 x1 x2 x3 z5.2 else if x3 = ((1 : Int32)) then F_X11_chance_b24 x0 x1 x2 x3 z5.2 else some ((-2), z5.2)
theorem R_X11_chance {Γ : xG} {l : Launch} {d : Nat} {r : Int64} {h' : xH} (x0 : Nat) (x1 : Int32) (x2 : Int32) (x3 : Int32) (h : xH) (hdp : 3 ≤ d) (hF : F_X11_chance x0 x1 x2 x3 h = some (r, h')) : Gm Γ l d 0 0 m_X11_chance [.ref x0, .int x1, .int x2, .int x3] h (fun a u => a = some (.long r) ∧ u = h') := by
  refine Gm.of pn_X11 (Nat.le_of_ble_eq_true rfl) ?_
  show Gd Γ l d m_X11_chance 0 [.ref x0, .int x1, .int x2, .int x3, xhole, xhole, xhole, xhole, xhole, xhole] [] h 0 0 _
  generalize hQ : (fun (a : Option Value) (u : xH) => a = some (.long r) ∧ u = h') = Q
  have hq : Q (some (.long r)) h' := by rw [← hQ]; exact ⟨rfl, rfl⟩
  clear hQ
  unfold F_X11_chance at hF
  refine g_aloadn d_X11_chance_0 rfl ?_
  obtain ⟨v1, e1, hF⟩ := Option.bind_eq_some_iff.mp hF
  refine q_fR d_X11_chance_1 f_X11_19 e1 ?_
  refine g_iloadn d_X11_chance_4 rfl ?_
  obtain ⟨_, g5, hF⟩ := Option.bind_eq_some_iff.mp hF
  obtain ⟨⟨r5, h5⟩, e5, hF⟩ := Option.bind_eq_some_iff.mp hF
  try dsimp only at hF
  refine q_callV [.int x1] [] rfl d_X11_chance_5 v_X11_117 (by omega) rfl (Nat.le_of_ble_eq_true rfl) (rc_rc g5 (by decide) rfl) (R_X10_hasPerson _ _ _ (by omega) e5) ?_
  refine g_if_eq 20 d_X11_chance_8 rfl (fun c8 => ?_) (fun c8 => ?_)
  · have hF := x_t hF c8
    refine g_ldc2 d_X11_chance_20 k_X11_317 ?_
    obtain ⟨rfl, rfl⟩ := x_inj hF
    exact g_lret d_X11_chance_23 rfl hq
  · have hF := x_f hF c8
    refine g_iloadn d_X11_chance_11 rfl ?_
    refine g_if_eq 24 d_X11_chance_12 rfl (fun c12 => ?_) (fun c12 => ?_)
    · have hF := x_t hF c12
      exact q_to (xs_r (xs_r (xs_r (xs_r (xs_h (xs_h (xs_h (xs_h (xs_h (xs_h xs_n)))))))))) (R_X11_chance_b24 hdp hq _ _ _ _ _ hF)
    · have hF := x_f hF c12
      refine g_iloadn d_X11_chance_15 rfl ?_
      refine g_ic (1) d_X11_chance_16 ic_1 ?_
      refine g_icmp_eq 24 d_X11_chance_17 rfl (fun c17 => ?_) (fun c17 => ?_)
      · have hF := x_t hF c17
        exact q_to (xs_r (xs_r (xs_r (xs_r (xs_h (xs_h (xs_h (xs_h (xs_h (xs_h xs_n)))))))))) (R_X11_chance_b24 hdp hq _ _ _ _ _ hF)
      · have hF := x_f hF c17
        refine g_ldc2 d_X11_chance_20 k_X11_317 ?_
        obtain ⟨rfl, rfl⟩ := x_inj hF
        exact g_lret d_X11_chance_23 rfl hq
theorem d_X11_likeliest_0 : decode cX11_likeliest 0 = .ok (.iload_n 1, 1) := by decide +kernel
theorem d_X11_likeliest_1 : decode cX11_likeliest 1 = .ok (.ifCond .lt 9, 3) := by decide +kernel
theorem d_X11_likeliest_4 : decode cX11_likeliest 4 = .ok (.iload_n 1, 1) := by decide +kernel
theorem d_X11_likeliest_5 : decode cX11_likeliest 5 = .ok (.bipush 6, 2) := by decide +kernel
theorem d_X11_likeliest_7 : decode cX11_likeliest 7 = .ok (.if_icmp .le 6, 3) := by decide +kernel
theorem d_X11_likeliest_10 : decode cX11_likeliest 10 = .ok (.bipush (-3), 2) := by decide +kernel
theorem d_X11_likeliest_12 : decode cX11_likeliest 12 = .ok (.ireturn, 1) := by decide +kernel
theorem d_X11_likeliest_13 : decode cX11_likeliest 13 = .ok (.iconst (-1), 1) := by decide +kernel
theorem d_X11_likeliest_14 : decode cX11_likeliest 14 = .ok (.istore_n 2, 1) := by decide +kernel
theorem d_X11_likeliest_15 : decode cX11_likeliest 15 = .ok (.ldc2_w 331, 3) := by decide +kernel
theorem d_X11_likeliest_18 : decode cX11_likeliest 18 = .ok (.lstore_n 3, 1) := by decide +kernel
theorem d_X11_likeliest_19 : decode cX11_likeliest 19 = .ok (.iconst 0, 1) := by decide +kernel
theorem d_X11_likeliest_20 : decode cX11_likeliest 20 = .ok (.istore 5, 2) := by decide +kernel
theorem d_X11_likeliest_22 : decode cX11_likeliest 22 = .ok (.iload 5, 2) := by decide +kernel
theorem d_X11_likeliest_24 : decode cX11_likeliest 24 = .ok (.aload_n 0, 1) := by decide +kernel
theorem d_X11_likeliest_25 : decode cX11_likeliest 25 = .ok (.getfield 19, 3) := by decide +kernel
theorem d_X11_likeliest_28 : decode cX11_likeliest 28 = .ok (.getfield 148, 3) := by decide +kernel
theorem d_X11_likeliest_31 : decode cX11_likeliest 31 = .ok (.if_icmp .ge 60, 3) := by decide +kernel
theorem d_X11_likeliest_34 : decode cX11_likeliest 34 = .ok (.aload_n 0, 1) := by decide +kernel
theorem d_X11_likeliest_35 : decode cX11_likeliest 35 = .ok (.getfield 26, 3) := by decide +kernel
theorem d_X11_likeliest_38 : decode cX11_likeliest 38 = .ok (.iload 5, 2) := by decide +kernel
theorem d_X11_likeliest_40 : decode cX11_likeliest 40 = .ok (.invokevirtual 333, 3) := by decide +kernel
theorem d_X11_likeliest_43 : decode cX11_likeliest 43 = .ok (.ifCond .eq 9, 3) := by decide +kernel
theorem d_X11_likeliest_46 : decode cX11_likeliest 46 = .ok (.ldc2_w 331, 3) := by decide +kernel
theorem d_X11_likeliest_49 : decode cX11_likeliest 49 = .ok (.goto 21, 3) := by decide +kernel
theorem d_X11_likeliest_52 : decode cX11_likeliest 52 = .ok (.aload_n 0, 1) := by decide +kernel
theorem d_X11_likeliest_53 : decode cX11_likeliest 53 = .ok (.getfield 78, 3) := by decide +kernel
theorem d_X11_likeliest_56 : decode cX11_likeliest 56 = .ok (.aload_n 0, 1) := by decide +kernel
theorem d_X11_likeliest_57 : decode cX11_likeliest 57 = .ok (.getfield 19, 3) := by decide +kernel
theorem d_X11_likeliest_60 : decode cX11_likeliest 60 = .ok (.aload_n 0, 1) := by decide +kernel
theorem d_X11_likeliest_61 : decode cX11_likeliest 61 = .ok (.getfield 26, 3) := by decide +kernel
theorem d_X11_likeliest_64 : decode cX11_likeliest 64 = .ok (.iload 5, 2) := by decide +kernel
theorem d_X11_likeliest_66 : decode cX11_likeliest 66 = .ok (.iload_n 1, 1) := by decide +kernel
theorem d_X11_likeliest_67 : decode cX11_likeliest 67 = .ok (.invokevirtual 319, 3) := by decide +kernel
theorem d_X11_likeliest_70 : decode cX11_likeliest 70 = .ok (.lstore 6, 2) := by decide +kernel
theorem d_X11_likeliest_72 : decode cX11_likeliest 72 = .ok (.lload 6, 2) := by decide +kernel
theorem d_X11_likeliest_74 : decode cX11_likeliest 74 = .ok (.lload_n 3, 1) := by decide +kernel
theorem d_X11_likeliest_75 : decode cX11_likeliest 75 = .ok (.lcmp, 1) := by decide +kernel
theorem d_X11_likeliest_76 : decode cX11_likeliest 76 = .ok (.ifCond .le 9, 3) := by decide +kernel
theorem d_X11_likeliest_79 : decode cX11_likeliest 79 = .ok (.lload 6, 2) := by decide +kernel
theorem d_X11_likeliest_81 : decode cX11_likeliest 81 = .ok (.lstore_n 3, 1) := by decide +kernel
theorem d_X11_likeliest_82 : decode cX11_likeliest 82 = .ok (.iload 5, 2) := by decide +kernel
theorem d_X11_likeliest_84 : decode cX11_likeliest 84 = .ok (.istore_n 2, 1) := by decide +kernel
theorem d_X11_likeliest_85 : decode cX11_likeliest 85 = .ok (.iinc 5 1, 3) := by decide +kernel
theorem d_X11_likeliest_88 : decode cX11_likeliest 88 = .ok (.goto (-66), 3) := by decide +kernel
theorem d_X11_likeliest_91 : decode cX11_likeliest 91 = .ok (.iload_n 2, 1) := by decide +kernel
theorem d_X11_likeliest_92 : decode cX11_likeliest 92 = .ok (.ireturn, 1) := by decide +kernel
def F_X11_likeliest_b70 (k22 : Nat → Int32 → Int32 → Int64 → Int32 → xH → Option (Int32 × xH)) (x0 : Nat) (x1 : Int32) (x2 : Int32) (x3 : Int64) (x5 : Int32) (s0 : Int64) (h : xH) : Option (Int32 × xH) := if (lg_cmp s0 x3) ≤ 0 then k22 x0 x1 x2 x3 (x5 + 1) h else k22 x0 x1 x5 s0 (x5 + 1) h
theorem R_X11_likeliest_b70 {Γ : xG} {l : Launch} {d : Nat} {Q : Option Value → xH → Prop} {r : Int32} {h' : xH} {k22 : Nat → Int32 → Int32 → Int64 → Int32 → xH → Option (Int32 × xH)} (K22 : ∀ (x0 : Nat) (x1 : Int32) (x2 : Int32) (x3 : Int64) (x5 : Int32)  (h : xH), k22 x0 x1 x2 x3 x5 h = some (r, h') → Gd Γ l d m_X11_likeliest 22 [.ref x0, .int x1, .int x2, .long x3, xhole, .int x5, xhole, xhole] [] h 0 0 Q) (hdp : 3 ≤ d) (hq : Q (some (.int r)) h') : ∀ (x0 : Nat) (x1 : Int32) (x2 : Int32) (x3 : Int64) (x5 : Int32) (s0 : Int64) (h : xH), F_X11_likeliest_b70 k22 x0 x1 x2 x3 x5 s0 h = some (r, h') → Gd Γ l d m_X11_likeliest 70 [.ref x0, .int x1, .int x2, .long x3, xhole, .int x5, xhole, xhole] [.long s0] h 0 0 Q := by
  intro x0 x1 x2 x3 x5 s0 h hF
  unfold F_X11_likeliest_b70 at hF
  refine q_lstore [.ref x0, .int x1, .int x2, .long x3, xhole, .int x5, .long s0, xhole] d_X11_likeliest_70 (by decide) rfl ?_
  refine g_lload d_X11_likeliest_72 rfl ?_
  refine g_lloadn d_X11_likeliest_74 rfl ?_
  refine g_lcmp d_X11_likeliest_75 ?_
  refine g_if_le 85 d_X11_likeliest_76 rfl (fun c76 => ?_) (fun c76 => ?_)
  · have hF := x_t hF c76
    refine q_iinc (1) [.ref x0, .int x1, .int x2, .long x3, xhole, .int (x5 + 1), .long s0, xhole] d_X11_likeliest_85 ic_1 rfl (by decide) rfl ?_
    refine g_goto 22 d_X11_likeliest_88 rfl ?_
    exact q_to (xs_r (xs_r (xs_r (xs_r (xs_h (xs_r (xs_h (xs_h xs_n)))))))) (K22 _ _ _ _ _ _ hF)
  · have hF := x_f hF c76
    refine g_lload d_X11_likeliest_79 rfl ?_
    refine q_lstoren [.ref x0, .int x1, .int x2, .long s0, xhole, .int x5, .long s0, xhole] d_X11_likeliest_81 (by decide) rfl ?_
    refine g_iload d_X11_likeliest_82 rfl ?_
    refine q_istoren [.ref x0, .int x1, .int x5, .long s0, xhole, .int x5, .long s0, xhole] d_X11_likeliest_84 (by decide) rfl ?_
    refine q_iinc (1) [.ref x0, .int x1, .int x5, .long s0, xhole, .int (x5 + 1), .long s0, xhole] d_X11_likeliest_85 ic_1 rfl (by decide) rfl ?_
    refine g_goto 22 d_X11_likeliest_88 rfl ?_
    exact q_to (xs_r (xs_r (xs_r (xs_r (xs_h (xs_r (xs_h (xs_h xs_n)))))))) (K22 _ _ _ _ _ _ hF)
def F_X11_likeliest_b22 : Nat → Nat → Int32 → Int32 → Int64 → Int32 → xH → Option (Int32 × xH)
  | 0, _, _, _, _, _, _ => none
  | n + 1, x0, x1, x2, x3, x5, h => (fR h x0 10 1).bind fun v25 => (fI h v25 9 4).bind fun v28 => if v28 ≤ x5 then some (x2, h) else (fR h x0 10 2).bind fun v35 => (rc h v35 5).bind fun _ => (F_X6_hasFound v35 x5 h).bind fun z40 => if z40.1 = 0 then (fR z40.2 x0 10 11).bind fun v53 => (fR z40.2 x0 10 1).bind fun v57 => (fR z40.2 x0 10 2).bind fun v61 => (rc z40.2 v53 0).bind fun _ => (F_X1_partsFound v53 v57 v61 x5 x1 z40.2).bind fun z67 => F_X11_likeliest_b70 (F_X11_likeliest_b22 n) x0 x1 x2 x3 x5 z67.1 z67.2 else F_X11_likeliest_b70 (F_X11_likeliest_b22 n) x0 x1 x2 x3 x5 ((-1)) z40.2
theorem R_X11_likeliest_b22 {Γ : xG} {l : Launch} {d : Nat} {Q : Option Value → xH → Prop} {r : Int32} {h' : xH} (hdp : 3 ≤ d) (hq : Q (some (.int r)) h') : ∀ (n : Nat) (x0 : Nat) (x1 : Int32) (x2 : Int32) (x3 : Int64) (x5 : Int32) (h : xH), F_X11_likeliest_b22 n x0 x1 x2 x3 x5 h = some (r, h') → Gd Γ l d m_X11_likeliest 22 [.ref x0, .int x1, .int x2, .long x3, xhole, .int x5, xhole, xhole] [] h 0 0 Q := by
  intro n
  induction n with
  | zero => intro x0 x1 x2 x3 x5 h hF; cases hF
  | succ n ih =>
  intro x0 x1 x2 x3 x5 h hF
  rw [F_X11_likeliest_b22] at hF
  refine g_iload d_X11_likeliest_22 rfl ?_
  refine g_aloadn d_X11_likeliest_24 rfl ?_
  obtain ⟨v25, e25, hF⟩ := Option.bind_eq_some_iff.mp hF
  refine q_fR d_X11_likeliest_25 f_X11_19 e25 ?_
  obtain ⟨v28, e28, hF⟩ := Option.bind_eq_some_iff.mp hF
  refine q_fI d_X11_likeliest_28 f_X11_148 e28 ?_
  refine g_icmp_ge 91 d_X11_likeliest_31 rfl (fun c31 => ?_) (fun c31 => ?_)
  · have hF := x_t hF c31
    refine g_iloadn d_X11_likeliest_91 rfl ?_
    obtain ⟨rfl, rfl⟩ := x_inj hF
    exact g_iret d_X11_likeliest_92 rfl hq
  · have hF := x_f hF c31
    refine g_aloadn d_X11_likeliest_34 rfl ?_
    obtain ⟨v35, e35, hF⟩ := Option.bind_eq_some_iff.mp hF
    refine q_fR d_X11_likeliest_35 f_X11_26 e35 ?_
    refine g_iload d_X11_likeliest_38 rfl ?_
    obtain ⟨_, g40, hF⟩ := Option.bind_eq_some_iff.mp hF
    obtain ⟨⟨r40, h40⟩, e40, hF⟩ := Option.bind_eq_some_iff.mp hF
    try dsimp only at hF
    refine q_callV [.int x5] [] rfl d_X11_likeliest_40 v_X11_333 (by omega) rfl (Nat.le_of_ble_eq_true rfl) (rc_rc g40 (by decide) rfl) (R_X6_hasFound _ _ _ (by omega) e40) ?_
    refine g_if_eq 52 d_X11_likeliest_43 rfl (fun c43 => ?_) (fun c43 => ?_)
    · have hF := x_t hF c43
      refine g_aloadn d_X11_likeliest_52 rfl ?_
      obtain ⟨v53, e53, hF⟩ := Option.bind_eq_some_iff.mp hF
      refine q_fR d_X11_likeliest_53 f_X11_78 e53 ?_
      refine g_aloadn d_X11_likeliest_56 rfl ?_
      obtain ⟨v57, e57, hF⟩ := Option.bind_eq_some_iff.mp hF
      refine q_fR d_X11_likeliest_57 f_X11_19 e57 ?_
      refine g_aloadn d_X11_likeliest_60 rfl ?_
      obtain ⟨v61, e61, hF⟩ := Option.bind_eq_some_iff.mp hF
      refine q_fR d_X11_likeliest_61 f_X11_26 e61 ?_
      refine g_iload d_X11_likeliest_64 rfl ?_
      refine g_iloadn d_X11_likeliest_66 rfl ?_
      obtain ⟨_, g67, hF⟩ := Option.bind_eq_some_iff.mp hF
      obtain ⟨⟨r67, h67⟩, e67, hF⟩ := Option.bind_eq_some_iff.mp hF
      try dsimp only at hF
      refine q_callV [.ref v57, .ref v61, .int x5, .int x1] [] rfl d_X11_likeliest_67 v_X11_319 (by omega) rfl (Nat.le_of_ble_eq_true rfl) (rc_rc g67 (by decide) rfl) (R_X1_partsFound _ _ _ _ _ _ (by omega) e67) ?_
      exact q_to (xs_r (xs_r (xs_r (xs_r (xs_h (xs_r (xs_h (xs_h xs_n)))))))) (R_X11_likeliest_b70 ih hdp hq _ _ _ _ _ _ _ hF)
    · have hF := x_f hF c43
      refine g_ldc2 d_X11_likeliest_46 k_X11_331 ?_
      refine g_goto 70 d_X11_likeliest_49 rfl ?_
      exact q_to (xs_r (xs_r (xs_r (xs_r (xs_h (xs_r (xs_h (xs_h xs_n)))))))) (R_X11_likeliest_b70 ih hdp hq _ _ _ _ _ _ _ hF)
def F_X11_likeliest (x0 : Nat) (x1 : Int32) (h : xH) : Option (Int32 × xH) := if x1 < 0 then some ((-3), h) else if x1 ≤ ((6 : Int32)) then F_X11_likeliest_b22 FU x0 x1 ((-1)) ((-1)) 0 h else some ((-3), h)
theorem R_X11_likeliest {Γ : xG} {l : Launch} {d : Nat} {r : Int32} {h' : xH} (x0 : Nat) (x1 : Int32) (h : xH) (hdp : 3 ≤ d) (hF : F_X11_likeliest x0 x1 h = some (r, h')) : Gm Γ l d 0 0 m_X11_likeliest [.ref x0, .int x1] h (fun a u => a = some (.int r) ∧ u = h') := by
  refine Gm.of pn_X11 (Nat.le_of_ble_eq_true rfl) ?_
  show Gd Γ l d m_X11_likeliest 0 [.ref x0, .int x1, xhole, xhole, xhole, xhole, xhole, xhole] [] h 0 0 _
  generalize hQ : (fun (a : Option Value) (u : xH) => a = some (.int r) ∧ u = h') = Q
  have hq : Q (some (.int r)) h' := by rw [← hQ]; exact ⟨rfl, rfl⟩
  clear hQ
  unfold F_X11_likeliest at hF
  refine g_iloadn d_X11_likeliest_0 rfl ?_
  refine g_if_lt 10 d_X11_likeliest_1 rfl (fun c1 => ?_) (fun c1 => ?_)
  · have hF := x_t hF c1
    refine g_bi (-3) d_X11_likeliest_10 bi_m3 ?_
    obtain ⟨rfl, rfl⟩ := x_inj hF
    exact g_iret d_X11_likeliest_12 rfl hq
  · have hF := x_f hF c1
    refine g_iloadn d_X11_likeliest_4 rfl ?_
    refine g_bi (6) d_X11_likeliest_5 bi_6 ?_
    refine g_icmp_le 13 d_X11_likeliest_7 rfl (fun c7 => ?_) (fun c7 => ?_)
    · have hF := x_t hF c7
      refine g_ic (-1) d_X11_likeliest_13 ic_m1 ?_
      refine q_istoren [.ref x0, .int x1, .int ((-1)), xhole, xhole, xhole, xhole, xhole] d_X11_likeliest_14 (by decide) rfl ?_
      refine g_ldc2 d_X11_likeliest_15 k_X11_331 ?_
      refine q_lstoren [.ref x0, .int x1, .int ((-1)), .long ((-1)), xhole, xhole, xhole, xhole] d_X11_likeliest_18 (by decide) rfl ?_
      refine g_ic (0) d_X11_likeliest_19 ic_0 ?_
      refine q_istore [.ref x0, .int x1, .int ((-1)), .long ((-1)), xhole, .int 0, xhole, xhole] d_X11_likeliest_20 (by decide) rfl ?_
      exact q_to (xs_r (xs_r (xs_r (xs_r (xs_h (xs_r (xs_h (xs_h xs_n)))))))) (R_X11_likeliest_b22 hdp hq FU _ _ _ _ _ _ hF)
    · have hF := x_f hF c7
      refine g_bi (-3) d_X11_likeliest_10 bi_m3 ?_
      obtain ⟨rfl, rfl⟩ := x_inj hF
      exact g_iret d_X11_likeliest_12 rfl hq
theorem d_X11_numbers_0 : decode cX11_numbers 0 = .ok (.aload_n 0, 1) := by decide +kernel
theorem d_X11_numbers_1 : decode cX11_numbers 1 = .ok (.iload_n 1, 1) := by decide +kernel
theorem d_X11_numbers_2 : decode cX11_numbers 2 = .ok (.invokevirtual 210, 3) := by decide +kernel
theorem d_X11_numbers_5 : decode cX11_numbers 5 = .ok (.astore 4, 2) := by decide +kernel
theorem d_X11_numbers_7 : decode cX11_numbers 7 = .ok (.aload 4, 2) := by decide +kernel
theorem d_X11_numbers_9 : decode cX11_numbers 9 = .ok (.ifnull 12, 3) := by decide +kernel
theorem d_X11_numbers_12 : decode cX11_numbers 12 = .ok (.iload_n 2, 1) := by decide +kernel
theorem d_X11_numbers_13 : decode cX11_numbers 13 = .ok (.ifCond .lt 8, 3) := by decide +kernel
theorem d_X11_numbers_16 : decode cX11_numbers 16 = .ok (.iload_n 2, 1) := by decide +kernel
theorem d_X11_numbers_17 : decode cX11_numbers 17 = .ok (.iconst 4, 1) := by decide +kernel
theorem d_X11_numbers_18 : decode cX11_numbers 18 = .ok (.if_icmp .lt 6, 3) := by decide +kernel
theorem d_X11_numbers_21 : decode cX11_numbers 21 = .ok (.bipush (-2), 2) := by decide +kernel
theorem d_X11_numbers_23 : decode cX11_numbers 23 = .ok (.ireturn, 1) := by decide +kernel
theorem d_X11_numbers_24 : decode cX11_numbers 24 = .ok (.iload_n 3, 1) := by decide +kernel
theorem d_X11_numbers_25 : decode cX11_numbers 25 = .ok (.ifCond .lt 9, 3) := by decide +kernel
theorem d_X11_numbers_28 : decode cX11_numbers 28 = .ok (.iload_n 3, 1) := by decide +kernel
theorem d_X11_numbers_29 : decode cX11_numbers 29 = .ok (.bipush 40, 2) := by decide +kernel
theorem d_X11_numbers_31 : decode cX11_numbers 31 = .ok (.if_icmp .le 6, 3) := by decide +kernel
theorem d_X11_numbers_34 : decode cX11_numbers 34 = .ok (.bipush (-3), 2) := by decide +kernel
theorem d_X11_numbers_36 : decode cX11_numbers 36 = .ok (.ireturn, 1) := by decide +kernel
theorem d_X11_numbers_37 : decode cX11_numbers 37 = .ok (.aload 4, 2) := by decide +kernel
theorem d_X11_numbers_39 : decode cX11_numbers 39 = .ok (.iload_n 2, 1) := by decide +kernel
theorem d_X11_numbers_40 : decode cX11_numbers 40 = .ok (.iload_n 3, 1) := by decide +kernel
theorem d_X11_numbers_41 : decode cX11_numbers 41 = .ok (.invokevirtual 336, 3) := by decide +kernel
theorem d_X11_numbers_44 : decode cX11_numbers 44 = .ok (.iconst 0, 1) := by decide +kernel
theorem d_X11_numbers_45 : decode cX11_numbers 45 = .ok (.ireturn, 1) := by decide +kernel
def F_X11_numbers (x0 : Nat) (x1 : Int32) (x2 : Int32) (x3 : Int32) (h : xH) : Option (Int32 × xH) := (rc h x0 10).bind fun _ => (F_X11_trayAt x0 x1 h).bind fun z2 => (match z2.1 with | none => some ((-2), z2.2) | some q9 => if x2 < 0 then some ((-2), z2.2) else if x2 < ((4 : Int32)) then if x3 < 0 then some ((-3), z2.2) else if x3 ≤ ((40 : Int32)) then (rc z2.2 q9 7).bind fun _ => (F_X8_layOut q9 x2 x3 z2.2).bind fun z41 => some (0, z41.2) else some ((-3), z2.2) else some ((-2), z2.2))
theorem R_X11_numbers {Γ : xG} {l : Launch} {d : Nat} {r : Int32} {h' : xH} (x0 : Nat) (x1 : Int32) (x2 : Int32) (x3 : Int32) (h : xH) (hdp : 2 ≤ d) (hF : F_X11_numbers x0 x1 x2 x3 h = some (r, h')) : Gm Γ l d 0 0 m_X11_numbers [.ref x0, .int x1, .int x2, .int x3] h (fun a u => a = some (.int r) ∧ u = h') := by
  refine Gm.of pn_X11 (Nat.le_of_ble_eq_true rfl) ?_
  show Gd Γ l d m_X11_numbers 0 [.ref x0, .int x1, .int x2, .int x3, xhole] [] h 0 0 _
  generalize hQ : (fun (a : Option Value) (u : xH) => a = some (.int r) ∧ u = h') = Q
  have hq : Q (some (.int r)) h' := by rw [← hQ]; exact ⟨rfl, rfl⟩
  clear hQ
  unfold F_X11_numbers at hF
  refine g_aloadn d_X11_numbers_0 rfl ?_
  refine g_iloadn d_X11_numbers_1 rfl ?_
  obtain ⟨_, g2, hF⟩ := Option.bind_eq_some_iff.mp hF
  obtain ⟨⟨r2, h2⟩, e2, hF⟩ := Option.bind_eq_some_iff.mp hF
  try dsimp only at hF
  refine q_callV [.int x1] [] rfl d_X11_numbers_2 v_X11_210 (by omega) rfl (Nat.le_of_ble_eq_true rfl) (rc_rc g2 (by decide) rfl) (R_X11_trayAt _ _ _ (by omega) e2) ?_
  refine q_astoreQ [.ref x0, .int x1, .int x2, .int x3, va_rf (r2)] d_X11_numbers_5 (by decide) rfl ?_
  refine q_aloadQ d_X11_numbers_7 rfl ?_
  cases r2 with
  | none =>
    try dsimp only at hF
    refine g_ifnullN 21 d_X11_numbers_9 rfl ?_
    refine g_bi (-2) d_X11_numbers_21 bi_m2 ?_
    obtain ⟨rfl, rfl⟩ := x_inj hF
    exact g_iret d_X11_numbers_23 rfl hq
  | some q9 =>
    try dsimp only at hF
    refine g_ifnull d_X11_numbers_9 ?_
    refine g_iloadn d_X11_numbers_12 rfl ?_
    refine g_if_lt 21 d_X11_numbers_13 rfl (fun c13 => ?_) (fun c13 => ?_)
    · have hF := x_t hF c13
      refine g_bi (-2) d_X11_numbers_21 bi_m2 ?_
      obtain ⟨rfl, rfl⟩ := x_inj hF
      exact g_iret d_X11_numbers_23 rfl hq
    · have hF := x_f hF c13
      refine g_iloadn d_X11_numbers_16 rfl ?_
      refine g_ic (4) d_X11_numbers_17 ic_4 ?_
      refine g_icmp_lt 24 d_X11_numbers_18 rfl (fun c18 => ?_) (fun c18 => ?_)
      · have hF := x_t hF c18
        refine g_iloadn d_X11_numbers_24 rfl ?_
        refine g_if_lt 34 d_X11_numbers_25 rfl (fun c25 => ?_) (fun c25 => ?_)
        · have hF := x_t hF c25
          refine g_bi (-3) d_X11_numbers_34 bi_m3 ?_
          obtain ⟨rfl, rfl⟩ := x_inj hF
          exact g_iret d_X11_numbers_36 rfl hq
        · have hF := x_f hF c25
          refine g_iloadn d_X11_numbers_28 rfl ?_
          refine g_bi (40) d_X11_numbers_29 bi_40 ?_
          refine g_icmp_le 37 d_X11_numbers_31 rfl (fun c31 => ?_) (fun c31 => ?_)
          · have hF := x_t hF c31
            refine g_aload d_X11_numbers_37 rfl ?_
            refine g_iloadn d_X11_numbers_39 rfl ?_
            refine g_iloadn d_X11_numbers_40 rfl ?_
            obtain ⟨_, g41, hF⟩ := Option.bind_eq_some_iff.mp hF
            obtain ⟨⟨r41, h41⟩, e41, hF⟩ := Option.bind_eq_some_iff.mp hF
            try dsimp only at hF
            refine q_callV [.int x2, .int x3] [] rfl d_X11_numbers_41 v_X11_336 (by omega) rfl (Nat.le_of_ble_eq_true rfl) (rc_rc g41 (by decide) rfl) (R_X8_layOut _ _ _ _ (by omega) e41) ?_
            refine g_ic (0) d_X11_numbers_44 ic_0 ?_
            obtain ⟨rfl, rfl⟩ := x_inj hF
            exact g_iret d_X11_numbers_45 rfl hq
          · have hF := x_f hF c31
            refine g_bi (-3) d_X11_numbers_34 bi_m3 ?_
            obtain ⟨rfl, rfl⟩ := x_inj hF
            exact g_iret d_X11_numbers_36 rfl hq
      · have hF := x_f hF c18
        refine g_bi (-2) d_X11_numbers_21 bi_m2 ?_
        obtain ⟨rfl, rfl⟩ := x_inj hF
        exact g_iret d_X11_numbers_23 rfl hq
