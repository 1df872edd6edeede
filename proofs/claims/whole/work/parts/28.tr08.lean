/-! ===== methods as functions, 8: written by a program out of the listings ===== -/
theorem d_X12_sounds_0 : decode cX12_sounds 0 = .ok (.aload_n 0, 1) := by decide +kernel
theorem d_X12_sounds_1 : decode cX12_sounds 1 = .ok (.iconst 0, 1) := by decide +kernel
theorem d_X12_sounds_2 : decode cX12_sounds 2 = .ok (.putfield 1, 3) := by decide +kernel
theorem d_X12_sounds_5 : decode cX12_sounds 5 = .ok (.aload_n 0, 1) := by decide +kernel
theorem d_X12_sounds_6 : decode cX12_sounds 6 = .ok (.iload_n 1, 1) := by decide +kernel
theorem d_X12_sounds_7 : decode cX12_sounds 7 = .ok (.i2l, 1) := by decide +kernel
theorem d_X12_sounds_8 : decode cX12_sounds 8 = .ok (.invokevirtual 253, 3) := by decide +kernel
theorem d_X12_sounds_11 : decode cX12_sounds 11 = .ok (.ifCond .ne 8, 3) := by decide +kernel
theorem d_X12_sounds_14 : decode cX12_sounds 14 = .ok (.bipush (-2), 2) := by decide +kernel
theorem d_X12_sounds_16 : decode cX12_sounds 16 = .ok (.goto 18, 3) := by decide +kernel
theorem d_X12_sounds_19 : decode cX12_sounds 19 = .ok (.iload_n 2, 1) := by decide +kernel
theorem d_X12_sounds_20 : decode cX12_sounds 20 = .ok (.ifCond .ge 8, 3) := by decide +kernel
theorem d_X12_sounds_23 : decode cX12_sounds 23 = .ok (.bipush (-3), 2) := by decide +kernel
theorem d_X12_sounds_25 : decode cX12_sounds 25 = .ok (.goto 9, 3) := by decide +kernel
theorem d_X12_sounds_28 : decode cX12_sounds 28 = .ok (.aload_n 0, 1) := by decide +kernel
theorem d_X12_sounds_29 : decode cX12_sounds 29 = .ok (.iload_n 1, 1) := by decide +kernel
theorem d_X12_sounds_30 : decode cX12_sounds 30 = .ok (.iload_n 2, 1) := by decide +kernel
theorem d_X12_sounds_31 : decode cX12_sounds 31 = .ok (.invokevirtual 256, 3) := by decide +kernel
theorem d_X12_sounds_34 : decode cX12_sounds 34 = .ok (.ireturn, 1) := by decide +kernel
def F_X12_sounds (x0 : Nat) (x1 : Int32) (x2 : Int32) (h : xH) : Option (Int32 × xH) := (wI h x0 11 0 0).bind fun h2 => (rc h2 x0 11).bind fun _ => (F_X12_isPlace x0 x1.toInt64 h2).bind fun z8 => if ¬ z8.1 = 0 then if 0 ≤ x2 then (rc z8.2 x0 11).bind fun _ => (F_X12_soundOf x0 x1 x2 z8.2).bind fun z31 => some (z31.1, z31.2) else some ((-3), z8.2) else some ((-2), z8.2)
theorem R_X12_sounds {Γ : xG} {l : Launch} {d : Nat} {r : Int32} {h' : xH} (x0 : Nat) (x1 : Int32) (x2 : Int32) (h : xH) (hdp : 2 ≤ d) (hF : F_X12_sounds x0 x1 x2 h = some (r, h')) : Gm Γ l d 0 0 m_X12_sounds [.ref x0, .int x1, .int x2] h (fun a u => a = some (.int r) ∧ u = h') := by
  refine Gm.of pn_X12 (Nat.le_of_ble_eq_true rfl) ?_
  show Gd Γ l d m_X12_sounds 0 [.ref x0, .int x1, .int x2] [] h 0 0 _
  generalize hQ : (fun (a : Option Value) (u : xH) => a = some (.int r) ∧ u = h') = Q
  have hq : Q (some (.int r)) h' := by rw [← hQ]; exact ⟨rfl, rfl⟩
  clear hQ
  unfold F_X12_sounds at hF
  refine g_aloadn d_X12_sounds_0 rfl ?_
  refine g_ic (0) d_X12_sounds_1 ic_0 ?_
  obtain ⟨h2, e2, hF⟩ := Option.bind_eq_some_iff.mp hF
  refine q_wI d_X12_sounds_2 (w_X12_1 _) e2 ?_
  refine g_aloadn d_X12_sounds_5 rfl ?_
  refine g_iloadn d_X12_sounds_6 rfl ?_
  refine g_i2l d_X12_sounds_7 ?_
  obtain ⟨_, g8, hF⟩ := Option.bind_eq_some_iff.mp hF
  obtain ⟨⟨r8, h8⟩, e8, hF⟩ := Option.bind_eq_some_iff.mp hF
  try dsimp only at hF
  refine q_callV [.long (x1.toInt64)] [] rfl d_X12_sounds_8 v_X12_253 (by omega) rfl (Nat.le_of_ble_eq_true rfl) (rc_rc g8 (by decide) rfl) (R_X12_isPlace _ _ _ (by omega) e8) ?_
  refine g_if_ne 19 d_X12_sounds_11 rfl (fun c11 => ?_) (fun c11 => ?_)
  · have hF := x_t hF c11
    refine g_iloadn d_X12_sounds_19 rfl ?_
    refine g_if_ge 28 d_X12_sounds_20 rfl (fun c20 => ?_) (fun c20 => ?_)
    · have hF := x_t hF c20
      refine g_aloadn d_X12_sounds_28 rfl ?_
      refine g_iloadn d_X12_sounds_29 rfl ?_
      refine g_iloadn d_X12_sounds_30 rfl ?_
      obtain ⟨_, g31, hF⟩ := Option.bind_eq_some_iff.mp hF
      obtain ⟨⟨r31, h31⟩, e31, hF⟩ := Option.bind_eq_some_iff.mp hF
      try dsimp only at hF
      refine q_callV [.int x1, .int x2] [] rfl d_X12_sounds_31 v_X12_256 (by omega) rfl (Nat.le_of_ble_eq_true rfl) (rc_rc g31 (by decide) rfl) (R_X12_soundOf _ _ _ _ (by omega) e31) ?_
      obtain ⟨rfl, rfl⟩ := x_inj hF
      exact g_iret d_X12_sounds_34 rfl hq
    · have hF := x_f hF c20
      refine g_bi (-3) d_X12_sounds_23 bi_m3 ?_
      refine g_goto 34 d_X12_sounds_25 rfl ?_
      obtain ⟨rfl, rfl⟩ := x_inj hF
      exact g_iret d_X12_sounds_34 rfl hq
  · have hF := x_f hF (not_not_intro c11)
    refine g_bi (-2) d_X12_sounds_14 bi_m2 ?_
    refine g_goto 34 d_X12_sounds_16 rfl ?_
    obtain ⟨rfl, rfl⟩ := x_inj hF
    exact g_iret d_X12_sounds_34 rfl hq
theorem d_X12_peopleAt_0 : decode cX12_peopleAt 0 = .ok (.iconst 0, 1) := by decide +kernel
theorem d_X12_peopleAt_1 : decode cX12_peopleAt 1 = .ok (.istore_n 2, 1) := by decide +kernel
theorem d_X12_peopleAt_2 : decode cX12_peopleAt 2 = .ok (.iconst 0, 1) := by decide +kernel
theorem d_X12_peopleAt_3 : decode cX12_peopleAt 3 = .ok (.istore_n 3, 1) := by decide +kernel
theorem d_X12_peopleAt_4 : decode cX12_peopleAt 4 = .ok (.iload_n 3, 1) := by decide +kernel
theorem d_X12_peopleAt_5 : decode cX12_peopleAt 5 = .ok (.aload_n 0, 1) := by decide +kernel
theorem d_X12_peopleAt_6 : decode cX12_peopleAt 6 = .ok (.getfield 13, 3) := by decide +kernel
theorem d_X12_peopleAt_9 : decode cX12_peopleAt 9 = .ok (.iconst 4, 1) := by decide +kernel
theorem d_X12_peopleAt_10 : decode cX12_peopleAt 10 = .ok (.iaload, 1) := by decide +kernel
theorem d_X12_peopleAt_11 : decode cX12_peopleAt 11 = .ok (.if_icmp .ge 32, 3) := by decide +kernel
theorem d_X12_peopleAt_14 : decode cX12_peopleAt 14 = .ok (.iload_n 2, 1) := by decide +kernel
theorem d_X12_peopleAt_15 : decode cX12_peopleAt 15 = .ok (.aload_n 0, 1) := by decide +kernel
theorem d_X12_peopleAt_16 : decode cX12_peopleAt 16 = .ok (.getfield 13, 3) := by decide +kernel
theorem d_X12_peopleAt_19 : decode cX12_peopleAt 19 = .ok (.bipush 109, 2) := by decide +kernel
theorem d_X12_peopleAt_21 : decode cX12_peopleAt 21 = .ok (.iload_n 3, 1) := by decide +kernel
theorem d_X12_peopleAt_22 : decode cX12_peopleAt 22 = .ok (.iadd, 1) := by decide +kernel
theorem d_X12_peopleAt_23 : decode cX12_peopleAt 23 = .ok (.iaload, 1) := by decide +kernel
theorem d_X12_peopleAt_24 : decode cX12_peopleAt 24 = .ok (.iload_n 1, 1) := by decide +kernel
theorem d_X12_peopleAt_25 : decode cX12_peopleAt 25 = .ok (.if_icmp .ne 9, 3) := by decide +kernel
theorem d_X12_peopleAt_28 : decode cX12_peopleAt 28 = .ok (.iconst 1, 1) := by decide +kernel
theorem d_X12_peopleAt_29 : decode cX12_peopleAt 29 = .ok (.iload_n 3, 1) := by decide +kernel
theorem d_X12_peopleAt_30 : decode cX12_peopleAt 30 = .ok (.ishl, 1) := by decide +kernel
theorem d_X12_peopleAt_31 : decode cX12_peopleAt 31 = .ok (.goto 4, 3) := by decide +kernel
theorem d_X12_peopleAt_34 : decode cX12_peopleAt 34 = .ok (.iconst 0, 1) := by decide +kernel
theorem d_X12_peopleAt_35 : decode cX12_peopleAt 35 = .ok (.ior, 1) := by decide +kernel
theorem d_X12_peopleAt_36 : decode cX12_peopleAt 36 = .ok (.istore_n 2, 1) := by decide +kernel
theorem d_X12_peopleAt_37 : decode cX12_peopleAt 37 = .ok (.iinc 3 1, 3) := by decide +kernel
theorem d_X12_peopleAt_40 : decode cX12_peopleAt 40 = .ok (.goto (-36), 3) := by decide +kernel
theorem d_X12_peopleAt_43 : decode cX12_peopleAt 43 = .ok (.iload_n 2, 1) := by decide +kernel
theorem d_X12_peopleAt_44 : decode cX12_peopleAt 44 = .ok (.ireturn, 1) := by decide +kernel
def F_X12_peopleAt_b35 (k4 : Nat → Int32 → Int32 → Int32 → xH → Option (Int32 × xH)) (x0 : Nat) (x1 : Int32) (x3 : Int32) (s0 : Int32) (s1 : Int32) (h : xH) : Option (Int32 × xH) := k4 x0 x1 (s0 ||| s1) (x3 + 1) h
theorem R_X12_peopleAt_b35 {Γ : xG} {l : Launch} {d : Nat} {Q : Option Value → xH → Prop} {r : Int32} {h' : xH} {k4 : Nat → Int32 → Int32 → Int32 → xH → Option (Int32 × xH)} (K4 : ∀ (x0 : Nat) (x1 : Int32) (x2 : Int32) (x3 : Int32)  (h : xH), k4 x0 x1 x2 x3 h = some (r, h') → Gd Γ l d m_X12_peopleAt 4 [.ref x0, .int x1, .int x2, .int x3] [] h 0 0 Q) (hdp : 0 ≤ d) (hq : Q (some (.int r)) h') : ∀ (x0 : Nat) (x1 : Int32) (x3 : Int32) (s0 : Int32) (s1 : Int32) (h : xH), F_X12_peopleAt_b35 k4 x0 x1 x3 s0 s1 h = some (r, h') → Gd Γ l d m_X12_peopleAt 35 [.ref x0, .int x1, xhole, .int x3] [.int s1, .int s0] h 0 0 Q := by
  intro x0 x1 x3 s0 s1 h hF
  unfold F_X12_peopleAt_b35 at hF
  refine g_ior d_X12_peopleAt_35 ?_
  refine q_istoren [.ref x0, .int x1, .int (s0 ||| s1), .int x3] d_X12_peopleAt_36 (by decide) rfl ?_
  refine q_iinc (1) [.ref x0, .int x1, .int (s0 ||| s1), .int (x3 + 1)] d_X12_peopleAt_37 ic_1 rfl (by decide) rfl ?_
  refine g_goto 4 d_X12_peopleAt_40 rfl ?_
  exact q_to (xs_r (xs_r (xs_r (xs_r xs_n)))) (K4 _ _ _ _ _ hF)
def F_X12_peopleAt_b4 : Nat → Nat → Int32 → Int32 → Int32 → xH → Option (Int32 × xH)
  | 0, _, _, _, _, _ => none
  | n + 1, x0, x1, x2, x3, h => (fR h x0 11 1).bind fun v6 => (aI h v6 4).bind fun v10 => if v10 ≤ x3 then some (x2, h) else (fR h x0 11 1).bind fun v16 => (aI h v16 (((109 : Int32)) + x3)).bind fun v23 => if ¬ v23 = x1 then F_X12_peopleAt_b35 (F_X12_peopleAt_b4 n) x0 x1 x3 x2 0 h else F_X12_peopleAt_b35 (F_X12_peopleAt_b4 n) x0 x1 x3 x2 (((1 : Int32)) <<< (x3 &&& 31)) h
theorem R_X12_peopleAt_b4 {Γ : xG} {l : Launch} {d : Nat} {Q : Option Value → xH → Prop} {r : Int32} {h' : xH} (hdp : 0 ≤ d) (hq : Q (some (.int r)) h') : ∀ (n : Nat) (x0 : Nat) (x1 : Int32) (x2 : Int32) (x3 : Int32) (h : xH), F_X12_peopleAt_b4 n x0 x1 x2 x3 h = some (r, h') → Gd Γ l d m_X12_peopleAt 4 [.ref x0, .int x1, .int x2, .int x3] [] h 0 0 Q := by
  intro n
  induction n with
  | zero => intro x0 x1 x2 x3 h hF; cases hF
  | succ n ih =>
  intro x0 x1 x2 x3 h hF
  rw [F_X12_peopleAt_b4] at hF
  refine g_iloadn d_X12_peopleAt_4 rfl ?_
  refine g_aloadn d_X12_peopleAt_5 rfl ?_
  obtain ⟨v6, e6, hF⟩ := Option.bind_eq_some_iff.mp hF
  refine q_fR d_X12_peopleAt_6 f_X12_13 e6 ?_
  refine g_ic (4) d_X12_peopleAt_9 ic_4 ?_
  obtain ⟨v10, e10, hF⟩ := Option.bind_eq_some_iff.mp hF
  refine q_aI d_X12_peopleAt_10 e10 ?_
  refine g_icmp_ge 43 d_X12_peopleAt_11 rfl (fun c11 => ?_) (fun c11 => ?_)
  · have hF := x_t hF c11
    refine g_iloadn d_X12_peopleAt_43 rfl ?_
    obtain ⟨rfl, rfl⟩ := x_inj hF
    exact g_iret d_X12_peopleAt_44 rfl hq
  · have hF := x_f hF c11
    refine g_iloadn d_X12_peopleAt_14 rfl ?_
    refine g_aloadn d_X12_peopleAt_15 rfl ?_
    obtain ⟨v16, e16, hF⟩ := Option.bind_eq_some_iff.mp hF
    refine q_fR d_X12_peopleAt_16 f_X12_13 e16 ?_
    refine g_bi (109) d_X12_peopleAt_19 bi_109 ?_
    refine g_iloadn d_X12_peopleAt_21 rfl ?_
    refine g_iadd d_X12_peopleAt_22 ?_
    obtain ⟨v23, e23, hF⟩ := Option.bind_eq_some_iff.mp hF
    refine q_aI d_X12_peopleAt_23 e23 ?_
    refine g_iloadn d_X12_peopleAt_24 rfl ?_
    refine g_icmp_ne 34 d_X12_peopleAt_25 rfl (fun c25 => ?_) (fun c25 => ?_)
    · have hF := x_t hF c25
      refine g_ic (0) d_X12_peopleAt_34 ic_0 ?_
      exact q_to (xs_r (xs_r (xs_h (xs_r xs_n)))) (R_X12_peopleAt_b35 ih hdp hq _ _ _ _ _ _ hF)
    · have hF := x_f hF (not_not_intro c25)
      refine g_ic (1) d_X12_peopleAt_28 ic_1 ?_
      refine g_iloadn d_X12_peopleAt_29 rfl ?_
      refine g_ishl d_X12_peopleAt_30 ?_
      refine g_goto 35 d_X12_peopleAt_31 rfl ?_
      exact q_to (xs_r (xs_r (xs_h (xs_r xs_n)))) (R_X12_peopleAt_b35 ih hdp hq _ _ _ _ _ _ hF)
def F_X12_peopleAt (x0 : Nat) (x1 : Int32) (h : xH) : Option (Int32 × xH) := F_X12_peopleAt_b4 FU x0 x1 0 0 h
theorem R_X12_peopleAt {Γ : xG} {l : Launch} {d : Nat} {r : Int32} {h' : xH} (x0 : Nat) (x1 : Int32) (h : xH) (hdp : 0 ≤ d) (hF : F_X12_peopleAt x0 x1 h = some (r, h')) : Gm Γ l d 0 0 m_X12_peopleAt [.ref x0, .int x1] h (fun a u => a = some (.int r) ∧ u = h') := by
  refine Gm.of pn_X12 (Nat.le_of_ble_eq_true rfl) ?_
  show Gd Γ l d m_X12_peopleAt 0 [.ref x0, .int x1, xhole, xhole] [] h 0 0 _
  generalize hQ : (fun (a : Option Value) (u : xH) => a = some (.int r) ∧ u = h') = Q
  have hq : Q (some (.int r)) h' := by rw [← hQ]; exact ⟨rfl, rfl⟩
  clear hQ
  unfold F_X12_peopleAt at hF
  refine g_ic (0) d_X12_peopleAt_0 ic_0 ?_
  refine q_istoren [.ref x0, .int x1, .int 0, xhole] d_X12_peopleAt_1 (by decide) rfl ?_
  refine g_ic (0) d_X12_peopleAt_2 ic_0 ?_
  refine q_istoren [.ref x0, .int x1, .int 0, .int 0] d_X12_peopleAt_3 (by decide) rfl ?_
  exact q_to (xs_r (xs_r (xs_r (xs_r xs_n)))) (R_X12_peopleAt_b4 hdp hq FU _ _ _ _ _ hF)
theorem d_X12_place_0 : decode cX12_place 0 = .ok (.aload_n 0, 1) := by decide +kernel
theorem d_X12_place_1 : decode cX12_place 1 = .ok (.iconst 0, 1) := by decide +kernel
theorem d_X12_place_2 : decode cX12_place 2 = .ok (.putfield 1, 3) := by decide +kernel
theorem d_X12_place_5 : decode cX12_place 5 = .ok (.aload_n 0, 1) := by decide +kernel
theorem d_X12_place_6 : decode cX12_place 6 = .ok (.iload_n 1, 1) := by decide +kernel
theorem d_X12_place_7 : decode cX12_place 7 = .ok (.i2l, 1) := by decide +kernel
theorem d_X12_place_8 : decode cX12_place 8 = .ok (.invokevirtual 253, 3) := by decide +kernel
theorem d_X12_place_11 : decode cX12_place 11 = .ok (.ifCond .ne 6, 3) := by decide +kernel
theorem d_X12_place_14 : decode cX12_place 14 = .ok (.bipush (-2), 2) := by decide +kernel
theorem d_X12_place_16 : decode cX12_place 16 = .ok (.ireturn, 1) := by decide +kernel
theorem d_X12_place_17 : decode cX12_place 17 = .ok (.iload_n 2, 1) := by decide +kernel
theorem d_X12_place_18 : decode cX12_place 18 = .ok (.ifCond .ne 15, 3) := by decide +kernel
theorem d_X12_place_21 : decode cX12_place 21 = .ok (.aload_n 0, 1) := by decide +kernel
theorem d_X12_place_22 : decode cX12_place 22 = .ok (.getfield 13, 3) := by decide +kernel
theorem d_X12_place_25 : decode cX12_place 25 = .ok (.bipush 77, 2) := by decide +kernel
theorem d_X12_place_27 : decode cX12_place 27 = .ok (.iload_n 1, 1) := by decide +kernel
theorem d_X12_place_28 : decode cX12_place 28 = .ok (.iadd, 1) := by decide +kernel
theorem d_X12_place_29 : decode cX12_place 29 = .ok (.iaload, 1) := by decide +kernel
theorem d_X12_place_30 : decode cX12_place 30 = .ok (.goto 35, 3) := by decide +kernel
theorem d_X12_place_33 : decode cX12_place 33 = .ok (.iload_n 2, 1) := by decide +kernel
theorem d_X12_place_34 : decode cX12_place 34 = .ok (.iconst 1, 1) := by decide +kernel
theorem d_X12_place_35 : decode cX12_place 35 = .ok (.if_icmp .ne 11, 3) := by decide +kernel
theorem d_X12_place_38 : decode cX12_place 38 = .ok (.aload_n 0, 1) := by decide +kernel
theorem d_X12_place_39 : decode cX12_place 39 = .ok (.iload_n 1, 1) := by decide +kernel
theorem d_X12_place_40 : decode cX12_place 40 = .ok (.invokevirtual 259, 3) := by decide +kernel
theorem d_X12_place_43 : decode cX12_place 43 = .ok (.goto 22, 3) := by decide +kernel
theorem d_X12_place_46 : decode cX12_place 46 = .ok (.iload_n 2, 1) := by decide +kernel
theorem d_X12_place_47 : decode cX12_place 47 = .ok (.iconst 2, 1) := by decide +kernel
theorem d_X12_place_48 : decode cX12_place 48 = .ok (.if_icmp .ne 15, 3) := by decide +kernel
theorem d_X12_place_51 : decode cX12_place 51 = .ok (.aload_n 0, 1) := by decide +kernel
theorem d_X12_place_52 : decode cX12_place 52 = .ok (.getfield 13, 3) := by decide +kernel
theorem d_X12_place_55 : decode cX12_place 55 = .ok (.bipush 71, 2) := by decide +kernel
theorem d_X12_place_57 : decode cX12_place 57 = .ok (.iload_n 1, 1) := by decide +kernel
theorem d_X12_place_58 : decode cX12_place 58 = .ok (.iadd, 1) := by decide +kernel
theorem d_X12_place_59 : decode cX12_place 59 = .ok (.iaload, 1) := by decide +kernel
theorem d_X12_place_60 : decode cX12_place 60 = .ok (.goto 5, 3) := by decide +kernel
theorem d_X12_place_63 : decode cX12_place 63 = .ok (.bipush (-2), 2) := by decide +kernel
theorem d_X12_place_65 : decode cX12_place 65 = .ok (.ireturn, 1) := by decide +kernel
def F_X12_place (x0 : Nat) (x1 : Int32) (x2 : Int32) (h : xH) : Option (Int32 × xH) := (wI h x0 11 0 0).bind fun h2 => (rc h2 x0 11).bind fun _ => (F_X12_isPlace x0 x1.toInt64 h2).bind fun z8 => if ¬ z8.1 = 0 then if ¬ x2 = 0 then if ¬ x2 = ((1 : Int32)) then if ¬ x2 = ((2 : Int32)) then some ((-2), z8.2) else (fR z8.2 x0 11 1).bind fun v52 => (aI z8.2 v52 (((71 : Int32)) + x1)).bind fun v59 => some (v59, z8.2) else (rc z8.2 x0 11).bind fun _ => (F_X12_peopleAt x0 x1 z8.2).bind fun z40 => some (z40.1, z40.2) else (fR z8.2 x0 11 1).bind fun v22 => (aI z8.2 v22 (((77 : Int32)) + x1)).bind fun v29 => some (v29, z8.2) else some ((-2), z8.2)
theorem R_X12_place {Γ : xG} {l : Launch} {d : Nat} {r : Int32} {h' : xH} (x0 : Nat) (x1 : Int32) (x2 : Int32) (h : xH) (hdp : 2 ≤ d) (hF : F_X12_place x0 x1 x2 h = some (r, h')) : Gm Γ l d 0 0 m_X12_place [.ref x0, .int x1, .int x2] h (fun a u => a = some (.int r) ∧ u = h') := by
  refine Gm.of pn_X12 (Nat.le_of_ble_eq_true rfl) ?_
  show Gd Γ l d m_X12_place 0 [.ref x0, .int x1, .int x2] [] h 0 0 _
  generalize hQ : (fun (a : Option Value) (u : xH) => a = some (.int r) ∧ u = h') = Q
  have hq : Q (some (.int r)) h' := by rw [← hQ]; exact ⟨rfl, rfl⟩
  clear hQ
  unfold F_X12_place at hF
  refine g_aloadn d_X12_place_0 rfl ?_
  refine g_ic (0) d_X12_place_1 ic_0 ?_
  obtain ⟨h2, e2, hF⟩ := Option.bind_eq_some_iff.mp hF
  refine q_wI d_X12_place_2 (w_X12_1 _) e2 ?_
  refine g_aloadn d_X12_place_5 rfl ?_
  refine g_iloadn d_X12_place_6 rfl ?_
  refine g_i2l d_X12_place_7 ?_
  obtain ⟨_, g8, hF⟩ := Option.bind_eq_some_iff.mp hF
  obtain ⟨⟨r8, h8⟩, e8, hF⟩ := Option.bind_eq_some_iff.mp hF
  try dsimp only at hF
  refine q_callV [.long (x1.toInt64)] [] rfl d_X12_place_8 v_X12_253 (by omega) rfl (Nat.le_of_ble_eq_true rfl) (rc_rc g8 (by decide) rfl) (R_X12_isPlace _ _ _ (by omega) e8) ?_
  refine g_if_ne 17 d_X12_place_11 rfl (fun c11 => ?_) (fun c11 => ?_)
  · have hF := x_t hF c11
    refine g_iloadn d_X12_place_17 rfl ?_
    refine g_if_ne 33 d_X12_place_18 rfl (fun c18 => ?_) (fun c18 => ?_)
    · have hF := x_t hF c18
      refine g_iloadn d_X12_place_33 rfl ?_
      refine g_ic (1) d_X12_place_34 ic_1 ?_
      refine g_icmp_ne 46 d_X12_place_35 rfl (fun c35 => ?_) (fun c35 => ?_)
      · have hF := x_t hF c35
        refine g_iloadn d_X12_place_46 rfl ?_
        refine g_ic (2) d_X12_place_47 ic_2 ?_
        refine g_icmp_ne 63 d_X12_place_48 rfl (fun c48 => ?_) (fun c48 => ?_)
        · have hF := x_t hF c48
          refine g_bi (-2) d_X12_place_63 bi_m2 ?_
          obtain ⟨rfl, rfl⟩ := x_inj hF
          exact g_iret d_X12_place_65 rfl hq
        · have hF := x_f hF (not_not_intro c48)
          refine g_aloadn d_X12_place_51 rfl ?_
          obtain ⟨v52, e52, hF⟩ := Option.bind_eq_some_iff.mp hF
          refine q_fR d_X12_place_52 f_X12_13 e52 ?_
          refine g_bi (71) d_X12_place_55 bi_71 ?_
          refine g_iloadn d_X12_place_57 rfl ?_
          refine g_iadd d_X12_place_58 ?_
          obtain ⟨v59, e59, hF⟩ := Option.bind_eq_some_iff.mp hF
          refine q_aI d_X12_place_59 e59 ?_
          refine g_goto 65 d_X12_place_60 rfl ?_
          obtain ⟨rfl, rfl⟩ := x_inj hF
          exact g_iret d_X12_place_65 rfl hq
      · have hF := x_f hF (not_not_intro c35)
        refine g_aloadn d_X12_place_38 rfl ?_
        refine g_iloadn d_X12_place_39 rfl ?_
        obtain ⟨_, g40, hF⟩ := Option.bind_eq_some_iff.mp hF
        obtain ⟨⟨r40, h40⟩, e40, hF⟩ := Option.bind_eq_some_iff.mp hF
        try dsimp only at hF
        refine q_callV [.int x1] [] rfl d_X12_place_40 v_X12_259 (by omega) rfl (Nat.le_of_ble_eq_true rfl) (rc_rc g40 (by decide) rfl) (R_X12_peopleAt _ _ _ (by omega) e40) ?_
        refine g_goto 65 d_X12_place_43 rfl ?_
        obtain ⟨rfl, rfl⟩ := x_inj hF
        exact g_iret d_X12_place_65 rfl hq
    · have hF := x_f hF (not_not_intro c18)
      refine g_aloadn d_X12_place_21 rfl ?_
      obtain ⟨v22, e22, hF⟩ := Option.bind_eq_some_iff.mp hF
      refine q_fR d_X12_place_22 f_X12_13 e22 ?_
      refine g_bi (77) d_X12_place_25 bi_77 ?_
      refine g_iloadn d_X12_place_27 rfl ?_
      refine g_iadd d_X12_place_28 ?_
      obtain ⟨v29, e29, hF⟩ := Option.bind_eq_some_iff.mp hF
      refine q_aI d_X12_place_29 e29 ?_
      refine g_goto 65 d_X12_place_30 rfl ?_
      obtain ⟨rfl, rfl⟩ := x_inj hF
      exact g_iret d_X12_place_65 rfl hq
  · have hF := x_f hF (not_not_intro c11)
    refine g_bi (-2) d_X12_place_14 bi_m2 ?_
    obtain ⟨rfl, rfl⟩ := x_inj hF
    exact g_iret d_X12_place_16 rfl hq
theorem d_X12_note_0 : decode cX12_note 0 = .ok (.aload_n 0, 1) := by decide +kernel
theorem d_X12_note_1 : decode cX12_note 1 = .ok (.iconst 0, 1) := by decide +kernel
theorem d_X12_note_2 : decode cX12_note 2 = .ok (.putfield 1, 3) := by decide +kernel
theorem d_X12_note_5 : decode cX12_note 5 = .ok (.aload_n 0, 1) := by decide +kernel
theorem d_X12_note_6 : decode cX12_note 6 = .ok (.iload_n 1, 1) := by decide +kernel
theorem d_X12_note_7 : decode cX12_note 7 = .ok (.invokevirtual 262, 3) := by decide +kernel
theorem d_X12_note_10 : decode cX12_note 10 = .ok (.ifCond .ne 6, 3) := by decide +kernel
theorem d_X12_note_13 : decode cX12_note 13 = .ok (.bipush (-2), 2) := by decide +kernel
theorem d_X12_note_15 : decode cX12_note 15 = .ok (.ireturn, 1) := by decide +kernel
theorem d_X12_note_16 : decode cX12_note 16 = .ok (.iload_n 2, 1) := by decide +kernel
theorem d_X12_note_17 : decode cX12_note 17 = .ok (.ifCond .ge 6, 3) := by decide +kernel
theorem d_X12_note_20 : decode cX12_note 20 = .ok (.bipush (-3), 2) := by decide +kernel
theorem d_X12_note_22 : decode cX12_note 22 = .ok (.ireturn, 1) := by decide +kernel
theorem d_X12_note_23 : decode cX12_note 23 = .ok (.iload_n 2, 1) := by decide +kernel
theorem d_X12_note_24 : decode cX12_note 24 = .ok (.aload_n 0, 1) := by decide +kernel
theorem d_X12_note_25 : decode cX12_note 25 = .ok (.getfield 13, 3) := by decide +kernel
theorem d_X12_note_28 : decode cX12_note 28 = .ok (.bipush 11, 2) := by decide +kernel
theorem d_X12_note_30 : decode cX12_note 30 = .ok (.iload_n 1, 1) := by decide +kernel
theorem d_X12_note_31 : decode cX12_note 31 = .ok (.iadd, 1) := by decide +kernel
theorem d_X12_note_32 : decode cX12_note 32 = .ok (.iaload, 1) := by decide +kernel
theorem d_X12_note_33 : decode cX12_note 33 = .ok (.if_icmp .ge 20, 3) := by decide +kernel
theorem d_X12_note_36 : decode cX12_note 36 = .ok (.aload_n 0, 1) := by decide +kernel
theorem d_X12_note_37 : decode cX12_note 37 = .ok (.getfield 13, 3) := by decide +kernel
theorem d_X12_note_40 : decode cX12_note 40 = .ok (.bipush 17, 2) := by decide +kernel
theorem d_X12_note_42 : decode cX12_note 42 = .ok (.bipush 9, 2) := by decide +kernel
theorem d_X12_note_44 : decode cX12_note 44 = .ok (.iload_n 1, 1) := by decide +kernel
theorem d_X12_note_45 : decode cX12_note 45 = .ok (.imul, 1) := by decide +kernel
theorem d_X12_note_46 : decode cX12_note 46 = .ok (.iadd, 1) := by decide +kernel
theorem d_X12_note_47 : decode cX12_note 47 = .ok (.iload_n 2, 1) := by decide +kernel
theorem d_X12_note_48 : decode cX12_note 48 = .ok (.iadd, 1) := by decide +kernel
theorem d_X12_note_49 : decode cX12_note 49 = .ok (.iaload, 1) := by decide +kernel
theorem d_X12_note_50 : decode cX12_note 50 = .ok (.goto 4, 3) := by decide +kernel
theorem d_X12_note_53 : decode cX12_note 53 = .ok (.iconst (-1), 1) := by decide +kernel
theorem d_X12_note_54 : decode cX12_note 54 = .ok (.ireturn, 1) := by decide +kernel
def F_X12_note (x0 : Nat) (x1 : Int32) (x2 : Int32) (h : xH) : Option (Int32 × xH) := (wI h x0 11 0 0).bind fun h2 => (rc h2 x0 11).bind fun _ => (F_X12_isTune x0 x1 h2).bind fun z7 => if ¬ z7.1 = 0 then if 0 ≤ x2 then (fR z7.2 x0 11 1).bind fun v25 => (aI z7.2 v25 (((11 : Int32)) + x1)).bind fun v32 => if v32 ≤ x2 then some ((-1), z7.2) else (fR z7.2 x0 11 1).bind fun v37 => (aI z7.2 v37 ((((17 : Int32)) + (((9 : Int32)) * x1)) + x2)).bind fun v49 => some (v49, z7.2) else some ((-3), z7.2) else some ((-2), z7.2)
theorem R_X12_note {Γ : xG} {l : Launch} {d : Nat} {r : Int32} {h' : xH} (x0 : Nat) (x1 : Int32) (x2 : Int32) (h : xH) (hdp : 2 ≤ d) (hF : F_X12_note x0 x1 x2 h = some (r, h')) : Gm Γ l d 0 0 m_X12_note [.ref x0, .int x1, .int x2] h (fun a u => a = some (.int r) ∧ u = h') := by
  refine Gm.of pn_X12 (Nat.le_of_ble_eq_true rfl) ?_
  show Gd Γ l d m_X12_note 0 [.ref x0, .int x1, .int x2] [] h 0 0 _
  generalize hQ : (fun (a : Option Value) (u : xH) => a = some (.int r) ∧ u = h') = Q
  have hq : Q (some (.int r)) h' := by rw [← hQ]; exact ⟨rfl, rfl⟩
  clear hQ
  unfold F_X12_note at hF
  refine g_aloadn d_X12_note_0 rfl ?_
  refine g_ic (0) d_X12_note_1 ic_0 ?_
  obtain ⟨h2, e2, hF⟩ := Option.bind_eq_some_iff.mp hF
  refine q_wI d_X12_note_2 (w_X12_1 _) e2 ?_
  refine g_aloadn d_X12_note_5 rfl ?_
  refine g_iloadn d_X12_note_6 rfl ?_
  obtain ⟨_, g7, hF⟩ := Option.bind_eq_some_iff.mp hF
  obtain ⟨⟨r7, h7⟩, e7, hF⟩ := Option.bind_eq_some_iff.mp hF
  try dsimp only at hF
  refine q_callV [.int x1] [] rfl d_X12_note_7 v_X12_262 (by omega) rfl (Nat.le_of_ble_eq_true rfl) (rc_rc g7 (by decide) rfl) (R_X12_isTune _ _ _ (by omega) e7) ?_
  refine g_if_ne 16 d_X12_note_10 rfl (fun c10 => ?_) (fun c10 => ?_)
  · have hF := x_t hF c10
    refine g_iloadn d_X12_note_16 rfl ?_
    refine g_if_ge 23 d_X12_note_17 rfl (fun c17 => ?_) (fun c17 => ?_)
    · have hF := x_t hF c17
      refine g_iloadn d_X12_note_23 rfl ?_
      refine g_aloadn d_X12_note_24 rfl ?_
      obtain ⟨v25, e25, hF⟩ := Option.bind_eq_some_iff.mp hF
      refine q_fR d_X12_note_25 f_X12_13 e25 ?_
      refine g_bi (11) d_X12_note_28 bi_11 ?_
      refine g_iloadn d_X12_note_30 rfl ?_
      refine g_iadd d_X12_note_31 ?_
      obtain ⟨v32, e32, hF⟩ := Option.bind_eq_some_iff.mp hF
      refine q_aI d_X12_note_32 e32 ?_
      refine g_icmp_ge 53 d_X12_note_33 rfl (fun c33 => ?_) (fun c33 => ?_)
      · have hF := x_t hF c33
        refine g_ic (-1) d_X12_note_53 ic_m1 ?_
        obtain ⟨rfl, rfl⟩ := x_inj hF
        exact g_iret d_X12_note_54 rfl hq
      · have hF := x_f hF c33
        refine g_aloadn d_X12_note_36 rfl ?_
        obtain ⟨v37, e37, hF⟩ := Option.bind_eq_some_iff.mp hF
        refine q_fR d_X12_note_37 f_X12_13 e37 ?_
        refine g_bi (17) d_X12_note_40 bi_17 ?_
        refine g_bi (9) d_X12_note_42 bi_9 ?_
        refine g_iloadn d_X12_note_44 rfl ?_
        refine g_imul d_X12_note_45 ?_
        refine g_iadd d_X12_note_46 ?_
        refine g_iloadn d_X12_note_47 rfl ?_
        refine g_iadd d_X12_note_48 ?_
        obtain ⟨v49, e49, hF⟩ := Option.bind_eq_some_iff.mp hF
        refine q_aI d_X12_note_49 e49 ?_
        refine g_goto 54 d_X12_note_50 rfl ?_
        obtain ⟨rfl, rfl⟩ := x_inj hF
        exact g_iret d_X12_note_54 rfl hq
    · have hF := x_f hF c17
      refine g_bi (-3) d_X12_note_20 bi_m3 ?_
      obtain ⟨rfl, rfl⟩ := x_inj hF
      exact g_iret d_X12_note_22 rfl hq
  · have hF := x_f hF (not_not_intro c10)
    refine g_bi (-2) d_X12_note_13 bi_m2 ?_
    obtain ⟨rfl, rfl⟩ := x_inj hF
    exact g_iret d_X12_note_15 rfl hq
theorem d_X12_stepsOf_0 : decode cX12_stepsOf 0 = .ok (.iconst 0, 1) := by decide +kernel
theorem d_X12_stepsOf_1 : decode cX12_stepsOf 1 = .ok (.istore_n 3, 1) := by decide +kernel
theorem d_X12_stepsOf_2 : decode cX12_stepsOf 2 = .ok (.iconst 0, 1) := by decide +kernel
theorem d_X12_stepsOf_3 : decode cX12_stepsOf 3 = .ok (.istore 4, 2) := by decide +kernel
theorem d_X12_stepsOf_5 : decode cX12_stepsOf 5 = .ok (.iload 4, 2) := by decide +kernel
theorem d_X12_stepsOf_7 : decode cX12_stepsOf 7 = .ok (.aload_n 0, 1) := by decide +kernel
theorem d_X12_stepsOf_8 : decode cX12_stepsOf 8 = .ok (.getfield 13, 3) := by decide +kernel
theorem d_X12_stepsOf_11 : decode cX12_stepsOf 11 = .ok (.bipush 11, 2) := by decide +kernel
theorem d_X12_stepsOf_13 : decode cX12_stepsOf 13 = .ok (.iload_n 1, 1) := by decide +kernel
theorem d_X12_stepsOf_14 : decode cX12_stepsOf 14 = .ok (.iadd, 1) := by decide +kernel
theorem d_X12_stepsOf_15 : decode cX12_stepsOf 15 = .ok (.iaload, 1) := by decide +kernel
theorem d_X12_stepsOf_16 : decode cX12_stepsOf 16 = .ok (.if_icmp .ge 43, 3) := by decide +kernel
theorem d_X12_stepsOf_19 : decode cX12_stepsOf 19 = .ok (.iload_n 3, 1) := by decide +kernel
theorem d_X12_stepsOf_20 : decode cX12_stepsOf 20 = .ok (.aload_n 0, 1) := by decide +kernel
theorem d_X12_stepsOf_21 : decode cX12_stepsOf 21 = .ok (.iload_n 2, 1) := by decide +kernel
theorem d_X12_stepsOf_22 : decode cX12_stepsOf 22 = .ok (.aload_n 0, 1) := by decide +kernel
theorem d_X12_stepsOf_23 : decode cX12_stepsOf 23 = .ok (.getfield 13, 3) := by decide +kernel
theorem d_X12_stepsOf_26 : decode cX12_stepsOf 26 = .ok (.bipush 17, 2) := by decide +kernel
theorem d_X12_stepsOf_28 : decode cX12_stepsOf 28 = .ok (.bipush 9, 2) := by decide +kernel
theorem d_X12_stepsOf_30 : decode cX12_stepsOf 30 = .ok (.iload_n 1, 1) := by decide +kernel
theorem d_X12_stepsOf_31 : decode cX12_stepsOf 31 = .ok (.imul, 1) := by decide +kernel
theorem d_X12_stepsOf_32 : decode cX12_stepsOf 32 = .ok (.iadd, 1) := by decide +kernel
theorem d_X12_stepsOf_33 : decode cX12_stepsOf 33 = .ok (.iload 4, 2) := by decide +kernel
theorem d_X12_stepsOf_35 : decode cX12_stepsOf 35 = .ok (.iadd, 1) := by decide +kernel
theorem d_X12_stepsOf_36 : decode cX12_stepsOf 36 = .ok (.iaload, 1) := by decide +kernel
theorem d_X12_stepsOf_37 : decode cX12_stepsOf 37 = .ok (.invokevirtual 242, 3) := by decide +kernel
theorem d_X12_stepsOf_40 : decode cX12_stepsOf 40 = .ok (.ifCond .eq 7, 3) := by decide +kernel
theorem d_X12_stepsOf_43 : decode cX12_stepsOf 43 = .ok (.iconst 0, 1) := by decide +kernel
theorem d_X12_stepsOf_44 : decode cX12_stepsOf 44 = .ok (.goto 7, 3) := by decide +kernel
theorem d_X12_stepsOf_47 : decode cX12_stepsOf 47 = .ok (.iconst 1, 1) := by decide +kernel
theorem d_X12_stepsOf_48 : decode cX12_stepsOf 48 = .ok (.iload 4, 2) := by decide +kernel
theorem d_X12_stepsOf_50 : decode cX12_stepsOf 50 = .ok (.ishl, 1) := by decide +kernel
theorem d_X12_stepsOf_51 : decode cX12_stepsOf 51 = .ok (.ior, 1) := by decide +kernel
theorem d_X12_stepsOf_52 : decode cX12_stepsOf 52 = .ok (.istore_n 3, 1) := by decide +kernel
theorem d_X12_stepsOf_53 : decode cX12_stepsOf 53 = .ok (.iinc 4 1, 3) := by decide +kernel
theorem d_X12_stepsOf_56 : decode cX12_stepsOf 56 = .ok (.goto (-51), 3) := by decide +kernel
theorem d_X12_stepsOf_59 : decode cX12_stepsOf 59 = .ok (.iload_n 3, 1) := by decide +kernel
theorem d_X12_stepsOf_60 : decode cX12_stepsOf 60 = .ok (.ireturn, 1) := by decide +kernel
def F_X12_stepsOf_b51 (k5 : Nat → Int32 → Int32 → Int32 → Int32 → xH → Option (Int32 × xH)) (x0 : Nat) (x1 : Int32) (x2 : Int32) (x4 : Int32) (s0 : Int32) (s1 : Int32) (h : xH) : Option (Int32 × xH) := k5 x0 x1 x2 (s0 ||| s1) (x4 + 1) h
theorem R_X12_stepsOf_b51 {Γ : xG} {l : Launch} {d : Nat} {Q : Option Value → xH → Prop} {r : Int32} {h' : xH} {k5 : Nat → Int32 → Int32 → Int32 → Int32 → xH → Option (Int32 × xH)} (K5 : ∀ (x0 : Nat) (x1 : Int32) (x2 : Int32) (x3 : Int32) (x4 : Int32)  (h : xH), k5 x0 x1 x2 x3 x4 h = some (r, h') → Gd Γ l d m_X12_stepsOf 5 [.ref x0, .int x1, .int x2, .int x3, .int x4] [] h 0 0 Q) (hdp : 4 ≤ d) (hq : Q (some (.int r)) h') : ∀ (x0 : Nat) (x1 : Int32) (x2 : Int32) (x4 : Int32) (s0 : Int32) (s1 : Int32) (h : xH), F_X12_stepsOf_b51 k5 x0 x1 x2 x4 s0 s1 h = some (r, h') → Gd Γ l d m_X12_stepsOf 51 [.ref x0, .int x1, .int x2, xhole, .int x4] [.int s1, .int s0] h 0 0 Q := by
  intro x0 x1 x2 x4 s0 s1 h hF
  unfold F_X12_stepsOf_b51 at hF
  refine g_ior d_X12_stepsOf_51 ?_
  refine q_istoren [.ref x0, .int x1, .int x2, .int (s0 ||| s1), .int x4] d_X12_stepsOf_52 (by decide) rfl ?_
  refine q_iinc (1) [.ref x0, .int x1, .int x2, .int (s0 ||| s1), .int (x4 + 1)] d_X12_stepsOf_53 ic_1 rfl (by decide) rfl ?_
  refine g_goto 5 d_X12_stepsOf_56 rfl ?_
  exact q_to (xs_r (xs_r (xs_r (xs_r (xs_r xs_n))))) (K5 _ _ _ _ _ _ hF)
def F_X12_stepsOf_b5 : Nat → Nat → Int32 → Int32 → Int32 → Int32 → xH → Option (Int32 × xH)
  | 0, _, _, _, _, _, _ => none
  | n + 1, x0, x1, x2, x3, x4, h => (fR h x0 11 1).bind fun v8 => (aI h v8 (((11 : Int32)) + x1)).bind fun v15 => if v15 ≤ x4 then some (x3, h) else (fR h x0 11 1).bind fun v23 => (aI h v23 ((((17 : Int32)) + (((9 : Int32)) * x1)) + x4)).bind fun v36 => (rc h x0 11).bind fun _ => (F_X12_hearsNow x0 x2 v36 h).bind fun z37 => if z37.1 = 0 then F_X12_stepsOf_b51 (F_X12_stepsOf_b5 n) x0 x1 x2 x4 x3 (((1 : Int32)) <<< (x4 &&& 31)) z37.2 else F_X12_stepsOf_b51 (F_X12_stepsOf_b5 n) x0 x1 x2 x4 x3 0 z37.2
theorem R_X12_stepsOf_b5 {Γ : xG} {l : Launch} {d : Nat} {Q : Option Value → xH → Prop} {r : Int32} {h' : xH} (hdp : 4 ≤ d) (hq : Q (some (.int r)) h') : ∀ (n : Nat) (x0 : Nat) (x1 : Int32) (x2 : Int32) (x3 : Int32) (x4 : Int32) (h : xH), F_X12_stepsOf_b5 n x0 x1 x2 x3 x4 h = some (r, h') → Gd Γ l d m_X12_stepsOf 5 [.ref x0, .int x1, .int x2, .int x3, .int x4] [] h 0 0 Q := by
  intro n
  induction n with
  | zero => intro x0 x1 x2 x3 x4 h hF; cases hF
  | succ n ih =>
  intro x0 x1 x2 x3 x4 h hF
  rw [F_X12_stepsOf_b5] at hF
  refine g_iload d_X12_stepsOf_5 rfl ?_
  refine g_aloadn d_X12_stepsOf_7 rfl ?_
  obtain ⟨v8, e8, hF⟩ := Option.bind_eq_some_iff.mp hF
  refine q_fR d_X12_stepsOf_8 f_X12_13 e8 ?_
  refine g_bi (11) d_X12_stepsOf_11 bi_11 ?_
  refine g_iloadn d_X12_stepsOf_13 rfl ?_
  refine g_iadd d_X12_stepsOf_14 ?_
  obtain ⟨v15, e15, hF⟩ := Option.bind_eq_some_iff.mp hF
  refine q_aI d_X12_stepsOf_15 e15 ?_
  refine g_icmp_ge 59 d_X12_stepsOf_16 rfl (fun c16 => ?_) (fun c16 => ?_)
  · have hF := x_t hF c16
    refine g_iloadn d_X12_stepsOf_59 rfl ?_
    obtain ⟨rfl, rfl⟩ := x_inj hF
    exact g_iret d_X12_stepsOf_60 rfl hq
  · have hF := x_f hF c16
    refine g_iloadn d_X12_stepsOf_19 rfl ?_
    refine g_aloadn d_X12_stepsOf_20 rfl ?_
    refine g_iloadn d_X12_stepsOf_21 rfl ?_
    refine g_aloadn d_X12_stepsOf_22 rfl ?_
    obtain ⟨v23, e23, hF⟩ := Option.bind_eq_some_iff.mp hF
    refine q_fR d_X12_stepsOf_23 f_X12_13 e23 ?_
    refine g_bi (17) d_X12_stepsOf_26 bi_17 ?_
    refine g_bi (9) d_X12_stepsOf_28 bi_9 ?_
    refine g_iloadn d_X12_stepsOf_30 rfl ?_
    refine g_imul d_X12_stepsOf_31 ?_
    refine g_iadd d_X12_stepsOf_32 ?_
    refine g_iload d_X12_stepsOf_33 rfl ?_
    refine g_iadd d_X12_stepsOf_35 ?_
    obtain ⟨v36, e36, hF⟩ := Option.bind_eq_some_iff.mp hF
    refine q_aI d_X12_stepsOf_36 e36 ?_
    obtain ⟨_, g37, hF⟩ := Option.bind_eq_some_iff.mp hF
    obtain ⟨⟨r37, h37⟩, e37, hF⟩ := Option.bind_eq_some_iff.mp hF
    try dsimp only at hF
    refine q_callV [.int x2, .int v36] [.int x3] rfl d_X12_stepsOf_37 v_X12_242 (by omega) rfl (Nat.le_of_ble_eq_true rfl) (rc_rc g37 (by decide) rfl) (R_X12_hearsNow _ _ _ _ (by omega) e37) ?_
    refine g_if_eq 47 d_X12_stepsOf_40 rfl (fun c40 => ?_) (fun c40 => ?_)
    · have hF := x_t hF c40
      refine g_ic (1) d_X12_stepsOf_47 ic_1 ?_
      refine g_iload d_X12_stepsOf_48 rfl ?_
      refine g_ishl d_X12_stepsOf_50 ?_
      exact q_to (xs_r (xs_r (xs_r (xs_h (xs_r xs_n))))) (R_X12_stepsOf_b51 ih hdp hq _ _ _ _ _ _ _ hF)
    · have hF := x_f hF c40
      refine g_ic (0) d_X12_stepsOf_43 ic_0 ?_
      refine g_goto 51 d_X12_stepsOf_44 rfl ?_
      exact q_to (xs_r (xs_r (xs_r (xs_h (xs_r xs_n))))) (R_X12_stepsOf_b51 ih hdp hq _ _ _ _ _ _ _ hF)
def F_X12_stepsOf (x0 : Nat) (x1 : Int32) (x2 : Int32) (h : xH) : Option (Int32 × xH) := F_X12_stepsOf_b5 FU x0 x1 x2 0 0 h
theorem R_X12_stepsOf {Γ : xG} {l : Launch} {d : Nat} {r : Int32} {h' : xH} (x0 : Nat) (x1 : Int32) (x2 : Int32) (h : xH) (hdp : 4 ≤ d) (hF : F_X12_stepsOf x0 x1 x2 h = some (r, h')) : Gm Γ l d 0 0 m_X12_stepsOf [.ref x0, .int x1, .int x2] h (fun a u => a = some (.int r) ∧ u = h') := by
  refine Gm.of pn_X12 (Nat.le_of_ble_eq_true rfl) ?_
  show Gd Γ l d m_X12_stepsOf 0 [.ref x0, .int x1, .int x2, xhole, xhole] [] h 0 0 _
  generalize hQ : (fun (a : Option Value) (u : xH) => a = some (.int r) ∧ u = h') = Q
  have hq : Q (some (.int r)) h' := by rw [← hQ]; exact ⟨rfl, rfl⟩
  clear hQ
  unfold F_X12_stepsOf at hF
  refine g_ic (0) d_X12_stepsOf_0 ic_0 ?_
  refine q_istoren [.ref x0, .int x1, .int x2, .int 0, xhole] d_X12_stepsOf_1 (by decide) rfl ?_
  refine g_ic (0) d_X12_stepsOf_2 ic_0 ?_
  refine q_istore [.ref x0, .int x1, .int x2, .int 0, .int 0] d_X12_stepsOf_3 (by decide) rfl ?_
  exact q_to (xs_r (xs_r (xs_r (xs_r (xs_r xs_n))))) (R_X12_stepsOf_b5 hdp hq FU _ _ _ _ _ _ hF)
theorem d_X12_steps_0 : decode cX12_steps 0 = .ok (.aload_n 0, 1) := by decide +kernel
theorem d_X12_steps_1 : decode cX12_steps 1 = .ok (.iconst 0, 1) := by decide +kernel
theorem d_X12_steps_2 : decode cX12_steps 2 = .ok (.putfield 1, 3) := by decide +kernel
theorem d_X12_steps_5 : decode cX12_steps 5 = .ok (.aload_n 0, 1) := by decide +kernel
theorem d_X12_steps_6 : decode cX12_steps 6 = .ok (.iload_n 1, 1) := by decide +kernel
theorem d_X12_steps_7 : decode cX12_steps 7 = .ok (.invokevirtual 262, 3) := by decide +kernel
theorem d_X12_steps_10 : decode cX12_steps 10 = .ok (.ifCond .eq 21, 3) := by decide +kernel
theorem d_X12_steps_13 : decode cX12_steps 13 = .ok (.aload_n 0, 1) := by decide +kernel
theorem d_X12_steps_14 : decode cX12_steps 14 = .ok (.iload_n 2, 1) := by decide +kernel
theorem d_X12_steps_15 : decode cX12_steps 15 = .ok (.i2l, 1) := by decide +kernel
theorem d_X12_steps_16 : decode cX12_steps 16 = .ok (.invokevirtual 246, 3) := by decide +kernel
theorem d_X12_steps_19 : decode cX12_steps 19 = .ok (.ifCond .eq 12, 3) := by decide +kernel
theorem d_X12_steps_22 : decode cX12_steps 22 = .ok (.aload_n 0, 1) := by decide +kernel
theorem d_X12_steps_23 : decode cX12_steps 23 = .ok (.iload_n 1, 1) := by decide +kernel
theorem d_X12_steps_24 : decode cX12_steps 24 = .ok (.iload_n 2, 1) := by decide +kernel
theorem d_X12_steps_25 : decode cX12_steps 25 = .ok (.invokevirtual 265, 3) := by decide +kernel
theorem d_X12_steps_28 : decode cX12_steps 28 = .ok (.goto 5, 3) := by decide +kernel
theorem d_X12_steps_31 : decode cX12_steps 31 = .ok (.bipush (-2), 2) := by decide +kernel
theorem d_X12_steps_33 : decode cX12_steps 33 = .ok (.ireturn, 1) := by decide +kernel
def F_X12_steps (x0 : Nat) (x1 : Int32) (x2 : Int32) (h : xH) : Option (Int32 × xH) := (wI h x0 11 0 0).bind fun h2 => (rc h2 x0 11).bind fun _ => (F_X12_isTune x0 x1 h2).bind fun z7 => if z7.1 = 0 then some ((-2), z7.2) else (rc z7.2 x0 11).bind fun _ => (F_X12_isPerson x0 x2.toInt64 z7.2).bind fun z16 => if z16.1 = 0 then some ((-2), z16.2) else (rc z16.2 x0 11).bind fun _ => (F_X12_stepsOf x0 x1 x2 z16.2).bind fun z25 => some (z25.1, z25.2)
theorem R_X12_steps {Γ : xG} {l : Launch} {d : Nat} {r : Int32} {h' : xH} (x0 : Nat) (x1 : Int32) (x2 : Int32) (h : xH) (hdp : 5 ≤ d) (hF : F_X12_steps x0 x1 x2 h = some (r, h')) : Gm Γ l d 0 0 m_X12_steps [.ref x0, .int x1, .int x2] h (fun a u => a = some (.int r) ∧ u = h') := by
  refine Gm.of pn_X12 (Nat.le_of_ble_eq_true rfl) ?_
  show Gd Γ l d m_X12_steps 0 [.ref x0, .int x1, .int x2] [] h 0 0 _
  generalize hQ : (fun (a : Option Value) (u : xH) => a = some (.int r) ∧ u = h') = Q
  have hq : Q (some (.int r)) h' := by rw [← hQ]; exact ⟨rfl, rfl⟩
  clear hQ
  unfold F_X12_steps at hF
  refine g_aloadn d_X12_steps_0 rfl ?_
  refine g_ic (0) d_X12_steps_1 ic_0 ?_
  obtain ⟨h2, e2, hF⟩ := Option.bind_eq_some_iff.mp hF
  refine q_wI d_X12_steps_2 (w_X12_1 _) e2 ?_
  refine g_aloadn d_X12_steps_5 rfl ?_
  refine g_iloadn d_X12_steps_6 rfl ?_
  obtain ⟨_, g7, hF⟩ := Option.bind_eq_some_iff.mp hF
  obtain ⟨⟨r7, h7⟩, e7, hF⟩ := Option.bind_eq_some_iff.mp hF
  try dsimp only at hF
  refine q_callV [.int x1] [] rfl d_X12_steps_7 v_X12_262 (by omega) rfl (Nat.le_of_ble_eq_true rfl) (rc_rc g7 (by decide) rfl) (R_X12_isTune _ _ _ (by omega) e7) ?_
  refine g_if_eq 31 d_X12_steps_10 rfl (fun c10 => ?_) (fun c10 => ?_)
  · have hF := x_t hF c10
    refine g_bi (-2) d_X12_steps_31 bi_m2 ?_
    obtain ⟨rfl, rfl⟩ := x_inj hF
    exact g_iret d_X12_steps_33 rfl hq
  · have hF := x_f hF c10
    refine g_aloadn d_X12_steps_13 rfl ?_
    refine g_iloadn d_X12_steps_14 rfl ?_
    refine g_i2l d_X12_steps_15 ?_
    obtain ⟨_, g16, hF⟩ := Option.bind_eq_some_iff.mp hF
    obtain ⟨⟨r16, h16⟩, e16, hF⟩ := Option.bind_eq_some_iff.mp hF
    try dsimp only at hF
    refine q_callV [.long (x2.toInt64)] [] rfl d_X12_steps_16 v_X12_246 (by omega) rfl (Nat.le_of_ble_eq_true rfl) (rc_rc g16 (by decide) rfl) (R_X12_isPerson _ _ _ (by omega) e16) ?_
    refine g_if_eq 31 d_X12_steps_19 rfl (fun c19 => ?_) (fun c19 => ?_)
    · have hF := x_t hF c19
      refine g_bi (-2) d_X12_steps_31 bi_m2 ?_
      obtain ⟨rfl, rfl⟩ := x_inj hF
      exact g_iret d_X12_steps_33 rfl hq
    · have hF := x_f hF c19
      refine g_aloadn d_X12_steps_22 rfl ?_
      refine g_iloadn d_X12_steps_23 rfl ?_
      refine g_iloadn d_X12_steps_24 rfl ?_
      obtain ⟨_, g25, hF⟩ := Option.bind_eq_some_iff.mp hF
      obtain ⟨⟨r25, h25⟩, e25, hF⟩ := Option.bind_eq_some_iff.mp hF
      try dsimp only at hF
      refine q_callV [.int x1, .int x2] [] rfl d_X12_steps_25 v_X12_265 (by omega) rfl (Nat.le_of_ble_eq_true rfl) (rc_rc g25 (by decide) rfl) (R_X12_stepsOf _ _ _ _ (by omega) e25) ?_
      refine g_goto 33 d_X12_steps_28 rfl ?_
      obtain ⟨rfl, rfl⟩ := x_inj hF
      exact g_iret d_X12_steps_33 rfl hq
theorem d_X12_isPeople_0 : decode cX12_isPeople 0 = .ok (.iload_n 1, 1) := by decide +kernel
theorem d_X12_isPeople_1 : decode cX12_isPeople 1 = .ok (.ifCond .lt 19, 3) := by decide +kernel
theorem d_X12_isPeople_4 : decode cX12_isPeople 4 = .ok (.iload_n 1, 1) := by decide +kernel
theorem d_X12_isPeople_5 : decode cX12_isPeople 5 = .ok (.iconst 1, 1) := by decide +kernel
theorem d_X12_isPeople_6 : decode cX12_isPeople 6 = .ok (.aload_n 0, 1) := by decide +kernel
theorem d_X12_isPeople_7 : decode cX12_isPeople 7 = .ok (.getfield 13, 3) := by decide +kernel
theorem d_X12_isPeople_10 : decode cX12_isPeople 10 = .ok (.iconst 4, 1) := by decide +kernel
theorem d_X12_isPeople_11 : decode cX12_isPeople 11 = .ok (.iaload, 1) := by decide +kernel
theorem d_X12_isPeople_12 : decode cX12_isPeople 12 = .ok (.ishl, 1) := by decide +kernel
theorem d_X12_isPeople_13 : decode cX12_isPeople 13 = .ok (.if_icmp .ge 7, 3) := by decide +kernel
theorem d_X12_isPeople_16 : decode cX12_isPeople 16 = .ok (.iconst 1, 1) := by decide +kernel
theorem d_X12_isPeople_17 : decode cX12_isPeople 17 = .ok (.goto 4, 3) := by decide +kernel
theorem d_X12_isPeople_20 : decode cX12_isPeople 20 = .ok (.iconst 0, 1) := by decide +kernel
theorem d_X12_isPeople_21 : decode cX12_isPeople 21 = .ok (.ireturn, 1) := by decide +kernel
def F_X12_isPeople (x0 : Nat) (x1 : Int32) (h : xH) : Option (Int32 × xH) := if x1 < 0 then some (0, h) else (fR h x0 11 1).bind fun v7 => (aI h v7 4).bind fun v11 => if (((1 : Int32)) <<< (v11 &&& 31)) ≤ x1 then some (0, h) else some (1, h)
theorem R_X12_isPeople {Γ : xG} {l : Launch} {d : Nat} {r : Int32} {h' : xH} (x0 : Nat) (x1 : Int32) (h : xH) (hdp : 0 ≤ d) (hF : F_X12_isPeople x0 x1 h = some (r, h')) : Gm Γ l d 0 0 m_X12_isPeople [.ref x0, .int x1] h (fun a u => a = some (.int r) ∧ u = h') := by
  refine Gm.of pn_X12 (Nat.le_of_ble_eq_true rfl) ?_
  show Gd Γ l d m_X12_isPeople 0 [.ref x0, .int x1] [] h 0 0 _
  generalize hQ : (fun (a : Option Value) (u : xH) => a = some (.int r) ∧ u = h') = Q
  have hq : Q (some (.int r)) h' := by rw [← hQ]; exact ⟨rfl, rfl⟩
  clear hQ
  unfold F_X12_isPeople at hF
  refine g_iloadn d_X12_isPeople_0 rfl ?_
  refine g_if_lt 20 d_X12_isPeople_1 rfl (fun c1 => ?_) (fun c1 => ?_)
  · have hF := x_t hF c1
    refine g_ic (0) d_X12_isPeople_20 ic_0 ?_
    obtain ⟨rfl, rfl⟩ := x_inj hF
    exact g_zret d_X12_isPeople_21 rfl rfl hq
  · have hF := x_f hF c1
    refine g_iloadn d_X12_isPeople_4 rfl ?_
    refine g_ic (1) d_X12_isPeople_5 ic_1 ?_
    refine g_aloadn d_X12_isPeople_6 rfl ?_
    obtain ⟨v7, e7, hF⟩ := Option.bind_eq_some_iff.mp hF
    refine q_fR d_X12_isPeople_7 f_X12_13 e7 ?_
    refine g_ic (4) d_X12_isPeople_10 ic_4 ?_
    obtain ⟨v11, e11, hF⟩ := Option.bind_eq_some_iff.mp hF
    refine q_aI d_X12_isPeople_11 e11 ?_
    refine g_ishl d_X12_isPeople_12 ?_
    refine g_icmp_ge 20 d_X12_isPeople_13 rfl (fun c13 => ?_) (fun c13 => ?_)
    · have hF := x_t hF c13
      refine g_ic (0) d_X12_isPeople_20 ic_0 ?_
      obtain ⟨rfl, rfl⟩ := x_inj hF
      exact g_zret d_X12_isPeople_21 rfl rfl hq
    · have hF := x_f hF c13
      refine g_ic (1) d_X12_isPeople_16 ic_1 ?_
      refine g_goto 21 d_X12_isPeople_17 rfl ?_
      obtain ⟨rfl, rfl⟩ := x_inj hF
      exact g_zret d_X12_isPeople_21 rfl rfl hq
theorem d_X12_whole_0 : decode cX12_whole 0 = .ok (.aload_n 0, 1) := by decide +kernel
theorem d_X12_whole_1 : decode cX12_whole 1 = .ok (.iconst 0, 1) := by decide +kernel
theorem d_X12_whole_2 : decode cX12_whole 2 = .ok (.putfield 1, 3) := by decide +kernel
theorem d_X12_whole_5 : decode cX12_whole 5 = .ok (.aload_n 0, 1) := by decide +kernel
theorem d_X12_whole_6 : decode cX12_whole 6 = .ok (.iload_n 1, 1) := by decide +kernel
theorem d_X12_whole_7 : decode cX12_whole 7 = .ok (.invokevirtual 268, 3) := by decide +kernel
theorem d_X12_whole_10 : decode cX12_whole 10 = .ok (.ifCond .ne 6, 3) := by decide +kernel
theorem d_X12_whole_13 : decode cX12_whole 13 = .ok (.bipush (-3), 2) := by decide +kernel
theorem d_X12_whole_15 : decode cX12_whole 15 = .ok (.ireturn, 1) := by decide +kernel
theorem d_X12_whole_16 : decode cX12_whole 16 = .ok (.iconst 0, 1) := by decide +kernel
theorem d_X12_whole_17 : decode cX12_whole 17 = .ok (.istore_n 2, 1) := by decide +kernel
theorem d_X12_whole_18 : decode cX12_whole 18 = .ok (.iconst 0, 1) := by decide +kernel
theorem d_X12_whole_19 : decode cX12_whole 19 = .ok (.istore_n 3, 1) := by decide +kernel
theorem d_X12_whole_20 : decode cX12_whole 20 = .ok (.iload_n 3, 1) := by decide +kernel
theorem d_X12_whole_21 : decode cX12_whole 21 = .ok (.aload_n 0, 1) := by decide +kernel
theorem d_X12_whole_22 : decode cX12_whole 22 = .ok (.getfield 13, 3) := by decide +kernel
theorem d_X12_whole_25 : decode cX12_whole 25 = .ok (.iconst 2, 1) := by decide +kernel
theorem d_X12_whole_26 : decode cX12_whole 26 = .ok (.iaload, 1) := by decide +kernel
theorem d_X12_whole_27 : decode cX12_whole 27 = .ok (.if_icmp .ge 77, 3) := by decide +kernel
theorem d_X12_whole_30 : decode cX12_whole 30 = .ok (.iconst 1, 1) := by decide +kernel
theorem d_X12_whole_31 : decode cX12_whole 31 = .ok (.istore 4, 2) := by decide +kernel
theorem d_X12_whole_33 : decode cX12_whole 33 = .ok (.iconst 0, 1) := by decide +kernel
theorem d_X12_whole_34 : decode cX12_whole 34 = .ok (.istore 5, 2) := by decide +kernel
theorem d_X12_whole_36 : decode cX12_whole 36 = .ok (.iload 5, 2) := by decide +kernel
theorem d_X12_whole_38 : decode cX12_whole 38 = .ok (.aload_n 0, 1) := by decide +kernel
theorem d_X12_whole_39 : decode cX12_whole 39 = .ok (.getfield 13, 3) := by decide +kernel
theorem d_X12_whole_42 : decode cX12_whole 42 = .ok (.iconst 4, 1) := by decide +kernel
theorem d_X12_whole_43 : decode cX12_whole 43 = .ok (.iaload, 1) := by decide +kernel
theorem d_X12_whole_44 : decode cX12_whole 44 = .ok (.if_icmp .ge 39, 3) := by decide +kernel
theorem d_X12_whole_47 : decode cX12_whole 47 = .ok (.iload 4, 2) := by decide +kernel
theorem d_X12_whole_49 : decode cX12_whole 49 = .ok (.iload_n 1, 1) := by decide +kernel
theorem d_X12_whole_50 : decode cX12_whole 50 = .ok (.i2l, 1) := by decide +kernel
theorem d_X12_whole_51 : decode cX12_whole 51 = .ok (.iload 5, 2) := by decide +kernel
theorem d_X12_whole_53 : decode cX12_whole 53 = .ok (.invokestatic 228, 3) := by decide +kernel
theorem d_X12_whole_56 : decode cX12_whole 56 = .ok (.ifCond .eq 13, 3) := by decide +kernel
theorem d_X12_whole_59 : decode cX12_whole 59 = .ok (.aload_n 0, 1) := by decide +kernel
theorem d_X12_whole_60 : decode cX12_whole 60 = .ok (.iload_n 3, 1) := by decide +kernel
theorem d_X12_whole_61 : decode cX12_whole 61 = .ok (.iload 5, 2) := by decide +kernel
theorem d_X12_whole_63 : decode cX12_whole 63 = .ok (.invokevirtual 265, 3) := by decide +kernel
theorem d_X12_whole_66 : decode cX12_whole 66 = .ok (.ifCond .ne 7, 3) := by decide +kernel
theorem d_X12_whole_69 : decode cX12_whole 69 = .ok (.iconst 1, 1) := by decide +kernel
theorem d_X12_whole_70 : decode cX12_whole 70 = .ok (.goto 4, 3) := by decide +kernel
theorem d_X12_whole_73 : decode cX12_whole 73 = .ok (.iconst 0, 1) := by decide +kernel
theorem d_X12_whole_74 : decode cX12_whole 74 = .ok (.iand, 1) := by decide +kernel
theorem d_X12_whole_75 : decode cX12_whole 75 = .ok (.istore 4, 2) := by decide +kernel
theorem d_X12_whole_77 : decode cX12_whole 77 = .ok (.iinc 5 1, 3) := by decide +kernel
theorem d_X12_whole_80 : decode cX12_whole 80 = .ok (.goto (-44), 3) := by decide +kernel
theorem d_X12_whole_83 : decode cX12_whole 83 = .ok (.iload_n 2, 1) := by decide +kernel
theorem d_X12_whole_84 : decode cX12_whole 84 = .ok (.iload 4, 2) := by decide +kernel
theorem d_X12_whole_86 : decode cX12_whole 86 = .ok (.ifCond .eq 9, 3) := by decide +kernel
theorem d_X12_whole_89 : decode cX12_whole 89 = .ok (.iconst 1, 1) := by decide +kernel
theorem d_X12_whole_90 : decode cX12_whole 90 = .ok (.iload_n 3, 1) := by decide +kernel
theorem d_X12_whole_91 : decode cX12_whole 91 = .ok (.ishl, 1) := by decide +kernel
theorem d_X12_whole_92 : decode cX12_whole 92 = .ok (.goto 4, 3) := by decide +kernel
theorem d_X12_whole_95 : decode cX12_whole 95 = .ok (.iconst 0, 1) := by decide +kernel
theorem d_X12_whole_96 : decode cX12_whole 96 = .ok (.ior, 1) := by decide +kernel
theorem d_X12_whole_97 : decode cX12_whole 97 = .ok (.istore_n 2, 1) := by decide +kernel
theorem d_X12_whole_98 : decode cX12_whole 98 = .ok (.iinc 3 1, 3) := by decide +kernel
theorem d_X12_whole_101 : decode cX12_whole 101 = .ok (.goto (-81), 3) := by decide +kernel
theorem d_X12_whole_104 : decode cX12_whole 104 = .ok (.iload_n 2, 1) := by decide +kernel
theorem d_X12_whole_105 : decode cX12_whole 105 = .ok (.ireturn, 1) := by decide +kernel
def F_X12_whole_b96 (k20 : Nat → Int32 → Int32 → Int32 → xH → Option (Int32 × xH)) (x0 : Nat) (x1 : Int32) (x3 : Int32) (s0 : Int32) (s1 : Int32) (h : xH) : Option (Int32 × xH) := k20 x0 x1 (s0 ||| s1) (x3 + 1) h
theorem R_X12_whole_b96 {Γ : xG} {l : Launch} {d : Nat} {Q : Option Value → xH → Prop} {r : Int32} {h' : xH} {k20 : Nat → Int32 → Int32 → Int32 → xH → Option (Int32 × xH)} (K20 : ∀ (x0 : Nat) (x1 : Int32) (x2 : Int32) (x3 : Int32)  (h : xH), k20 x0 x1 x2 x3 h = some (r, h') → Gd Γ l d m_X12_whole 20 [.ref x0, .int x1, .int x2, .int x3, xhole, xhole] [] h 0 0 Q) (hdp : 5 ≤ d) (hq : Q (some (.int r)) h') : ∀ (x0 : Nat) (x1 : Int32) (x3 : Int32) (s0 : Int32) (s1 : Int32) (h : xH), F_X12_whole_b96 k20 x0 x1 x3 s0 s1 h = some (r, h') → Gd Γ l d m_X12_whole 96 [.ref x0, .int x1, xhole, .int x3, xhole, xhole] [.int s1, .int s0] h 0 0 Q := by
  intro x0 x1 x3 s0 s1 h hF
  unfold F_X12_whole_b96 at hF
  refine g_ior d_X12_whole_96 ?_
  refine q_istoren [.ref x0, .int x1, .int (s0 ||| s1), .int x3, xhole, xhole] d_X12_whole_97 (by decide) rfl ?_
  refine q_iinc (1) [.ref x0, .int x1, .int (s0 ||| s1), .int (x3 + 1), xhole, xhole] d_X12_whole_98 ic_1 rfl (by decide) rfl ?_
  refine g_goto 20 d_X12_whole_101 rfl ?_
  exact q_to (xs_r (xs_r (xs_r (xs_r (xs_h (xs_h xs_n)))))) (K20 _ _ _ _ _ hF)
def F_X12_whole_b74 (k20 : Nat → Int32 → Int32 → Int32 → xH → Option (Int32 × xH)) (k36 : Nat → Int32 → Int32 → Int32 → Int32 → Int32 → xH → Option (Int32 × xH)) (x0 : Nat) (x1 : Int32) (x2 : Int32) (x3 : Int32) (x5 : Int32) (s0 : Int32) (s1 : Int32) (h : xH) : Option (Int32 × xH) := k36 x0 x1 x2 x3 (s0 &&& s1) (x5 + 1) h
theorem R_X12_whole_b74 {Γ : xG} {l : Launch} {d : Nat} {Q : Option Value → xH → Prop} {r : Int32} {h' : xH} {k20 : Nat → Int32 → Int32 → Int32 → xH → Option (Int32 × xH)} {k36 : Nat → Int32 → Int32 → Int32 → Int32 → Int32 → xH → Option (Int32 × xH)} (K20 : ∀ (x0 : Nat) (x1 : Int32) (x2 : Int32) (x3 : Int32)  (h : xH), k20 x0 x1 x2 x3 h = some (r, h') → Gd Γ l d m_X12_whole 20 [.ref x0, .int x1, .int x2, .int x3, xhole, xhole] [] h 0 0 Q) (K36 : ∀ (x0 : Nat) (x1 : Int32) (x2 : Int32) (x3 : Int32) (x4 : Int32) (x5 : Int32)  (h : xH), k36 x0 x1 x2 x3 x4 x5 h = some (r, h') → Gd Γ l d m_X12_whole 36 [.ref x0, .int x1, .int x2, .int x3, .int x4, .int x5] [] h 0 0 Q) (hdp : 5 ≤ d) (hq : Q (some (.int r)) h') : ∀ (x0 : Nat) (x1 : Int32) (x2 : Int32) (x3 : Int32) (x5 : Int32) (s0 : Int32) (s1 : Int32) (h : xH), F_X12_whole_b74 k20 k36 x0 x1 x2 x3 x5 s0 s1 h = some (r, h') → Gd Γ l d m_X12_whole 74 [.ref x0, .int x1, .int x2, .int x3, xhole, .int x5] [.int s1, .int s0] h 0 0 Q := by
  intro x0 x1 x2 x3 x5 s0 s1 h hF
  unfold F_X12_whole_b74 at hF
  refine g_iand d_X12_whole_74 ?_
  refine q_istore [.ref x0, .int x1, .int x2, .int x3, .int (s0 &&& s1), .int x5] d_X12_whole_75 (by decide) rfl ?_
  refine q_iinc (1) [.ref x0, .int x1, .int x2, .int x3, .int (s0 &&& s1), .int (x5 + 1)] d_X12_whole_77 ic_1 rfl (by decide) rfl ?_
  refine g_goto 36 d_X12_whole_80 rfl ?_
  exact q_to (xs_r (xs_r (xs_r (xs_r (xs_r (xs_r xs_n)))))) (K36 _ _ _ _ _ _ _ hF)
def F_X12_whole_b36 (k20 : Nat → Int32 → Int32 → Int32 → xH → Option (Int32 × xH)) : Nat → Nat → Int32 → Int32 → Int32 → Int32 → Int32 → xH → Option (Int32 × xH)
  | 0, _, _, _, _, _, _, _ => none
  | n + 1, x0, x1, x2, x3, x4, x5, h => (fR h x0 11 1).bind fun v39 => (aI h v39 4).bind fun v43 => if v43 ≤ x5 then if x4 = 0 then F_X12_whole_b96 k20 x0 x1 x3 x2 0 h else F_X12_whole_b96 k20 x0 x1 x3 x2 (((1 : Int32)) <<< (x3 &&& 31)) h else (F_X12_isIn x1.toInt64 x5 h).bind fun z53 => if z53.1 = 0 then F_X12_whole_b74 k20 (F_X12_whole_b36 k20 n) x0 x1 x2 x3 x5 x4 1 z53.2 else (rc z53.2 x0 11).bind fun _ => (F_X12_stepsOf x0 x3 x5 z53.2).bind fun z63 => if ¬ z63.1 = 0 then F_X12_whole_b74 k20 (F_X12_whole_b36 k20 n) x0 x1 x2 x3 x5 x4 0 z63.2 else F_X12_whole_b74 k20 (F_X12_whole_b36 k20 n) x0 x1 x2 x3 x5 x4 1 z63.2
theorem R_X12_whole_b36 {Γ : xG} {l : Launch} {d : Nat} {Q : Option Value → xH → Prop} {r : Int32} {h' : xH} {k20 : Nat → Int32 → Int32 → Int32 → xH → Option (Int32 × xH)} (K20 : ∀ (x0 : Nat) (x1 : Int32) (x2 : Int32) (x3 : Int32)  (h : xH), k20 x0 x1 x2 x3 h = some (r, h') → Gd Γ l d m_X12_whole 20 [.ref x0, .int x1, .int x2, .int x3, xhole, xhole] [] h 0 0 Q) (hdp : 5 ≤ d) (hq : Q (some (.int r)) h') : ∀ (n : Nat) (x0 : Nat) (x1 : Int32) (x2 : Int32) (x3 : Int32) (x4 : Int32) (x5 : Int32) (h : xH), F_X12_whole_b36 k20 n x0 x1 x2 x3 x4 x5 h = some (r, h') → Gd Γ l d m_X12_whole 36 [.ref x0, .int x1, .int x2, .int x3, .int x4, .int x5] [] h 0 0 Q := by
  intro n
  induction n with
  | zero => intro x0 x1 x2 x3 x4 x5 h hF; cases hF
  | succ n ih =>
  intro x0 x1 x2 x3 x4 x5 h hF
  rw [F_X12_whole_b36] at hF
  refine g_iload d_X12_whole_36 rfl ?_
  refine g_aloadn d_X12_whole_38 rfl ?_
  obtain ⟨v39, e39, hF⟩ := Option.bind_eq_some_iff.mp hF
  refine q_fR d_X12_whole_39 f_X12_13 e39 ?_
  refine g_ic (4) d_X12_whole_42 ic_4 ?_
  obtain ⟨v43, e43, hF⟩ := Option.bind_eq_some_iff.mp hF
  refine q_aI d_X12_whole_43 e43 ?_
  refine g_icmp_ge 83 d_X12_whole_44 rfl (fun c44 => ?_) (fun c44 => ?_)
  · have hF := x_t hF c44
    refine g_iloadn d_X12_whole_83 rfl ?_
    refine g_iload d_X12_whole_84 rfl ?_
    refine g_if_eq 95 d_X12_whole_86 rfl (fun c86 => ?_) (fun c86 => ?_)
    · have hF := x_t hF c86
      refine g_ic (0) d_X12_whole_95 ic_0 ?_
      exact q_to (xs_r (xs_r (xs_h (xs_r (xs_h (xs_h xs_n)))))) (R_X12_whole_b96 K20 hdp hq _ _ _ _ _ _ hF)
    · have hF := x_f hF c86
      refine g_ic (1) d_X12_whole_89 ic_1 ?_
      refine g_iloadn d_X12_whole_90 rfl ?_
      refine g_ishl d_X12_whole_91 ?_
      refine g_goto 96 d_X12_whole_92 rfl ?_
      exact q_to (xs_r (xs_r (xs_h (xs_r (xs_h (xs_h xs_n)))))) (R_X12_whole_b96 K20 hdp hq _ _ _ _ _ _ hF)
  · have hF := x_f hF c44
    refine g_iload d_X12_whole_47 rfl ?_
    refine g_iloadn d_X12_whole_49 rfl ?_
    refine g_i2l d_X12_whole_50 ?_
    refine g_iload d_X12_whole_51 rfl ?_
    obtain ⟨⟨r53, h53⟩, e53, hF⟩ := Option.bind_eq_some_iff.mp hF
    try dsimp only at hF
    refine q_callS [.long (x1.toInt64), .int x5] [.int x4] rfl d_X12_whole_53 s_X12_228 (by omega) rfl (Nat.le_of_ble_eq_true rfl) (R_X12_isIn _ _ _ (by omega) e53) ?_
    refine g_if_eq 69 d_X12_whole_56 rfl (fun c56 => ?_) (fun c56 => ?_)
    · have hF := x_t hF c56
      refine g_ic (1) d_X12_whole_69 ic_1 ?_
      refine g_goto 74 d_X12_whole_70 rfl ?_
      exact q_to (xs_r (xs_r (xs_r (xs_r (xs_h (xs_r xs_n)))))) (R_X12_whole_b74 K20 ih hdp hq _ _ _ _ _ _ _ _ hF)
    · have hF := x_f hF c56
      refine g_aloadn d_X12_whole_59 rfl ?_
      refine g_iloadn d_X12_whole_60 rfl ?_
      refine g_iload d_X12_whole_61 rfl ?_
      obtain ⟨_, g63, hF⟩ := Option.bind_eq_some_iff.mp hF
      obtain ⟨⟨r63, h63⟩, e63, hF⟩ := Option.bind_eq_some_iff.mp hF
      try dsimp only at hF
      refine q_callV [.int x3, .int x5] [.int x4] rfl d_X12_whole_63 v_X12_265 (by omega) rfl (Nat.le_of_ble_eq_true rfl) (rc_rc g63 (by decide) rfl) (R_X12_stepsOf _ _ _ _ (by omega) e63) ?_
      refine g_if_ne 73 d_X12_whole_66 rfl (fun c66 => ?_) (fun c66 => ?_)
      · have hF := x_t hF c66
        refine g_ic (0) d_X12_whole_73 ic_0 ?_
        exact q_to (xs_r (xs_r (xs_r (xs_r (xs_h (xs_r xs_n)))))) (R_X12_whole_b74 K20 ih hdp hq _ _ _ _ _ _ _ _ hF)
      · have hF := x_f hF (not_not_intro c66)
        refine g_ic (1) d_X12_whole_69 ic_1 ?_
        refine g_goto 74 d_X12_whole_70 rfl ?_
        exact q_to (xs_r (xs_r (xs_r (xs_r (xs_h (xs_r xs_n)))))) (R_X12_whole_b74 K20 ih hdp hq _ _ _ _ _ _ _ _ hF)
def F_X12_whole_b20 : Nat → Nat → Int32 → Int32 → Int32 → xH → Option (Int32 × xH)
  | 0, _, _, _, _, _ => none
  | n + 1, x0, x1, x2, x3, h => (fR h x0 11 1).bind fun v22 => (aI h v22 2).bind fun v26 => if v26 ≤ x3 then some (x2, h) else F_X12_whole_b36 (F_X12_whole_b20 n) FU x0 x1 x2 x3 1 0 h
theorem R_X12_whole_b20 {Γ : xG} {l : Launch} {d : Nat} {Q : Option Value → xH → Prop} {r : Int32} {h' : xH} (hdp : 5 ≤ d) (hq : Q (some (.int r)) h') : ∀ (n : Nat) (x0 : Nat) (x1 : Int32) (x2 : Int32) (x3 : Int32) (h : xH), F_X12_whole_b20 n x0 x1 x2 x3 h = some (r, h') → Gd Γ l d m_X12_whole 20 [.ref x0, .int x1, .int x2, .int x3, xhole, xhole] [] h 0 0 Q := by
  intro n
  induction n with
  | zero => intro x0 x1 x2 x3 h hF; cases hF
  | succ n ih =>
  intro x0 x1 x2 x3 h hF
  rw [F_X12_whole_b20] at hF
  refine g_iloadn d_X12_whole_20 rfl ?_
  refine g_aloadn d_X12_whole_21 rfl ?_
  obtain ⟨v22, e22, hF⟩ := Option.bind_eq_some_iff.mp hF
  refine q_fR d_X12_whole_22 f_X12_13 e22 ?_
  refine g_ic (2) d_X12_whole_25 ic_2 ?_
  obtain ⟨v26, e26, hF⟩ := Option.bind_eq_some_iff.mp hF
  refine q_aI d_X12_whole_26 e26 ?_
  refine g_icmp_ge 104 d_X12_whole_27 rfl (fun c27 => ?_) (fun c27 => ?_)
  · have hF := x_t hF c27
    refine g_iloadn d_X12_whole_104 rfl ?_
    obtain ⟨rfl, rfl⟩ := x_inj hF
    exact g_iret d_X12_whole_105 rfl hq
  · have hF := x_f hF c27
    refine g_ic (1) d_X12_whole_30 ic_1 ?_
    refine q_istore [.ref x0, .int x1, .int x2, .int x3, .int 1, xhole] d_X12_whole_31 (by decide) rfl ?_
    refine g_ic (0) d_X12_whole_33 ic_0 ?_
    refine q_istore [.ref x0, .int x1, .int x2, .int x3, .int 1, .int 0] d_X12_whole_34 (by decide) rfl ?_
    exact q_to (xs_r (xs_r (xs_r (xs_r (xs_r (xs_r xs_n)))))) (R_X12_whole_b36 ih hdp hq FU _ _ _ _ _ _ _ hF)
def F_X12_whole (x0 : Nat) (x1 : Int32) (h : xH) : Option (Int32 × xH) := (wI h x0 11 0 0).bind fun h2 => (rc h2 x0 11).bind fun _ => (F_X12_isPeople x0 x1 h2).bind fun z7 => if ¬ z7.1 = 0 then F_X12_whole_b20 FU x0 x1 0 0 z7.2 else some ((-3), z7.2)
theorem R_X12_whole {Γ : xG} {l : Launch} {d : Nat} {r : Int32} {h' : xH} (x0 : Nat) (x1 : Int32) (h : xH) (hdp : 5 ≤ d) (hF : F_X12_whole x0 x1 h = some (r, h')) : Gm Γ l d 0 0 m_X12_whole [.ref x0, .int x1] h (fun a u => a = some (.int r) ∧ u = h') := by
  refine Gm.of pn_X12 (Nat.le_of_ble_eq_true rfl) ?_
  show Gd Γ l d m_X12_whole 0 [.ref x0, .int x1, xhole, xhole, xhole, xhole] [] h 0 0 _
  generalize hQ : (fun (a : Option Value) (u : xH) => a = some (.int r) ∧ u = h') = Q
  have hq : Q (some (.int r)) h' := by rw [← hQ]; exact ⟨rfl, rfl⟩
  clear hQ
  unfold F_X12_whole at hF
  refine g_aloadn d_X12_whole_0 rfl ?_
  refine g_ic (0) d_X12_whole_1 ic_0 ?_
  obtain ⟨h2, e2, hF⟩ := Option.bind_eq_some_iff.mp hF
  refine q_wI d_X12_whole_2 (w_X12_1 _) e2 ?_
  refine g_aloadn d_X12_whole_5 rfl ?_
  refine g_iloadn d_X12_whole_6 rfl ?_
  obtain ⟨_, g7, hF⟩ := Option.bind_eq_some_iff.mp hF
  obtain ⟨⟨r7, h7⟩, e7, hF⟩ := Option.bind_eq_some_iff.mp hF
  try dsimp only at hF
  refine q_callV [.int x1] [] rfl d_X12_whole_7 v_X12_268 (by omega) rfl (Nat.le_of_ble_eq_true rfl) (rc_rc g7 (by decide) rfl) (R_X12_isPeople _ _ _ (by omega) e7) ?_
  refine g_if_ne 16 d_X12_whole_10 rfl (fun c10 => ?_) (fun c10 => ?_)
  · have hF := x_t hF c10
    refine g_ic (0) d_X12_whole_16 ic_0 ?_
    refine q_istoren [.ref x0, .int x1, .int 0, xhole, xhole, xhole] d_X12_whole_17 (by decide) rfl ?_
    refine g_ic (0) d_X12_whole_18 ic_0 ?_
    refine q_istoren [.ref x0, .int x1, .int 0, .int 0, xhole, xhole] d_X12_whole_19 (by decide) rfl ?_
    exact q_to (xs_r (xs_r (xs_r (xs_r (xs_h (xs_h xs_n)))))) (R_X12_whole_b20 hdp hq FU _ _ _ _ _ hF)
  · have hF := x_f hF (not_not_intro c10)
    refine g_bi (-3) d_X12_whole_13 bi_m3 ?_
    obtain ⟨rfl, rfl⟩ := x_inj hF
    exact g_iret d_X12_whole_15 rfl hq
theorem d_X12_owners_0 : decode cX12_owners 0 = .ok (.aload_n 0, 1) := by decide +kernel
theorem d_X12_owners_1 : decode cX12_owners 1 = .ok (.iconst 0, 1) := by decide +kernel
theorem d_X12_owners_2 : decode cX12_owners 2 = .ok (.putfield 1, 3) := by decide +kernel
theorem d_X12_owners_5 : decode cX12_owners 5 = .ok (.aload_n 0, 1) := by decide +kernel
theorem d_X12_owners_6 : decode cX12_owners 6 = .ok (.iload_n 1, 1) := by decide +kernel
theorem d_X12_owners_7 : decode cX12_owners 7 = .ok (.i2l, 1) := by decide +kernel
theorem d_X12_owners_8 : decode cX12_owners 8 = .ok (.invokevirtual 271, 3) := by decide +kernel
theorem d_X12_owners_11 : decode cX12_owners 11 = .ok (.ifCond .ne 6, 3) := by decide +kernel
theorem d_X12_owners_14 : decode cX12_owners 14 = .ok (.bipush (-2), 2) := by decide +kernel
theorem d_X12_owners_16 : decode cX12_owners 16 = .ok (.ireturn, 1) := by decide +kernel
theorem d_X12_owners_17 : decode cX12_owners 17 = .ok (.iconst 0, 1) := by decide +kernel
theorem d_X12_owners_18 : decode cX12_owners 18 = .ok (.istore_n 2, 1) := by decide +kernel
theorem d_X12_owners_19 : decode cX12_owners 19 = .ok (.iconst 0, 1) := by decide +kernel
theorem d_X12_owners_20 : decode cX12_owners 20 = .ok (.istore_n 3, 1) := by decide +kernel
theorem d_X12_owners_21 : decode cX12_owners 21 = .ok (.iload_n 3, 1) := by decide +kernel
theorem d_X12_owners_22 : decode cX12_owners 22 = .ok (.aload_n 0, 1) := by decide +kernel
theorem d_X12_owners_23 : decode cX12_owners 23 = .ok (.getfield 13, 3) := by decide +kernel
theorem d_X12_owners_26 : decode cX12_owners 26 = .ok (.iconst 4, 1) := by decide +kernel
theorem d_X12_owners_27 : decode cX12_owners 27 = .ok (.iaload, 1) := by decide +kernel
theorem d_X12_owners_28 : decode cX12_owners 28 = .ok (.if_icmp .ge 28, 3) := by decide +kernel
theorem d_X12_owners_31 : decode cX12_owners 31 = .ok (.iload_n 2, 1) := by decide +kernel
theorem d_X12_owners_32 : decode cX12_owners 32 = .ok (.aload_n 0, 1) := by decide +kernel
theorem d_X12_owners_33 : decode cX12_owners 33 = .ok (.iload_n 3, 1) := by decide +kernel
theorem d_X12_owners_34 : decode cX12_owners 34 = .ok (.iload_n 1, 1) := by decide +kernel
theorem d_X12_owners_35 : decode cX12_owners 35 = .ok (.invokevirtual 242, 3) := by decide +kernel
theorem d_X12_owners_38 : decode cX12_owners 38 = .ok (.ifCond .eq 7, 3) := by decide +kernel
theorem d_X12_owners_41 : decode cX12_owners 41 = .ok (.iconst 0, 1) := by decide +kernel
theorem d_X12_owners_42 : decode cX12_owners 42 = .ok (.goto 6, 3) := by decide +kernel
theorem d_X12_owners_45 : decode cX12_owners 45 = .ok (.iconst 1, 1) := by decide +kernel
theorem d_X12_owners_46 : decode cX12_owners 46 = .ok (.iload_n 3, 1) := by decide +kernel
theorem d_X12_owners_47 : decode cX12_owners 47 = .ok (.ishl, 1) := by decide +kernel
theorem d_X12_owners_48 : decode cX12_owners 48 = .ok (.ior, 1) := by decide +kernel
theorem d_X12_owners_49 : decode cX12_owners 49 = .ok (.istore_n 2, 1) := by decide +kernel
theorem d_X12_owners_50 : decode cX12_owners 50 = .ok (.iinc 3 1, 3) := by decide +kernel
theorem d_X12_owners_53 : decode cX12_owners 53 = .ok (.goto (-32), 3) := by decide +kernel
theorem d_X12_owners_56 : decode cX12_owners 56 = .ok (.iload_n 2, 1) := by decide +kernel
theorem d_X12_owners_57 : decode cX12_owners 57 = .ok (.ireturn, 1) := by decide +kernel
def F_X12_owners_b48 (k21 : Nat → Int32 → Int32 → Int32 → xH → Option (Int32 × xH)) (x0 : Nat) (x1 : Int32) (x3 : Int32) (s0 : Int32) (s1 : Int32) (h : xH) : Option (Int32 × xH) := k21 x0 x1 (s0 ||| s1) (x3 + 1) h
theorem R_X12_owners_b48 {Γ : xG} {l : Launch} {d : Nat} {Q : Option Value → xH → Prop} {r : Int32} {h' : xH} {k21 : Nat → Int32 → Int32 → Int32 → xH → Option (Int32 × xH)} (K21 : ∀ (x0 : Nat) (x1 : Int32) (x2 : Int32) (x3 : Int32)  (h : xH), k21 x0 x1 x2 x3 h = some (r, h') → Gd Γ l d m_X12_owners 21 [.ref x0, .int x1, .int x2, .int x3] [] h 0 0 Q) (hdp : 4 ≤ d) (hq : Q (some (.int r)) h') : ∀ (x0 : Nat) (x1 : Int32) (x3 : Int32) (s0 : Int32) (s1 : Int32) (h : xH), F_X12_owners_b48 k21 x0 x1 x3 s0 s1 h = some (r, h') → Gd Γ l d m_X12_owners 48 [.ref x0, .int x1, xhole, .int x3] [.int s1, .int s0] h 0 0 Q := by
  intro x0 x1 x3 s0 s1 h hF
  unfold F_X12_owners_b48 at hF
  refine g_ior d_X12_owners_48 ?_
  refine q_istoren [.ref x0, .int x1, .int (s0 ||| s1), .int x3] d_X12_owners_49 (by decide) rfl ?_
  refine q_iinc (1) [.ref x0, .int x1, .int (s0 ||| s1), .int (x3 + 1)] d_X12_owners_50 ic_1 rfl (by decide) rfl ?_
  refine g_goto 21 d_X12_owners_53 rfl ?_
  exact q_to (xs_r (xs_r (xs_r (xs_r xs_n)))) (K21 _ _ _ _ _ hF)
def F_X12_owners_b21 : Nat → Nat → Int32 → Int32 → Int32 → xH → Option (Int32 × xH)
  | 0, _, _, _, _, _ => none
  | n + 1, x0, x1, x2, x3, h => (fR h x0 11 1).bind fun v23 => (aI h v23 4).bind fun v27 => if v27 ≤ x3 then some (x2, h) else (rc h x0 11).bind fun _ => (F_X12_hearsNow x0 x3 x1 h).bind fun z35 => if z35.1 = 0 then F_X12_owners_b48 (F_X12_owners_b21 n) x0 x1 x3 x2 (((1 : Int32)) <<< (x3 &&& 31)) z35.2 else F_X12_owners_b48 (F_X12_owners_b21 n) x0 x1 x3 x2 0 z35.2
theorem R_X12_owners_b21 {Γ : xG} {l : Launch} {d : Nat} {Q : Option Value → xH → Prop} {r : Int32} {h' : xH} (hdp : 4 ≤ d) (hq : Q (some (.int r)) h') : ∀ (n : Nat) (x0 : Nat) (x1 : Int32) (x2 : Int32) (x3 : Int32) (h : xH), F_X12_owners_b21 n x0 x1 x2 x3 h = some (r, h') → Gd Γ l d m_X12_owners 21 [.ref x0, .int x1, .int x2, .int x3] [] h 0 0 Q := by
  intro n
  induction n with
  | zero => intro x0 x1 x2 x3 h hF; cases hF
  | succ n ih =>
  intro x0 x1 x2 x3 h hF
  rw [F_X12_owners_b21] at hF
  refine g_iloadn d_X12_owners_21 rfl ?_
  refine g_aloadn d_X12_owners_22 rfl ?_
  obtain ⟨v23, e23, hF⟩ := Option.bind_eq_some_iff.mp hF
  refine q_fR d_X12_owners_23 f_X12_13 e23 ?_
  refine g_ic (4) d_X12_owners_26 ic_4 ?_
  obtain ⟨v27, e27, hF⟩ := Option.bind_eq_some_iff.mp hF
  refine q_aI d_X12_owners_27 e27 ?_
  refine g_icmp_ge 56 d_X12_owners_28 rfl (fun c28 => ?_) (fun c28 => ?_)
  · have hF := x_t hF c28
    refine g_iloadn d_X12_owners_56 rfl ?_
    obtain ⟨rfl, rfl⟩ := x_inj hF
    exact g_iret d_X12_owners_57 rfl hq
  · have hF := x_f hF c28
    refine g_iloadn d_X12_owners_31 rfl ?_
    refine g_aloadn d_X12_owners_32 rfl ?_
    refine g_iloadn d_X12_owners_33 rfl ?_
    refine g_iloadn d_X12_owners_34 rfl ?_
    obtain ⟨_, g35, hF⟩ := Option.bind_eq_some_iff.mp hF
    obtain ⟨⟨r35, h35⟩, e35, hF⟩ := Option.bind_eq_some_iff.mp hF
    try dsimp only at hF
    refine q_callV [.int x3, .int x1] [.int x2] rfl d_X12_owners_35 v_X12_242 (by omega) rfl (Nat.le_of_ble_eq_true rfl) (rc_rc g35 (by decide) rfl) (R_X12_hearsNow _ _ _ _ (by omega) e35) ?_
    refine g_if_eq 45 d_X12_owners_38 rfl (fun c38 => ?_) (fun c38 => ?_)
    · have hF := x_t hF c38
      refine g_ic (1) d_X12_owners_45 ic_1 ?_
      refine g_iloadn d_X12_owners_46 rfl ?_
      refine g_ishl d_X12_owners_47 ?_
      exact q_to (xs_r (xs_r (xs_h (xs_r xs_n)))) (R_X12_owners_b48 ih hdp hq _ _ _ _ _ _ hF)
    · have hF := x_f hF c38
      refine g_ic (0) d_X12_owners_41 ic_0 ?_
      refine g_goto 48 d_X12_owners_42 rfl ?_
      exact q_to (xs_r (xs_r (xs_h (xs_r xs_n)))) (R_X12_owners_b48 ih hdp hq _ _ _ _ _ _ hF)
def F_X12_owners (x0 : Nat) (x1 : Int32) (h : xH) : Option (Int32 × xH) := (wI h x0 11 0 0).bind fun h2 => (rc h2 x0 11).bind fun _ => (F_X12_isNote x0 x1.toInt64 h2).bind fun z8 => if ¬ z8.1 = 0 then F_X12_owners_b21 FU x0 x1 0 0 z8.2 else some ((-2), z8.2)
theorem R_X12_owners {Γ : xG} {l : Launch} {d : Nat} {r : Int32} {h' : xH} (x0 : Nat) (x1 : Int32) (h : xH) (hdp : 4 ≤ d) (hF : F_X12_owners x0 x1 h = some (r, h')) : Gm Γ l d 0 0 m_X12_owners [.ref x0, .int x1] h (fun a u => a = some (.int r) ∧ u = h') := by
  refine Gm.of pn_X12 (Nat.le_of_ble_eq_true rfl) ?_
  show Gd Γ l d m_X12_owners 0 [.ref x0, .int x1, xhole, xhole] [] h 0 0 _
  generalize hQ : (fun (a : Option Value) (u : xH) => a = some (.int r) ∧ u = h') = Q
  have hq : Q (some (.int r)) h' := by rw [← hQ]; exact ⟨rfl, rfl⟩
  clear hQ
  unfold F_X12_owners at hF
  refine g_aloadn d_X12_owners_0 rfl ?_
  refine g_ic (0) d_X12_owners_1 ic_0 ?_
  obtain ⟨h2, e2, hF⟩ := Option.bind_eq_some_iff.mp hF
  refine q_wI d_X12_owners_2 (w_X12_1 _) e2 ?_
  refine g_aloadn d_X12_owners_5 rfl ?_
  refine g_iloadn d_X12_owners_6 rfl ?_
  refine g_i2l d_X12_owners_7 ?_
  obtain ⟨_, g8, hF⟩ := Option.bind_eq_some_iff.mp hF
  obtain ⟨⟨r8, h8⟩, e8, hF⟩ := Option.bind_eq_some_iff.mp hF
  try dsimp only at hF
  refine q_callV [.long (x1.toInt64)] [] rfl d_X12_owners_8 v_X12_271 (by omega) rfl (Nat.le_of_ble_eq_true rfl) (rc_rc g8 (by decide) rfl) (R_X12_isNote _ _ _ (by omega) e8) ?_
  refine g_if_ne 17 d_X12_owners_11 rfl (fun c11 => ?_) (fun c11 => ?_)
  · have hF := x_t hF c11
    refine g_ic (0) d_X12_owners_17 ic_0 ?_
    refine q_istoren [.ref x0, .int x1, .int 0, xhole] d_X12_owners_18 (by decide) rfl ?_
    refine g_ic (0) d_X12_owners_19 ic_0 ?_
    refine q_istoren [.ref x0, .int x1, .int 0, .int 0] d_X12_owners_20 (by decide) rfl ?_
    exact q_to (xs_r (xs_r (xs_r (xs_r xs_n)))) (R_X12_owners_b21 hdp hq FU _ _ _ _ _ hF)
  · have hF := x_f hF (not_not_intro c11)
    refine g_bi (-2) d_X12_owners_14 bi_m2 ?_
    obtain ⟨rfl, rfl⟩ := x_inj hF
    exact g_iret d_X12_owners_16 rfl hq
theorem d_X12_keeps_0 : decode cX12_keeps 0 = .ok (.iconst 0, 1) := by decide +kernel
theorem d_X12_keeps_1 : decode cX12_keeps 1 = .ok (.istore_n 1, 1) := by decide +kernel
theorem d_X12_keeps_2 : decode cX12_keeps 2 = .ok (.iload_n 1, 1) := by decide +kernel
theorem d_X12_keeps_3 : decode cX12_keeps 3 = .ok (.bipush 20, 2) := by decide +kernel
theorem d_X12_keeps_5 : decode cX12_keeps 5 = .ok (.if_icmp .ge 24, 3) := by decide +kernel
theorem d_X12_keeps_8 : decode cX12_keeps 8 = .ok (.aload_n 0, 1) := by decide +kernel
theorem d_X12_keeps_9 : decode cX12_keeps 9 = .ok (.getfield 36, 3) := by decide +kernel
theorem d_X12_keeps_12 : decode cX12_keeps 12 = .ok (.iload_n 1, 1) := by decide +kernel
theorem d_X12_keeps_13 : decode cX12_keeps 13 = .ok (.aload_n 0, 1) := by decide +kernel
theorem d_X12_keeps_14 : decode cX12_keeps 14 = .ok (.getfield 13, 3) := by decide +kernel
theorem d_X12_keeps_17 : decode cX12_keeps 17 = .ok (.bipush 107, 2) := by decide +kernel
theorem d_X12_keeps_19 : decode cX12_keeps 19 = .ok (.iload_n 1, 1) := by decide +kernel
theorem d_X12_keeps_20 : decode cX12_keeps 20 = .ok (.iadd, 1) := by decide +kernel
theorem d_X12_keeps_21 : decode cX12_keeps 21 = .ok (.iaload, 1) := by decide +kernel
theorem d_X12_keeps_22 : decode cX12_keeps 22 = .ok (.iastore, 1) := by decide +kernel
theorem d_X12_keeps_23 : decode cX12_keeps 23 = .ok (.iinc 1 1, 3) := by decide +kernel
theorem d_X12_keeps_26 : decode cX12_keeps 26 = .ok (.goto (-24), 3) := by decide +kernel
theorem d_X12_keeps_29 : decode cX12_keeps 29 = .ok (.return_, 1) := by decide +kernel
def F_X12_keeps_b2 : Nat → Nat → Int32 → xH → Option (Unit × xH)
  | 0, _, _, _ => none
  | n + 1, x0, x1, h => if ((20 : Int32)) ≤ x1 then some ((), h) else (fR h x0 11 18).bind fun v9 => (fR h x0 11 1).bind fun v14 => (aI h v14 (((107 : Int32)) + x1)).bind fun v21 => (sI h v9 x1 v21).bind fun h22 => F_X12_keeps_b2 n x0 (x1 + 1) h22
theorem R_X12_keeps_b2 {Γ : xG} {l : Launch} {d : Nat} {Q : Option Value → xH → Prop} {r : Unit} {h' : xH} (hdp : 0 ≤ d) (hq : Q (none) h') : ∀ (n : Nat) (x0 : Nat) (x1 : Int32) (h : xH), F_X12_keeps_b2 n x0 x1 h = some (r, h') → Gd Γ l d m_X12_keeps 2 [.ref x0, .int x1] [] h 0 0 Q := by
  intro n
  induction n with
  | zero => intro x0 x1 h hF; cases hF
  | succ n ih =>
  intro x0 x1 h hF
  rw [F_X12_keeps_b2] at hF
  refine g_iloadn d_X12_keeps_2 rfl ?_
  refine g_bi (20) d_X12_keeps_3 bi_20 ?_
  refine g_icmp_ge 29 d_X12_keeps_5 rfl (fun c5 => ?_) (fun c5 => ?_)
  · have hF := x_t hF c5
    obtain ⟨rfl, rfl⟩ := x_inj hF
    exact g_vret d_X12_keeps_29 rfl hq
  · have hF := x_f hF c5
    refine g_aloadn d_X12_keeps_8 rfl ?_
    obtain ⟨v9, e9, hF⟩ := Option.bind_eq_some_iff.mp hF
    refine q_fR d_X12_keeps_9 f_X12_36 e9 ?_
    refine g_iloadn d_X12_keeps_12 rfl ?_
    refine g_aloadn d_X12_keeps_13 rfl ?_
    obtain ⟨v14, e14, hF⟩ := Option.bind_eq_some_iff.mp hF
    refine q_fR d_X12_keeps_14 f_X12_13 e14 ?_
    refine g_bi (107) d_X12_keeps_17 bi_107 ?_
    refine g_iloadn d_X12_keeps_19 rfl ?_
    refine g_iadd d_X12_keeps_20 ?_
    obtain ⟨v21, e21, hF⟩ := Option.bind_eq_some_iff.mp hF
    refine q_aI d_X12_keeps_21 e21 ?_
    obtain ⟨h22, e22, hF⟩ := Option.bind_eq_some_iff.mp hF
    refine q_sI d_X12_keeps_22 e22 ?_
    refine q_iinc (1) [.ref x0, .int (x1 + 1)] d_X12_keeps_23 ic_1 rfl (by decide) rfl ?_
    refine g_goto 2 d_X12_keeps_26 rfl ?_
    exact q_to (xs_r (xs_r xs_n)) (ih _ _ _ hF)
def F_X12_keeps (x0 : Nat) (h : xH) : Option (Unit × xH) := F_X12_keeps_b2 FU x0 0 h
theorem R_X12_keeps {Γ : xG} {l : Launch} {d : Nat} {r : Unit} {h' : xH} (x0 : Nat) (h : xH) (hdp : 0 ≤ d) (hF : F_X12_keeps x0 h = some (r, h')) : Gm Γ l d 0 0 m_X12_keeps [.ref x0] h (fun a u => a = none ∧ u = h') := by
  refine Gm.of pn_X12 (Nat.le_of_ble_eq_true rfl) ?_
  show Gd Γ l d m_X12_keeps 0 [.ref x0, xhole] [] h 0 0 _
  generalize hQ : (fun (a : Option Value) (u : xH) => a = none ∧ u = h') = Q
  have hq : Q (none) h' := by rw [← hQ]; exact ⟨rfl, rfl⟩
  clear hQ
  unfold F_X12_keeps at hF
  refine g_ic (0) d_X12_keeps_0 ic_0 ?_
  refine q_istoren [.ref x0, .int 0] d_X12_keeps_1 (by decide) rfl ?_
  exact q_to (xs_r (xs_r xs_n)) (R_X12_keeps_b2 hdp hq FU _ _ _ hF)
theorem d_X12_isAgain_0 : decode cX12_isAgain 0 = .ok (.iconst 0, 1) := by decide +kernel
theorem d_X12_isAgain_1 : decode cX12_isAgain 1 = .ok (.istore_n 1, 1) := by decide +kernel
theorem d_X12_isAgain_2 : decode cX12_isAgain 2 = .ok (.iload_n 1, 1) := by decide +kernel
theorem d_X12_isAgain_3 : decode cX12_isAgain 3 = .ok (.bipush 20, 2) := by decide +kernel
theorem d_X12_isAgain_5 : decode cX12_isAgain 5 = .ok (.if_icmp .ge 24, 3) := by decide +kernel
theorem d_X12_isAgain_8 : decode cX12_isAgain 8 = .ok (.aload_n 0, 1) := by decide +kernel
theorem d_X12_isAgain_9 : decode cX12_isAgain 9 = .ok (.getfield 13, 3) := by decide +kernel
theorem d_X12_isAgain_12 : decode cX12_isAgain 12 = .ok (.bipush 107, 2) := by decide +kernel
theorem d_X12_isAgain_14 : decode cX12_isAgain 14 = .ok (.iload_n 1, 1) := by decide +kernel
theorem d_X12_isAgain_15 : decode cX12_isAgain 15 = .ok (.iadd, 1) := by decide +kernel
theorem d_X12_isAgain_16 : decode cX12_isAgain 16 = .ok (.aload_n 0, 1) := by decide +kernel
theorem d_X12_isAgain_17 : decode cX12_isAgain 17 = .ok (.getfield 36, 3) := by decide +kernel
theorem d_X12_isAgain_20 : decode cX12_isAgain 20 = .ok (.iload_n 1, 1) := by decide +kernel
theorem d_X12_isAgain_21 : decode cX12_isAgain 21 = .ok (.iaload, 1) := by decide +kernel
theorem d_X12_isAgain_22 : decode cX12_isAgain 22 = .ok (.iastore, 1) := by decide +kernel
theorem d_X12_isAgain_23 : decode cX12_isAgain 23 = .ok (.iinc 1 1, 3) := by decide +kernel
theorem d_X12_isAgain_26 : decode cX12_isAgain 26 = .ok (.goto (-24), 3) := by decide +kernel
theorem d_X12_isAgain_29 : decode cX12_isAgain 29 = .ok (.return_, 1) := by decide +kernel
def F_X12_isAgain_b2 : Nat → Nat → Int32 → xH → Option (Unit × xH)
  | 0, _, _, _ => none
  | n + 1, x0, x1, h => if ((20 : Int32)) ≤ x1 then some ((), h) else (fR h x0 11 1).bind fun v9 => (fR h x0 11 18).bind fun v17 => (aI h v17 x1).bind fun v21 => (sI h v9 (((107 : Int32)) + x1) v21).bind fun h22 => F_X12_isAgain_b2 n x0 (x1 + 1) h22
theorem R_X12_isAgain_b2 {Γ : xG} {l : Launch} {d : Nat} {Q : Option Value → xH → Prop} {r : Unit} {h' : xH} (hdp : 0 ≤ d) (hq : Q (none) h') : ∀ (n : Nat) (x0 : Nat) (x1 : Int32) (h : xH), F_X12_isAgain_b2 n x0 x1 h = some (r, h') → Gd Γ l d m_X12_isAgain 2 [.ref x0, .int x1] [] h 0 0 Q := by
  intro n
  induction n with
  | zero => intro x0 x1 h hF; cases hF
  | succ n ih =>
  intro x0 x1 h hF
  rw [F_X12_isAgain_b2] at hF
  refine g_iloadn d_X12_isAgain_2 rfl ?_
  refine g_bi (20) d_X12_isAgain_3 bi_20 ?_
  refine g_icmp_ge 29 d_X12_isAgain_5 rfl (fun c5 => ?_) (fun c5 => ?_)
  · have hF := x_t hF c5
    obtain ⟨rfl, rfl⟩ := x_inj hF
    exact g_vret d_X12_isAgain_29 rfl hq
  · have hF := x_f hF c5
    refine g_aloadn d_X12_isAgain_8 rfl ?_
    obtain ⟨v9, e9, hF⟩ := Option.bind_eq_some_iff.mp hF
    refine q_fR d_X12_isAgain_9 f_X12_13 e9 ?_
    refine g_bi (107) d_X12_isAgain_12 bi_107 ?_
    refine g_iloadn d_X12_isAgain_14 rfl ?_
    refine g_iadd d_X12_isAgain_15 ?_
    refine g_aloadn d_X12_isAgain_16 rfl ?_
    obtain ⟨v17, e17, hF⟩ := Option.bind_eq_some_iff.mp hF
    refine q_fR d_X12_isAgain_17 f_X12_36 e17 ?_
    refine g_iloadn d_X12_isAgain_20 rfl ?_
    obtain ⟨v21, e21, hF⟩ := Option.bind_eq_some_iff.mp hF
    refine q_aI d_X12_isAgain_21 e21 ?_
    obtain ⟨h22, e22, hF⟩ := Option.bind_eq_some_iff.mp hF
    refine q_sI d_X12_isAgain_22 e22 ?_
    refine q_iinc (1) [.ref x0, .int (x1 + 1)] d_X12_isAgain_23 ic_1 rfl (by decide) rfl ?_
    refine g_goto 2 d_X12_isAgain_26 rfl ?_
    exact q_to (xs_r (xs_r xs_n)) (ih _ _ _ hF)
def F_X12_isAgain (x0 : Nat) (h : xH) : Option (Unit × xH) := F_X12_isAgain_b2 FU x0 0 h
theorem R_X12_isAgain {Γ : xG} {l : Launch} {d : Nat} {r : Unit} {h' : xH} (x0 : Nat) (h : xH) (hdp : 0 ≤ d) (hF : F_X12_isAgain x0 h = some (r, h')) : Gm Γ l d 0 0 m_X12_isAgain [.ref x0] h (fun a u => a = none ∧ u = h') := by
  refine Gm.of pn_X12 (Nat.le_of_ble_eq_true rfl) ?_
  show Gd Γ l d m_X12_isAgain 0 [.ref x0, xhole] [] h 0 0 _
  generalize hQ : (fun (a : Option Value) (u : xH) => a = none ∧ u = h') = Q
  have hq : Q (none) h' := by rw [← hQ]; exact ⟨rfl, rfl⟩
  clear hQ
  unfold F_X12_isAgain at hF
  refine g_ic (0) d_X12_isAgain_0 ic_0 ?_
  refine q_istoren [.ref x0, .int 0] d_X12_isAgain_1 (by decide) rfl ?_
  exact q_to (xs_r (xs_r xs_n)) (R_X12_isAgain_b2 hdp hq FU _ _ _ hF)
theorem d_X12_notes_0 : decode cX12_notes 0 = .ok (.aload_n 0, 1) := by decide +kernel
theorem d_X12_notes_1 : decode cX12_notes 1 = .ok (.getfield 13, 3) := by decide +kernel
theorem d_X12_notes_4 : decode cX12_notes 4 = .ok (.bipush 127, 2) := by decide +kernel
theorem d_X12_notes_6 : decode cX12_notes 6 = .ok (.iaload, 1) := by decide +kernel
theorem d_X12_notes_7 : decode cX12_notes 7 = .ok (.bipush 10, 2) := by decide +kernel
theorem d_X12_notes_9 : decode cX12_notes 9 = .ok (.if_icmp .ne 49, 3) := by decide +kernel
theorem d_X12_notes_12 : decode cX12_notes 12 = .ok (.iconst 0, 1) := by decide +kernel
theorem d_X12_notes_13 : decode cX12_notes 13 = .ok (.istore_n 1, 1) := by decide +kernel
theorem d_X12_notes_14 : decode cX12_notes 14 = .ok (.iload_n 1, 1) := by decide +kernel
theorem d_X12_notes_15 : decode cX12_notes 15 = .ok (.sipush 180, 3) := by decide +kernel
theorem d_X12_notes_18 : decode cX12_notes 18 = .ok (.if_icmp .ge 29, 3) := by decide +kernel
theorem d_X12_notes_21 : decode cX12_notes 21 = .ok (.aload_n 0, 1) := by decide +kernel
theorem d_X12_notes_22 : decode cX12_notes 22 = .ok (.getfield 13, 3) := by decide +kernel
theorem d_X12_notes_25 : decode cX12_notes 25 = .ok (.sipush 128, 3) := by decide +kernel
theorem d_X12_notes_28 : decode cX12_notes 28 = .ok (.iload_n 1, 1) := by decide +kernel
theorem d_X12_notes_29 : decode cX12_notes 29 = .ok (.iadd, 1) := by decide +kernel
theorem d_X12_notes_30 : decode cX12_notes 30 = .ok (.aload_n 0, 1) := by decide +kernel
theorem d_X12_notes_31 : decode cX12_notes 31 = .ok (.getfield 13, 3) := by decide +kernel
theorem d_X12_notes_34 : decode cX12_notes 34 = .ok (.sipush 148, 3) := by decide +kernel
theorem d_X12_notes_37 : decode cX12_notes 37 = .ok (.iload_n 1, 1) := by decide +kernel
theorem d_X12_notes_38 : decode cX12_notes 38 = .ok (.iadd, 1) := by decide +kernel
theorem d_X12_notes_39 : decode cX12_notes 39 = .ok (.iaload, 1) := by decide +kernel
theorem d_X12_notes_40 : decode cX12_notes 40 = .ok (.iastore, 1) := by decide +kernel
theorem d_X12_notes_41 : decode cX12_notes 41 = .ok (.iinc 1 1, 3) := by decide +kernel
theorem d_X12_notes_44 : decode cX12_notes 44 = .ok (.goto (-30), 3) := by decide +kernel
theorem d_X12_notes_47 : decode cX12_notes 47 = .ok (.aload_n 0, 1) := by decide +kernel
theorem d_X12_notes_48 : decode cX12_notes 48 = .ok (.getfield 13, 3) := by decide +kernel
theorem d_X12_notes_51 : decode cX12_notes 51 = .ok (.bipush 127, 2) := by decide +kernel
theorem d_X12_notes_53 : decode cX12_notes 53 = .ok (.dup2, 1) := by decide +kernel
theorem d_X12_notes_54 : decode cX12_notes 54 = .ok (.iaload, 1) := by decide +kernel
theorem d_X12_notes_55 : decode cX12_notes 55 = .ok (.iconst 1, 1) := by decide +kernel
theorem d_X12_notes_56 : decode cX12_notes 56 = .ok (.isub, 1) := by decide +kernel
theorem d_X12_notes_57 : decode cX12_notes 57 = .ok (.iastore, 1) := by decide +kernel
theorem d_X12_notes_58 : decode cX12_notes 58 = .ok (.iconst 0, 1) := by decide +kernel
theorem d_X12_notes_59 : decode cX12_notes 59 = .ok (.istore_n 1, 1) := by decide +kernel
theorem d_X12_notes_60 : decode cX12_notes 60 = .ok (.iload_n 1, 1) := by decide +kernel
theorem d_X12_notes_61 : decode cX12_notes 61 = .ok (.bipush 20, 2) := by decide +kernel
theorem d_X12_notes_63 : decode cX12_notes 63 = .ok (.if_icmp .ge 36, 3) := by decide +kernel
theorem d_X12_notes_66 : decode cX12_notes 66 = .ok (.aload_n 0, 1) := by decide +kernel
theorem d_X12_notes_67 : decode cX12_notes 67 = .ok (.getfield 13, 3) := by decide +kernel
theorem d_X12_notes_70 : decode cX12_notes 70 = .ok (.sipush 128, 3) := by decide +kernel
theorem d_X12_notes_73 : decode cX12_notes 73 = .ok (.bipush 20, 2) := by decide +kernel
theorem d_X12_notes_75 : decode cX12_notes 75 = .ok (.aload_n 0, 1) := by decide +kernel
theorem d_X12_notes_76 : decode cX12_notes 76 = .ok (.getfield 13, 3) := by decide +kernel
theorem d_X12_notes_79 : decode cX12_notes 79 = .ok (.bipush 127, 2) := by decide +kernel
theorem d_X12_notes_81 : decode cX12_notes 81 = .ok (.iaload, 1) := by decide +kernel
theorem d_X12_notes_82 : decode cX12_notes 82 = .ok (.imul, 1) := by decide +kernel
theorem d_X12_notes_83 : decode cX12_notes 83 = .ok (.iadd, 1) := by decide +kernel
theorem d_X12_notes_84 : decode cX12_notes 84 = .ok (.iload_n 1, 1) := by decide +kernel
theorem d_X12_notes_85 : decode cX12_notes 85 = .ok (.iadd, 1) := by decide +kernel
theorem d_X12_notes_86 : decode cX12_notes 86 = .ok (.aload_n 0, 1) := by decide +kernel
theorem d_X12_notes_87 : decode cX12_notes 87 = .ok (.getfield 36, 3) := by decide +kernel
theorem d_X12_notes_90 : decode cX12_notes 90 = .ok (.iload_n 1, 1) := by decide +kernel
theorem d_X12_notes_91 : decode cX12_notes 91 = .ok (.iaload, 1) := by decide +kernel
theorem d_X12_notes_92 : decode cX12_notes 92 = .ok (.iastore, 1) := by decide +kernel
theorem d_X12_notes_93 : decode cX12_notes 93 = .ok (.iinc 1 1, 3) := by decide +kernel
theorem d_X12_notes_96 : decode cX12_notes 96 = .ok (.goto (-36), 3) := by decide +kernel
theorem d_X12_notes_99 : decode cX12_notes 99 = .ok (.aload_n 0, 1) := by decide +kernel
theorem d_X12_notes_100 : decode cX12_notes 100 = .ok (.getfield 13, 3) := by decide +kernel
theorem d_X12_notes_103 : decode cX12_notes 103 = .ok (.bipush 127, 2) := by decide +kernel
theorem d_X12_notes_105 : decode cX12_notes 105 = .ok (.dup2, 1) := by decide +kernel
theorem d_X12_notes_106 : decode cX12_notes 106 = .ok (.iaload, 1) := by decide +kernel
theorem d_X12_notes_107 : decode cX12_notes 107 = .ok (.iconst 1, 1) := by decide +kernel
theorem d_X12_notes_108 : decode cX12_notes 108 = .ok (.iadd, 1) := by decide +kernel
theorem d_X12_notes_109 : decode cX12_notes 109 = .ok (.iastore, 1) := by decide +kernel
theorem d_X12_notes_110 : decode cX12_notes 110 = .ok (.return_, 1) := by decide +kernel
def F_X12_notes_b60 : Nat → Nat → Int32 → xH → Option (Unit × xH)
  | 0, _, _, _ => none
  | n + 1, x0, x1, h => if ((20 : Int32)) ≤ x1 then (fR h x0 11 1).bind fun v100 => (aI h v100 127).bind fun v106 => (sI h v100 127 (v106 + 1)).bind fun h109 => some ((), h109) else (fR h x0 11 1).bind fun v67 => (fR h x0 11 1).bind fun v76 => (aI h v76 127).bind fun v81 => (fR h x0 11 18).bind fun v87 => (aI h v87 x1).bind fun v91 => (sI h v67 ((((128 : Int32)) + (((20 : Int32)) * v81)) + x1) v91).bind fun h92 => F_X12_notes_b60 n x0 (x1 + 1) h92
theorem R_X12_notes_b60 {Γ : xG} {l : Launch} {d : Nat} {Q : Option Value → xH → Prop} {r : Unit} {h' : xH} (hdp : 0 ≤ d) (hq : Q (none) h') : ∀ (n : Nat) (x0 : Nat) (x1 : Int32) (h : xH), F_X12_notes_b60 n x0 x1 h = some (r, h') → Gd Γ l d m_X12_notes 60 [.ref x0, .int x1] [] h 0 0 Q := by
  intro n
  induction n with
  | zero => intro x0 x1 h hF; cases hF
  | succ n ih =>
  intro x0 x1 h hF
  rw [F_X12_notes_b60] at hF
  refine g_iloadn d_X12_notes_60 rfl ?_
  refine g_bi (20) d_X12_notes_61 bi_20 ?_
  refine g_icmp_ge 99 d_X12_notes_63 rfl (fun c63 => ?_) (fun c63 => ?_)
  · have hF := x_t hF c63
    refine g_aloadn d_X12_notes_99 rfl ?_
    obtain ⟨v100, e100, hF⟩ := Option.bind_eq_some_iff.mp hF
    refine q_fR d_X12_notes_100 f_X12_13 e100 ?_
    refine g_bi (127) d_X12_notes_103 bi_127 ?_
    refine g_dup2 d_X12_notes_105 rfl rfl ?_
    obtain ⟨v106, e106, hF⟩ := Option.bind_eq_some_iff.mp hF
    refine q_aI d_X12_notes_106 e106 ?_
    refine g_ic (1) d_X12_notes_107 ic_1 ?_
    refine g_iadd d_X12_notes_108 ?_
    obtain ⟨h109, e109, hF⟩ := Option.bind_eq_some_iff.mp hF
    refine q_sI d_X12_notes_109 e109 ?_
    obtain ⟨rfl, rfl⟩ := x_inj hF
    exact g_vret d_X12_notes_110 rfl hq
  · have hF := x_f hF c63
    refine g_aloadn d_X12_notes_66 rfl ?_
    obtain ⟨v67, e67, hF⟩ := Option.bind_eq_some_iff.mp hF
    refine q_fR d_X12_notes_67 f_X12_13 e67 ?_
    refine g_si (128) d_X12_notes_70 si_128 ?_
    refine g_bi (20) d_X12_notes_73 bi_20 ?_
    refine g_aloadn d_X12_notes_75 rfl ?_
    obtain ⟨v76, e76, hF⟩ := Option.bind_eq_some_iff.mp hF
    refine q_fR d_X12_notes_76 f_X12_13 e76 ?_
    refine g_bi (127) d_X12_notes_79 bi_127 ?_
    obtain ⟨v81, e81, hF⟩ := Option.bind_eq_some_iff.mp hF
    refine q_aI d_X12_notes_81 e81 ?_
    refine g_imul d_X12_notes_82 ?_
    refine g_iadd d_X12_notes_83 ?_
    refine g_iloadn d_X12_notes_84 rfl ?_
    refine g_iadd d_X12_notes_85 ?_
    refine g_aloadn d_X12_notes_86 rfl ?_
    obtain ⟨v87, e87, hF⟩ := Option.bind_eq_some_iff.mp hF
    refine q_fR d_X12_notes_87 f_X12_36 e87 ?_
    refine g_iloadn d_X12_notes_90 rfl ?_
    obtain ⟨v91, e91, hF⟩ := Option.bind_eq_some_iff.mp hF
    refine q_aI d_X12_notes_91 e91 ?_
    obtain ⟨h92, e92, hF⟩ := Option.bind_eq_some_iff.mp hF
    refine q_sI d_X12_notes_92 e92 ?_
    refine q_iinc (1) [.ref x0, .int (x1 + 1)] d_X12_notes_93 ic_1 rfl (by decide) rfl ?_
    refine g_goto 60 d_X12_notes_96 rfl ?_
    exact q_to (xs_r (xs_r xs_n)) (ih _ _ _ hF)
def F_X12_notes_b14 : Nat → Nat → Int32 → xH → Option (Unit × xH)
  | 0, _, _, _ => none
  | n + 1, x0, x1, h => if ((180 : Int32)) ≤ x1 then (fR h x0 11 1).bind fun v48 => (aI h v48 127).bind fun v54 => (sI h v48 127 (v54 - 1)).bind fun h57 => F_X12_notes_b60 FU x0 0 h57 else (fR h x0 11 1).bind fun v22 => (fR h x0 11 1).bind fun v31 => (aI h v31 (((148 : Int32)) + x1)).bind fun v39 => (sI h v22 (((128 : Int32)) + x1) v39).bind fun h40 => F_X12_notes_b14 n x0 (x1 + 1) h40
theorem R_X12_notes_b14 {Γ : xG} {l : Launch} {d : Nat} {Q : Option Value → xH → Prop} {r : Unit} {h' : xH} (hdp : 0 ≤ d) (hq : Q (none) h') : ∀ (n : Nat) (x0 : Nat) (x1 : Int32) (h : xH), F_X12_notes_b14 n x0 x1 h = some (r, h') → Gd Γ l d m_X12_notes 14 [.ref x0, .int x1] [] h 0 0 Q := by
  intro n
  induction n with
  | zero => intro x0 x1 h hF; cases hF
  | succ n ih =>
  intro x0 x1 h hF
  rw [F_X12_notes_b14] at hF
  refine g_iloadn d_X12_notes_14 rfl ?_
  refine g_si (180) d_X12_notes_15 si_180 ?_
  refine g_icmp_ge 47 d_X12_notes_18 rfl (fun c18 => ?_) (fun c18 => ?_)
  · have hF := x_t hF c18
    refine g_aloadn d_X12_notes_47 rfl ?_
    obtain ⟨v48, e48, hF⟩ := Option.bind_eq_some_iff.mp hF
    refine q_fR d_X12_notes_48 f_X12_13 e48 ?_
    refine g_bi (127) d_X12_notes_51 bi_127 ?_
    refine g_dup2 d_X12_notes_53 rfl rfl ?_
    obtain ⟨v54, e54, hF⟩ := Option.bind_eq_some_iff.mp hF
    refine q_aI d_X12_notes_54 e54 ?_
    refine g_ic (1) d_X12_notes_55 ic_1 ?_
    refine g_isub d_X12_notes_56 ?_
    obtain ⟨h57, e57, hF⟩ := Option.bind_eq_some_iff.mp hF
    refine q_sI d_X12_notes_57 e57 ?_
    refine g_ic (0) d_X12_notes_58 ic_0 ?_
    refine q_istoren [.ref x0, .int 0] d_X12_notes_59 (by decide) rfl ?_
    exact q_to (xs_r (xs_r xs_n)) (R_X12_notes_b60 hdp hq FU _ _ _ hF)
  · have hF := x_f hF c18
    refine g_aloadn d_X12_notes_21 rfl ?_
    obtain ⟨v22, e22, hF⟩ := Option.bind_eq_some_iff.mp hF
    refine q_fR d_X12_notes_22 f_X12_13 e22 ?_
    refine g_si (128) d_X12_notes_25 si_128 ?_
    refine g_iloadn d_X12_notes_28 rfl ?_
    refine g_iadd d_X12_notes_29 ?_
    refine g_aloadn d_X12_notes_30 rfl ?_
    obtain ⟨v31, e31, hF⟩ := Option.bind_eq_some_iff.mp hF
    refine q_fR d_X12_notes_31 f_X12_13 e31 ?_
    refine g_si (148) d_X12_notes_34 si_148 ?_
    refine g_iloadn d_X12_notes_37 rfl ?_
    refine g_iadd d_X12_notes_38 ?_
    obtain ⟨v39, e39, hF⟩ := Option.bind_eq_some_iff.mp hF
    refine q_aI d_X12_notes_39 e39 ?_
    obtain ⟨h40, e40, hF⟩ := Option.bind_eq_some_iff.mp hF
    refine q_sI d_X12_notes_40 e40 ?_
    refine q_iinc (1) [.ref x0, .int (x1 + 1)] d_X12_notes_41 ic_1 rfl (by decide) rfl ?_
    refine g_goto 14 d_X12_notes_44 rfl ?_
    exact q_to (xs_r (xs_r xs_n)) (ih _ _ _ hF)
def F_X12_notes (x0 : Nat) (h : xH) : Option (Unit × xH) := (fR h x0 11 1).bind fun v1 => (aI h v1 127).bind fun v6 => if ¬ v6 = ((10 : Int32)) then F_X12_notes_b60 FU x0 0 h else F_X12_notes_b14 FU x0 0 h
theorem R_X12_notes {Γ : xG} {l : Launch} {d : Nat} {r : Unit} {h' : xH} (x0 : Nat) (h : xH) (hdp : 0 ≤ d) (hF : F_X12_notes x0 h = some (r, h')) : Gm Γ l d 0 0 m_X12_notes [.ref x0] h (fun a u => a = none ∧ u = h') := by
  refine Gm.of pn_X12 (Nat.le_of_ble_eq_true rfl) ?_
  show Gd Γ l d m_X12_notes 0 [.ref x0, xhole] [] h 0 0 _
  generalize hQ : (fun (a : Option Value) (u : xH) => a = none ∧ u = h') = Q
  have hq : Q (none) h' := by rw [← hQ]; exact ⟨rfl, rfl⟩
  clear hQ
  unfold F_X12_notes at hF
  refine g_aloadn d_X12_notes_0 rfl ?_
  obtain ⟨v1, e1, hF⟩ := Option.bind_eq_some_iff.mp hF
  refine q_fR d_X12_notes_1 f_X12_13 e1 ?_
  refine g_bi (127) d_X12_notes_4 bi_127 ?_
  obtain ⟨v6, e6, hF⟩ := Option.bind_eq_some_iff.mp hF
  refine q_aI d_X12_notes_6 e6 ?_
  refine g_bi (10) d_X12_notes_7 bi_10 ?_
  refine g_icmp_ne 58 d_X12_notes_9 rfl (fun c9 => ?_) (fun c9 => ?_)
  · have hF := x_t hF c9
    refine g_ic (0) d_X12_notes_58 ic_0 ?_
    refine q_istoren [.ref x0, .int 0] d_X12_notes_59 (by decide) rfl ?_
    exact q_to (xs_r (xs_r xs_n)) (R_X12_notes_b60 hdp hq FU _ _ _ hF)
  · have hF := x_f hF (not_not_intro c9)
    refine g_ic (0) d_X12_notes_12 ic_0 ?_
    refine q_istoren [.ref x0, .int 0] d_X12_notes_13 (by decide) rfl ?_
    exact q_to (xs_r (xs_r xs_n)) (R_X12_notes_b14 hdp hq FU _ _ _ hF)
theorem d_X12_whyGo_0 : decode cX12_whyGo 0 = .ok (.aload_n 0, 1) := by decide +kernel
theorem d_X12_whyGo_1 : decode cX12_whyGo 1 = .ok (.lload_n 1, 1) := by decide +kernel
theorem d_X12_whyGo_2 : decode cX12_whyGo 2 = .ok (.invokevirtual 246, 3) := by decide +kernel
theorem d_X12_whyGo_5 : decode cX12_whyGo 5 = .ok (.ifCond .eq 11, 3) := by decide +kernel
theorem d_X12_whyGo_8 : decode cX12_whyGo 8 = .ok (.aload_n 0, 1) := by decide +kernel
theorem d_X12_whyGo_9 : decode cX12_whyGo 9 = .ok (.lload_n 3, 1) := by decide +kernel
theorem d_X12_whyGo_10 : decode cX12_whyGo 10 = .ok (.invokevirtual 253, 3) := by decide +kernel
theorem d_X12_whyGo_13 : decode cX12_whyGo 13 = .ok (.ifCond .ne 7, 3) := by decide +kernel
theorem d_X12_whyGo_16 : decode cX12_whyGo 16 = .ok (.iconst 1, 1) := by decide +kernel
theorem d_X12_whyGo_17 : decode cX12_whyGo 17 = .ok (.goto 35, 3) := by decide +kernel
theorem d_X12_whyGo_20 : decode cX12_whyGo 20 = .ok (.aload_n 0, 1) := by decide +kernel
theorem d_X12_whyGo_21 : decode cX12_whyGo 21 = .ok (.getfield 13, 3) := by decide +kernel
theorem d_X12_whyGo_24 : decode cX12_whyGo 24 = .ok (.bipush 77, 2) := by decide +kernel
theorem d_X12_whyGo_26 : decode cX12_whyGo 26 = .ok (.aload_n 0, 1) := by decide +kernel
theorem d_X12_whyGo_27 : decode cX12_whyGo 27 = .ok (.getfield 13, 3) := by decide +kernel
theorem d_X12_whyGo_30 : decode cX12_whyGo 30 = .ok (.bipush 109, 2) := by decide +kernel
theorem d_X12_whyGo_32 : decode cX12_whyGo 32 = .ok (.lload_n 1, 1) := by decide +kernel
theorem d_X12_whyGo_33 : decode cX12_whyGo 33 = .ok (.l2i, 1) := by decide +kernel
theorem d_X12_whyGo_34 : decode cX12_whyGo 34 = .ok (.iadd, 1) := by decide +kernel
theorem d_X12_whyGo_35 : decode cX12_whyGo 35 = .ok (.iaload, 1) := by decide +kernel
theorem d_X12_whyGo_36 : decode cX12_whyGo 36 = .ok (.iadd, 1) := by decide +kernel
theorem d_X12_whyGo_37 : decode cX12_whyGo 37 = .ok (.iaload, 1) := by decide +kernel
theorem d_X12_whyGo_38 : decode cX12_whyGo 38 = .ok (.i2l, 1) := by decide +kernel
theorem d_X12_whyGo_39 : decode cX12_whyGo 39 = .ok (.lload_n 3, 1) := by decide +kernel
theorem d_X12_whyGo_40 : decode cX12_whyGo 40 = .ok (.l2i, 1) := by decide +kernel
theorem d_X12_whyGo_41 : decode cX12_whyGo 41 = .ok (.invokestatic 228, 3) := by decide +kernel
theorem d_X12_whyGo_44 : decode cX12_whyGo 44 = .ok (.ifCond .eq 7, 3) := by decide +kernel
theorem d_X12_whyGo_47 : decode cX12_whyGo 47 = .ok (.iconst 0, 1) := by decide +kernel
theorem d_X12_whyGo_48 : decode cX12_whyGo 48 = .ok (.goto 4, 3) := by decide +kernel
theorem d_X12_whyGo_51 : decode cX12_whyGo 51 = .ok (.iconst 2, 1) := by decide +kernel
theorem d_X12_whyGo_52 : decode cX12_whyGo 52 = .ok (.ireturn, 1) := by decide +kernel
def F_X12_whyGo (x0 : Nat) (x1 : Int64) (x3 : Int64) (h : xH) : Option (Int32 × xH) := (rc h x0 11).bind fun _ => (F_X12_isPerson x0 x1 h).bind fun z2 => if z2.1 = 0 then some (1, z2.2) else (rc z2.2 x0 11).bind fun _ => (F_X12_isPlace x0 x3 z2.2).bind fun z10 => if ¬ z10.1 = 0 then (fR z10.2 x0 11 1).bind fun v21 => (fR z10.2 x0 11 1).bind fun v27 => (aI z10.2 v27 (((109 : Int32)) + x1.toInt32)).bind fun v35 => (aI z10.2 v21 (((77 : Int32)) + v35)).bind fun v37 => (F_X12_isIn v37.toInt64 x3.toInt32 z10.2).bind fun z41 => if z41.1 = 0 then some (2, z41.2) else some (0, z41.2) else some (1, z10.2)
theorem R_X12_whyGo {Γ : xG} {l : Launch} {d : Nat} {r : Int32} {h' : xH} (x0 : Nat) (x1 : Int64) (x3 : Int64) (h : xH) (hdp : 2 ≤ d) (hF : F_X12_whyGo x0 x1 x3 h = some (r, h')) : Gm Γ l d 0 0 m_X12_whyGo [.ref x0, .long x1, .long x3] h (fun a u => a = some (.int r) ∧ u = h') := by
  refine Gm.of pn_X12 (Nat.le_of_ble_eq_true rfl) ?_
  show Gd Γ l d m_X12_whyGo 0 [.ref x0, .long x1, xhole, .long x3, xhole] [] h 0 0 _
  generalize hQ : (fun (a : Option Value) (u : xH) => a = some (.int r) ∧ u = h') = Q
  have hq : Q (some (.int r)) h' := by rw [← hQ]; exact ⟨rfl, rfl⟩
  clear hQ
  unfold F_X12_whyGo at hF
  refine g_aloadn d_X12_whyGo_0 rfl ?_
  refine g_lloadn d_X12_whyGo_1 rfl ?_
  obtain ⟨_, g2, hF⟩ := Option.bind_eq_some_iff.mp hF
  obtain ⟨⟨r2, h2⟩, e2, hF⟩ := Option.bind_eq_some_iff.mp hF
  try dsimp only at hF
  refine q_callV [.long x1] [] rfl d_X12_whyGo_2 v_X12_246 (by omega) rfl (Nat.le_of_ble_eq_true rfl) (rc_rc g2 (by decide) rfl) (R_X12_isPerson _ _ _ (by omega) e2) ?_
  refine g_if_eq 16 d_X12_whyGo_5 rfl (fun c5 => ?_) (fun c5 => ?_)
  · have hF := x_t hF c5
    refine g_ic (1) d_X12_whyGo_16 ic_1 ?_
    refine g_goto 52 d_X12_whyGo_17 rfl ?_
    obtain ⟨rfl, rfl⟩ := x_inj hF
    exact g_iret d_X12_whyGo_52 rfl hq
  · have hF := x_f hF c5
    refine g_aloadn d_X12_whyGo_8 rfl ?_
    refine g_lloadn d_X12_whyGo_9 rfl ?_
    obtain ⟨_, g10, hF⟩ := Option.bind_eq_some_iff.mp hF
    obtain ⟨⟨r10, h10⟩, e10, hF⟩ := Option.bind_eq_some_iff.mp hF
    try dsimp only at hF
    refine q_callV [.long x3] [] rfl d_X12_whyGo_10 v_X12_253 (by omega) rfl (Nat.le_of_ble_eq_true rfl) (rc_rc g10 (by decide) rfl) (R_X12_isPlace _ _ _ (by omega) e10) ?_
    refine g_if_ne 20 d_X12_whyGo_13 rfl (fun c13 => ?_) (fun c13 => ?_)
    · have hF := x_t hF c13
      refine g_aloadn d_X12_whyGo_20 rfl ?_
      obtain ⟨v21, e21, hF⟩ := Option.bind_eq_some_iff.mp hF
      refine q_fR d_X12_whyGo_21 f_X12_13 e21 ?_
      refine g_bi (77) d_X12_whyGo_24 bi_77 ?_
      refine g_aloadn d_X12_whyGo_26 rfl ?_
      obtain ⟨v27, e27, hF⟩ := Option.bind_eq_some_iff.mp hF
      refine q_fR d_X12_whyGo_27 f_X12_13 e27 ?_
      refine g_bi (109) d_X12_whyGo_30 bi_109 ?_
      refine g_lloadn d_X12_whyGo_32 rfl ?_
      refine g_l2i d_X12_whyGo_33 ?_
      refine g_iadd d_X12_whyGo_34 ?_
      obtain ⟨v35, e35, hF⟩ := Option.bind_eq_some_iff.mp hF
      refine q_aI d_X12_whyGo_35 e35 ?_
      refine g_iadd d_X12_whyGo_36 ?_
      obtain ⟨v37, e37, hF⟩ := Option.bind_eq_some_iff.mp hF
      refine q_aI d_X12_whyGo_37 e37 ?_
      refine g_i2l d_X12_whyGo_38 ?_
      refine g_lloadn d_X12_whyGo_39 rfl ?_
      refine g_l2i d_X12_whyGo_40 ?_
      obtain ⟨⟨r41, h41⟩, e41, hF⟩ := Option.bind_eq_some_iff.mp hF
      try dsimp only at hF
      refine q_callS [.long (v37.toInt64), .int (x3.toInt32)] [] rfl d_X12_whyGo_41 s_X12_228 (by omega) rfl (Nat.le_of_ble_eq_true rfl) (R_X12_isIn _ _ _ (by omega) e41) ?_
      refine g_if_eq 51 d_X12_whyGo_44 rfl (fun c44 => ?_) (fun c44 => ?_)
      · have hF := x_t hF c44
        refine g_ic (2) d_X12_whyGo_51 ic_2 ?_
        obtain ⟨rfl, rfl⟩ := x_inj hF
        exact g_iret d_X12_whyGo_52 rfl hq
      · have hF := x_f hF c44
        refine g_ic (0) d_X12_whyGo_47 ic_0 ?_
        refine g_goto 52 d_X12_whyGo_48 rfl ?_
        obtain ⟨rfl, rfl⟩ := x_inj hF
        exact g_iret d_X12_whyGo_52 rfl hq
    · have hF := x_f hF (not_not_intro c13)
      refine g_ic (1) d_X12_whyGo_16 ic_1 ?_
      refine g_goto 52 d_X12_whyGo_17 rfl ?_
      obtain ⟨rfl, rfl⟩ := x_inj hF
      exact g_iret d_X12_whyGo_52 rfl hq
theorem d_X12_goesDay_0 : decode cX12_goesDay 0 = .ok (.iconst 0, 1) := by decide +kernel
theorem d_X12_goesDay_1 : decode cX12_goesDay 1 = .ok (.istore_n 1, 1) := by decide +kernel
theorem d_X12_goesDay_2 : decode cX12_goesDay 2 = .ok (.iload_n 1, 1) := by decide +kernel
theorem d_X12_goesDay_3 : decode cX12_goesDay 3 = .ok (.aload_n 0, 1) := by decide +kernel
theorem d_X12_goesDay_4 : decode cX12_goesDay 4 = .ok (.getfield 13, 3) := by decide +kernel
theorem d_X12_goesDay_7 : decode cX12_goesDay 7 = .ok (.iconst 4, 1) := by decide +kernel
theorem d_X12_goesDay_8 : decode cX12_goesDay 8 = .ok (.iaload, 1) := by decide +kernel
theorem d_X12_goesDay_9 : decode cX12_goesDay 9 = .ok (.if_icmp .ge 67, 3) := by decide +kernel
theorem d_X12_goesDay_12 : decode cX12_goesDay 12 = .ok (.aload_n 0, 1) := by decide +kernel
theorem d_X12_goesDay_13 : decode cX12_goesDay 13 = .ok (.getfield 13, 3) := by decide +kernel
theorem d_X12_goesDay_16 : decode cX12_goesDay 16 = .ok (.bipush 121, 2) := by decide +kernel
theorem d_X12_goesDay_18 : decode cX12_goesDay 18 = .ok (.iload_n 1, 1) := by decide +kernel
theorem d_X12_goesDay_19 : decode cX12_goesDay 19 = .ok (.iadd, 1) := by decide +kernel
theorem d_X12_goesDay_20 : decode cX12_goesDay 20 = .ok (.iaload, 1) := by decide +kernel
theorem d_X12_goesDay_21 : decode cX12_goesDay 21 = .ok (.iconst (-1), 1) := by decide +kernel
theorem d_X12_goesDay_22 : decode cX12_goesDay 22 = .ok (.if_icmp .eq 48, 3) := by decide +kernel
theorem d_X12_goesDay_25 : decode cX12_goesDay 25 = .ok (.aload_n 0, 1) := by decide +kernel
theorem d_X12_goesDay_26 : decode cX12_goesDay 26 = .ok (.aload_n 0, 1) := by decide +kernel
theorem d_X12_goesDay_27 : decode cX12_goesDay 27 = .ok (.getfield 13, 3) := by decide +kernel
theorem d_X12_goesDay_30 : decode cX12_goesDay 30 = .ok (.bipush 109, 2) := by decide +kernel
theorem d_X12_goesDay_32 : decode cX12_goesDay 32 = .ok (.iload_n 1, 1) := by decide +kernel
theorem d_X12_goesDay_33 : decode cX12_goesDay 33 = .ok (.iadd, 1) := by decide +kernel
theorem d_X12_goesDay_34 : decode cX12_goesDay 34 = .ok (.iaload, 1) := by decide +kernel
theorem d_X12_goesDay_35 : decode cX12_goesDay 35 = .ok (.aload_n 0, 1) := by decide +kernel
theorem d_X12_goesDay_36 : decode cX12_goesDay 36 = .ok (.getfield 13, 3) := by decide +kernel
theorem d_X12_goesDay_39 : decode cX12_goesDay 39 = .ok (.bipush 107, 2) := by decide +kernel
theorem d_X12_goesDay_41 : decode cX12_goesDay 41 = .ok (.iaload, 1) := by decide +kernel
theorem d_X12_goesDay_42 : decode cX12_goesDay 42 = .ok (.invokevirtual 256, 3) := by decide +kernel
theorem d_X12_goesDay_45 : decode cX12_goesDay 45 = .ok (.aload_n 0, 1) := by decide +kernel
theorem d_X12_goesDay_46 : decode cX12_goesDay 46 = .ok (.getfield 13, 3) := by decide +kernel
theorem d_X12_goesDay_49 : decode cX12_goesDay 49 = .ok (.bipush 121, 2) := by decide +kernel
theorem d_X12_goesDay_51 : decode cX12_goesDay 51 = .ok (.iload_n 1, 1) := by decide +kernel
theorem d_X12_goesDay_52 : decode cX12_goesDay 52 = .ok (.iadd, 1) := by decide +kernel
theorem d_X12_goesDay_53 : decode cX12_goesDay 53 = .ok (.iaload, 1) := by decide +kernel
theorem d_X12_goesDay_54 : decode cX12_goesDay 54 = .ok (.if_icmp .ne 16, 3) := by decide +kernel
theorem d_X12_goesDay_57 : decode cX12_goesDay 57 = .ok (.aload_n 0, 1) := by decide +kernel
theorem d_X12_goesDay_58 : decode cX12_goesDay 58 = .ok (.getfield 13, 3) := by decide +kernel
theorem d_X12_goesDay_61 : decode cX12_goesDay 61 = .ok (.bipush 108, 2) := by decide +kernel
theorem d_X12_goesDay_63 : decode cX12_goesDay 63 = .ok (.dup2, 1) := by decide +kernel
theorem d_X12_goesDay_64 : decode cX12_goesDay 64 = .ok (.iaload, 1) := by decide +kernel
theorem d_X12_goesDay_65 : decode cX12_goesDay 65 = .ok (.iconst 1, 1) := by decide +kernel
theorem d_X12_goesDay_66 : decode cX12_goesDay 66 = .ok (.iload_n 1, 1) := by decide +kernel
theorem d_X12_goesDay_67 : decode cX12_goesDay 67 = .ok (.ishl, 1) := by decide +kernel
theorem d_X12_goesDay_68 : decode cX12_goesDay 68 = .ok (.ior, 1) := by decide +kernel
theorem d_X12_goesDay_69 : decode cX12_goesDay 69 = .ok (.iastore, 1) := by decide +kernel
theorem d_X12_goesDay_70 : decode cX12_goesDay 70 = .ok (.iinc 1 1, 3) := by decide +kernel
theorem d_X12_goesDay_73 : decode cX12_goesDay 73 = .ok (.goto (-71), 3) := by decide +kernel
theorem d_X12_goesDay_76 : decode cX12_goesDay 76 = .ok (.aload_n 0, 1) := by decide +kernel
theorem d_X12_goesDay_77 : decode cX12_goesDay 77 = .ok (.getfield 13, 3) := by decide +kernel
theorem d_X12_goesDay_80 : decode cX12_goesDay 80 = .ok (.bipush 107, 2) := by decide +kernel
theorem d_X12_goesDay_82 : decode cX12_goesDay 82 = .ok (.dup2, 1) := by decide +kernel
theorem d_X12_goesDay_83 : decode cX12_goesDay 83 = .ok (.iaload, 1) := by decide +kernel
theorem d_X12_goesDay_84 : decode cX12_goesDay 84 = .ok (.iconst 1, 1) := by decide +kernel
theorem d_X12_goesDay_85 : decode cX12_goesDay 85 = .ok (.iadd, 1) := by decide +kernel
theorem d_X12_goesDay_86 : decode cX12_goesDay 86 = .ok (.iastore, 1) := by decide +kernel
theorem d_X12_goesDay_87 : decode cX12_goesDay 87 = .ok (.return_, 1) := by decide +kernel
def F_X12_goesDay_b2 : Nat → Nat → Int32 → xH → Option (Unit × xH)
  | 0, _, _, _ => none
  | n + 1, x0, x1, h => (fR h x0 11 1).bind fun v4 => (aI h v4 4).bind fun v8 => if v8 ≤ x1 then (fR h x0 11 1).bind fun v77 => (aI h v77 107).bind fun v83 => (sI h v77 107 (v83 + 1)).bind fun h86 => some ((), h86) else (fR h x0 11 1).bind fun v13 => (aI h v13 (((121 : Int32)) + x1)).bind fun v20 => if v20 = (((-1) : Int32)) then F_X12_goesDay_b2 n x0 (x1 + 1) h else (fR h x0 11 1).bind fun v27 => (aI h v27 (((109 : Int32)) + x1)).bind fun v34 => (fR h x0 11 1).bind fun v36 => (aI h v36 107).bind fun v41 => (rc h x0 11).bind fun _ => (F_X12_soundOf x0 v34 v41 h).bind fun z42 => (fR z42.2 x0 11 1).bind fun v46 => (aI z42.2 v46 (((121 : Int32)) + x1)).bind fun v53 => if ¬ z42.1 = v53 then F_X12_goesDay_b2 n x0 (x1 + 1) z42.2 else (fR z42.2 x0 11 1).bind fun v58 => (aI z42.2 v58 108).bind fun v64 => (sI z42.2 v58 108 (v64 ||| (((1 : Int32)) <<< (x1 &&& 31)))).bind fun h69 => F_X12_goesDay_b2 n x0 (x1 + 1) h69
theorem R_X12_goesDay_b2 {Γ : xG} {l : Launch} {d : Nat} {Q : Option Value → xH → Prop} {r : Unit} {h' : xH} (hdp : 1 ≤ d) (hq : Q (none) h') : ∀ (n : Nat) (x0 : Nat) (x1 : Int32) (h : xH), F_X12_goesDay_b2 n x0 x1 h = some (r, h') → Gd Γ l d m_X12_goesDay 2 [.ref x0, .int x1] [] h 0 0 Q := by
  intro n
  induction n with
  | zero => intro x0 x1 h hF; cases hF
  | succ n ih =>
  intro x0 x1 h hF
  rw [F_X12_goesDay_b2] at hF
  refine g_iloadn d_X12_goesDay_2 rfl ?_
  refine g_aloadn d_X12_goesDay_3 rfl ?_
  obtain ⟨v4, e4, hF⟩ := Option.bind_eq_some_iff.mp hF
  refine q_fR d_X12_goesDay_4 f_X12_13 e4 ?_
  refine g_ic (4) d_X12_goesDay_7 ic_4 ?_
  obtain ⟨v8, e8, hF⟩ := Option.bind_eq_some_iff.mp hF
  refine q_aI d_X12_goesDay_8 e8 ?_
  refine g_icmp_ge 76 d_X12_goesDay_9 rfl (fun c9 => ?_) (fun c9 => ?_)
  · have hF := x_t hF c9
    refine g_aloadn d_X12_goesDay_76 rfl ?_
    obtain ⟨v77, e77, hF⟩ := Option.bind_eq_some_iff.mp hF
    refine q_fR d_X12_goesDay_77 f_X12_13 e77 ?_
    refine g_bi (107) d_X12_goesDay_80 bi_107 ?_
    refine g_dup2 d_X12_goesDay_82 rfl rfl ?_
    obtain ⟨v83, e83, hF⟩ := Option.bind_eq_some_iff.mp hF
    refine q_aI d_X12_goesDay_83 e83 ?_
    refine g_ic (1) d_X12_goesDay_84 ic_1 ?_
    refine g_iadd d_X12_goesDay_85 ?_
    obtain ⟨h86, e86, hF⟩ := Option.bind_eq_some_iff.mp hF
    refine q_sI d_X12_goesDay_86 e86 ?_
    obtain ⟨rfl, rfl⟩ := x_inj hF
    exact g_vret d_X12_goesDay_87 rfl hq
  · have hF := x_f hF c9
    refine g_aloadn d_X12_goesDay_12 rfl ?_
    obtain ⟨v13, e13, hF⟩ := Option.bind_eq_some_iff.mp hF
    refine q_fR d_X12_goesDay_13 f_X12_13 e13 ?_
    refine g_bi (121) d_X12_goesDay_16 bi_121 ?_
    refine g_iloadn d_X12_goesDay_18 rfl ?_
    refine g_iadd d_X12_goesDay_19 ?_
    obtain ⟨v20, e20, hF⟩ := Option.bind_eq_some_iff.mp hF
    refine q_aI d_X12_goesDay_20 e20 ?_
    refine g_ic (-1) d_X12_goesDay_21 ic_m1 ?_
    refine g_icmp_eq 70 d_X12_goesDay_22 rfl (fun c22 => ?_) (fun c22 => ?_)
    · have hF := x_t hF c22
      refine q_iinc (1) [.ref x0, .int (x1 + 1)] d_X12_goesDay_70 ic_1 rfl (by decide) rfl ?_
      refine g_goto 2 d_X12_goesDay_73 rfl ?_
      exact q_to (xs_r (xs_r xs_n)) (ih _ _ _ hF)
    · have hF := x_f hF c22
      refine g_aloadn d_X12_goesDay_25 rfl ?_
      refine g_aloadn d_X12_goesDay_26 rfl ?_
      obtain ⟨v27, e27, hF⟩ := Option.bind_eq_some_iff.mp hF
      refine q_fR d_X12_goesDay_27 f_X12_13 e27 ?_
      refine g_bi (109) d_X12_goesDay_30 bi_109 ?_
      refine g_iloadn d_X12_goesDay_32 rfl ?_
      refine g_iadd d_X12_goesDay_33 ?_
      obtain ⟨v34, e34, hF⟩ := Option.bind_eq_some_iff.mp hF
      refine q_aI d_X12_goesDay_34 e34 ?_
      refine g_aloadn d_X12_goesDay_35 rfl ?_
      obtain ⟨v36, e36, hF⟩ := Option.bind_eq_some_iff.mp hF
      refine q_fR d_X12_goesDay_36 f_X12_13 e36 ?_
      refine g_bi (107) d_X12_goesDay_39 bi_107 ?_
      obtain ⟨v41, e41, hF⟩ := Option.bind_eq_some_iff.mp hF
      refine q_aI d_X12_goesDay_41 e41 ?_
      obtain ⟨_, g42, hF⟩ := Option.bind_eq_some_iff.mp hF
      obtain ⟨⟨r42, h42⟩, e42, hF⟩ := Option.bind_eq_some_iff.mp hF
      try dsimp only at hF
      refine q_callV [.int v34, .int v41] [] rfl d_X12_goesDay_42 v_X12_256 (by omega) rfl (Nat.le_of_ble_eq_true rfl) (rc_rc g42 (by decide) rfl) (R_X12_soundOf _ _ _ _ (by omega) e42) ?_
      refine g_aloadn d_X12_goesDay_45 rfl ?_
      obtain ⟨v46, e46, hF⟩ := Option.bind_eq_some_iff.mp hF
      refine q_fR d_X12_goesDay_46 f_X12_13 e46 ?_
      refine g_bi (121) d_X12_goesDay_49 bi_121 ?_
      refine g_iloadn d_X12_goesDay_51 rfl ?_
      refine g_iadd d_X12_goesDay_52 ?_
      obtain ⟨v53, e53, hF⟩ := Option.bind_eq_some_iff.mp hF
      refine q_aI d_X12_goesDay_53 e53 ?_
      refine g_icmp_ne 70 d_X12_goesDay_54 rfl (fun c54 => ?_) (fun c54 => ?_)
      · have hF := x_t hF c54
        refine q_iinc (1) [.ref x0, .int (x1 + 1)] d_X12_goesDay_70 ic_1 rfl (by decide) rfl ?_
        refine g_goto 2 d_X12_goesDay_73 rfl ?_
        exact q_to (xs_r (xs_r xs_n)) (ih _ _ _ hF)
      · have hF := x_f hF (not_not_intro c54)
        refine g_aloadn d_X12_goesDay_57 rfl ?_
        obtain ⟨v58, e58, hF⟩ := Option.bind_eq_some_iff.mp hF
        refine q_fR d_X12_goesDay_58 f_X12_13 e58 ?_
        refine g_bi (108) d_X12_goesDay_61 bi_108 ?_
        refine g_dup2 d_X12_goesDay_63 rfl rfl ?_
        obtain ⟨v64, e64, hF⟩ := Option.bind_eq_some_iff.mp hF
        refine q_aI d_X12_goesDay_64 e64 ?_
        refine g_ic (1) d_X12_goesDay_65 ic_1 ?_
        refine g_iloadn d_X12_goesDay_66 rfl ?_
        refine g_ishl d_X12_goesDay_67 ?_
        refine g_ior d_X12_goesDay_68 ?_
        obtain ⟨h69, e69, hF⟩ := Option.bind_eq_some_iff.mp hF
        refine q_sI d_X12_goesDay_69 e69 ?_
        refine q_iinc (1) [.ref x0, .int (x1 + 1)] d_X12_goesDay_70 ic_1 rfl (by decide) rfl ?_
        refine g_goto 2 d_X12_goesDay_73 rfl ?_
        exact q_to (xs_r (xs_r xs_n)) (ih _ _ _ hF)
def F_X12_goesDay (x0 : Nat) (h : xH) : Option (Unit × xH) := F_X12_goesDay_b2 FU x0 0 h
theorem R_X12_goesDay {Γ : xG} {l : Launch} {d : Nat} {r : Unit} {h' : xH} (x0 : Nat) (h : xH) (hdp : 1 ≤ d) (hF : F_X12_goesDay x0 h = some (r, h')) : Gm Γ l d 0 0 m_X12_goesDay [.ref x0] h (fun a u => a = none ∧ u = h') := by
  refine Gm.of pn_X12 (Nat.le_of_ble_eq_true rfl) ?_
  show Gd Γ l d m_X12_goesDay 0 [.ref x0, xhole] [] h 0 0 _
  generalize hQ : (fun (a : Option Value) (u : xH) => a = none ∧ u = h') = Q
  have hq : Q (none) h' := by rw [← hQ]; exact ⟨rfl, rfl⟩
  clear hQ
  unfold F_X12_goesDay at hF
  refine g_ic (0) d_X12_goesDay_0 ic_0 ?_
  refine q_istoren [.ref x0, .int 0] d_X12_goesDay_1 (by decide) rfl ?_
  exact q_to (xs_r (xs_r xs_n)) (R_X12_goesDay_b2 hdp hq FU _ _ _ hF)
theorem d_X12_blanks1_0 : decode cX12_blanks1 0 = .ok (.aload_n 0, 1) := by decide +kernel
theorem d_X12_blanks1_1 : decode cX12_blanks1 1 = .ok (.getfield 13, 3) := by decide +kernel
theorem d_X12_blanks1_4 : decode cX12_blanks1 4 = .ok (.bipush 121, 2) := by decide +kernel
theorem d_X12_blanks1_6 : decode cX12_blanks1 6 = .ok (.iload_n 1, 1) := by decide +kernel
theorem d_X12_blanks1_7 : decode cX12_blanks1 7 = .ok (.iadd, 1) := by decide +kernel
theorem d_X12_blanks1_8 : decode cX12_blanks1 8 = .ok (.iload_n 2, 1) := by decide +kernel
theorem d_X12_blanks1_9 : decode cX12_blanks1 9 = .ok (.iastore, 1) := by decide +kernel
theorem d_X12_blanks1_10 : decode cX12_blanks1 10 = .ok (.aload_n 0, 1) := by decide +kernel
theorem d_X12_blanks1_11 : decode cX12_blanks1 11 = .ok (.getfield 13, 3) := by decide +kernel
theorem d_X12_blanks1_14 : decode cX12_blanks1 14 = .ok (.bipush 108, 2) := by decide +kernel
theorem d_X12_blanks1_16 : decode cX12_blanks1 16 = .ok (.dup2, 1) := by decide +kernel
theorem d_X12_blanks1_17 : decode cX12_blanks1 17 = .ok (.iaload, 1) := by decide +kernel
theorem d_X12_blanks1_18 : decode cX12_blanks1 18 = .ok (.iconst 1, 1) := by decide +kernel
theorem d_X12_blanks1_19 : decode cX12_blanks1 19 = .ok (.iload_n 1, 1) := by decide +kernel
theorem d_X12_blanks1_20 : decode cX12_blanks1 20 = .ok (.ishl, 1) := by decide +kernel
theorem d_X12_blanks1_21 : decode cX12_blanks1 21 = .ok (.iconst (-1), 1) := by decide +kernel
theorem d_X12_blanks1_22 : decode cX12_blanks1 22 = .ok (.ixor, 1) := by decide +kernel
theorem d_X12_blanks1_23 : decode cX12_blanks1 23 = .ok (.iand, 1) := by decide +kernel
theorem d_X12_blanks1_24 : decode cX12_blanks1 24 = .ok (.iastore, 1) := by decide +kernel
theorem d_X12_blanks1_25 : decode cX12_blanks1 25 = .ok (.return_, 1) := by decide +kernel
def F_X12_blanks1 (x0 : Nat) (x1 : Int32) (x2 : Int32) (h : xH) : Option (Unit × xH) := (fR h x0 11 1).bind fun v1 => (sI h v1 (((121 : Int32)) + x1) x2).bind fun h9 => (fR h9 x0 11 1).bind fun v11 => (aI h9 v11 108).bind fun v17 => (sI h9 v11 108 (v17 &&& ((((1 : Int32)) <<< (x1 &&& 31)) ^^^ ((-1))))).bind fun h24 => some ((), h24)
theorem R_X12_blanks1 {Γ : xG} {l : Launch} {d : Nat} {r : Unit} {h' : xH} (x0 : Nat) (x1 : Int32) (x2 : Int32) (h : xH) (hdp : 0 ≤ d) (hF : F_X12_blanks1 x0 x1 x2 h = some (r, h')) : Gm Γ l d 0 0 m_X12_blanks1 [.ref x0, .int x1, .int x2] h (fun a u => a = none ∧ u = h') := by
  refine Gm.of pn_X12 (Nat.le_of_ble_eq_true rfl) ?_
  show Gd Γ l d m_X12_blanks1 0 [.ref x0, .int x1, .int x2] [] h 0 0 _
  generalize hQ : (fun (a : Option Value) (u : xH) => a = none ∧ u = h') = Q
  have hq : Q (none) h' := by rw [← hQ]; exact ⟨rfl, rfl⟩
  clear hQ
  unfold F_X12_blanks1 at hF
  refine g_aloadn d_X12_blanks1_0 rfl ?_
  obtain ⟨v1, e1, hF⟩ := Option.bind_eq_some_iff.mp hF
  refine q_fR d_X12_blanks1_1 f_X12_13 e1 ?_
  refine g_bi (121) d_X12_blanks1_4 bi_121 ?_
  refine g_iloadn d_X12_blanks1_6 rfl ?_
  refine g_iadd d_X12_blanks1_7 ?_
  refine g_iloadn d_X12_blanks1_8 rfl ?_
  obtain ⟨h9, e9, hF⟩ := Option.bind_eq_some_iff.mp hF
  refine q_sI d_X12_blanks1_9 e9 ?_
  refine g_aloadn d_X12_blanks1_10 rfl ?_
  obtain ⟨v11, e11, hF⟩ := Option.bind_eq_some_iff.mp hF
  refine q_fR d_X12_blanks1_11 f_X12_13 e11 ?_
  refine g_bi (108) d_X12_blanks1_14 bi_108 ?_
  refine g_dup2 d_X12_blanks1_16 rfl rfl ?_
  obtain ⟨v17, e17, hF⟩ := Option.bind_eq_some_iff.mp hF
  refine q_aI d_X12_blanks1_17 e17 ?_
  refine g_ic (1) d_X12_blanks1_18 ic_1 ?_
  refine g_iloadn d_X12_blanks1_19 rfl ?_
  refine g_ishl d_X12_blanks1_20 ?_
  refine g_ic (-1) d_X12_blanks1_21 ic_m1 ?_
  refine g_ixor d_X12_blanks1_22 ?_
  refine g_iand d_X12_blanks1_23 ?_
  obtain ⟨h24, e24, hF⟩ := Option.bind_eq_some_iff.mp hF
  refine q_sI d_X12_blanks1_24 e24 ?_
  obtain ⟨rfl, rfl⟩ := x_inj hF
  exact g_vret d_X12_blanks1_25 rfl hq
theorem d_X12_go_0 : decode cX12_go 0 = .ok (.aload_n 0, 1) := by decide +kernel
theorem d_X12_go_1 : decode cX12_go 1 = .ok (.iconst 0, 1) := by decide +kernel
theorem d_X12_go_2 : decode cX12_go 2 = .ok (.putfield 1, 3) := by decide +kernel
theorem d_X12_go_5 : decode cX12_go 5 = .ok (.aload_n 0, 1) := by decide +kernel
theorem d_X12_go_6 : decode cX12_go 6 = .ok (.iload_n 1, 1) := by decide +kernel
theorem d_X12_go_7 : decode cX12_go 7 = .ok (.i2l, 1) := by decide +kernel
theorem d_X12_go_8 : decode cX12_go 8 = .ok (.iload_n 2, 1) := by decide +kernel
theorem d_X12_go_9 : decode cX12_go 9 = .ok (.i2l, 1) := by decide +kernel
theorem d_X12_go_10 : decode cX12_go 10 = .ok (.invokevirtual 274, 3) := by decide +kernel
theorem d_X12_go_13 : decode cX12_go 13 = .ok (.istore_n 3, 1) := by decide +kernel
theorem d_X12_go_14 : decode cX12_go 14 = .ok (.iload_n 3, 1) := by decide +kernel
theorem d_X12_go_15 : decode cX12_go 15 = .ok (.ifCond .eq 8, 3) := by decide +kernel
theorem d_X12_go_18 : decode cX12_go 18 = .ok (.bipush (-10), 2) := by decide +kernel
theorem d_X12_go_20 : decode cX12_go 20 = .ok (.iload_n 3, 1) := by decide +kernel
theorem d_X12_go_21 : decode cX12_go 21 = .ok (.isub, 1) := by decide +kernel
theorem d_X12_go_22 : decode cX12_go 22 = .ok (.ireturn, 1) := by decide +kernel
theorem d_X12_go_23 : decode cX12_go 23 = .ok (.aload_n 0, 1) := by decide +kernel
theorem d_X12_go_24 : decode cX12_go 24 = .ok (.invokevirtual 278, 3) := by decide +kernel
theorem d_X12_go_27 : decode cX12_go 27 = .ok (.aload_n 0, 1) := by decide +kernel
theorem d_X12_go_28 : decode cX12_go 28 = .ok (.getfield 13, 3) := by decide +kernel
theorem d_X12_go_31 : decode cX12_go 31 = .ok (.bipush 109, 2) := by decide +kernel
theorem d_X12_go_33 : decode cX12_go 33 = .ok (.iload_n 1, 1) := by decide +kernel
theorem d_X12_go_34 : decode cX12_go 34 = .ok (.iadd, 1) := by decide +kernel
theorem d_X12_go_35 : decode cX12_go 35 = .ok (.iload_n 2, 1) := by decide +kernel
theorem d_X12_go_36 : decode cX12_go 36 = .ok (.iastore, 1) := by decide +kernel
theorem d_X12_go_37 : decode cX12_go 37 = .ok (.aload_n 0, 1) := by decide +kernel
theorem d_X12_go_38 : decode cX12_go 38 = .ok (.invokevirtual 281, 3) := by decide +kernel
theorem d_X12_go_41 : decode cX12_go 41 = .ok (.aload_n 0, 1) := by decide +kernel
theorem d_X12_go_42 : decode cX12_go 42 = .ok (.iload_n 2, 1) := by decide +kernel
theorem d_X12_go_43 : decode cX12_go 43 = .ok (.aload_n 0, 1) := by decide +kernel
theorem d_X12_go_44 : decode cX12_go 44 = .ok (.getfield 13, 3) := by decide +kernel
theorem d_X12_go_47 : decode cX12_go 47 = .ok (.bipush 107, 2) := by decide +kernel
theorem d_X12_go_49 : decode cX12_go 49 = .ok (.iaload, 1) := by decide +kernel
theorem d_X12_go_50 : decode cX12_go 50 = .ok (.invokevirtual 256, 3) := by decide +kernel
theorem d_X12_go_53 : decode cX12_go 53 = .ok (.ireturn, 1) := by decide +kernel
def F_X12_go (x0 : Nat) (x1 : Int32) (x2 : Int32) (h : xH) : Option (Int32 × xH) := (wI h x0 11 0 0).bind fun h2 => (rc h2 x0 11).bind fun _ => (F_X12_whyGo x0 x1.toInt64 x2.toInt64 h2).bind fun z10 => if z10.1 = 0 then (rc z10.2 x0 11).bind fun _ => (F_X12_keeps x0 z10.2).bind fun z24 => (fR z24.2 x0 11 1).bind fun v28 => (sI z24.2 v28 (((109 : Int32)) + x1) x2).bind fun h36 => (rc h36 x0 11).bind fun _ => (F_X12_notes x0 h36).bind fun z38 => (fR z38.2 x0 11 1).bind fun v44 => (aI z38.2 v44 107).bind fun v49 => (rc z38.2 x0 11).bind fun _ => (F_X12_soundOf x0 x2 v49 z38.2).bind fun z50 => some (z50.1, z50.2) else some ((((-10) : Int32)) - z10.1, z10.2)
theorem R_X12_go {Γ : xG} {l : Launch} {d : Nat} {r : Int32} {h' : xH} (x0 : Nat) (x1 : Int32) (x2 : Int32) (h : xH) (hdp : 3 ≤ d) (hF : F_X12_go x0 x1 x2 h = some (r, h')) : Gm Γ l d 0 0 m_X12_go [.ref x0, .int x1, .int x2] h (fun a u => a = some (.int r) ∧ u = h') := by
  refine Gm.of pn_X12 (Nat.le_of_ble_eq_true rfl) ?_
  show Gd Γ l d m_X12_go 0 [.ref x0, .int x1, .int x2, xhole] [] h 0 0 _
  generalize hQ : (fun (a : Option Value) (u : xH) => a = some (.int r) ∧ u = h') = Q
  have hq : Q (some (.int r)) h' := by rw [← hQ]; exact ⟨rfl, rfl⟩
  clear hQ
  unfold F_X12_go at hF
  refine g_aloadn d_X12_go_0 rfl ?_
  refine g_ic (0) d_X12_go_1 ic_0 ?_
  obtain ⟨h2, e2, hF⟩ := Option.bind_eq_some_iff.mp hF
  refine q_wI d_X12_go_2 (w_X12_1 _) e2 ?_
  refine g_aloadn d_X12_go_5 rfl ?_
  refine g_iloadn d_X12_go_6 rfl ?_
  refine g_i2l d_X12_go_7 ?_
  refine g_iloadn d_X12_go_8 rfl ?_
  refine g_i2l d_X12_go_9 ?_
  obtain ⟨_, g10, hF⟩ := Option.bind_eq_some_iff.mp hF
  obtain ⟨⟨r10, h10⟩, e10, hF⟩ := Option.bind_eq_some_iff.mp hF
  try dsimp only at hF
  refine q_callV [.long (x1.toInt64), .long (x2.toInt64)] [] rfl d_X12_go_10 v_X12_274 (by omega) rfl (Nat.le_of_ble_eq_true rfl) (rc_rc g10 (by decide) rfl) (R_X12_whyGo _ _ _ _ (by omega) e10) ?_
  refine q_istoren [.ref x0, .int x1, .int x2, .int (r10)] d_X12_go_13 (by decide) rfl ?_
  refine g_iloadn d_X12_go_14 rfl ?_
  refine g_if_eq 23 d_X12_go_15 rfl (fun c15 => ?_) (fun c15 => ?_)
  · have hF := x_t hF c15
    refine g_aloadn d_X12_go_23 rfl ?_
    obtain ⟨_, g24, hF⟩ := Option.bind_eq_some_iff.mp hF
    obtain ⟨⟨r24, h24⟩, e24, hF⟩ := Option.bind_eq_some_iff.mp hF
    try dsimp only at hF
    refine q_callV [] [] rfl d_X12_go_24 v_X12_278 (by omega) rfl (Nat.le_of_ble_eq_true rfl) (rc_rc g24 (by decide) rfl) (R_X12_keeps _ _ (by omega) e24) ?_
    refine g_aloadn d_X12_go_27 rfl ?_
    obtain ⟨v28, e28, hF⟩ := Option.bind_eq_some_iff.mp hF
    refine q_fR d_X12_go_28 f_X12_13 e28 ?_
    refine g_bi (109) d_X12_go_31 bi_109 ?_
    refine g_iloadn d_X12_go_33 rfl ?_
    refine g_iadd d_X12_go_34 ?_
    refine g_iloadn d_X12_go_35 rfl ?_
    obtain ⟨h36, e36, hF⟩ := Option.bind_eq_some_iff.mp hF
    refine q_sI d_X12_go_36 e36 ?_
    refine g_aloadn d_X12_go_37 rfl ?_
    obtain ⟨_, g38, hF⟩ := Option.bind_eq_some_iff.mp hF
    obtain ⟨⟨r38, h38⟩, e38, hF⟩ := Option.bind_eq_some_iff.mp hF
    try dsimp only at hF
    refine q_callV [] [] rfl d_X12_go_38 v_X12_281 (by omega) rfl (Nat.le_of_ble_eq_true rfl) (rc_rc g38 (by decide) rfl) (R_X12_notes _ _ (by omega) e38) ?_
    refine g_aloadn d_X12_go_41 rfl ?_
    refine g_iloadn d_X12_go_42 rfl ?_
    refine g_aloadn d_X12_go_43 rfl ?_
    obtain ⟨v44, e44, hF⟩ := Option.bind_eq_some_iff.mp hF
    refine q_fR d_X12_go_44 f_X12_13 e44 ?_
    refine g_bi (107) d_X12_go_47 bi_107 ?_
    obtain ⟨v49, e49, hF⟩ := Option.bind_eq_some_iff.mp hF
    refine q_aI d_X12_go_49 e49 ?_
    obtain ⟨_, g50, hF⟩ := Option.bind_eq_some_iff.mp hF
    obtain ⟨⟨r50, h50⟩, e50, hF⟩ := Option.bind_eq_some_iff.mp hF
    try dsimp only at hF
    refine q_callV [.int x2, .int v49] [] rfl d_X12_go_50 v_X12_256 (by omega) rfl (Nat.le_of_ble_eq_true rfl) (rc_rc g50 (by decide) rfl) (R_X12_soundOf _ _ _ _ (by omega) e50) ?_
    obtain ⟨rfl, rfl⟩ := x_inj hF
    exact g_iret d_X12_go_53 rfl hq
  · have hF := x_f hF c15
    refine g_bi (-10) d_X12_go_18 bi_m10 ?_
    refine g_iloadn d_X12_go_20 rfl ?_
    refine g_isub d_X12_go_21 ?_
    obtain ⟨rfl, rfl⟩ := x_inj hF
    exact g_iret d_X12_go_22 rfl hq
theorem d_X12_days_0 : decode cX12_days 0 = .ok (.aload_n 0, 1) := by decide +kernel
theorem d_X12_days_1 : decode cX12_days 1 = .ok (.iconst 0, 1) := by decide +kernel
theorem d_X12_days_2 : decode cX12_days 2 = .ok (.putfield 1, 3) := by decide +kernel
theorem d_X12_days_5 : decode cX12_days 5 = .ok (.iload_n 1, 1) := by decide +kernel
theorem d_X12_days_6 : decode cX12_days 6 = .ok (.i2l, 1) := by decide +kernel
theorem d_X12_days_7 : decode cX12_days 7 = .ok (.lconst 1, 1) := by decide +kernel
theorem d_X12_days_8 : decode cX12_days 8 = .ok (.ldc2_w 284, 3) := by decide +kernel
theorem d_X12_days_11 : decode cX12_days 11 = .ok (.invokestatic 148, 3) := by decide +kernel
theorem d_X12_days_14 : decode cX12_days 14 = .ok (.ifCond .ne 6, 3) := by decide +kernel
theorem d_X12_days_17 : decode cX12_days 17 = .ok (.bipush (-3), 2) := by decide +kernel
theorem d_X12_days_19 : decode cX12_days 19 = .ok (.ireturn, 1) := by decide +kernel
theorem d_X12_days_20 : decode cX12_days 20 = .ok (.aload_n 0, 1) := by decide +kernel
theorem d_X12_days_21 : decode cX12_days 21 = .ok (.invokevirtual 278, 3) := by decide +kernel
theorem d_X12_days_24 : decode cX12_days 24 = .ok (.iconst 0, 1) := by decide +kernel
theorem d_X12_days_25 : decode cX12_days 25 = .ok (.istore_n 2, 1) := by decide +kernel
theorem d_X12_days_26 : decode cX12_days 26 = .ok (.iload_n 2, 1) := by decide +kernel
theorem d_X12_days_27 : decode cX12_days 27 = .ok (.iload_n 1, 1) := by decide +kernel
theorem d_X12_days_28 : decode cX12_days 28 = .ok (.if_icmp .ge 13, 3) := by decide +kernel
theorem d_X12_days_31 : decode cX12_days 31 = .ok (.aload_n 0, 1) := by decide +kernel
theorem d_X12_days_32 : decode cX12_days 32 = .ok (.invokevirtual 286, 3) := by decide +kernel
theorem d_X12_days_35 : decode cX12_days 35 = .ok (.iinc 2 1, 3) := by decide +kernel
theorem d_X12_days_38 : decode cX12_days 38 = .ok (.goto (-12), 3) := by decide +kernel
theorem d_X12_days_41 : decode cX12_days 41 = .ok (.aload_n 0, 1) := by decide +kernel
theorem d_X12_days_42 : decode cX12_days 42 = .ok (.invokevirtual 281, 3) := by decide +kernel
theorem d_X12_days_45 : decode cX12_days 45 = .ok (.aload_n 0, 1) := by decide +kernel
theorem d_X12_days_46 : decode cX12_days 46 = .ok (.getfield 13, 3) := by decide +kernel
theorem d_X12_days_49 : decode cX12_days 49 = .ok (.bipush 108, 2) := by decide +kernel
theorem d_X12_days_51 : decode cX12_days 51 = .ok (.iaload, 1) := by decide +kernel
theorem d_X12_days_52 : decode cX12_days 52 = .ok (.aload_n 0, 1) := by decide +kernel
theorem d_X12_days_53 : decode cX12_days 53 = .ok (.getfield 36, 3) := by decide +kernel
theorem d_X12_days_56 : decode cX12_days 56 = .ok (.iconst 1, 1) := by decide +kernel
theorem d_X12_days_57 : decode cX12_days 57 = .ok (.iaload, 1) := by decide +kernel
theorem d_X12_days_58 : decode cX12_days 58 = .ok (.iconst (-1), 1) := by decide +kernel
theorem d_X12_days_59 : decode cX12_days 59 = .ok (.ixor, 1) := by decide +kernel
theorem d_X12_days_60 : decode cX12_days 60 = .ok (.iand, 1) := by decide +kernel
theorem d_X12_days_61 : decode cX12_days 61 = .ok (.ireturn, 1) := by decide +kernel
def F_X12_days_b26 : Nat → Nat → Int32 → Int32 → xH → Option (Int32 × xH)
  | 0, _, _, _, _ => none
  | n + 1, x0, x1, x2, h => if x1 ≤ x2 then (rc h x0 11).bind fun _ => (F_X12_notes x0 h).bind fun z42 => (fR z42.2 x0 11 1).bind fun v46 => (aI z42.2 v46 108).bind fun v51 => (fR z42.2 x0 11 18).bind fun v53 => (aI z42.2 v53 1).bind fun v57 => some (v51 &&& (v57 ^^^ ((-1))), z42.2) else (rc h x0 11).bind fun _ => (F_X12_goesDay x0 h).bind fun z32 => F_X12_days_b26 n x0 x1 (x2 + 1) z32.2
theorem R_X12_days_b26 {Γ : xG} {l : Launch} {d : Nat} {Q : Option Value → xH → Prop} {r : Int32} {h' : xH} (hdp : 2 ≤ d) (hq : Q (some (.int r)) h') : ∀ (n : Nat) (x0 : Nat) (x1 : Int32) (x2 : Int32) (h : xH), F_X12_days_b26 n x0 x1 x2 h = some (r, h') → Gd Γ l d m_X12_days 26 [.ref x0, .int x1, .int x2] [] h 0 0 Q := by
  intro n
  induction n with
  | zero => intro x0 x1 x2 h hF; cases hF
  | succ n ih =>
  intro x0 x1 x2 h hF
  rw [F_X12_days_b26] at hF
  refine g_iloadn d_X12_days_26 rfl ?_
  refine g_iloadn d_X12_days_27 rfl ?_
  refine g_icmp_ge 41 d_X12_days_28 rfl (fun c28 => ?_) (fun c28 => ?_)
  · have hF := x_t hF c28
    refine g_aloadn d_X12_days_41 rfl ?_
    obtain ⟨_, g42, hF⟩ := Option.bind_eq_some_iff.mp hF
    obtain ⟨⟨r42, h42⟩, e42, hF⟩ := Option.bind_eq_some_iff.mp hF
    try dsimp only at hF
    refine q_callV [] [] rfl d_X12_days_42 v_X12_281 (by omega) rfl (Nat.le_of_ble_eq_true rfl) (rc_rc g42 (by decide) rfl) (R_X12_notes _ _ (by omega) e42) ?_
    refine g_aloadn d_X12_days_45 rfl ?_
    obtain ⟨v46, e46, hF⟩ := Option.bind_eq_some_iff.mp hF
    refine q_fR d_X12_days_46 f_X12_13 e46 ?_
    refine g_bi (108) d_X12_days_49 bi_108 ?_
    obtain ⟨v51, e51, hF⟩ := Option.bind_eq_some_iff.mp hF
    refine q_aI d_X12_days_51 e51 ?_
    refine g_aloadn d_X12_days_52 rfl ?_
    obtain ⟨v53, e53, hF⟩ := Option.bind_eq_some_iff.mp hF
    refine q_fR d_X12_days_53 f_X12_36 e53 ?_
    refine g_ic (1) d_X12_days_56 ic_1 ?_
    obtain ⟨v57, e57, hF⟩ := Option.bind_eq_some_iff.mp hF
    refine q_aI d_X12_days_57 e57 ?_
    refine g_ic (-1) d_X12_days_58 ic_m1 ?_
    refine g_ixor d_X12_days_59 ?_
    refine g_iand d_X12_days_60 ?_
    obtain ⟨rfl, rfl⟩ := x_inj hF
    exact g_iret d_X12_days_61 rfl hq
  · have hF := x_f hF c28
    refine g_aloadn d_X12_days_31 rfl ?_
    obtain ⟨_, g32, hF⟩ := Option.bind_eq_some_iff.mp hF
    obtain ⟨⟨r32, h32⟩, e32, hF⟩ := Option.bind_eq_some_iff.mp hF
    try dsimp only at hF
    refine q_callV [] [] rfl d_X12_days_32 v_X12_286 (by omega) rfl (Nat.le_of_ble_eq_true rfl) (rc_rc g32 (by decide) rfl) (R_X12_goesDay _ _ (by omega) e32) ?_
    refine q_iinc (1) [.ref x0, .int x1, .int (x2 + 1)] d_X12_days_35 ic_1 rfl (by decide) rfl ?_
    refine g_goto 26 d_X12_days_38 rfl ?_
    exact q_to (xs_r (xs_r (xs_r xs_n))) (ih _ _ _ _ hF)
def F_X12_days (x0 : Nat) (x1 : Int32) (h : xH) : Option (Int32 × xH) := (wI h x0 11 0 0).bind fun h2 => (F_X12_within x1.toInt64 1 99 h2).bind fun z11 => if ¬ z11.1 = 0 then (rc z11.2 x0 11).bind fun _ => (F_X12_keeps x0 z11.2).bind fun z21 => F_X12_days_b26 FU x0 x1 0 z21.2 else some ((-3), z11.2)
theorem R_X12_days {Γ : xG} {l : Launch} {d : Nat} {r : Int32} {h' : xH} (x0 : Nat) (x1 : Int32) (h : xH) (hdp : 2 ≤ d) (hF : F_X12_days x0 x1 h = some (r, h')) : Gm Γ l d 0 0 m_X12_days [.ref x0, .int x1] h (fun a u => a = some (.int r) ∧ u = h') := by
  refine Gm.of pn_X12 (Nat.le_of_ble_eq_true rfl) ?_
  show Gd Γ l d m_X12_days 0 [.ref x0, .int x1, xhole] [] h 0 0 _
  generalize hQ : (fun (a : Option Value) (u : xH) => a = some (.int r) ∧ u = h') = Q
  have hq : Q (some (.int r)) h' := by rw [← hQ]; exact ⟨rfl, rfl⟩
  clear hQ
  unfold F_X12_days at hF
  refine g_aloadn d_X12_days_0 rfl ?_
  refine g_ic (0) d_X12_days_1 ic_0 ?_
  obtain ⟨h2, e2, hF⟩ := Option.bind_eq_some_iff.mp hF
  refine q_wI d_X12_days_2 (w_X12_1 _) e2 ?_
  refine g_iloadn d_X12_days_5 rfl ?_
  refine g_i2l d_X12_days_6 ?_
  refine g_lc 1 d_X12_days_7 rfl ?_
  refine g_ldc2 d_X12_days_8 k_X12_284 ?_
  obtain ⟨⟨r11, h11⟩, e11, hF⟩ := Option.bind_eq_some_iff.mp hF
  try dsimp only at hF
  refine q_callS [.long (x1.toInt64), .long 1, .long 99] [] rfl d_X12_days_11 s_X12_148 (by omega) rfl (Nat.le_of_ble_eq_true rfl) (R_X12_within _ _ _ _ (by omega) e11) ?_
  refine g_if_ne 20 d_X12_days_14 rfl (fun c14 => ?_) (fun c14 => ?_)
  · have hF := x_t hF c14
    refine g_aloadn d_X12_days_20 rfl ?_
    obtain ⟨_, g21, hF⟩ := Option.bind_eq_some_iff.mp hF
    obtain ⟨⟨r21, h21⟩, e21, hF⟩ := Option.bind_eq_some_iff.mp hF
    try dsimp only at hF
    refine q_callV [] [] rfl d_X12_days_21 v_X12_278 (by omega) rfl (Nat.le_of_ble_eq_true rfl) (rc_rc g21 (by decide) rfl) (R_X12_keeps _ _ (by omega) e21) ?_
    refine g_ic (0) d_X12_days_24 ic_0 ?_
    refine q_istoren [.ref x0, .int x1, .int 0] d_X12_days_25 (by decide) rfl ?_
    exact q_to (xs_r (xs_r (xs_r xs_n))) (R_X12_days_b26 hdp hq FU _ _ _ _ hF)
  · have hF := x_f hF (not_not_intro c14)
    refine g_bi (-3) d_X12_days_17 bi_m3 ?_
    obtain ⟨rfl, rfl⟩ := x_inj hF
    exact g_iret d_X12_days_19 rfl hq
theorem d_X12_ear_0 : decode cX12_ear 0 = .ok (.aload_n 0, 1) := by decide +kernel
theorem d_X12_ear_1 : decode cX12_ear 1 = .ok (.iconst 0, 1) := by decide +kernel
theorem d_X12_ear_2 : decode cX12_ear 2 = .ok (.putfield 1, 3) := by decide +kernel
theorem d_X12_ear_5 : decode cX12_ear 5 = .ok (.aload_n 0, 1) := by decide +kernel
theorem d_X12_ear_6 : decode cX12_ear 6 = .ok (.iload_n 1, 1) := by decide +kernel
theorem d_X12_ear_7 : decode cX12_ear 7 = .ok (.i2l, 1) := by decide +kernel
theorem d_X12_ear_8 : decode cX12_ear 8 = .ok (.invokevirtual 246, 3) := by decide +kernel
theorem d_X12_ear_11 : decode cX12_ear 11 = .ok (.ifCond .eq 15, 3) := by decide +kernel
theorem d_X12_ear_14 : decode cX12_ear 14 = .ok (.iload_n 2, 1) := by decide +kernel
theorem d_X12_ear_15 : decode cX12_ear 15 = .ok (.i2l, 1) := by decide +kernel
theorem d_X12_ear_16 : decode cX12_ear 16 = .ok (.lconst 0, 1) := by decide +kernel
theorem d_X12_ear_17 : decode cX12_ear 17 = .ok (.ldc2_w 289, 3) := by decide +kernel
theorem d_X12_ear_20 : decode cX12_ear 20 = .ok (.invokestatic 148, 3) := by decide +kernel
theorem d_X12_ear_23 : decode cX12_ear 23 = .ok (.ifCond .ne 6, 3) := by decide +kernel
theorem d_X12_ear_26 : decode cX12_ear 26 = .ok (.bipush (-11), 2) := by decide +kernel
theorem d_X12_ear_28 : decode cX12_ear 28 = .ok (.ireturn, 1) := by decide +kernel
theorem d_X12_ear_29 : decode cX12_ear 29 = .ok (.aload_n 0, 1) := by decide +kernel
theorem d_X12_ear_30 : decode cX12_ear 30 = .ok (.invokevirtual 278, 3) := by decide +kernel
theorem d_X12_ear_33 : decode cX12_ear 33 = .ok (.aload_n 0, 1) := by decide +kernel
theorem d_X12_ear_34 : decode cX12_ear 34 = .ok (.getfield 13, 3) := by decide +kernel
theorem d_X12_ear_37 : decode cX12_ear 37 = .ok (.bipush 115, 2) := by decide +kernel
theorem d_X12_ear_39 : decode cX12_ear 39 = .ok (.iload_n 1, 1) := by decide +kernel
theorem d_X12_ear_40 : decode cX12_ear 40 = .ok (.iadd, 1) := by decide +kernel
theorem d_X12_ear_41 : decode cX12_ear 41 = .ok (.iload_n 2, 1) := by decide +kernel
theorem d_X12_ear_42 : decode cX12_ear 42 = .ok (.iastore, 1) := by decide +kernel
theorem d_X12_ear_43 : decode cX12_ear 43 = .ok (.aload_n 0, 1) := by decide +kernel
theorem d_X12_ear_44 : decode cX12_ear 44 = .ok (.invokevirtual 281, 3) := by decide +kernel
theorem d_X12_ear_47 : decode cX12_ear 47 = .ok (.aload_n 0, 1) := by decide +kernel
theorem d_X12_ear_48 : decode cX12_ear 48 = .ok (.getfield 36, 3) := by decide +kernel
theorem d_X12_ear_51 : decode cX12_ear 51 = .ok (.bipush 8, 2) := by decide +kernel
theorem d_X12_ear_53 : decode cX12_ear 53 = .ok (.iload_n 1, 1) := by decide +kernel
theorem d_X12_ear_54 : decode cX12_ear 54 = .ok (.iadd, 1) := by decide +kernel
theorem d_X12_ear_55 : decode cX12_ear 55 = .ok (.iaload, 1) := by decide +kernel
theorem d_X12_ear_56 : decode cX12_ear 56 = .ok (.ireturn, 1) := by decide +kernel
def F_X12_ear (x0 : Nat) (x1 : Int32) (x2 : Int32) (h : xH) : Option (Int32 × xH) := (wI h x0 11 0 0).bind fun h2 => (rc h2 x0 11).bind fun _ => (F_X12_isPerson x0 x1.toInt64 h2).bind fun z8 => if z8.1 = 0 then some ((-11), z8.2) else (F_X12_within x2.toInt64 0 9 z8.2).bind fun z20 => if ¬ z20.1 = 0 then (rc z20.2 x0 11).bind fun _ => (F_X12_keeps x0 z20.2).bind fun z30 => (fR z30.2 x0 11 1).bind fun v34 => (sI z30.2 v34 (((115 : Int32)) + x1) x2).bind fun h42 => (rc h42 x0 11).bind fun _ => (F_X12_notes x0 h42).bind fun z44 => (fR z44.2 x0 11 18).bind fun v48 => (aI z44.2 v48 (((8 : Int32)) + x1)).bind fun v55 => some (v55, z44.2) else some ((-11), z20.2)
theorem R_X12_ear {Γ : xG} {l : Launch} {d : Nat} {r : Int32} {h' : xH} (x0 : Nat) (x1 : Int32) (x2 : Int32) (h : xH) (hdp : 2 ≤ d) (hF : F_X12_ear x0 x1 x2 h = some (r, h')) : Gm Γ l d 0 0 m_X12_ear [.ref x0, .int x1, .int x2] h (fun a u => a = some (.int r) ∧ u = h') := by
  refine Gm.of pn_X12 (Nat.le_of_ble_eq_true rfl) ?_
  show Gd Γ l d m_X12_ear 0 [.ref x0, .int x1, .int x2] [] h 0 0 _
  generalize hQ : (fun (a : Option Value) (u : xH) => a = some (.int r) ∧ u = h') = Q
  have hq : Q (some (.int r)) h' := by rw [← hQ]; exact ⟨rfl, rfl⟩
  clear hQ
  unfold F_X12_ear at hF
  refine g_aloadn d_X12_ear_0 rfl ?_
  refine g_ic (0) d_X12_ear_1 ic_0 ?_
  obtain ⟨h2, e2, hF⟩ := Option.bind_eq_some_iff.mp hF
  refine q_wI d_X12_ear_2 (w_X12_1 _) e2 ?_
  refine g_aloadn d_X12_ear_5 rfl ?_
  refine g_iloadn d_X12_ear_6 rfl ?_
  refine g_i2l d_X12_ear_7 ?_
  obtain ⟨_, g8, hF⟩ := Option.bind_eq_some_iff.mp hF
  obtain ⟨⟨r8, h8⟩, e8, hF⟩ := Option.bind_eq_some_iff.mp hF
  try dsimp only at hF
  refine q_callV [.long (x1.toInt64)] [] rfl d_X12_ear_8 v_X12_246 (by omega) rfl (Nat.le_of_ble_eq_true rfl) (rc_rc g8 (by decide) rfl) (R_X12_isPerson _ _ _ (by omega) e8) ?_
  refine g_if_eq 26 d_X12_ear_11 rfl (fun c11 => ?_) (fun c11 => ?_)
  · have hF := x_t hF c11
    refine g_bi (-11) d_X12_ear_26 bi_m11 ?_
    obtain ⟨rfl, rfl⟩ := x_inj hF
    exact g_iret d_X12_ear_28 rfl hq
  · have hF := x_f hF c11
    refine g_iloadn d_X12_ear_14 rfl ?_
    refine g_i2l d_X12_ear_15 ?_
    refine g_lc 0 d_X12_ear_16 rfl ?_
    refine g_ldc2 d_X12_ear_17 k_X12_289 ?_
    obtain ⟨⟨r20, h20⟩, e20, hF⟩ := Option.bind_eq_some_iff.mp hF
    try dsimp only at hF
    refine q_callS [.long (x2.toInt64), .long 0, .long 9] [] rfl d_X12_ear_20 s_X12_148 (by omega) rfl (Nat.le_of_ble_eq_true rfl) (R_X12_within _ _ _ _ (by omega) e20) ?_
    refine g_if_ne 29 d_X12_ear_23 rfl (fun c23 => ?_) (fun c23 => ?_)
    · have hF := x_t hF c23
      refine g_aloadn d_X12_ear_29 rfl ?_
      obtain ⟨_, g30, hF⟩ := Option.bind_eq_some_iff.mp hF
      obtain ⟨⟨r30, h30⟩, e30, hF⟩ := Option.bind_eq_some_iff.mp hF
      try dsimp only at hF
      refine q_callV [] [] rfl d_X12_ear_30 v_X12_278 (by omega) rfl (Nat.le_of_ble_eq_true rfl) (rc_rc g30 (by decide) rfl) (R_X12_keeps _ _ (by omega) e30) ?_
      refine g_aloadn d_X12_ear_33 rfl ?_
      obtain ⟨v34, e34, hF⟩ := Option.bind_eq_some_iff.mp hF
      refine q_fR d_X12_ear_34 f_X12_13 e34 ?_
      refine g_bi (115) d_X12_ear_37 bi_115 ?_
      refine g_iloadn d_X12_ear_39 rfl ?_
      refine g_iadd d_X12_ear_40 ?_
      refine g_iloadn d_X12_ear_41 rfl ?_
      obtain ⟨h42, e42, hF⟩ := Option.bind_eq_some_iff.mp hF
      refine q_sI d_X12_ear_42 e42 ?_
      refine g_aloadn d_X12_ear_43 rfl ?_
      obtain ⟨_, g44, hF⟩ := Option.bind_eq_some_iff.mp hF
      obtain ⟨⟨r44, h44⟩, e44, hF⟩ := Option.bind_eq_some_iff.mp hF
      try dsimp only at hF
      refine q_callV [] [] rfl d_X12_ear_44 v_X12_281 (by omega) rfl (Nat.le_of_ble_eq_true rfl) (rc_rc g44 (by decide) rfl) (R_X12_notes _ _ (by omega) e44) ?_
      refine g_aloadn d_X12_ear_47 rfl ?_
      obtain ⟨v48, e48, hF⟩ := Option.bind_eq_some_iff.mp hF
      refine q_fR d_X12_ear_48 f_X12_36 e48 ?_
      refine g_bi (8) d_X12_ear_51 bi_8 ?_
      refine g_iloadn d_X12_ear_53 rfl ?_
      refine g_iadd d_X12_ear_54 ?_
      obtain ⟨v55, e55, hF⟩ := Option.bind_eq_some_iff.mp hF
      refine q_aI d_X12_ear_55 e55 ?_
      obtain ⟨rfl, rfl⟩ := x_inj hF
      exact g_iret d_X12_ear_56 rfl hq
    · have hF := x_f hF (not_not_intro c23)
      refine g_bi (-11) d_X12_ear_26 bi_m11 ?_
      obtain ⟨rfl, rfl⟩ := x_inj hF
      exact g_iret d_X12_ear_28 rfl hq
theorem d_X12_blank_0 : decode cX12_blank 0 = .ok (.aload_n 0, 1) := by decide +kernel
theorem d_X12_blank_1 : decode cX12_blank 1 = .ok (.iconst 0, 1) := by decide +kernel
theorem d_X12_blank_2 : decode cX12_blank 2 = .ok (.putfield 1, 3) := by decide +kernel
theorem d_X12_blank_5 : decode cX12_blank 5 = .ok (.aload_n 0, 1) := by decide +kernel
theorem d_X12_blank_6 : decode cX12_blank 6 = .ok (.iload_n 1, 1) := by decide +kernel
theorem d_X12_blank_7 : decode cX12_blank 7 = .ok (.i2l, 1) := by decide +kernel
theorem d_X12_blank_8 : decode cX12_blank 8 = .ok (.invokevirtual 246, 3) := by decide +kernel
theorem d_X12_blank_11 : decode cX12_blank 11 = .ok (.ifCond .eq 17, 3) := by decide +kernel
theorem d_X12_blank_14 : decode cX12_blank 14 = .ok (.iload_n 2, 1) := by decide +kernel
theorem d_X12_blank_15 : decode cX12_blank 15 = .ok (.iconst (-1), 1) := by decide +kernel
theorem d_X12_blank_16 : decode cX12_blank 16 = .ok (.if_icmp .eq 15, 3) := by decide +kernel
theorem d_X12_blank_19 : decode cX12_blank 19 = .ok (.aload_n 0, 1) := by decide +kernel
theorem d_X12_blank_20 : decode cX12_blank 20 = .ok (.iload_n 2, 1) := by decide +kernel
theorem d_X12_blank_21 : decode cX12_blank 21 = .ok (.i2l, 1) := by decide +kernel
theorem d_X12_blank_22 : decode cX12_blank 22 = .ok (.invokevirtual 271, 3) := by decide +kernel
theorem d_X12_blank_25 : decode cX12_blank 25 = .ok (.ifCond .ne 6, 3) := by decide +kernel
theorem d_X12_blank_28 : decode cX12_blank 28 = .ok (.bipush (-11), 2) := by decide +kernel
theorem d_X12_blank_30 : decode cX12_blank 30 = .ok (.ireturn, 1) := by decide +kernel
theorem d_X12_blank_31 : decode cX12_blank 31 = .ok (.aload_n 0, 1) := by decide +kernel
theorem d_X12_blank_32 : decode cX12_blank 32 = .ok (.invokevirtual 278, 3) := by decide +kernel
theorem d_X12_blank_35 : decode cX12_blank 35 = .ok (.aload_n 0, 1) := by decide +kernel
theorem d_X12_blank_36 : decode cX12_blank 36 = .ok (.iload_n 1, 1) := by decide +kernel
theorem d_X12_blank_37 : decode cX12_blank 37 = .ok (.iload_n 2, 1) := by decide +kernel
theorem d_X12_blank_38 : decode cX12_blank 38 = .ok (.invokevirtual 291, 3) := by decide +kernel
theorem d_X12_blank_41 : decode cX12_blank 41 = .ok (.aload_n 0, 1) := by decide +kernel
theorem d_X12_blank_42 : decode cX12_blank 42 = .ok (.invokevirtual 281, 3) := by decide +kernel
theorem d_X12_blank_45 : decode cX12_blank 45 = .ok (.aload_n 0, 1) := by decide +kernel
theorem d_X12_blank_46 : decode cX12_blank 46 = .ok (.getfield 36, 3) := by decide +kernel
theorem d_X12_blank_49 : decode cX12_blank 49 = .ok (.bipush 14, 2) := by decide +kernel
theorem d_X12_blank_51 : decode cX12_blank 51 = .ok (.iload_n 1, 1) := by decide +kernel
theorem d_X12_blank_52 : decode cX12_blank 52 = .ok (.iadd, 1) := by decide +kernel
theorem d_X12_blank_53 : decode cX12_blank 53 = .ok (.iaload, 1) := by decide +kernel
theorem d_X12_blank_54 : decode cX12_blank 54 = .ok (.ireturn, 1) := by decide +kernel
def F_X12_blank_b31 (x0 : Nat) (x1 : Int32) (x2 : Int32) (h : xH) : Option (Int32 × xH) := (rc h x0 11).bind fun _ => (F_X12_keeps x0 h).bind fun z32 => (rc z32.2 x0 11).bind fun _ => (F_X12_blanks1 x0 x1 x2 z32.2).bind fun z38 => (rc z38.2 x0 11).bind fun _ => (F_X12_notes x0 z38.2).bind fun z42 => (fR z42.2 x0 11 18).bind fun v46 => (aI z42.2 v46 (((14 : Int32)) + x1)).bind fun v53 => some (v53, z42.2)
theorem R_X12_blank_b31 {Γ : xG} {l : Launch} {d : Nat} {Q : Option Value → xH → Prop} {r : Int32} {h' : xH} (hdp : 2 ≤ d) (hq : Q (some (.int r)) h') : ∀ (x0 : Nat) (x1 : Int32) (x2 : Int32) (h : xH), F_X12_blank_b31 x0 x1 x2 h = some (r, h') → Gd Γ l d m_X12_blank 31 [.ref x0, .int x1, .int x2] [] h 0 0 Q := by
  intro x0 x1 x2 h hF
  unfold F_X12_blank_b31 at hF
  refine g_aloadn d_X12_blank_31 rfl ?_
  obtain ⟨_, g32, hF⟩ := Option.bind_eq_some_iff.mp hF
  obtain ⟨⟨r32, h32⟩, e32, hF⟩ := Option.bind_eq_some_iff.mp hF
  try dsimp only at hF
  refine q_callV [] [] rfl d_X12_blank_32 v_X12_278 (by omega) rfl (Nat.le_of_ble_eq_true rfl) (rc_rc g32 (by decide) rfl) (R_X12_keeps _ _ (by omega) e32) ?_
  refine g_aloadn d_X12_blank_35 rfl ?_
  refine g_iloadn d_X12_blank_36 rfl ?_
  refine g_iloadn d_X12_blank_37 rfl ?_
  obtain ⟨_, g38, hF⟩ := Option.bind_eq_some_iff.mp hF
  obtain ⟨⟨r38, h38⟩, e38, hF⟩ := Option.bind_eq_some_iff.mp hF
  try dsimp only at hF
  refine q_callV [.int x1, .int x2] [] rfl d_X12_blank_38 v_X12_291 (by omega) rfl (Nat.le_of_ble_eq_true rfl) (rc_rc g38 (by decide) rfl) (R_X12_blanks1 _ _ _ _ (by omega) e38) ?_
  refine g_aloadn d_X12_blank_41 rfl ?_
  obtain ⟨_, g42, hF⟩ := Option.bind_eq_some_iff.mp hF
  obtain ⟨⟨r42, h42⟩, e42, hF⟩ := Option.bind_eq_some_iff.mp hF
  try dsimp only at hF
  refine q_callV [] [] rfl d_X12_blank_42 v_X12_281 (by omega) rfl (Nat.le_of_ble_eq_true rfl) (rc_rc g42 (by decide) rfl) (R_X12_notes _ _ (by omega) e42) ?_
  refine g_aloadn d_X12_blank_45 rfl ?_
  obtain ⟨v46, e46, hF⟩ := Option.bind_eq_some_iff.mp hF
  refine q_fR d_X12_blank_46 f_X12_36 e46 ?_
  refine g_bi (14) d_X12_blank_49 bi_14 ?_
  refine g_iloadn d_X12_blank_51 rfl ?_
  refine g_iadd d_X12_blank_52 ?_
  obtain ⟨v53, e53, hF⟩ := Option.bind_eq_some_iff.mp hF
  refine q_aI d_X12_blank_53 e53 ?_
  obtain ⟨rfl, rfl⟩ := x_inj hF
  exact g_iret d_X12_blank_54 rfl hq
def F_X12_blank (x0 : Nat) (x1 : Int32) (x2 : Int32) (h : xH) : Option (Int32 × xH) := (wI h x0 11 0 0).bind fun h2 => (rc h2 x0 11).bind fun _ => (F_X12_isPerson x0 x1.toInt64 h2).bind fun z8 => if z8.1 = 0 then some ((-11), z8.2) else if x2 = (((-1) : Int32)) then F_X12_blank_b31 x0 x1 x2 z8.2 else (rc z8.2 x0 11).bind fun _ => (F_X12_isNote x0 x2.toInt64 z8.2).bind fun z22 => if ¬ z22.1 = 0 then F_X12_blank_b31 x0 x1 x2 z22.2 else some ((-11), z22.2)
theorem R_X12_blank {Γ : xG} {l : Launch} {d : Nat} {r : Int32} {h' : xH} (x0 : Nat) (x1 : Int32) (x2 : Int32) (h : xH) (hdp : 2 ≤ d) (hF : F_X12_blank x0 x1 x2 h = some (r, h')) : Gm Γ l d 0 0 m_X12_blank [.ref x0, .int x1, .int x2] h (fun a u => a = some (.int r) ∧ u = h') := by
  refine Gm.of pn_X12 (Nat.le_of_ble_eq_true rfl) ?_
  show Gd Γ l d m_X12_blank 0 [.ref x0, .int x1, .int x2] [] h 0 0 _
  generalize hQ : (fun (a : Option Value) (u : xH) => a = some (.int r) ∧ u = h') = Q
  have hq : Q (some (.int r)) h' := by rw [← hQ]; exact ⟨rfl, rfl⟩
  clear hQ
  unfold F_X12_blank at hF
  refine g_aloadn d_X12_blank_0 rfl ?_
  refine g_ic (0) d_X12_blank_1 ic_0 ?_
  obtain ⟨h2, e2, hF⟩ := Option.bind_eq_some_iff.mp hF
  refine q_wI d_X12_blank_2 (w_X12_1 _) e2 ?_
  refine g_aloadn d_X12_blank_5 rfl ?_
  refine g_iloadn d_X12_blank_6 rfl ?_
  refine g_i2l d_X12_blank_7 ?_
  obtain ⟨_, g8, hF⟩ := Option.bind_eq_some_iff.mp hF
  obtain ⟨⟨r8, h8⟩, e8, hF⟩ := Option.bind_eq_some_iff.mp hF
  try dsimp only at hF
  refine q_callV [.long (x1.toInt64)] [] rfl d_X12_blank_8 v_X12_246 (by omega) rfl (Nat.le_of_ble_eq_true rfl) (rc_rc g8 (by decide) rfl) (R_X12_isPerson _ _ _ (by omega) e8) ?_
  refine g_if_eq 28 d_X12_blank_11 rfl (fun c11 => ?_) (fun c11 => ?_)
  · have hF := x_t hF c11
    refine g_bi (-11) d_X12_blank_28 bi_m11 ?_
    obtain ⟨rfl, rfl⟩ := x_inj hF
    exact g_iret d_X12_blank_30 rfl hq
  · have hF := x_f hF c11
    refine g_iloadn d_X12_blank_14 rfl ?_
    refine g_ic (-1) d_X12_blank_15 ic_m1 ?_
    refine g_icmp_eq 31 d_X12_blank_16 rfl (fun c16 => ?_) (fun c16 => ?_)
    · have hF := x_t hF c16
      exact q_to (xs_r (xs_r (xs_r xs_n))) (R_X12_blank_b31 hdp hq _ _ _ _ hF)
    · have hF := x_f hF c16
      refine g_aloadn d_X12_blank_19 rfl ?_
      refine g_iloadn d_X12_blank_20 rfl ?_
      refine g_i2l d_X12_blank_21 ?_
      obtain ⟨_, g22, hF⟩ := Option.bind_eq_some_iff.mp hF
      obtain ⟨⟨r22, h22⟩, e22, hF⟩ := Option.bind_eq_some_iff.mp hF
      try dsimp only at hF
      refine q_callV [.long (x2.toInt64)] [] rfl d_X12_blank_22 v_X12_271 (by omega) rfl (Nat.le_of_ble_eq_true rfl) (rc_rc g22 (by decide) rfl) (R_X12_isNote _ _ _ (by omega) e22) ?_
      refine g_if_ne 31 d_X12_blank_25 rfl (fun c25 => ?_) (fun c25 => ?_)
      · have hF := x_t hF c25
        exact q_to (xs_r (xs_r (xs_r xs_n))) (R_X12_blank_b31 hdp hq _ _ _ _ hF)
      · have hF := x_f hF (not_not_intro c25)
        refine g_bi (-11) d_X12_blank_28 bi_m11 ?_
        obtain ⟨rfl, rfl⟩ := x_inj hF
        exact g_iret d_X12_blank_30 rfl hq
theorem d_X12_undo_0 : decode cX12_undo 0 = .ok (.aload_n 0, 1) := by decide +kernel
theorem d_X12_undo_1 : decode cX12_undo 1 = .ok (.iconst 0, 1) := by decide +kernel
theorem d_X12_undo_2 : decode cX12_undo 2 = .ok (.putfield 1, 3) := by decide +kernel
theorem d_X12_undo_5 : decode cX12_undo 5 = .ok (.iload_n 1, 1) := by decide +kernel
theorem d_X12_undo_6 : decode cX12_undo 6 = .ok (.i2l, 1) := by decide +kernel
theorem d_X12_undo_7 : decode cX12_undo 7 = .ok (.lconst 1, 1) := by decide +kernel
theorem d_X12_undo_8 : decode cX12_undo 8 = .ok (.ldc2_w 295, 3) := by decide +kernel
theorem d_X12_undo_11 : decode cX12_undo 11 = .ok (.invokestatic 148, 3) := by decide +kernel
theorem d_X12_undo_14 : decode cX12_undo 14 = .ok (.ifCond .eq 14, 3) := by decide +kernel
theorem d_X12_undo_17 : decode cX12_undo 17 = .ok (.iload_n 1, 1) := by decide +kernel
theorem d_X12_undo_18 : decode cX12_undo 18 = .ok (.aload_n 0, 1) := by decide +kernel
theorem d_X12_undo_19 : decode cX12_undo 19 = .ok (.getfield 13, 3) := by decide +kernel
theorem d_X12_undo_22 : decode cX12_undo 22 = .ok (.bipush 127, 2) := by decide +kernel
theorem d_X12_undo_24 : decode cX12_undo 24 = .ok (.iaload, 1) := by decide +kernel
theorem d_X12_undo_25 : decode cX12_undo 25 = .ok (.if_icmp .le 6, 3) := by decide +kernel
theorem d_X12_undo_28 : decode cX12_undo 28 = .ok (.bipush (-3), 2) := by decide +kernel
theorem d_X12_undo_30 : decode cX12_undo 30 = .ok (.ireturn, 1) := by decide +kernel
theorem d_X12_undo_31 : decode cX12_undo 31 = .ok (.aload_n 0, 1) := by decide +kernel
theorem d_X12_undo_32 : decode cX12_undo 32 = .ok (.getfield 13, 3) := by decide +kernel
theorem d_X12_undo_35 : decode cX12_undo 35 = .ok (.bipush 127, 2) := by decide +kernel
theorem d_X12_undo_37 : decode cX12_undo 37 = .ok (.dup2, 1) := by decide +kernel
theorem d_X12_undo_38 : decode cX12_undo 38 = .ok (.iaload, 1) := by decide +kernel
theorem d_X12_undo_39 : decode cX12_undo 39 = .ok (.iload_n 1, 1) := by decide +kernel
theorem d_X12_undo_40 : decode cX12_undo 40 = .ok (.isub, 1) := by decide +kernel
theorem d_X12_undo_41 : decode cX12_undo 41 = .ok (.iastore, 1) := by decide +kernel
theorem d_X12_undo_42 : decode cX12_undo 42 = .ok (.iconst 0, 1) := by decide +kernel
theorem d_X12_undo_43 : decode cX12_undo 43 = .ok (.istore_n 2, 1) := by decide +kernel
theorem d_X12_undo_44 : decode cX12_undo 44 = .ok (.iload_n 2, 1) := by decide +kernel
theorem d_X12_undo_45 : decode cX12_undo 45 = .ok (.bipush 20, 2) := by decide +kernel
theorem d_X12_undo_47 : decode cX12_undo 47 = .ok (.if_icmp .ge 39, 3) := by decide +kernel
theorem d_X12_undo_50 : decode cX12_undo 50 = .ok (.aload_n 0, 1) := by decide +kernel
theorem d_X12_undo_51 : decode cX12_undo 51 = .ok (.getfield 13, 3) := by decide +kernel
theorem d_X12_undo_54 : decode cX12_undo 54 = .ok (.bipush 107, 2) := by decide +kernel
theorem d_X12_undo_56 : decode cX12_undo 56 = .ok (.iload_n 2, 1) := by decide +kernel
theorem d_X12_undo_57 : decode cX12_undo 57 = .ok (.iadd, 1) := by decide +kernel
theorem d_X12_undo_58 : decode cX12_undo 58 = .ok (.aload_n 0, 1) := by decide +kernel
theorem d_X12_undo_59 : decode cX12_undo 59 = .ok (.getfield 13, 3) := by decide +kernel
theorem d_X12_undo_62 : decode cX12_undo 62 = .ok (.sipush 128, 3) := by decide +kernel
theorem d_X12_undo_65 : decode cX12_undo 65 = .ok (.bipush 20, 2) := by decide +kernel
theorem d_X12_undo_67 : decode cX12_undo 67 = .ok (.aload_n 0, 1) := by decide +kernel
theorem d_X12_undo_68 : decode cX12_undo 68 = .ok (.getfield 13, 3) := by decide +kernel
theorem d_X12_undo_71 : decode cX12_undo 71 = .ok (.bipush 127, 2) := by decide +kernel
theorem d_X12_undo_73 : decode cX12_undo 73 = .ok (.iaload, 1) := by decide +kernel
theorem d_X12_undo_74 : decode cX12_undo 74 = .ok (.imul, 1) := by decide +kernel
theorem d_X12_undo_75 : decode cX12_undo 75 = .ok (.iadd, 1) := by decide +kernel
theorem d_X12_undo_76 : decode cX12_undo 76 = .ok (.iload_n 2, 1) := by decide +kernel
theorem d_X12_undo_77 : decode cX12_undo 77 = .ok (.iadd, 1) := by decide +kernel
theorem d_X12_undo_78 : decode cX12_undo 78 = .ok (.iaload, 1) := by decide +kernel
theorem d_X12_undo_79 : decode cX12_undo 79 = .ok (.iastore, 1) := by decide +kernel
theorem d_X12_undo_80 : decode cX12_undo 80 = .ok (.iinc 2 1, 3) := by decide +kernel
theorem d_X12_undo_83 : decode cX12_undo 83 = .ok (.goto (-39), 3) := by decide +kernel
theorem d_X12_undo_86 : decode cX12_undo 86 = .ok (.aload_n 0, 1) := by decide +kernel
theorem d_X12_undo_87 : decode cX12_undo 87 = .ok (.getfield 13, 3) := by decide +kernel
theorem d_X12_undo_90 : decode cX12_undo 90 = .ok (.bipush 127, 2) := by decide +kernel
theorem d_X12_undo_92 : decode cX12_undo 92 = .ok (.iaload, 1) := by decide +kernel
theorem d_X12_undo_93 : decode cX12_undo 93 = .ok (.ireturn, 1) := by decide +kernel
def F_X12_undo_b44 : Nat → Nat → Int32 → xH → Option (Int32 × xH)
  | 0, _, _, _ => none
  | n + 1, x0, x2, h => if ((20 : Int32)) ≤ x2 then (fR h x0 11 1).bind fun v87 => (aI h v87 127).bind fun v92 => some (v92, h) else (fR h x0 11 1).bind fun v51 => (fR h x0 11 1).bind fun v59 => (fR h x0 11 1).bind fun v68 => (aI h v68 127).bind fun v73 => (aI h v59 ((((128 : Int32)) + (((20 : Int32)) * v73)) + x2)).bind fun v78 => (sI h v51 (((107 : Int32)) + x2) v78).bind fun h79 => F_X12_undo_b44 n x0 (x2 + 1) h79
theorem R_X12_undo_b44 {Γ : xG} {l : Launch} {d : Nat} {Q : Option Value → xH → Prop} {r : Int32} {h' : xH} (hdp : 1 ≤ d) (hq : Q (some (.int r)) h') : ∀ (n : Nat) (x0 : Nat) (x2 : Int32) (h : xH), F_X12_undo_b44 n x0 x2 h = some (r, h') → Gd Γ l d m_X12_undo 44 [.ref x0, xhole, .int x2] [] h 0 0 Q := by
  intro n
  induction n with
  | zero => intro x0 x2 h hF; cases hF
  | succ n ih =>
  intro x0 x2 h hF
  rw [F_X12_undo_b44] at hF
  refine g_iloadn d_X12_undo_44 rfl ?_
  refine g_bi (20) d_X12_undo_45 bi_20 ?_
  refine g_icmp_ge 86 d_X12_undo_47 rfl (fun c47 => ?_) (fun c47 => ?_)
  · have hF := x_t hF c47
    refine g_aloadn d_X12_undo_86 rfl ?_
    obtain ⟨v87, e87, hF⟩ := Option.bind_eq_some_iff.mp hF
    refine q_fR d_X12_undo_87 f_X12_13 e87 ?_
    refine g_bi (127) d_X12_undo_90 bi_127 ?_
    obtain ⟨v92, e92, hF⟩ := Option.bind_eq_some_iff.mp hF
    refine q_aI d_X12_undo_92 e92 ?_
    obtain ⟨rfl, rfl⟩ := x_inj hF
    exact g_iret d_X12_undo_93 rfl hq
  · have hF := x_f hF c47
    refine g_aloadn d_X12_undo_50 rfl ?_
    obtain ⟨v51, e51, hF⟩ := Option.bind_eq_some_iff.mp hF
    refine q_fR d_X12_undo_51 f_X12_13 e51 ?_
    refine g_bi (107) d_X12_undo_54 bi_107 ?_
    refine g_iloadn d_X12_undo_56 rfl ?_
    refine g_iadd d_X12_undo_57 ?_
    refine g_aloadn d_X12_undo_58 rfl ?_
    obtain ⟨v59, e59, hF⟩ := Option.bind_eq_some_iff.mp hF
    refine q_fR d_X12_undo_59 f_X12_13 e59 ?_
    refine g_si (128) d_X12_undo_62 si_128 ?_
    refine g_bi (20) d_X12_undo_65 bi_20 ?_
    refine g_aloadn d_X12_undo_67 rfl ?_
    obtain ⟨v68, e68, hF⟩ := Option.bind_eq_some_iff.mp hF
    refine q_fR d_X12_undo_68 f_X12_13 e68 ?_
    refine g_bi (127) d_X12_undo_71 bi_127 ?_
    obtain ⟨v73, e73, hF⟩ := Option.bind_eq_some_iff.mp hF
    refine q_aI d_X12_undo_73 e73 ?_
    refine g_imul d_X12_undo_74 ?_
    refine g_iadd d_X12_undo_75 ?_
    refine g_iloadn d_X12_undo_76 rfl ?_
    refine g_iadd d_X12_undo_77 ?_
    obtain ⟨v78, e78, hF⟩ := Option.bind_eq_some_iff.mp hF
    refine q_aI d_X12_undo_78 e78 ?_
    obtain ⟨h79, e79, hF⟩ := Option.bind_eq_some_iff.mp hF
    refine q_sI d_X12_undo_79 e79 ?_
    refine q_iinc (1) [.ref x0, xhole, .int (x2 + 1)] d_X12_undo_80 ic_1 rfl (by decide) rfl ?_
    refine g_goto 44 d_X12_undo_83 rfl ?_
    exact q_to (xs_r (xs_h (xs_r xs_n))) (ih _ _ _ hF)
def F_X12_undo (x0 : Nat) (x1 : Int32) (h : xH) : Option (Int32 × xH) := (wI h x0 11 0 0).bind fun h2 => (F_X12_within x1.toInt64 1 10 h2).bind fun z11 => if z11.1 = 0 then some ((-3), z11.2) else (fR z11.2 x0 11 1).bind fun v19 => (aI z11.2 v19 127).bind fun v24 => if x1 ≤ v24 then (fR z11.2 x0 11 1).bind fun v32 => (aI z11.2 v32 127).bind fun v38 => (sI z11.2 v32 127 (v38 - x1)).bind fun h41 => F_X12_undo_b44 FU x0 0 h41 else some ((-3), z11.2)
theorem R_X12_undo {Γ : xG} {l : Launch} {d : Nat} {r : Int32} {h' : xH} (x0 : Nat) (x1 : Int32) (h : xH) (hdp : 1 ≤ d) (hF : F_X12_undo x0 x1 h = some (r, h')) : Gm Γ l d 0 0 m_X12_undo [.ref x0, .int x1] h (fun a u => a = some (.int r) ∧ u = h') := by
  refine Gm.of pn_X12 (Nat.le_of_ble_eq_true rfl) ?_
  show Gd Γ l d m_X12_undo 0 [.ref x0, .int x1, xhole] [] h 0 0 _
  generalize hQ : (fun (a : Option Value) (u : xH) => a = some (.int r) ∧ u = h') = Q
  have hq : Q (some (.int r)) h' := by rw [← hQ]; exact ⟨rfl, rfl⟩
  clear hQ
  unfold F_X12_undo at hF
  refine g_aloadn d_X12_undo_0 rfl ?_
  refine g_ic (0) d_X12_undo_1 ic_0 ?_
  obtain ⟨h2, e2, hF⟩ := Option.bind_eq_some_iff.mp hF
  refine q_wI d_X12_undo_2 (w_X12_1 _) e2 ?_
  refine g_iloadn d_X12_undo_5 rfl ?_
  refine g_i2l d_X12_undo_6 ?_
  refine g_lc 1 d_X12_undo_7 rfl ?_
  refine g_ldc2 d_X12_undo_8 k_X12_295 ?_
  obtain ⟨⟨r11, h11⟩, e11, hF⟩ := Option.bind_eq_some_iff.mp hF
  try dsimp only at hF
  refine q_callS [.long (x1.toInt64), .long 1, .long 10] [] rfl d_X12_undo_11 s_X12_148 (by omega) rfl (Nat.le_of_ble_eq_true rfl) (R_X12_within _ _ _ _ (by omega) e11) ?_
  refine g_if_eq 28 d_X12_undo_14 rfl (fun c14 => ?_) (fun c14 => ?_)
  · have hF := x_t hF c14
    refine g_bi (-3) d_X12_undo_28 bi_m3 ?_
    obtain ⟨rfl, rfl⟩ := x_inj hF
    exact g_iret d_X12_undo_30 rfl hq
  · have hF := x_f hF c14
    refine g_iloadn d_X12_undo_17 rfl ?_
    refine g_aloadn d_X12_undo_18 rfl ?_
    obtain ⟨v19, e19, hF⟩ := Option.bind_eq_some_iff.mp hF
    refine q_fR d_X12_undo_19 f_X12_13 e19 ?_
    refine g_bi (127) d_X12_undo_22 bi_127 ?_
    obtain ⟨v24, e24, hF⟩ := Option.bind_eq_some_iff.mp hF
    refine q_aI d_X12_undo_24 e24 ?_
    refine g_icmp_le 31 d_X12_undo_25 rfl (fun c25 => ?_) (fun c25 => ?_)
    · have hF := x_t hF c25
      refine g_aloadn d_X12_undo_31 rfl ?_
      obtain ⟨v32, e32, hF⟩ := Option.bind_eq_some_iff.mp hF
      refine q_fR d_X12_undo_32 f_X12_13 e32 ?_
      refine g_bi (127) d_X12_undo_35 bi_127 ?_
      refine g_dup2 d_X12_undo_37 rfl rfl ?_
      obtain ⟨v38, e38, hF⟩ := Option.bind_eq_some_iff.mp hF
      refine q_aI d_X12_undo_38 e38 ?_
      refine g_iloadn d_X12_undo_39 rfl ?_
      refine g_isub d_X12_undo_40 ?_
      obtain ⟨h41, e41, hF⟩ := Option.bind_eq_some_iff.mp hF
      refine q_sI d_X12_undo_41 e41 ?_
      refine g_ic (0) d_X12_undo_42 ic_0 ?_
      refine q_istoren [.ref x0, .int x1, .int 0] d_X12_undo_43 (by decide) rfl ?_
      exact q_to (xs_r (xs_h (xs_r xs_n))) (R_X12_undo_b44 hdp hq FU _ _ _ hF)
    · have hF := x_f hF c25
      refine g_bi (-3) d_X12_undo_28 bi_m3 ?_
      obtain ⟨rfl, rfl⟩ := x_inj hF
      exact g_iret d_X12_undo_30 rfl hq
theorem d_X12_whyNot_0 : decode cX12_whyNot 0 = .ok (.lload_n 1, 1) := by decide +kernel
theorem d_X12_whyNot_1 : decode cX12_whyNot 1 = .ok (.ldc2_w 297, 3) := by decide +kernel
theorem d_X12_whyNot_4 : decode cX12_whyNot 4 = .ok (.lcmp, 1) := by decide +kernel
theorem d_X12_whyNot_5 : decode cX12_whyNot 5 = .ok (.ifCond .ne 5, 3) := by decide +kernel
theorem d_X12_whyNot_8 : decode cX12_whyNot 8 = .ok (.iconst 0, 1) := by decide +kernel
theorem d_X12_whyNot_9 : decode cX12_whyNot 9 = .ok (.ireturn, 1) := by decide +kernel
theorem d_X12_whyNot_10 : decode cX12_whyNot 10 = .ok (.lload_n 1, 1) := by decide +kernel
theorem d_X12_whyNot_11 : decode cX12_whyNot 11 = .ok (.ldc2_w 299, 3) := by decide +kernel
theorem d_X12_whyNot_14 : decode cX12_whyNot 14 = .ok (.lrem, 1) := by decide +kernel
theorem d_X12_whyNot_15 : decode cX12_whyNot 15 = .ok (.ldc2_w 295, 3) := by decide +kernel
theorem d_X12_whyNot_18 : decode cX12_whyNot 18 = .ok (.ldiv, 1) := by decide +kernel
theorem d_X12_whyNot_19 : decode cX12_whyNot 19 = .ok (.lstore_n 3, 1) := by decide +kernel
theorem d_X12_whyNot_20 : decode cX12_whyNot 20 = .ok (.lload_n 1, 1) := by decide +kernel
theorem d_X12_whyNot_21 : decode cX12_whyNot 21 = .ok (.lconst 0, 1) := by decide +kernel
theorem d_X12_whyNot_22 : decode cX12_whyNot 22 = .ok (.ldc2_w 284, 3) := by decide +kernel
theorem d_X12_whyNot_25 : decode cX12_whyNot 25 = .ok (.invokestatic 148, 3) := by decide +kernel
theorem d_X12_whyNot_28 : decode cX12_whyNot 28 = .ok (.ifCond .eq 14, 3) := by decide +kernel
theorem d_X12_whyNot_31 : decode cX12_whyNot 31 = .ok (.aload_n 0, 1) := by decide +kernel
theorem d_X12_whyNot_32 : decode cX12_whyNot 32 = .ok (.lload_n 3, 1) := by decide +kernel
theorem d_X12_whyNot_33 : decode cX12_whyNot 33 = .ok (.lload_n 1, 1) := by decide +kernel
theorem d_X12_whyNot_34 : decode cX12_whyNot 34 = .ok (.ldc2_w 295, 3) := by decide +kernel
theorem d_X12_whyNot_37 : decode cX12_whyNot 37 = .ok (.lrem, 1) := by decide +kernel
theorem d_X12_whyNot_38 : decode cX12_whyNot 38 = .ok (.invokevirtual 274, 3) := by decide +kernel
theorem d_X12_whyNot_41 : decode cX12_whyNot 41 = .ok (.ireturn, 1) := by decide +kernel
theorem d_X12_whyNot_42 : decode cX12_whyNot 42 = .ok (.lload_n 1, 1) := by decide +kernel
theorem d_X12_whyNot_43 : decode cX12_whyNot 43 = .ok (.ldc2_w 299, 3) := by decide +kernel
theorem d_X12_whyNot_46 : decode cX12_whyNot 46 = .ok (.ldc2_w 301, 3) := by decide +kernel
theorem d_X12_whyNot_49 : decode cX12_whyNot 49 = .ok (.invokestatic 148, 3) := by decide +kernel
theorem d_X12_whyNot_52 : decode cX12_whyNot 52 = .ok (.ifCond .eq 17, 3) := by decide +kernel
theorem d_X12_whyNot_55 : decode cX12_whyNot 55 = .ok (.aload_n 0, 1) := by decide +kernel
theorem d_X12_whyNot_56 : decode cX12_whyNot 56 = .ok (.lload_n 3, 1) := by decide +kernel
theorem d_X12_whyNot_57 : decode cX12_whyNot 57 = .ok (.invokevirtual 246, 3) := by decide +kernel
theorem d_X12_whyNot_60 : decode cX12_whyNot 60 = .ok (.ifCond .eq 7, 3) := by decide +kernel
theorem d_X12_whyNot_63 : decode cX12_whyNot 63 = .ok (.iconst 0, 1) := by decide +kernel
theorem d_X12_whyNot_64 : decode cX12_whyNot 64 = .ok (.goto 4, 3) := by decide +kernel
theorem d_X12_whyNot_67 : decode cX12_whyNot 67 = .ok (.iconst 1, 1) := by decide +kernel
theorem d_X12_whyNot_68 : decode cX12_whyNot 68 = .ok (.ireturn, 1) := by decide +kernel
theorem d_X12_whyNot_69 : decode cX12_whyNot 69 = .ok (.lload_n 1, 1) := by decide +kernel
theorem d_X12_whyNot_70 : decode cX12_whyNot 70 = .ok (.ldc2_w 303, 3) := by decide +kernel
theorem d_X12_whyNot_73 : decode cX12_whyNot 73 = .ok (.ldc2_w 305, 3) := by decide +kernel
theorem d_X12_whyNot_76 : decode cX12_whyNot 76 = .ok (.invokestatic 148, 3) := by decide +kernel
theorem d_X12_whyNot_79 : decode cX12_whyNot 79 = .ok (.ifCond .eq 27, 3) := by decide +kernel
theorem d_X12_whyNot_82 : decode cX12_whyNot 82 = .ok (.aload_n 0, 1) := by decide +kernel
theorem d_X12_whyNot_83 : decode cX12_whyNot 83 = .ok (.lload_n 3, 1) := by decide +kernel
theorem d_X12_whyNot_84 : decode cX12_whyNot 84 = .ok (.invokevirtual 246, 3) := by decide +kernel
theorem d_X12_whyNot_87 : decode cX12_whyNot 87 = .ok (.ifCond .eq 19, 3) := by decide +kernel
theorem d_X12_whyNot_90 : decode cX12_whyNot 90 = .ok (.aload_n 0, 1) := by decide +kernel
theorem d_X12_whyNot_91 : decode cX12_whyNot 91 = .ok (.lload_n 1, 1) := by decide +kernel
theorem d_X12_whyNot_92 : decode cX12_whyNot 92 = .ok (.ldc2_w 295, 3) := by decide +kernel
theorem d_X12_whyNot_95 : decode cX12_whyNot 95 = .ok (.lrem, 1) := by decide +kernel
theorem d_X12_whyNot_96 : decode cX12_whyNot 96 = .ok (.invokevirtual 271, 3) := by decide +kernel
theorem d_X12_whyNot_99 : decode cX12_whyNot 99 = .ok (.ifCond .eq 7, 3) := by decide +kernel
theorem d_X12_whyNot_102 : decode cX12_whyNot 102 = .ok (.iconst 0, 1) := by decide +kernel
theorem d_X12_whyNot_103 : decode cX12_whyNot 103 = .ok (.goto 4, 3) := by decide +kernel
theorem d_X12_whyNot_106 : decode cX12_whyNot 106 = .ok (.iconst 1, 1) := by decide +kernel
theorem d_X12_whyNot_107 : decode cX12_whyNot 107 = .ok (.ireturn, 1) := by decide +kernel
def F_X12_whyNot (x0 : Nat) (x1 : Int64) (h : xH) : Option (Int32 × xH) := if ¬ (lg_cmp x1 ((-1))) = 0 then (F_X12_within x1 0 99 h).bind fun z25 => if z25.1 = 0 then (F_X12_within x1 100 199 z25.2).bind fun z49 => if z49.1 = 0 then (F_X12_within x1 200 299 z49.2).bind fun z76 => if z76.1 = 0 then some (1, z76.2) else (rc z76.2 x0 11).bind fun _ => (F_X12_isPerson x0 (ldv (lrm x1 100) 10) z76.2).bind fun z84 => if z84.1 = 0 then some (1, z84.2) else (rc z84.2 x0 11).bind fun _ => (F_X12_isNote x0 (lrm x1 10) z84.2).bind fun z96 => if z96.1 = 0 then some (1, z96.2) else some (0, z96.2) else (rc z49.2 x0 11).bind fun _ => (F_X12_isPerson x0 (ldv (lrm x1 100) 10) z49.2).bind fun z57 => if z57.1 = 0 then some (1, z57.2) else some (0, z57.2) else (rc z25.2 x0 11).bind fun _ => (F_X12_whyGo x0 (ldv (lrm x1 100) 10) (lrm x1 10) z25.2).bind fun z38 => some (z38.1, z38.2) else some (0, h)
theorem R_X12_whyNot {Γ : xG} {l : Launch} {d : Nat} {r : Int32} {h' : xH} (x0 : Nat) (x1 : Int64) (h : xH) (hdp : 3 ≤ d) (hF : F_X12_whyNot x0 x1 h = some (r, h')) : Gm Γ l d 0 0 m_X12_whyNot [.ref x0, .long x1] h (fun a u => a = some (.int r) ∧ u = h') := by
  refine Gm.of pn_X12 (Nat.le_of_ble_eq_true rfl) ?_
  show Gd Γ l d m_X12_whyNot 0 [.ref x0, .long x1, xhole, xhole, xhole] [] h 0 0 _
  generalize hQ : (fun (a : Option Value) (u : xH) => a = some (.int r) ∧ u = h') = Q
  have hq : Q (some (.int r)) h' := by rw [← hQ]; exact ⟨rfl, rfl⟩
  clear hQ
  unfold F_X12_whyNot at hF
  refine g_lloadn d_X12_whyNot_0 rfl ?_
  refine g_ldc2 d_X12_whyNot_1 k_X12_297 ?_
  refine g_lcmp d_X12_whyNot_4 ?_
  refine g_if_ne 10 d_X12_whyNot_5 rfl (fun c5 => ?_) (fun c5 => ?_)
  · have hF := x_t hF c5
    refine g_lloadn d_X12_whyNot_10 rfl ?_
    refine g_ldc2 d_X12_whyNot_11 k_X12_299 ?_
    refine q_lrem d_X12_whyNot_14 (by decide) ?_
    refine g_ldc2 d_X12_whyNot_15 k_X12_295 ?_
    refine q_ldiv d_X12_whyNot_18 (by decide) ?_
    refine q_lstoren [.ref x0, .long x1, xhole, .long (ldv (lrm x1 100) 10), xhole] d_X12_whyNot_19 (by decide) rfl ?_
    refine g_lloadn d_X12_whyNot_20 rfl ?_
    refine g_lc 0 d_X12_whyNot_21 rfl ?_
    refine g_ldc2 d_X12_whyNot_22 k_X12_284 ?_
    obtain ⟨⟨r25, h25⟩, e25, hF⟩ := Option.bind_eq_some_iff.mp hF
    try dsimp only at hF
    refine q_callS [.long x1, .long 0, .long 99] [] rfl d_X12_whyNot_25 s_X12_148 (by omega) rfl (Nat.le_of_ble_eq_true rfl) (R_X12_within _ _ _ _ (by omega) e25) ?_
    refine g_if_eq 42 d_X12_whyNot_28 rfl (fun c28 => ?_) (fun c28 => ?_)
    · have hF := x_t hF c28
      refine g_lloadn d_X12_whyNot_42 rfl ?_
      refine g_ldc2 d_X12_whyNot_43 k_X12_299 ?_
      refine g_ldc2 d_X12_whyNot_46 k_X12_301 ?_
      obtain ⟨⟨r49, h49⟩, e49, hF⟩ := Option.bind_eq_some_iff.mp hF
      try dsimp only at hF
      refine q_callS [.long x1, .long 100, .long 199] [] rfl d_X12_whyNot_49 s_X12_148 (by omega) rfl (Nat.le_of_ble_eq_true rfl) (R_X12_within _ _ _ _ (by omega) e49) ?_
      refine g_if_eq 69 d_X12_whyNot_52 rfl (fun c52 => ?_) (fun c52 => ?_)
      · have hF := x_t hF c52
        refine g_lloadn d_X12_whyNot_69 rfl ?_
        refine g_ldc2 d_X12_whyNot_70 k_X12_303 ?_
        refine g_ldc2 d_X12_whyNot_73 k_X12_305 ?_
        obtain ⟨⟨r76, h76⟩, e76, hF⟩ := Option.bind_eq_some_iff.mp hF
        try dsimp only at hF
        refine q_callS [.long x1, .long 200, .long 299] [] rfl d_X12_whyNot_76 s_X12_148 (by omega) rfl (Nat.le_of_ble_eq_true rfl) (R_X12_within _ _ _ _ (by omega) e76) ?_
        refine g_if_eq 106 d_X12_whyNot_79 rfl (fun c79 => ?_) (fun c79 => ?_)
        · have hF := x_t hF c79
          refine g_ic (1) d_X12_whyNot_106 ic_1 ?_
          obtain ⟨rfl, rfl⟩ := x_inj hF
          exact g_iret d_X12_whyNot_107 rfl hq
        · have hF := x_f hF c79
          refine g_aloadn d_X12_whyNot_82 rfl ?_
          refine g_lloadn d_X12_whyNot_83 rfl ?_
          obtain ⟨_, g84, hF⟩ := Option.bind_eq_some_iff.mp hF
          obtain ⟨⟨r84, h84⟩, e84, hF⟩ := Option.bind_eq_some_iff.mp hF
          try dsimp only at hF
          refine q_callV [.long (ldv (lrm x1 100) 10)] [] rfl d_X12_whyNot_84 v_X12_246 (by omega) rfl (Nat.le_of_ble_eq_true rfl) (rc_rc g84 (by decide) rfl) (R_X12_isPerson _ _ _ (by omega) e84) ?_
          refine g_if_eq 106 d_X12_whyNot_87 rfl (fun c87 => ?_) (fun c87 => ?_)
          · have hF := x_t hF c87
            refine g_ic (1) d_X12_whyNot_106 ic_1 ?_
            obtain ⟨rfl, rfl⟩ := x_inj hF
            exact g_iret d_X12_whyNot_107 rfl hq
          · have hF := x_f hF c87
            refine g_aloadn d_X12_whyNot_90 rfl ?_
            refine g_lloadn d_X12_whyNot_91 rfl ?_
            refine g_ldc2 d_X12_whyNot_92 k_X12_295 ?_
            refine q_lrem d_X12_whyNot_95 (by decide) ?_
            obtain ⟨_, g96, hF⟩ := Option.bind_eq_some_iff.mp hF
            obtain ⟨⟨r96, h96⟩, e96, hF⟩ := Option.bind_eq_some_iff.mp hF
            try dsimp only at hF
            refine q_callV [.long (lrm x1 10)] [] rfl d_X12_whyNot_96 v_X12_271 (by omega) rfl (Nat.le_of_ble_eq_true rfl) (rc_rc g96 (by decide) rfl) (R_X12_isNote _ _ _ (by omega) e96) ?_
            refine g_if_eq 106 d_X12_whyNot_99 rfl (fun c99 => ?_) (fun c99 => ?_)
            · have hF := x_t hF c99
              refine g_ic (1) d_X12_whyNot_106 ic_1 ?_
              obtain ⟨rfl, rfl⟩ := x_inj hF
              exact g_iret d_X12_whyNot_107 rfl hq
            · have hF := x_f hF c99
              refine g_ic (0) d_X12_whyNot_102 ic_0 ?_
              refine g_goto 107 d_X12_whyNot_103 rfl ?_
              obtain ⟨rfl, rfl⟩ := x_inj hF
              exact g_iret d_X12_whyNot_107 rfl hq
      · have hF := x_f hF c52
        refine g_aloadn d_X12_whyNot_55 rfl ?_
        refine g_lloadn d_X12_whyNot_56 rfl ?_
        obtain ⟨_, g57, hF⟩ := Option.bind_eq_some_iff.mp hF
        obtain ⟨⟨r57, h57⟩, e57, hF⟩ := Option.bind_eq_some_iff.mp hF
        try dsimp only at hF
        refine q_callV [.long (ldv (lrm x1 100) 10)] [] rfl d_X12_whyNot_57 v_X12_246 (by omega) rfl (Nat.le_of_ble_eq_true rfl) (rc_rc g57 (by decide) rfl) (R_X12_isPerson _ _ _ (by omega) e57) ?_
        refine g_if_eq 67 d_X12_whyNot_60 rfl (fun c60 => ?_) (fun c60 => ?_)
        · have hF := x_t hF c60
          refine g_ic (1) d_X12_whyNot_67 ic_1 ?_
          obtain ⟨rfl, rfl⟩ := x_inj hF
          exact g_iret d_X12_whyNot_68 rfl hq
        · have hF := x_f hF c60
          refine g_ic (0) d_X12_whyNot_63 ic_0 ?_
          refine g_goto 68 d_X12_whyNot_64 rfl ?_
          obtain ⟨rfl, rfl⟩ := x_inj hF
          exact g_iret d_X12_whyNot_68 rfl hq
    · have hF := x_f hF c28
      refine g_aloadn d_X12_whyNot_31 rfl ?_
      refine g_lloadn d_X12_whyNot_32 rfl ?_
      refine g_lloadn d_X12_whyNot_33 rfl ?_
      refine g_ldc2 d_X12_whyNot_34 k_X12_295 ?_
      refine q_lrem d_X12_whyNot_37 (by decide) ?_
      obtain ⟨_, g38, hF⟩ := Option.bind_eq_some_iff.mp hF
      obtain ⟨⟨r38, h38⟩, e38, hF⟩ := Option.bind_eq_some_iff.mp hF
      try dsimp only at hF
      refine q_callV [.long (ldv (lrm x1 100) 10), .long (lrm x1 10)] [] rfl d_X12_whyNot_38 v_X12_274 (by omega) rfl (Nat.le_of_ble_eq_true rfl) (rc_rc g38 (by decide) rfl) (R_X12_whyGo _ _ _ _ (by omega) e38) ?_
      obtain ⟨rfl, rfl⟩ := x_inj hF
      exact g_iret d_X12_whyNot_41 rfl hq
  · have hF := x_f hF (not_not_intro c5)
    refine g_ic (0) d_X12_whyNot_8 ic_0 ?_
    obtain ⟨rfl, rfl⟩ := x_inj hF
    exact g_iret d_X12_whyNot_9 rfl hq
theorem d_X12_does_0 : decode cX12_does 0 = .ok (.iload_n 1, 1) := by decide +kernel
theorem d_X12_does_1 : decode cX12_does 1 = .ok (.bipush 100, 2) := by decide +kernel
theorem d_X12_does_3 : decode cX12_does 3 = .ok (.irem, 1) := by decide +kernel
theorem d_X12_does_4 : decode cX12_does 4 = .ok (.bipush 10, 2) := by decide +kernel
theorem d_X12_does_6 : decode cX12_does 6 = .ok (.idiv, 1) := by decide +kernel
theorem d_X12_does_7 : decode cX12_does 7 = .ok (.istore_n 2, 1) := by decide +kernel
theorem d_X12_does_8 : decode cX12_does 8 = .ok (.iload_n 1, 1) := by decide +kernel
theorem d_X12_does_9 : decode cX12_does 9 = .ok (.iconst (-1), 1) := by decide +kernel
theorem d_X12_does_10 : decode cX12_does 10 = .ok (.if_icmp .ne 10, 3) := by decide +kernel
theorem d_X12_does_13 : decode cX12_does 13 = .ok (.aload_n 0, 1) := by decide +kernel
theorem d_X12_does_14 : decode cX12_does 14 = .ok (.invokevirtual 286, 3) := by decide +kernel
theorem d_X12_does_17 : decode cX12_does 17 = .ok (.goto 57, 3) := by decide +kernel
theorem d_X12_does_20 : decode cX12_does 20 = .ok (.iload_n 1, 1) := by decide +kernel
theorem d_X12_does_21 : decode cX12_does 21 = .ok (.bipush 100, 2) := by decide +kernel
theorem d_X12_does_23 : decode cX12_does 23 = .ok (.if_icmp .ge 19, 3) := by decide +kernel
theorem d_X12_does_26 : decode cX12_does 26 = .ok (.aload_n 0, 1) := by decide +kernel
theorem d_X12_does_27 : decode cX12_does 27 = .ok (.getfield 13, 3) := by decide +kernel
theorem d_X12_does_30 : decode cX12_does 30 = .ok (.bipush 109, 2) := by decide +kernel
theorem d_X12_does_32 : decode cX12_does 32 = .ok (.iload_n 2, 1) := by decide +kernel
theorem d_X12_does_33 : decode cX12_does 33 = .ok (.iadd, 1) := by decide +kernel
theorem d_X12_does_34 : decode cX12_does 34 = .ok (.iload_n 1, 1) := by decide +kernel
theorem d_X12_does_35 : decode cX12_does 35 = .ok (.bipush 10, 2) := by decide +kernel
theorem d_X12_does_37 : decode cX12_does 37 = .ok (.irem, 1) := by decide +kernel
theorem d_X12_does_38 : decode cX12_does 38 = .ok (.iastore, 1) := by decide +kernel
theorem d_X12_does_39 : decode cX12_does 39 = .ok (.goto 35, 3) := by decide +kernel
theorem d_X12_does_42 : decode cX12_does 42 = .ok (.iload_n 1, 1) := by decide +kernel
theorem d_X12_does_43 : decode cX12_does 43 = .ok (.sipush 200, 3) := by decide +kernel
theorem d_X12_does_46 : decode cX12_does 46 = .ok (.if_icmp .ge 19, 3) := by decide +kernel
theorem d_X12_does_49 : decode cX12_does 49 = .ok (.aload_n 0, 1) := by decide +kernel
theorem d_X12_does_50 : decode cX12_does 50 = .ok (.getfield 13, 3) := by decide +kernel
theorem d_X12_does_53 : decode cX12_does 53 = .ok (.bipush 115, 2) := by decide +kernel
theorem d_X12_does_55 : decode cX12_does 55 = .ok (.iload_n 2, 1) := by decide +kernel
theorem d_X12_does_56 : decode cX12_does 56 = .ok (.iadd, 1) := by decide +kernel
theorem d_X12_does_57 : decode cX12_does 57 = .ok (.iload_n 1, 1) := by decide +kernel
theorem d_X12_does_58 : decode cX12_does 58 = .ok (.bipush 10, 2) := by decide +kernel
theorem d_X12_does_60 : decode cX12_does 60 = .ok (.irem, 1) := by decide +kernel
theorem d_X12_does_61 : decode cX12_does 61 = .ok (.iastore, 1) := by decide +kernel
theorem d_X12_does_62 : decode cX12_does 62 = .ok (.goto 12, 3) := by decide +kernel
theorem d_X12_does_65 : decode cX12_does 65 = .ok (.aload_n 0, 1) := by decide +kernel
theorem d_X12_does_66 : decode cX12_does 66 = .ok (.iload_n 2, 1) := by decide +kernel
theorem d_X12_does_67 : decode cX12_does 67 = .ok (.iload_n 1, 1) := by decide +kernel
theorem d_X12_does_68 : decode cX12_does 68 = .ok (.bipush 10, 2) := by decide +kernel
theorem d_X12_does_70 : decode cX12_does 70 = .ok (.irem, 1) := by decide +kernel
theorem d_X12_does_71 : decode cX12_does 71 = .ok (.invokevirtual 291, 3) := by decide +kernel
theorem d_X12_does_74 : decode cX12_does 74 = .ok (.return_, 1) := by decide +kernel
def F_X12_does (x0 : Nat) (x1 : Int32) (h : xH) : Option (Unit × xH) := if ¬ x1 = (((-1) : Int32)) then if ((100 : Int32)) ≤ x1 then if ((200 : Int32)) ≤ x1 then (rc h x0 11).bind fun _ => (F_X12_blanks1 x0 (idv (irm x1 100) 10) (irm x1 10) h).bind fun z71 => some ((), z71.2) else (fR h x0 11 1).bind fun v50 => (sI h v50 (((115 : Int32)) + (idv (irm x1 100) 10)) (irm x1 10)).bind fun h61 => some ((), h61) else (fR h x0 11 1).bind fun v27 => (sI h v27 (((109 : Int32)) + (idv (irm x1 100) 10)) (irm x1 10)).bind fun h38 => some ((), h38) else (rc h x0 11).bind fun _ => (F_X12_goesDay x0 h).bind fun z14 => some ((), z14.2)
theorem R_X12_does {Γ : xG} {l : Launch} {d : Nat} {r : Unit} {h' : xH} (x0 : Nat) (x1 : Int32) (h : xH) (hdp : 2 ≤ d) (hF : F_X12_does x0 x1 h = some (r, h')) : Gm Γ l d 0 0 m_X12_does [.ref x0, .int x1] h (fun a u => a = none ∧ u = h') := by
  refine Gm.of pn_X12 (Nat.le_of_ble_eq_true rfl) ?_
  show Gd Γ l d m_X12_does 0 [.ref x0, .int x1, xhole] [] h 0 0 _
  generalize hQ : (fun (a : Option Value) (u : xH) => a = none ∧ u = h') = Q
  have hq : Q (none) h' := by rw [← hQ]; exact ⟨rfl, rfl⟩
  clear hQ
  unfold F_X12_does at hF
  refine g_iloadn d_X12_does_0 rfl ?_
  refine g_bi (100) d_X12_does_1 bi_100 ?_
  refine q_irem d_X12_does_3 (by decide) ?_
  refine g_bi (10) d_X12_does_4 bi_10 ?_
  refine q_idiv d_X12_does_6 (by decide) ?_
  refine q_istoren [.ref x0, .int x1, .int (idv (irm x1 100) 10)] d_X12_does_7 (by decide) rfl ?_
  refine g_iloadn d_X12_does_8 rfl ?_
  refine g_ic (-1) d_X12_does_9 ic_m1 ?_
  refine g_icmp_ne 20 d_X12_does_10 rfl (fun c10 => ?_) (fun c10 => ?_)
  · have hF := x_t hF c10
    refine g_iloadn d_X12_does_20 rfl ?_
    refine g_bi (100) d_X12_does_21 bi_100 ?_
    refine g_icmp_ge 42 d_X12_does_23 rfl (fun c23 => ?_) (fun c23 => ?_)
    · have hF := x_t hF c23
      refine g_iloadn d_X12_does_42 rfl ?_
      refine g_si (200) d_X12_does_43 si_200 ?_
      refine g_icmp_ge 65 d_X12_does_46 rfl (fun c46 => ?_) (fun c46 => ?_)
      · have hF := x_t hF c46
        refine g_aloadn d_X12_does_65 rfl ?_
        refine g_iloadn d_X12_does_66 rfl ?_
        refine g_iloadn d_X12_does_67 rfl ?_
        refine g_bi (10) d_X12_does_68 bi_10 ?_
        refine q_irem d_X12_does_70 (by decide) ?_
        obtain ⟨_, g71, hF⟩ := Option.bind_eq_some_iff.mp hF
        obtain ⟨⟨r71, h71⟩, e71, hF⟩ := Option.bind_eq_some_iff.mp hF
        try dsimp only at hF
        refine q_callV [.int (idv (irm x1 100) 10), .int (irm x1 10)] [] rfl d_X12_does_71 v_X12_291 (by omega) rfl (Nat.le_of_ble_eq_true rfl) (rc_rc g71 (by decide) rfl) (R_X12_blanks1 _ _ _ _ (by omega) e71) ?_
        obtain ⟨rfl, rfl⟩ := x_inj hF
        exact g_vret d_X12_does_74 rfl hq
      · have hF := x_f hF c46
        refine g_aloadn d_X12_does_49 rfl ?_
        obtain ⟨v50, e50, hF⟩ := Option.bind_eq_some_iff.mp hF
        refine q_fR d_X12_does_50 f_X12_13 e50 ?_
        refine g_bi (115) d_X12_does_53 bi_115 ?_
        refine g_iloadn d_X12_does_55 rfl ?_
        refine g_iadd d_X12_does_56 ?_
        refine g_iloadn d_X12_does_57 rfl ?_
        refine g_bi (10) d_X12_does_58 bi_10 ?_
        refine q_irem d_X12_does_60 (by decide) ?_
        obtain ⟨h61, e61, hF⟩ := Option.bind_eq_some_iff.mp hF
        refine q_sI d_X12_does_61 e61 ?_
        refine g_goto 74 d_X12_does_62 rfl ?_
        obtain ⟨rfl, rfl⟩ := x_inj hF
        exact g_vret d_X12_does_74 rfl hq
    · have hF := x_f hF c23
      refine g_aloadn d_X12_does_26 rfl ?_
      obtain ⟨v27, e27, hF⟩ := Option.bind_eq_some_iff.mp hF
      refine q_fR d_X12_does_27 f_X12_13 e27 ?_
      refine g_bi (109) d_X12_does_30 bi_109 ?_
      refine g_iloadn d_X12_does_32 rfl ?_
      refine g_iadd d_X12_does_33 ?_
      refine g_iloadn d_X12_does_34 rfl ?_
      refine g_bi (10) d_X12_does_35 bi_10 ?_
      refine q_irem d_X12_does_37 (by decide) ?_
      obtain ⟨h38, e38, hF⟩ := Option.bind_eq_some_iff.mp hF
      refine q_sI d_X12_does_38 e38 ?_
      refine g_goto 74 d_X12_does_39 rfl ?_
      obtain ⟨rfl, rfl⟩ := x_inj hF
      exact g_vret d_X12_does_74 rfl hq
  · have hF := x_f hF (not_not_intro c10)
    refine g_aloadn d_X12_does_13 rfl ?_
    obtain ⟨_, g14, hF⟩ := Option.bind_eq_some_iff.mp hF
    obtain ⟨⟨r14, h14⟩, e14, hF⟩ := Option.bind_eq_some_iff.mp hF
    try dsimp only at hF
    refine q_callV [] [] rfl d_X12_does_14 v_X12_286 (by omega) rfl (Nat.le_of_ble_eq_true rfl) (rc_rc g14 (by decide) rfl) (R_X12_goesDay _ _ (by omega) e14) ?_
    refine g_goto 74 d_X12_does_17 rfl ?_
    obtain ⟨rfl, rfl⟩ := x_inj hF
    exact g_vret d_X12_does_74 rfl hq
theorem d_X12_tells_0 : decode cX12_tells 0 = .ok (.aload_n 0, 1) := by decide +kernel
theorem d_X12_tells_1 : decode cX12_tells 1 = .ok (.iconst 0, 1) := by decide +kernel
theorem d_X12_tells_2 : decode cX12_tells 2 = .ok (.putfield 307, 3) := by decide +kernel
theorem d_X12_tells_5 : decode cX12_tells 5 = .ok (.iconst 0, 1) := by decide +kernel
theorem d_X12_tells_6 : decode cX12_tells 6 = .ok (.istore_n 2, 1) := by decide +kernel
theorem d_X12_tells_7 : decode cX12_tells 7 = .ok (.iload_n 2, 1) := by decide +kernel
theorem d_X12_tells_8 : decode cX12_tells 8 = .ok (.aload_n 0, 1) := by decide +kernel
theorem d_X12_tells_9 : decode cX12_tells 9 = .ok (.getfield 76, 3) := by decide +kernel
theorem d_X12_tells_12 : decode cX12_tells 12 = .ok (.iload_n 1, 1) := by decide +kernel
theorem d_X12_tells_13 : decode cX12_tells 13 = .ok (.iaload, 1) := by decide +kernel
theorem d_X12_tells_14 : decode cX12_tells 14 = .ok (.if_icmp .ge 53, 3) := by decide +kernel
theorem d_X12_tells_17 : decode cX12_tells 17 = .ok (.aload_n 0, 1) := by decide +kernel
theorem d_X12_tells_18 : decode cX12_tells 18 = .ok (.aload_n 0, 1) := by decide +kernel
theorem d_X12_tells_19 : decode cX12_tells 19 = .ok (.aload_n 0, 1) := by decide +kernel
theorem d_X12_tells_20 : decode cX12_tells 20 = .ok (.getfield 79, 3) := by decide +kernel
theorem d_X12_tells_23 : decode cX12_tells 23 = .ok (.bipush 40, 2) := by decide +kernel
theorem d_X12_tells_25 : decode cX12_tells 25 = .ok (.iload_n 1, 1) := by decide +kernel
theorem d_X12_tells_26 : decode cX12_tells 26 = .ok (.imul, 1) := by decide +kernel
theorem d_X12_tells_27 : decode cX12_tells 27 = .ok (.iload_n 2, 1) := by decide +kernel
theorem d_X12_tells_28 : decode cX12_tells 28 = .ok (.iadd, 1) := by decide +kernel
theorem d_X12_tells_29 : decode cX12_tells 29 = .ok (.laload, 1) := by decide +kernel
theorem d_X12_tells_30 : decode cX12_tells 30 = .ok (.invokevirtual 310, 3) := by decide +kernel
theorem d_X12_tells_33 : decode cX12_tells 33 = .ok (.putfield 307, 3) := by decide +kernel
theorem d_X12_tells_36 : decode cX12_tells 36 = .ok (.aload_n 0, 1) := by decide +kernel
theorem d_X12_tells_37 : decode cX12_tells 37 = .ok (.getfield 307, 3) := by decide +kernel
theorem d_X12_tells_40 : decode cX12_tells 40 = .ok (.ifCond .eq 5, 3) := by decide +kernel
theorem d_X12_tells_43 : decode cX12_tells 43 = .ok (.iload_n 2, 1) := by decide +kernel
theorem d_X12_tells_44 : decode cX12_tells 44 = .ok (.ireturn, 1) := by decide +kernel
theorem d_X12_tells_45 : decode cX12_tells 45 = .ok (.aload_n 0, 1) := by decide +kernel
theorem d_X12_tells_46 : decode cX12_tells 46 = .ok (.aload_n 0, 1) := by decide +kernel
theorem d_X12_tells_47 : decode cX12_tells 47 = .ok (.getfield 79, 3) := by decide +kernel
theorem d_X12_tells_50 : decode cX12_tells 50 = .ok (.bipush 40, 2) := by decide +kernel
theorem d_X12_tells_52 : decode cX12_tells 52 = .ok (.iload_n 1, 1) := by decide +kernel
theorem d_X12_tells_53 : decode cX12_tells 53 = .ok (.imul, 1) := by decide +kernel
theorem d_X12_tells_54 : decode cX12_tells 54 = .ok (.iload_n 2, 1) := by decide +kernel
theorem d_X12_tells_55 : decode cX12_tells 55 = .ok (.iadd, 1) := by decide +kernel
theorem d_X12_tells_56 : decode cX12_tells 56 = .ok (.laload, 1) := by decide +kernel
theorem d_X12_tells_57 : decode cX12_tells 57 = .ok (.l2i, 1) := by decide +kernel
theorem d_X12_tells_58 : decode cX12_tells 58 = .ok (.invokevirtual 314, 3) := by decide +kernel
theorem d_X12_tells_61 : decode cX12_tells 61 = .ok (.iinc 2 1, 3) := by decide +kernel
theorem d_X12_tells_64 : decode cX12_tells 64 = .ok (.goto (-57), 3) := by decide +kernel
theorem d_X12_tells_67 : decode cX12_tells 67 = .ok (.aload_n 0, 1) := by decide +kernel
theorem d_X12_tells_68 : decode cX12_tells 68 = .ok (.getfield 76, 3) := by decide +kernel
theorem d_X12_tells_71 : decode cX12_tells 71 = .ok (.iload_n 1, 1) := by decide +kernel
theorem d_X12_tells_72 : decode cX12_tells 72 = .ok (.iaload, 1) := by decide +kernel
theorem d_X12_tells_73 : decode cX12_tells 73 = .ok (.ireturn, 1) := by decide +kernel
def F_X12_tells_b7 : Nat → Nat → Int32 → Int32 → xH → Option (Int32 × xH)
  | 0, _, _, _, _ => none
  | n + 1, x0, x1, x2, h => (fR h x0 11 35).bind fun v9 => (aI h v9 x1).bind fun v13 => if v13 ≤ x2 then (fR h x0 11 35).bind fun v68 => (aI h v68 x1).bind fun v72 => some (v72, h) else (fR h x0 11 36).bind fun v20 => (aJ h v20 ((((40 : Int32)) * x1) + x2)).bind fun v29 => (rc h x0 11).bind fun _ => (F_X12_whyNot x0 v29 h).bind fun z30 => (wI z30.2 x0 11 19 z30.1).bind fun h33 => (fI h33 x0 11 19).bind fun v37 => if v37 = 0 then (fR h33 x0 11 36).bind fun v47 => (aJ h33 v47 ((((40 : Int32)) * x1) + x2)).bind fun v56 => (rc h33 x0 11).bind fun _ => (F_X12_does x0 v56.toInt32 h33).bind fun z58 => F_X12_tells_b7 n x0 x1 (x2 + 1) z58.2 else some (x2, h33)
theorem R_X12_tells_b7 {Γ : xG} {l : Launch} {d : Nat} {Q : Option Value → xH → Prop} {r : Int32} {h' : xH} (hdp : 4 ≤ d) (hq : Q (some (.int r)) h') : ∀ (n : Nat) (x0 : Nat) (x1 : Int32) (x2 : Int32) (h : xH), F_X12_tells_b7 n x0 x1 x2 h = some (r, h') → Gd Γ l d m_X12_tells 7 [.ref x0, .int x1, .int x2] [] h 0 0 Q := by
  intro n
  induction n with
  | zero => intro x0 x1 x2 h hF; cases hF
  | succ n ih =>
  intro x0 x1 x2 h hF
  rw [F_X12_tells_b7] at hF
  refine g_iloadn d_X12_tells_7 rfl ?_
  refine g_aloadn d_X12_tells_8 rfl ?_
  obtain ⟨v9, e9, hF⟩ := Option.bind_eq_some_iff.mp hF
  refine q_fR d_X12_tells_9 f_X12_76 e9 ?_
  refine g_iloadn d_X12_tells_12 rfl ?_
  obtain ⟨v13, e13, hF⟩ := Option.bind_eq_some_iff.mp hF
  refine q_aI d_X12_tells_13 e13 ?_
  refine g_icmp_ge 67 d_X12_tells_14 rfl (fun c14 => ?_) (fun c14 => ?_)
  · have hF := x_t hF c14
    refine g_aloadn d_X12_tells_67 rfl ?_
    obtain ⟨v68, e68, hF⟩ := Option.bind_eq_some_iff.mp hF
    refine q_fR d_X12_tells_68 f_X12_76 e68 ?_
    refine g_iloadn d_X12_tells_71 rfl ?_
    obtain ⟨v72, e72, hF⟩ := Option.bind_eq_some_iff.mp hF
    refine q_aI d_X12_tells_72 e72 ?_
    obtain ⟨rfl, rfl⟩ := x_inj hF
    exact g_iret d_X12_tells_73 rfl hq
  · have hF := x_f hF c14
    refine g_aloadn d_X12_tells_17 rfl ?_
    refine g_aloadn d_X12_tells_18 rfl ?_
    refine g_aloadn d_X12_tells_19 rfl ?_
    obtain ⟨v20, e20, hF⟩ := Option.bind_eq_some_iff.mp hF
    refine q_fR d_X12_tells_20 f_X12_79 e20 ?_
    refine g_bi (40) d_X12_tells_23 bi_40 ?_
    refine g_iloadn d_X12_tells_25 rfl ?_
    refine g_imul d_X12_tells_26 ?_
    refine g_iloadn d_X12_tells_27 rfl ?_
    refine g_iadd d_X12_tells_28 ?_
    obtain ⟨v29, e29, hF⟩ := Option.bind_eq_some_iff.mp hF
    refine q_aJ d_X12_tells_29 e29 ?_
    obtain ⟨_, g30, hF⟩ := Option.bind_eq_some_iff.mp hF
    obtain ⟨⟨r30, h30⟩, e30, hF⟩ := Option.bind_eq_some_iff.mp hF
    try dsimp only at hF
    refine q_callV [.long v29] [.ref x0] rfl d_X12_tells_30 v_X12_310 (by omega) rfl (Nat.le_of_ble_eq_true rfl) (rc_rc g30 (by decide) rfl) (R_X12_whyNot _ _ _ (by omega) e30) ?_
    obtain ⟨h33, e33, hF⟩ := Option.bind_eq_some_iff.mp hF
    refine q_wI d_X12_tells_33 (w_X12_307 _) e33 ?_
    refine g_aloadn d_X12_tells_36 rfl ?_
    obtain ⟨v37, e37, hF⟩ := Option.bind_eq_some_iff.mp hF
    refine q_fI d_X12_tells_37 f_X12_307 e37 ?_
    refine g_if_eq 45 d_X12_tells_40 rfl (fun c40 => ?_) (fun c40 => ?_)
    · have hF := x_t hF c40
      refine g_aloadn d_X12_tells_45 rfl ?_
      refine g_aloadn d_X12_tells_46 rfl ?_
      obtain ⟨v47, e47, hF⟩ := Option.bind_eq_some_iff.mp hF
      refine q_fR d_X12_tells_47 f_X12_79 e47 ?_
      refine g_bi (40) d_X12_tells_50 bi_40 ?_
      refine g_iloadn d_X12_tells_52 rfl ?_
      refine g_imul d_X12_tells_53 ?_
      refine g_iloadn d_X12_tells_54 rfl ?_
      refine g_iadd d_X12_tells_55 ?_
      obtain ⟨v56, e56, hF⟩ := Option.bind_eq_some_iff.mp hF
      refine q_aJ d_X12_tells_56 e56 ?_
      refine g_l2i d_X12_tells_57 ?_
      obtain ⟨_, g58, hF⟩ := Option.bind_eq_some_iff.mp hF
      obtain ⟨⟨r58, h58⟩, e58, hF⟩ := Option.bind_eq_some_iff.mp hF
      try dsimp only at hF
      refine q_callV [.int (v56.toInt32)] [] rfl d_X12_tells_58 v_X12_314 (by omega) rfl (Nat.le_of_ble_eq_true rfl) (rc_rc g58 (by decide) rfl) (R_X12_does _ _ _ (by omega) e58) ?_
      refine q_iinc (1) [.ref x0, .int x1, .int (x2 + 1)] d_X12_tells_61 ic_1 rfl (by decide) rfl ?_
      refine g_goto 7 d_X12_tells_64 rfl ?_
      exact q_to (xs_r (xs_r (xs_r xs_n))) (ih _ _ _ _ hF)
    · have hF := x_f hF c40
      refine g_iloadn d_X12_tells_43 rfl ?_
      obtain ⟨rfl, rfl⟩ := x_inj hF
      exact g_iret d_X12_tells_44 rfl hq
def F_X12_tells (x0 : Nat) (x1 : Int32) (h : xH) : Option (Int32 × xH) := (wI h x0 11 19 0).bind fun h2 => F_X12_tells_b7 FU x0 x1 0 h2
theorem R_X12_tells {Γ : xG} {l : Launch} {d : Nat} {r : Int32} {h' : xH} (x0 : Nat) (x1 : Int32) (h : xH) (hdp : 4 ≤ d) (hF : F_X12_tells x0 x1 h = some (r, h')) : Gm Γ l d 0 0 m_X12_tells [.ref x0, .int x1] h (fun a u => a = some (.int r) ∧ u = h') := by
  refine Gm.of pn_X12 (Nat.le_of_ble_eq_true rfl) ?_
  show Gd Γ l d m_X12_tells 0 [.ref x0, .int x1, xhole] [] h 0 0 _
  generalize hQ : (fun (a : Option Value) (u : xH) => a = some (.int r) ∧ u = h') = Q
  have hq : Q (some (.int r)) h' := by rw [← hQ]; exact ⟨rfl, rfl⟩
  clear hQ
  unfold F_X12_tells at hF
  refine g_aloadn d_X12_tells_0 rfl ?_
  refine g_ic (0) d_X12_tells_1 ic_0 ?_
  obtain ⟨h2, e2, hF⟩ := Option.bind_eq_some_iff.mp hF
  refine q_wI d_X12_tells_2 (w_X12_307 _) e2 ?_
  refine g_ic (0) d_X12_tells_5 ic_0 ?_
  refine q_istoren [.ref x0, .int x1, .int 0] d_X12_tells_6 (by decide) rfl ?_
  exact q_to (xs_r (xs_r (xs_r xs_n))) (R_X12_tells_b7 hdp hq FU _ _ _ _ hF)
theorem d_X12_noTray_0 : decode cX12_noTray 0 = .ok (.iload_n 1, 1) := by decide +kernel
theorem d_X12_noTray_1 : decode cX12_noTray 1 = .ok (.i2l, 1) := by decide +kernel
theorem d_X12_noTray_2 : decode cX12_noTray 2 = .ok (.lconst 0, 1) := by decide +kernel
theorem d_X12_noTray_3 : decode cX12_noTray 3 = .ok (.ldc2_w 317, 3) := by decide +kernel
theorem d_X12_noTray_6 : decode cX12_noTray 6 = .ok (.invokestatic 148, 3) := by decide +kernel
theorem d_X12_noTray_9 : decode cX12_noTray 9 = .ok (.ifCond .ne 8, 3) := by decide +kernel
theorem d_X12_noTray_12 : decode cX12_noTray 12 = .ok (.bipush (-2), 2) := by decide +kernel
theorem d_X12_noTray_14 : decode cX12_noTray 14 = .ok (.goto 19, 3) := by decide +kernel
theorem d_X12_noTray_17 : decode cX12_noTray 17 = .ok (.aload_n 0, 1) := by decide +kernel
theorem d_X12_noTray_18 : decode cX12_noTray 18 = .ok (.getfield 73, 3) := by decide +kernel
theorem d_X12_noTray_21 : decode cX12_noTray 21 = .ok (.iload_n 1, 1) := by decide +kernel
theorem d_X12_noTray_22 : decode cX12_noTray 22 = .ok (.iaload, 1) := by decide +kernel
theorem d_X12_noTray_23 : decode cX12_noTray 23 = .ok (.iconst (-1), 1) := by decide +kernel
theorem d_X12_noTray_24 : decode cX12_noTray 24 = .ok (.if_icmp .ne 8, 3) := by decide +kernel
theorem d_X12_noTray_27 : decode cX12_noTray 27 = .ok (.bipush (-6), 2) := by decide +kernel
theorem d_X12_noTray_29 : decode cX12_noTray 29 = .ok (.goto 4, 3) := by decide +kernel
theorem d_X12_noTray_32 : decode cX12_noTray 32 = .ok (.iconst 0, 1) := by decide +kernel
theorem d_X12_noTray_33 : decode cX12_noTray 33 = .ok (.ireturn, 1) := by decide +kernel
def F_X12_noTray (x0 : Nat) (x1 : Int32) (h : xH) : Option (Int32 × xH) := (F_X12_within x1.toInt64 0 3 h).bind fun z6 => if ¬ z6.1 = 0 then (fR z6.2 x0 11 34).bind fun v18 => (aI z6.2 v18 x1).bind fun v22 => if ¬ v22 = (((-1) : Int32)) then some (0, z6.2) else some ((-6), z6.2) else some ((-2), z6.2)
theorem R_X12_noTray {Γ : xG} {l : Launch} {d : Nat} {r : Int32} {h' : xH} (x0 : Nat) (x1 : Int32) (h : xH) (hdp : 1 ≤ d) (hF : F_X12_noTray x0 x1 h = some (r, h')) : Gm Γ l d 0 0 m_X12_noTray [.ref x0, .int x1] h (fun a u => a = some (.int r) ∧ u = h') := by
  refine Gm.of pn_X12 (Nat.le_of_ble_eq_true rfl) ?_
  show Gd Γ l d m_X12_noTray 0 [.ref x0, .int x1] [] h 0 0 _
  generalize hQ : (fun (a : Option Value) (u : xH) => a = some (.int r) ∧ u = h') = Q
  have hq : Q (some (.int r)) h' := by rw [← hQ]; exact ⟨rfl, rfl⟩
  clear hQ
  unfold F_X12_noTray at hF
  refine g_iloadn d_X12_noTray_0 rfl ?_
  refine g_i2l d_X12_noTray_1 ?_
  refine g_lc 0 d_X12_noTray_2 rfl ?_
  refine g_ldc2 d_X12_noTray_3 k_X12_317 ?_
  obtain ⟨⟨r6, h6⟩, e6, hF⟩ := Option.bind_eq_some_iff.mp hF
  try dsimp only at hF
  refine q_callS [.long (x1.toInt64), .long 0, .long 3] [] rfl d_X12_noTray_6 s_X12_148 (by omega) rfl (Nat.le_of_ble_eq_true rfl) (R_X12_within _ _ _ _ (by omega) e6) ?_
  refine g_if_ne 17 d_X12_noTray_9 rfl (fun c9 => ?_) (fun c9 => ?_)
  · have hF := x_t hF c9
    refine g_aloadn d_X12_noTray_17 rfl ?_
    obtain ⟨v18, e18, hF⟩ := Option.bind_eq_some_iff.mp hF
    refine q_fR d_X12_noTray_18 f_X12_73 e18 ?_
    refine g_iloadn d_X12_noTray_21 rfl ?_
    obtain ⟨v22, e22, hF⟩ := Option.bind_eq_some_iff.mp hF
    refine q_aI d_X12_noTray_22 e22 ?_
    refine g_ic (-1) d_X12_noTray_23 ic_m1 ?_
    refine g_icmp_ne 32 d_X12_noTray_24 rfl (fun c24 => ?_) (fun c24 => ?_)
    · have hF := x_t hF c24
      refine g_ic (0) d_X12_noTray_32 ic_0 ?_
      obtain ⟨rfl, rfl⟩ := x_inj hF
      exact g_iret d_X12_noTray_33 rfl hq
    · have hF := x_f hF (not_not_intro c24)
      refine g_bi (-6) d_X12_noTray_27 bi_m6 ?_
      refine g_goto 33 d_X12_noTray_29 rfl ?_
      obtain ⟨rfl, rfl⟩ := x_inj hF
      exact g_iret d_X12_noTray_33 rfl hq
  · have hF := x_f hF (not_not_intro c9)
    refine g_bi (-2) d_X12_noTray_12 bi_m2 ?_
    refine g_goto 33 d_X12_noTray_14 rfl ?_
    obtain ⟨rfl, rfl⟩ := x_inj hF
    exact g_iret d_X12_noTray_33 rfl hq
theorem d_X12_judge_0 : decode cX12_judge 0 = .ok (.aload_n 0, 1) := by decide +kernel
theorem d_X12_judge_1 : decode cX12_judge 1 = .ok (.iconst 0, 1) := by decide +kernel
theorem d_X12_judge_2 : decode cX12_judge 2 = .ok (.putfield 1, 3) := by decide +kernel
theorem d_X12_judge_5 : decode cX12_judge 5 = .ok (.iload_n 2, 1) := by decide +kernel
theorem d_X12_judge_6 : decode cX12_judge 6 = .ok (.i2l, 1) := by decide +kernel
theorem d_X12_judge_7 : decode cX12_judge 7 = .ok (.lconst 0, 1) := by decide +kernel
theorem d_X12_judge_8 : decode cX12_judge 8 = .ok (.ldc2_w 317, 3) := by decide +kernel
theorem d_X12_judge_11 : decode cX12_judge 11 = .ok (.invokestatic 148, 3) := by decide +kernel
theorem d_X12_judge_14 : decode cX12_judge 14 = .ok (.ifCond .ne 6, 3) := by decide +kernel
theorem d_X12_judge_17 : decode cX12_judge 17 = .ok (.bipush (-2), 2) := by decide +kernel
theorem d_X12_judge_19 : decode cX12_judge 19 = .ok (.ireturn, 1) := by decide +kernel
theorem d_X12_judge_20 : decode cX12_judge 20 = .ok (.aload_n 0, 1) := by decide +kernel
theorem d_X12_judge_21 : decode cX12_judge 21 = .ok (.iload_n 1, 1) := by decide +kernel
theorem d_X12_judge_22 : decode cX12_judge 22 = .ok (.invokevirtual 319, 3) := by decide +kernel
theorem d_X12_judge_25 : decode cX12_judge 25 = .ok (.istore_n 3, 1) := by decide +kernel
theorem d_X12_judge_26 : decode cX12_judge 26 = .ok (.iload_n 3, 1) := by decide +kernel
theorem d_X12_judge_27 : decode cX12_judge 27 = .ok (.ifCond .eq 5, 3) := by decide +kernel
theorem d_X12_judge_30 : decode cX12_judge 30 = .ok (.iload_n 3, 1) := by decide +kernel
theorem d_X12_judge_31 : decode cX12_judge 31 = .ok (.ireturn, 1) := by decide +kernel
theorem d_X12_judge_32 : decode cX12_judge 32 = .ok (.aload_n 0, 1) := by decide +kernel
theorem d_X12_judge_33 : decode cX12_judge 33 = .ok (.invokevirtual 278, 3) := by decide +kernel
theorem d_X12_judge_36 : decode cX12_judge 36 = .ok (.aload_n 0, 1) := by decide +kernel
theorem d_X12_judge_37 : decode cX12_judge 37 = .ok (.iload_n 1, 1) := by decide +kernel
theorem d_X12_judge_38 : decode cX12_judge 38 = .ok (.invokevirtual 322, 3) := by decide +kernel
theorem d_X12_judge_41 : decode cX12_judge 41 = .ok (.istore 4, 2) := by decide +kernel
theorem d_X12_judge_43 : decode cX12_judge 43 = .ok (.aload_n 0, 1) := by decide +kernel
theorem d_X12_judge_44 : decode cX12_judge 44 = .ok (.getfield 13, 3) := by decide +kernel
theorem d_X12_judge_47 : decode cX12_judge 47 = .ok (.bipush 108, 2) := by decide +kernel
theorem d_X12_judge_49 : decode cX12_judge 49 = .ok (.iaload, 1) := by decide +kernel
theorem d_X12_judge_50 : decode cX12_judge 50 = .ok (.istore 5, 2) := by decide +kernel
theorem d_X12_judge_52 : decode cX12_judge 52 = .ok (.iconst 0, 1) := by decide +kernel
theorem d_X12_judge_53 : decode cX12_judge 53 = .ok (.istore 6, 2) := by decide +kernel
theorem d_X12_judge_55 : decode cX12_judge 55 = .ok (.iconst 0, 1) := by decide +kernel
theorem d_X12_judge_56 : decode cX12_judge 56 = .ok (.istore 7, 2) := by decide +kernel
theorem d_X12_judge_58 : decode cX12_judge 58 = .ok (.iload 7, 2) := by decide +kernel
theorem d_X12_judge_60 : decode cX12_judge 60 = .ok (.aload_n 0, 1) := by decide +kernel
theorem d_X12_judge_61 : decode cX12_judge 61 = .ok (.getfield 13, 3) := by decide +kernel
theorem d_X12_judge_64 : decode cX12_judge 64 = .ok (.iconst 3, 1) := by decide +kernel
theorem d_X12_judge_65 : decode cX12_judge 65 = .ok (.iaload, 1) := by decide +kernel
theorem d_X12_judge_66 : decode cX12_judge 66 = .ok (.if_icmp .ge 31, 3) := by decide +kernel
theorem d_X12_judge_69 : decode cX12_judge 69 = .ok (.iload 6, 2) := by decide +kernel
theorem d_X12_judge_71 : decode cX12_judge 71 = .ok (.aload_n 0, 1) := by decide +kernel
theorem d_X12_judge_72 : decode cX12_judge 72 = .ok (.iload 7, 2) := by decide +kernel
theorem d_X12_judge_74 : decode cX12_judge 74 = .ok (.invokevirtual 259, 3) := by decide +kernel
theorem d_X12_judge_77 : decode cX12_judge 77 = .ok (.ifCond .ne 7, 3) := by decide +kernel
theorem d_X12_judge_80 : decode cX12_judge 80 = .ok (.iconst 0, 1) := by decide +kernel
theorem d_X12_judge_81 : decode cX12_judge 81 = .ok (.goto 7, 3) := by decide +kernel
theorem d_X12_judge_84 : decode cX12_judge 84 = .ok (.iconst 1, 1) := by decide +kernel
theorem d_X12_judge_85 : decode cX12_judge 85 = .ok (.iload 7, 2) := by decide +kernel
theorem d_X12_judge_87 : decode cX12_judge 87 = .ok (.ishl, 1) := by decide +kernel
theorem d_X12_judge_88 : decode cX12_judge 88 = .ok (.ior, 1) := by decide +kernel
theorem d_X12_judge_89 : decode cX12_judge 89 = .ok (.istore 6, 2) := by decide +kernel
theorem d_X12_judge_91 : decode cX12_judge 91 = .ok (.iinc 7 1, 3) := by decide +kernel
theorem d_X12_judge_94 : decode cX12_judge 94 = .ok (.goto (-36), 3) := by decide +kernel
theorem d_X12_judge_97 : decode cX12_judge 97 = .ok (.aload_n 0, 1) := by decide +kernel
theorem d_X12_judge_98 : decode cX12_judge 98 = .ok (.invokevirtual 325, 3) := by decide +kernel
theorem d_X12_judge_101 : decode cX12_judge 101 = .ok (.iload_n 2, 1) := by decide +kernel
theorem d_X12_judge_102 : decode cX12_judge 102 = .ok (.ifCond .ne 19, 3) := by decide +kernel
theorem d_X12_judge_105 : decode cX12_judge 105 = .ok (.aload_n 0, 1) := by decide +kernel
theorem d_X12_judge_106 : decode cX12_judge 106 = .ok (.getfield 307, 3) := by decide +kernel
theorem d_X12_judge_109 : decode cX12_judge 109 = .ok (.ifCond .ne 7, 3) := by decide +kernel
theorem d_X12_judge_112 : decode cX12_judge 112 = .ok (.iconst (-1), 1) := by decide +kernel
theorem d_X12_judge_113 : decode cX12_judge 113 = .ok (.goto 32, 3) := by decide +kernel
theorem d_X12_judge_116 : decode cX12_judge 116 = .ok (.iload 4, 2) := by decide +kernel
theorem d_X12_judge_118 : decode cX12_judge 118 = .ok (.goto 27, 3) := by decide +kernel
theorem d_X12_judge_121 : decode cX12_judge 121 = .ok (.iload_n 2, 1) := by decide +kernel
theorem d_X12_judge_122 : decode cX12_judge 122 = .ok (.iconst 1, 1) := by decide +kernel
theorem d_X12_judge_123 : decode cX12_judge 123 = .ok (.if_icmp .ne 10, 3) := by decide +kernel
theorem d_X12_judge_126 : decode cX12_judge 126 = .ok (.aload_n 0, 1) := by decide +kernel
theorem d_X12_judge_127 : decode cX12_judge 127 = .ok (.getfield 307, 3) := by decide +kernel
theorem d_X12_judge_130 : decode cX12_judge 130 = .ok (.goto 15, 3) := by decide +kernel
theorem d_X12_judge_133 : decode cX12_judge 133 = .ok (.iload_n 2, 1) := by decide +kernel
theorem d_X12_judge_134 : decode cX12_judge 134 = .ok (.iconst 2, 1) := by decide +kernel
theorem d_X12_judge_135 : decode cX12_judge 135 = .ok (.if_icmp .ne 8, 3) := by decide +kernel
theorem d_X12_judge_138 : decode cX12_judge 138 = .ok (.iload 5, 2) := by decide +kernel
theorem d_X12_judge_140 : decode cX12_judge 140 = .ok (.goto 5, 3) := by decide +kernel
theorem d_X12_judge_143 : decode cX12_judge 143 = .ok (.iload 6, 2) := by decide +kernel
theorem d_X12_judge_145 : decode cX12_judge 145 = .ok (.ireturn, 1) := by decide +kernel
def F_X12_judge_b88 (k58 : Nat → Int32 → Int32 → Int32 → Int32 → Int32 → xH → Option (Int32 × xH)) (x0 : Nat) (x2 : Int32) (x4 : Int32) (x5 : Int32) (x7 : Int32) (s0 : Int32) (s1 : Int32) (h : xH) : Option (Int32 × xH) := k58 x0 x2 x4 x5 (s0 ||| s1) (x7 + 1) h
theorem R_X12_judge_b88 {Γ : xG} {l : Launch} {d : Nat} {Q : Option Value → xH → Prop} {r : Int32} {h' : xH} {k58 : Nat → Int32 → Int32 → Int32 → Int32 → Int32 → xH → Option (Int32 × xH)} (K58 : ∀ (x0 : Nat) (x2 : Int32) (x4 : Int32) (x5 : Int32) (x6 : Int32) (x7 : Int32)  (h : xH), k58 x0 x2 x4 x5 x6 x7 h = some (r, h') → Gd Γ l d m_X12_judge 58 [.ref x0, xhole, .int x2, xhole, .int x4, .int x5, .int x6, .int x7] [] h 0 0 Q) (hdp : 5 ≤ d) (hq : Q (some (.int r)) h') : ∀ (x0 : Nat) (x2 : Int32) (x4 : Int32) (x5 : Int32) (x7 : Int32) (s0 : Int32) (s1 : Int32) (h : xH), F_X12_judge_b88 k58 x0 x2 x4 x5 x7 s0 s1 h = some (r, h') → Gd Γ l d m_X12_judge 88 [.ref x0, xhole, .int x2, xhole, .int x4, .int x5, xhole, .int x7] [.int s1, .int s0] h 0 0 Q := by
  intro x0 x2 x4 x5 x7 s0 s1 h hF
  unfold F_X12_judge_b88 at hF
  refine g_ior d_X12_judge_88 ?_
  refine q_istore [.ref x0, xhole, .int x2, xhole, .int x4, .int x5, .int (s0 ||| s1), .int x7] d_X12_judge_89 (by decide) rfl ?_
  refine q_iinc (1) [.ref x0, xhole, .int x2, xhole, .int x4, .int x5, .int (s0 ||| s1), .int (x7 + 1)] d_X12_judge_91 ic_1 rfl (by decide) rfl ?_
  refine g_goto 58 d_X12_judge_94 rfl ?_
  exact q_to (xs_r (xs_h (xs_r (xs_h (xs_r (xs_r (xs_r (xs_r xs_n)))))))) (K58 _ _ _ _ _ _ _ hF)
def F_X12_judge_b58 : Nat → Nat → Int32 → Int32 → Int32 → Int32 → Int32 → xH → Option (Int32 × xH)
  | 0, _, _, _, _, _, _, _ => none
  | n + 1, x0, x2, x4, x5, x6, x7, h => (fR h x0 11 1).bind fun v61 => (aI h v61 3).bind fun v65 => if v65 ≤ x7 then (rc h x0 11).bind fun _ => (F_X12_isAgain x0 h).bind fun z98 => if ¬ x2 = 0 then if ¬ x2 = ((1 : Int32)) then if ¬ x2 = ((2 : Int32)) then some (x6, z98.2) else some (x5, z98.2) else (fI z98.2 x0 11 19).bind fun v127 => some (v127, z98.2) else (fI z98.2 x0 11 19).bind fun v106 => if ¬ v106 = 0 then some (x4, z98.2) else some ((-1), z98.2) else (rc h x0 11).bind fun _ => (F_X12_peopleAt x0 x7 h).bind fun z74 => if ¬ z74.1 = 0 then F_X12_judge_b88 (F_X12_judge_b58 n) x0 x2 x4 x5 x7 x6 (((1 : Int32)) <<< (x7 &&& 31)) z74.2 else F_X12_judge_b88 (F_X12_judge_b58 n) x0 x2 x4 x5 x7 x6 0 z74.2
theorem R_X12_judge_b58 {Γ : xG} {l : Launch} {d : Nat} {Q : Option Value → xH → Prop} {r : Int32} {h' : xH} (hdp : 5 ≤ d) (hq : Q (some (.int r)) h') : ∀ (n : Nat) (x0 : Nat) (x2 : Int32) (x4 : Int32) (x5 : Int32) (x6 : Int32) (x7 : Int32) (h : xH), F_X12_judge_b58 n x0 x2 x4 x5 x6 x7 h = some (r, h') → Gd Γ l d m_X12_judge 58 [.ref x0, xhole, .int x2, xhole, .int x4, .int x5, .int x6, .int x7] [] h 0 0 Q := by
  intro n
  induction n with
  | zero => intro x0 x2 x4 x5 x6 x7 h hF; cases hF
  | succ n ih =>
  intro x0 x2 x4 x5 x6 x7 h hF
  rw [F_X12_judge_b58] at hF
  refine g_iload d_X12_judge_58 rfl ?_
  refine g_aloadn d_X12_judge_60 rfl ?_
  obtain ⟨v61, e61, hF⟩ := Option.bind_eq_some_iff.mp hF
  refine q_fR d_X12_judge_61 f_X12_13 e61 ?_
  refine g_ic (3) d_X12_judge_64 ic_3 ?_
  obtain ⟨v65, e65, hF⟩ := Option.bind_eq_some_iff.mp hF
  refine q_aI d_X12_judge_65 e65 ?_
  refine g_icmp_ge 97 d_X12_judge_66 rfl (fun c66 => ?_) (fun c66 => ?_)
  · have hF := x_t hF c66
    refine g_aloadn d_X12_judge_97 rfl ?_
    obtain ⟨_, g98, hF⟩ := Option.bind_eq_some_iff.mp hF
    obtain ⟨⟨r98, h98⟩, e98, hF⟩ := Option.bind_eq_some_iff.mp hF
    try dsimp only at hF
    refine q_callV [] [] rfl d_X12_judge_98 v_X12_325 (by omega) rfl (Nat.le_of_ble_eq_true rfl) (rc_rc g98 (by decide) rfl) (R_X12_isAgain _ _ (by omega) e98) ?_
    refine g_iloadn d_X12_judge_101 rfl ?_
    refine g_if_ne 121 d_X12_judge_102 rfl (fun c102 => ?_) (fun c102 => ?_)
    · have hF := x_t hF c102
      refine g_iloadn d_X12_judge_121 rfl ?_
      refine g_ic (1) d_X12_judge_122 ic_1 ?_
      refine g_icmp_ne 133 d_X12_judge_123 rfl (fun c123 => ?_) (fun c123 => ?_)
      · have hF := x_t hF c123
        refine g_iloadn d_X12_judge_133 rfl ?_
        refine g_ic (2) d_X12_judge_134 ic_2 ?_
        refine g_icmp_ne 143 d_X12_judge_135 rfl (fun c135 => ?_) (fun c135 => ?_)
        · have hF := x_t hF c135
          refine g_iload d_X12_judge_143 rfl ?_
          obtain ⟨rfl, rfl⟩ := x_inj hF
          exact g_iret d_X12_judge_145 rfl hq
        · have hF := x_f hF (not_not_intro c135)
          refine g_iload d_X12_judge_138 rfl ?_
          refine g_goto 145 d_X12_judge_140 rfl ?_
          obtain ⟨rfl, rfl⟩ := x_inj hF
          exact g_iret d_X12_judge_145 rfl hq
      · have hF := x_f hF (not_not_intro c123)
        refine g_aloadn d_X12_judge_126 rfl ?_
        obtain ⟨v127, e127, hF⟩ := Option.bind_eq_some_iff.mp hF
        refine q_fI d_X12_judge_127 f_X12_307 e127 ?_
        refine g_goto 145 d_X12_judge_130 rfl ?_
        obtain ⟨rfl, rfl⟩ := x_inj hF
        exact g_iret d_X12_judge_145 rfl hq
    · have hF := x_f hF (not_not_intro c102)
      refine g_aloadn d_X12_judge_105 rfl ?_
      obtain ⟨v106, e106, hF⟩ := Option.bind_eq_some_iff.mp hF
      refine q_fI d_X12_judge_106 f_X12_307 e106 ?_
      refine g_if_ne 116 d_X12_judge_109 rfl (fun c109 => ?_) (fun c109 => ?_)
      · have hF := x_t hF c109
        refine g_iload d_X12_judge_116 rfl ?_
        refine g_goto 145 d_X12_judge_118 rfl ?_
        obtain ⟨rfl, rfl⟩ := x_inj hF
        exact g_iret d_X12_judge_145 rfl hq
      · have hF := x_f hF (not_not_intro c109)
        refine g_ic (-1) d_X12_judge_112 ic_m1 ?_
        refine g_goto 145 d_X12_judge_113 rfl ?_
        obtain ⟨rfl, rfl⟩ := x_inj hF
        exact g_iret d_X12_judge_145 rfl hq
  · have hF := x_f hF c66
    refine g_iload d_X12_judge_69 rfl ?_
    refine g_aloadn d_X12_judge_71 rfl ?_
    refine g_iload d_X12_judge_72 rfl ?_
    obtain ⟨_, g74, hF⟩ := Option.bind_eq_some_iff.mp hF
    obtain ⟨⟨r74, h74⟩, e74, hF⟩ := Option.bind_eq_some_iff.mp hF
    try dsimp only at hF
    refine q_callV [.int x7] [.int x6] rfl d_X12_judge_74 v_X12_259 (by omega) rfl (Nat.le_of_ble_eq_true rfl) (rc_rc g74 (by decide) rfl) (R_X12_peopleAt _ _ _ (by omega) e74) ?_
    refine g_if_ne 84 d_X12_judge_77 rfl (fun c77 => ?_) (fun c77 => ?_)
    · have hF := x_t hF c77
      refine g_ic (1) d_X12_judge_84 ic_1 ?_
      refine g_iload d_X12_judge_85 rfl ?_
      refine g_ishl d_X12_judge_87 ?_
      exact q_to (xs_r (xs_h (xs_r (xs_h (xs_r (xs_r (xs_h (xs_r xs_n)))))))) (R_X12_judge_b88 ih hdp hq _ _ _ _ _ _ _ _ hF)
    · have hF := x_f hF (not_not_intro c77)
      refine g_ic (0) d_X12_judge_80 ic_0 ?_
      refine g_goto 88 d_X12_judge_81 rfl ?_
      exact q_to (xs_r (xs_h (xs_r (xs_h (xs_r (xs_r (xs_h (xs_r xs_n)))))))) (R_X12_judge_b88 ih hdp hq _ _ _ _ _ _ _ _ hF)
def F_X12_judge (x0 : Nat) (x1 : Int32) (x2 : Int32) (h : xH) : Option (Int32 × xH) := (wI h x0 11 0 0).bind fun h2 => (F_X12_within x2.toInt64 0 3 h2).bind fun z11 => if ¬ z11.1 = 0 then (rc z11.2 x0 11).bind fun _ => (F_X12_noTray x0 x1 z11.2).bind fun z22 => if z22.1 = 0 then (rc z22.2 x0 11).bind fun _ => (F_X12_keeps x0 z22.2).bind fun z33 => (rc z33.2 x0 11).bind fun _ => (F_X12_tells x0 x1 z33.2).bind fun z38 => (fR z38.2 x0 11 1).bind fun v44 => (aI z38.2 v44 108).bind fun v49 => F_X12_judge_b58 FU x0 x2 z38.1 v49 0 0 z38.2 else some (z22.1, z22.2) else some ((-2), z11.2)
theorem R_X12_judge {Γ : xG} {l : Launch} {d : Nat} {r : Int32} {h' : xH} (x0 : Nat) (x1 : Int32) (x2 : Int32) (h : xH) (hdp : 5 ≤ d) (hF : F_X12_judge x0 x1 x2 h = some (r, h')) : Gm Γ l d 0 0 m_X12_judge [.ref x0, .int x1, .int x2] h (fun a u => a = some (.int r) ∧ u = h') := by
  refine Gm.of pn_X12 (Nat.le_of_ble_eq_true rfl) ?_
  show Gd Γ l d m_X12_judge 0 [.ref x0, .int x1, .int x2, xhole, xhole, xhole, xhole, xhole] [] h 0 0 _
  generalize hQ : (fun (a : Option Value) (u : xH) => a = some (.int r) ∧ u = h') = Q
  have hq : Q (some (.int r)) h' := by rw [← hQ]; exact ⟨rfl, rfl⟩
  clear hQ
  unfold F_X12_judge at hF
  refine g_aloadn d_X12_judge_0 rfl ?_
  refine g_ic (0) d_X12_judge_1 ic_0 ?_
  obtain ⟨h2, e2, hF⟩ := Option.bind_eq_some_iff.mp hF
  refine q_wI d_X12_judge_2 (w_X12_1 _) e2 ?_
  refine g_iloadn d_X12_judge_5 rfl ?_
  refine g_i2l d_X12_judge_6 ?_
  refine g_lc 0 d_X12_judge_7 rfl ?_
  refine g_ldc2 d_X12_judge_8 k_X12_317 ?_
  obtain ⟨⟨r11, h11⟩, e11, hF⟩ := Option.bind_eq_some_iff.mp hF
  try dsimp only at hF
  refine q_callS [.long (x2.toInt64), .long 0, .long 3] [] rfl d_X12_judge_11 s_X12_148 (by omega) rfl (Nat.le_of_ble_eq_true rfl) (R_X12_within _ _ _ _ (by omega) e11) ?_
  refine g_if_ne 20 d_X12_judge_14 rfl (fun c14 => ?_) (fun c14 => ?_)
  · have hF := x_t hF c14
    refine g_aloadn d_X12_judge_20 rfl ?_
    refine g_iloadn d_X12_judge_21 rfl ?_
    obtain ⟨_, g22, hF⟩ := Option.bind_eq_some_iff.mp hF
    obtain ⟨⟨r22, h22⟩, e22, hF⟩ := Option.bind_eq_some_iff.mp hF
    try dsimp only at hF
    refine q_callV [.int x1] [] rfl d_X12_judge_22 v_X12_319 (by omega) rfl (Nat.le_of_ble_eq_true rfl) (rc_rc g22 (by decide) rfl) (R_X12_noTray _ _ _ (by omega) e22) ?_
    refine q_istoren [.ref x0, .int x1, .int x2, .int (r22), xhole, xhole, xhole, xhole] d_X12_judge_25 (by decide) rfl ?_
    refine g_iloadn d_X12_judge_26 rfl ?_
    refine g_if_eq 32 d_X12_judge_27 rfl (fun c27 => ?_) (fun c27 => ?_)
    · have hF := x_t hF c27
      refine g_aloadn d_X12_judge_32 rfl ?_
      obtain ⟨_, g33, hF⟩ := Option.bind_eq_some_iff.mp hF
      obtain ⟨⟨r33, h33⟩, e33, hF⟩ := Option.bind_eq_some_iff.mp hF
      try dsimp only at hF
      refine q_callV [] [] rfl d_X12_judge_33 v_X12_278 (by omega) rfl (Nat.le_of_ble_eq_true rfl) (rc_rc g33 (by decide) rfl) (R_X12_keeps _ _ (by omega) e33) ?_
      refine g_aloadn d_X12_judge_36 rfl ?_
      refine g_iloadn d_X12_judge_37 rfl ?_
      obtain ⟨_, g38, hF⟩ := Option.bind_eq_some_iff.mp hF
      obtain ⟨⟨r38, h38⟩, e38, hF⟩ := Option.bind_eq_some_iff.mp hF
      try dsimp only at hF
      refine q_callV [.int x1] [] rfl d_X12_judge_38 v_X12_322 (by omega) rfl (Nat.le_of_ble_eq_true rfl) (rc_rc g38 (by decide) rfl) (R_X12_tells _ _ _ (by omega) e38) ?_
      refine q_istore [.ref x0, .int x1, .int x2, .int (r22), .int (r38), xhole, xhole, xhole] d_X12_judge_41 (by decide) rfl ?_
      refine g_aloadn d_X12_judge_43 rfl ?_
      obtain ⟨v44, e44, hF⟩ := Option.bind_eq_some_iff.mp hF
      refine q_fR d_X12_judge_44 f_X12_13 e44 ?_
      refine g_bi (108) d_X12_judge_47 bi_108 ?_
      obtain ⟨v49, e49, hF⟩ := Option.bind_eq_some_iff.mp hF
      refine q_aI d_X12_judge_49 e49 ?_
      refine q_istore [.ref x0, .int x1, .int x2, .int (r22), .int (r38), .int v49, xhole, xhole] d_X12_judge_50 (by decide) rfl ?_
      refine g_ic (0) d_X12_judge_52 ic_0 ?_
      refine q_istore [.ref x0, .int x1, .int x2, .int (r22), .int (r38), .int v49, .int 0, xhole] d_X12_judge_53 (by decide) rfl ?_
      refine g_ic (0) d_X12_judge_55 ic_0 ?_
      refine q_istore [.ref x0, .int x1, .int x2, .int (r22), .int (r38), .int v49, .int 0, .int 0] d_X12_judge_56 (by decide) rfl ?_
      exact q_to (xs_r (xs_h (xs_r (xs_h (xs_r (xs_r (xs_r (xs_r xs_n)))))))) (R_X12_judge_b58 hdp hq FU _ _ _ _ _ _ _ hF)
    · have hF := x_f hF c27
      refine g_iloadn d_X12_judge_30 rfl ?_
      obtain ⟨rfl, rfl⟩ := x_inj hF
      exact g_iret d_X12_judge_31 rfl hq
  · have hF := x_f hF (not_not_intro c14)
    refine g_bi (-2) d_X12_judge_17 bi_m2 ?_
    obtain ⟨rfl, rfl⟩ := x_inj hF
    exact g_iret d_X12_judge_19 rfl hq
