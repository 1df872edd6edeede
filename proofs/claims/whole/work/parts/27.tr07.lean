/-! ===== methods as functions, 7: written by a program out of the listings ===== -/
theorem d_X12_readPlace_0 : decode cX12_readPlace 0 = .ok (.aload_n 0, 1) := by decide +kernel
theorem d_X12_readPlace_1 : decode cX12_readPlace 1 = .ok (.getfield 24, 3) := by decide +kernel
theorem d_X12_readPlace_4 : decode cX12_readPlace 4 = .ok (.iconst 3, 1) := by decide +kernel
theorem d_X12_readPlace_5 : decode cX12_readPlace 5 = .ok (.iaload, 1) := by decide +kernel
theorem d_X12_readPlace_6 : decode cX12_readPlace 6 = .ok (.istore_n 1, 1) := by decide +kernel
theorem d_X12_readPlace_7 : decode cX12_readPlace 7 = .ok (.iload_n 1, 1) := by decide +kernel
theorem d_X12_readPlace_8 : decode cX12_readPlace 8 = .ok (.bipush 6, 2) := by decide +kernel
theorem d_X12_readPlace_10 : decode cX12_readPlace 10 = .ok (.if_icmp .ne 8, 3) := by decide +kernel
theorem d_X12_readPlace_13 : decode cX12_readPlace 13 = .ok (.aload_n 0, 1) := by decide +kernel
theorem d_X12_readPlace_14 : decode cX12_readPlace 14 = .ok (.iconst 4, 1) := by decide +kernel
theorem d_X12_readPlace_15 : decode cX12_readPlace 15 = .ok (.invokevirtual 144, 3) := by decide +kernel
theorem d_X12_readPlace_18 : decode cX12_readPlace 18 = .ok (.aload_n 0, 1) := by decide +kernel
theorem d_X12_readPlace_19 : decode cX12_readPlace 19 = .ok (.getfield 132, 3) := by decide +kernel
theorem d_X12_readPlace_22 : decode cX12_readPlace 22 = .ok (.ifCond .eq 4, 3) := by decide +kernel
theorem d_X12_readPlace_25 : decode cX12_readPlace 25 = .ok (.return_, 1) := by decide +kernel
theorem d_X12_readPlace_26 : decode cX12_readPlace 26 = .ok (.aload_n 0, 1) := by decide +kernel
theorem d_X12_readPlace_27 : decode cX12_readPlace 27 = .ok (.invokevirtual 141, 3) := by decide +kernel
theorem d_X12_readPlace_30 : decode cX12_readPlace 30 = .ok (.iconst 0, 1) := by decide +kernel
theorem d_X12_readPlace_31 : decode cX12_readPlace 31 = .ok (.istore_n 2, 1) := by decide +kernel
theorem d_X12_readPlace_32 : decode cX12_readPlace 32 = .ok (.aload_n 0, 1) := by decide +kernel
theorem d_X12_readPlace_33 : decode cX12_readPlace 33 = .ok (.getfield 132, 3) := by decide +kernel
theorem d_X12_readPlace_36 : decode cX12_readPlace 36 = .ok (.ifCond .ne 51, 3) := by decide +kernel
theorem d_X12_readPlace_39 : decode cX12_readPlace 39 = .ok (.iload_n 2, 1) := by decide +kernel
theorem d_X12_readPlace_40 : decode cX12_readPlace 40 = .ok (.iconst 4, 1) := by decide +kernel
theorem d_X12_readPlace_41 : decode cX12_readPlace 41 = .ok (.if_icmp .ge 46, 3) := by decide +kernel
theorem d_X12_readPlace_44 : decode cX12_readPlace 44 = .ok (.iload_n 2, 1) := by decide +kernel
theorem d_X12_readPlace_45 : decode cX12_readPlace 45 = .ok (.ifCond .eq 12, 3) := by decide +kernel
theorem d_X12_readPlace_48 : decode cX12_readPlace 48 = .ok (.aload_n 0, 1) := by decide +kernel
theorem d_X12_readPlace_49 : decode cX12_readPlace 49 = .ok (.bipush 23, 2) := by decide +kernel
theorem d_X12_readPlace_51 : decode cX12_readPlace 51 = .ok (.invokevirtual 138, 3) := by decide +kernel
theorem d_X12_readPlace_54 : decode cX12_readPlace 54 = .ok (.ifCond .eq 33, 3) := by decide +kernel
theorem d_X12_readPlace_57 : decode cX12_readPlace 57 = .ok (.aload_n 0, 1) := by decide +kernel
theorem d_X12_readPlace_58 : decode cX12_readPlace 58 = .ok (.getfield 24, 3) := by decide +kernel
theorem d_X12_readPlace_61 : decode cX12_readPlace 61 = .ok (.bipush 83, 2) := by decide +kernel
theorem d_X12_readPlace_63 : decode cX12_readPlace 63 = .ok (.iconst 4, 1) := by decide +kernel
theorem d_X12_readPlace_64 : decode cX12_readPlace 64 = .ok (.iload_n 1, 1) := by decide +kernel
theorem d_X12_readPlace_65 : decode cX12_readPlace 65 = .ok (.imul, 1) := by decide +kernel
theorem d_X12_readPlace_66 : decode cX12_readPlace 66 = .ok (.iadd, 1) := by decide +kernel
theorem d_X12_readPlace_67 : decode cX12_readPlace 67 = .ok (.iload_n 2, 1) := by decide +kernel
theorem d_X12_readPlace_68 : decode cX12_readPlace 68 = .ok (.iadd, 1) := by decide +kernel
theorem d_X12_readPlace_69 : decode cX12_readPlace 69 = .ok (.aload_n 0, 1) := by decide +kernel
theorem d_X12_readPlace_70 : decode cX12_readPlace 70 = .ok (.iconst 0, 1) := by decide +kernel
theorem d_X12_readPlace_71 : decode cX12_readPlace 71 = .ok (.aload_n 0, 1) := by decide +kernel
theorem d_X12_readPlace_72 : decode cX12_readPlace 72 = .ok (.getfield 24, 3) := by decide +kernel
theorem d_X12_readPlace_75 : decode cX12_readPlace 75 = .ok (.iconst 1, 1) := by decide +kernel
theorem d_X12_readPlace_76 : decode cX12_readPlace 76 = .ok (.iaload, 1) := by decide +kernel
theorem d_X12_readPlace_77 : decode cX12_readPlace 77 = .ok (.invokevirtual 189, 3) := by decide +kernel
theorem d_X12_readPlace_80 : decode cX12_readPlace 80 = .ok (.iastore, 1) := by decide +kernel
theorem d_X12_readPlace_81 : decode cX12_readPlace 81 = .ok (.iinc 2 1, 3) := by decide +kernel
theorem d_X12_readPlace_84 : decode cX12_readPlace 84 = .ok (.goto (-52), 3) := by decide +kernel
theorem d_X12_readPlace_87 : decode cX12_readPlace 87 = .ok (.aload_n 0, 1) := by decide +kernel
theorem d_X12_readPlace_88 : decode cX12_readPlace 88 = .ok (.getfield 132, 3) := by decide +kernel
theorem d_X12_readPlace_91 : decode cX12_readPlace 91 = .ok (.ifCond .eq 4, 3) := by decide +kernel
theorem d_X12_readPlace_94 : decode cX12_readPlace 94 = .ok (.return_, 1) := by decide +kernel
theorem d_X12_readPlace_95 : decode cX12_readPlace 95 = .ok (.aload_n 0, 1) := by decide +kernel
theorem d_X12_readPlace_96 : decode cX12_readPlace 96 = .ok (.getfield 24, 3) := by decide +kernel
theorem d_X12_readPlace_99 : decode cX12_readPlace 99 = .ok (.bipush 71, 2) := by decide +kernel
theorem d_X12_readPlace_101 : decode cX12_readPlace 101 = .ok (.iload_n 1, 1) := by decide +kernel
theorem d_X12_readPlace_102 : decode cX12_readPlace 102 = .ok (.iadd, 1) := by decide +kernel
theorem d_X12_readPlace_103 : decode cX12_readPlace 103 = .ok (.iload_n 2, 1) := by decide +kernel
theorem d_X12_readPlace_104 : decode cX12_readPlace 104 = .ok (.iastore, 1) := by decide +kernel
theorem d_X12_readPlace_105 : decode cX12_readPlace 105 = .ok (.aload_n 0, 1) := by decide +kernel
theorem d_X12_readPlace_106 : decode cX12_readPlace 106 = .ok (.getfield 24, 3) := by decide +kernel
theorem d_X12_readPlace_109 : decode cX12_readPlace 109 = .ok (.iconst 3, 1) := by decide +kernel
theorem d_X12_readPlace_110 : decode cX12_readPlace 110 = .ok (.dup2, 1) := by decide +kernel
theorem d_X12_readPlace_111 : decode cX12_readPlace 111 = .ok (.iaload, 1) := by decide +kernel
theorem d_X12_readPlace_112 : decode cX12_readPlace 112 = .ok (.iconst 1, 1) := by decide +kernel
theorem d_X12_readPlace_113 : decode cX12_readPlace 113 = .ok (.iadd, 1) := by decide +kernel
theorem d_X12_readPlace_114 : decode cX12_readPlace 114 = .ok (.iastore, 1) := by decide +kernel
theorem d_X12_readPlace_115 : decode cX12_readPlace 115 = .ok (.return_, 1) := by decide +kernel
def F_X12_readPlace_b57 (k32 : Nat → Int32 → Int32 → xH → Option (Unit × xH)) (x0 : Nat) (x1 : Int32) (x2 : Int32) (h : xH) : Option (Unit × xH) := (fR h x0 11 4).bind fun v58 => (fR h x0 11 4).bind fun v72 => (aI h v72 1).bind fun v76 => (rc h x0 11).bind fun _ => (F_X12_takes x0 0 v76 h).bind fun z77 => (sI z77.2 v58 ((((83 : Int32)) + (((4 : Int32)) * x1)) + x2) z77.1).bind fun h80 => k32 x0 x1 (x2 + 1) h80
theorem R_X12_readPlace_b57 {Γ : xG} {l : Launch} {d : Nat} {Q : Option Value → xH → Prop} {r : Unit} {h' : xH} {k32 : Nat → Int32 → Int32 → xH → Option (Unit × xH)} (K32 : ∀ (x0 : Nat) (x1 : Int32) (x2 : Int32)  (h : xH), k32 x0 x1 x2 h = some (r, h') → Gd Γ l d m_X12_readPlace 32 [.ref x0, .int x1, .int x2] [] h 0 0 Q) (hdp : 8 ≤ d) (hq : Q (none) h') : ∀ (x0 : Nat) (x1 : Int32) (x2 : Int32) (h : xH), F_X12_readPlace_b57 k32 x0 x1 x2 h = some (r, h') → Gd Γ l d m_X12_readPlace 57 [.ref x0, .int x1, .int x2] [] h 0 0 Q := by
  intro x0 x1 x2 h hF
  unfold F_X12_readPlace_b57 at hF
  refine g_aloadn d_X12_readPlace_57 rfl ?_
  obtain ⟨v58, e58, hF⟩ := Option.bind_eq_some_iff.mp hF
  refine q_fR d_X12_readPlace_58 f_X12_24 e58 ?_
  refine g_bi (83) d_X12_readPlace_61 bi_83 ?_
  refine g_ic (4) d_X12_readPlace_63 ic_4 ?_
  refine g_iloadn d_X12_readPlace_64 rfl ?_
  refine g_imul d_X12_readPlace_65 ?_
  refine g_iadd d_X12_readPlace_66 ?_
  refine g_iloadn d_X12_readPlace_67 rfl ?_
  refine g_iadd d_X12_readPlace_68 ?_
  refine g_aloadn d_X12_readPlace_69 rfl ?_
  refine g_ic (0) d_X12_readPlace_70 ic_0 ?_
  refine g_aloadn d_X12_readPlace_71 rfl ?_
  obtain ⟨v72, e72, hF⟩ := Option.bind_eq_some_iff.mp hF
  refine q_fR d_X12_readPlace_72 f_X12_24 e72 ?_
  refine g_ic (1) d_X12_readPlace_75 ic_1 ?_
  obtain ⟨v76, e76, hF⟩ := Option.bind_eq_some_iff.mp hF
  refine q_aI d_X12_readPlace_76 e76 ?_
  obtain ⟨_, g77, hF⟩ := Option.bind_eq_some_iff.mp hF
  obtain ⟨⟨r77, h77⟩, e77, hF⟩ := Option.bind_eq_some_iff.mp hF
  try dsimp only at hF
  refine q_callV [.int 0, .int v76] [.int ((((83 : Int32)) + (((4 : Int32)) * x1)) + x2), .ref v58] rfl d_X12_readPlace_77 v_X12_189 (by omega) rfl (Nat.le_of_ble_eq_true rfl) (rc_rc g77 (by decide) rfl) (R_X12_takes _ _ _ _ (by omega) e77) ?_
  obtain ⟨h80, e80, hF⟩ := Option.bind_eq_some_iff.mp hF
  refine q_sI d_X12_readPlace_80 e80 ?_
  refine q_iinc (1) [.ref x0, .int x1, .int (x2 + 1)] d_X12_readPlace_81 ic_1 rfl (by decide) rfl ?_
  refine g_goto 32 d_X12_readPlace_84 rfl ?_
  exact q_to (xs_r (xs_r (xs_r xs_n))) (K32 _ _ _ _ hF)
def F_X12_readPlace_b87 (x0 : Nat) (x1 : Int32) (x2 : Int32) (h : xH) : Option (Unit × xH) := (fI h x0 11 11).bind fun v88 => if v88 = 0 then (fR h x0 11 4).bind fun v96 => (sI h v96 (((71 : Int32)) + x1) x2).bind fun h104 => (fR h104 x0 11 4).bind fun v106 => (aI h104 v106 3).bind fun v111 => (sI h104 v106 3 (v111 + 1)).bind fun h114 => some ((), h114) else some ((), h)
theorem R_X12_readPlace_b87 {Γ : xG} {l : Launch} {d : Nat} {Q : Option Value → xH → Prop} {r : Unit} {h' : xH} (hdp : 8 ≤ d) (hq : Q (none) h') : ∀ (x0 : Nat) (x1 : Int32) (x2 : Int32) (h : xH), F_X12_readPlace_b87 x0 x1 x2 h = some (r, h') → Gd Γ l d m_X12_readPlace 87 [.ref x0, .int x1, .int x2] [] h 0 0 Q := by
  intro x0 x1 x2 h hF
  unfold F_X12_readPlace_b87 at hF
  refine g_aloadn d_X12_readPlace_87 rfl ?_
  obtain ⟨v88, e88, hF⟩ := Option.bind_eq_some_iff.mp hF
  refine q_fI d_X12_readPlace_88 f_X12_132 e88 ?_
  refine g_if_eq 95 d_X12_readPlace_91 rfl (fun c91 => ?_) (fun c91 => ?_)
  · have hF := x_t hF c91
    refine g_aloadn d_X12_readPlace_95 rfl ?_
    obtain ⟨v96, e96, hF⟩ := Option.bind_eq_some_iff.mp hF
    refine q_fR d_X12_readPlace_96 f_X12_24 e96 ?_
    refine g_bi (71) d_X12_readPlace_99 bi_71 ?_
    refine g_iloadn d_X12_readPlace_101 rfl ?_
    refine g_iadd d_X12_readPlace_102 ?_
    refine g_iloadn d_X12_readPlace_103 rfl ?_
    obtain ⟨h104, e104, hF⟩ := Option.bind_eq_some_iff.mp hF
    refine q_sI d_X12_readPlace_104 e104 ?_
    refine g_aloadn d_X12_readPlace_105 rfl ?_
    obtain ⟨v106, e106, hF⟩ := Option.bind_eq_some_iff.mp hF
    refine q_fR d_X12_readPlace_106 f_X12_24 e106 ?_
    refine g_ic (3) d_X12_readPlace_109 ic_3 ?_
    refine g_dup2 d_X12_readPlace_110 rfl rfl ?_
    obtain ⟨v111, e111, hF⟩ := Option.bind_eq_some_iff.mp hF
    refine q_aI d_X12_readPlace_111 e111 ?_
    refine g_ic (1) d_X12_readPlace_112 ic_1 ?_
    refine g_iadd d_X12_readPlace_113 ?_
    obtain ⟨h114, e114, hF⟩ := Option.bind_eq_some_iff.mp hF
    refine q_sI d_X12_readPlace_114 e114 ?_
    obtain ⟨rfl, rfl⟩ := x_inj hF
    exact g_vret d_X12_readPlace_115 rfl hq
  · have hF := x_f hF c91
    obtain ⟨rfl, rfl⟩ := x_inj hF
    exact g_vret d_X12_readPlace_94 rfl hq
def F_X12_readPlace_b32 : Nat → Nat → Int32 → Int32 → xH → Option (Unit × xH)
  | 0, _, _, _, _ => none
  | n + 1, x0, x1, x2, h => (fI h x0 11 11).bind fun v33 => if ¬ v33 = 0 then F_X12_readPlace_b87 x0 x1 x2 h else if ((4 : Int32)) ≤ x2 then F_X12_readPlace_b87 x0 x1 x2 h else if x2 = 0 then F_X12_readPlace_b57 (F_X12_readPlace_b32 n) x0 x1 x2 h else (rc h x0 11).bind fun _ => (F_X12_is x0 23 h).bind fun z51 => if z51.1 = 0 then F_X12_readPlace_b87 x0 x1 x2 z51.2 else F_X12_readPlace_b57 (F_X12_readPlace_b32 n) x0 x1 x2 z51.2
theorem R_X12_readPlace_b32 {Γ : xG} {l : Launch} {d : Nat} {Q : Option Value → xH → Prop} {r : Unit} {h' : xH} (hdp : 8 ≤ d) (hq : Q (none) h') : ∀ (n : Nat) (x0 : Nat) (x1 : Int32) (x2 : Int32) (h : xH), F_X12_readPlace_b32 n x0 x1 x2 h = some (r, h') → Gd Γ l d m_X12_readPlace 32 [.ref x0, .int x1, .int x2] [] h 0 0 Q := by
  intro n
  induction n with
  | zero => intro x0 x1 x2 h hF; cases hF
  | succ n ih =>
  intro x0 x1 x2 h hF
  rw [F_X12_readPlace_b32] at hF
  refine g_aloadn d_X12_readPlace_32 rfl ?_
  obtain ⟨v33, e33, hF⟩ := Option.bind_eq_some_iff.mp hF
  refine q_fI d_X12_readPlace_33 f_X12_132 e33 ?_
  refine g_if_ne 87 d_X12_readPlace_36 rfl (fun c36 => ?_) (fun c36 => ?_)
  · have hF := x_t hF c36
    exact q_to (xs_r (xs_r (xs_r xs_n))) (R_X12_readPlace_b87 hdp hq _ _ _ _ hF)
  · have hF := x_f hF (not_not_intro c36)
    refine g_iloadn d_X12_readPlace_39 rfl ?_
    refine g_ic (4) d_X12_readPlace_40 ic_4 ?_
    refine g_icmp_ge 87 d_X12_readPlace_41 rfl (fun c41 => ?_) (fun c41 => ?_)
    · have hF := x_t hF c41
      exact q_to (xs_r (xs_r (xs_r xs_n))) (R_X12_readPlace_b87 hdp hq _ _ _ _ hF)
    · have hF := x_f hF c41
      refine g_iloadn d_X12_readPlace_44 rfl ?_
      refine g_if_eq 57 d_X12_readPlace_45 rfl (fun c45 => ?_) (fun c45 => ?_)
      · have hF := x_t hF c45
        exact q_to (xs_r (xs_r (xs_r xs_n))) (R_X12_readPlace_b57 ih hdp hq _ _ _ _ hF)
      · have hF := x_f hF c45
        refine g_aloadn d_X12_readPlace_48 rfl ?_
        refine g_bi (23) d_X12_readPlace_49 bi_23 ?_
        obtain ⟨_, g51, hF⟩ := Option.bind_eq_some_iff.mp hF
        obtain ⟨⟨r51, h51⟩, e51, hF⟩ := Option.bind_eq_some_iff.mp hF
        try dsimp only at hF
        refine q_callV [.int 23] [] rfl d_X12_readPlace_51 v_X12_138 (by omega) rfl (Nat.le_of_ble_eq_true rfl) (rc_rc g51 (by decide) rfl) (R_X12_is _ _ _ (by omega) e51) ?_
        refine g_if_eq 87 d_X12_readPlace_54 rfl (fun c54 => ?_) (fun c54 => ?_)
        · have hF := x_t hF c54
          exact q_to (xs_r (xs_r (xs_r xs_n))) (R_X12_readPlace_b87 hdp hq _ _ _ _ hF)
        · have hF := x_f hF c54
          exact q_to (xs_r (xs_r (xs_r xs_n))) (R_X12_readPlace_b57 ih hdp hq _ _ _ _ hF)
def F_X12_readPlace_b18 (x0 : Nat) (x1 : Int32) (h : xH) : Option (Unit × xH) := (fI h x0 11 11).bind fun v19 => if v19 = 0 then (rc h x0 11).bind fun _ => (F_X12_next x0 h).bind fun z27 => F_X12_readPlace_b32 FU x0 x1 0 z27.2 else some ((), h)
theorem R_X12_readPlace_b18 {Γ : xG} {l : Launch} {d : Nat} {Q : Option Value → xH → Prop} {r : Unit} {h' : xH} (hdp : 8 ≤ d) (hq : Q (none) h') : ∀ (x0 : Nat) (x1 : Int32) (h : xH), F_X12_readPlace_b18 x0 x1 h = some (r, h') → Gd Γ l d m_X12_readPlace 18 [.ref x0, .int x1, xhole] [] h 0 0 Q := by
  intro x0 x1 h hF
  unfold F_X12_readPlace_b18 at hF
  refine g_aloadn d_X12_readPlace_18 rfl ?_
  obtain ⟨v19, e19, hF⟩ := Option.bind_eq_some_iff.mp hF
  refine q_fI d_X12_readPlace_19 f_X12_132 e19 ?_
  refine g_if_eq 26 d_X12_readPlace_22 rfl (fun c22 => ?_) (fun c22 => ?_)
  · have hF := x_t hF c22
    refine g_aloadn d_X12_readPlace_26 rfl ?_
    obtain ⟨_, g27, hF⟩ := Option.bind_eq_some_iff.mp hF
    obtain ⟨⟨r27, h27⟩, e27, hF⟩ := Option.bind_eq_some_iff.mp hF
    try dsimp only at hF
    refine q_callV [] [] rfl d_X12_readPlace_27 v_X12_141 (by omega) rfl (Nat.le_of_ble_eq_true rfl) (rc_rc g27 (by decide) rfl) (R_X12_next _ _ (by omega) e27) ?_
    refine g_ic (0) d_X12_readPlace_30 ic_0 ?_
    refine q_istoren [.ref x0, .int x1, .int 0] d_X12_readPlace_31 (by decide) rfl ?_
    exact q_to (xs_r (xs_r (xs_r xs_n))) (R_X12_readPlace_b32 hdp hq FU _ _ _ _ hF)
  · have hF := x_f hF c22
    obtain ⟨rfl, rfl⟩ := x_inj hF
    exact g_vret d_X12_readPlace_25 rfl hq
def F_X12_readPlace (x0 : Nat) (h : xH) : Option (Unit × xH) := (fR h x0 11 4).bind fun v1 => (aI h v1 3).bind fun v5 => if ¬ v5 = ((6 : Int32)) then F_X12_readPlace_b18 x0 v5 h else (rc h x0 11).bind fun _ => (F_X12_fails x0 4 h).bind fun z15 => F_X12_readPlace_b18 x0 v5 z15.2
theorem R_X12_readPlace {Γ : xG} {l : Launch} {d : Nat} {r : Unit} {h' : xH} (x0 : Nat) (h : xH) (hdp : 8 ≤ d) (hF : F_X12_readPlace x0 h = some (r, h')) : Gm Γ l d 0 0 m_X12_readPlace [.ref x0] h (fun a u => a = none ∧ u = h') := by
  refine Gm.of pn_X12 (Nat.le_of_ble_eq_true rfl) ?_
  show Gd Γ l d m_X12_readPlace 0 [.ref x0, xhole, xhole] [] h 0 0 _
  generalize hQ : (fun (a : Option Value) (u : xH) => a = none ∧ u = h') = Q
  have hq : Q (none) h' := by rw [← hQ]; exact ⟨rfl, rfl⟩
  clear hQ
  unfold F_X12_readPlace at hF
  refine g_aloadn d_X12_readPlace_0 rfl ?_
  obtain ⟨v1, e1, hF⟩ := Option.bind_eq_some_iff.mp hF
  refine q_fR d_X12_readPlace_1 f_X12_24 e1 ?_
  refine g_ic (3) d_X12_readPlace_4 ic_3 ?_
  obtain ⟨v5, e5, hF⟩ := Option.bind_eq_some_iff.mp hF
  refine q_aI d_X12_readPlace_5 e5 ?_
  refine q_istoren [.ref x0, .int v5, xhole] d_X12_readPlace_6 (by decide) rfl ?_
  refine g_iloadn d_X12_readPlace_7 rfl ?_
  refine g_bi (6) d_X12_readPlace_8 bi_6 ?_
  refine g_icmp_ne 18 d_X12_readPlace_10 rfl (fun c10 => ?_) (fun c10 => ?_)
  · have hF := x_t hF c10
    exact q_to (xs_r (xs_r (xs_h xs_n))) (R_X12_readPlace_b18 hdp hq _ _ _ hF)
  · have hF := x_f hF (not_not_intro c10)
    refine g_aloadn d_X12_readPlace_13 rfl ?_
    refine g_ic (4) d_X12_readPlace_14 ic_4 ?_
    obtain ⟨_, g15, hF⟩ := Option.bind_eq_some_iff.mp hF
    obtain ⟨⟨r15, h15⟩, e15, hF⟩ := Option.bind_eq_some_iff.mp hF
    try dsimp only at hF
    refine q_callV [.int 4] [] rfl d_X12_readPlace_15 v_X12_144 (by omega) rfl (Nat.le_of_ble_eq_true rfl) (rc_rc g15 (by decide) rfl) (R_X12_fails _ _ _ (by omega) e15) ?_
    exact q_to (xs_r (xs_r (xs_h xs_n))) (R_X12_readPlace_b18 hdp hq _ _ _ hF)
theorem d_X12_readWay_0 : decode cX12_readWay 0 = .ok (.aload_n 0, 1) := by decide +kernel
theorem d_X12_readWay_1 : decode cX12_readWay 1 = .ok (.invokevirtual 141, 3) := by decide +kernel
theorem d_X12_readWay_4 : decode cX12_readWay 4 = .ok (.aload_n 0, 1) := by decide +kernel
theorem d_X12_readWay_5 : decode cX12_readWay 5 = .ok (.iconst 0, 1) := by decide +kernel
theorem d_X12_readWay_6 : decode cX12_readWay 6 = .ok (.aload_n 0, 1) := by decide +kernel
theorem d_X12_readWay_7 : decode cX12_readWay 7 = .ok (.getfield 24, 3) := by decide +kernel
theorem d_X12_readWay_10 : decode cX12_readWay 10 = .ok (.iconst 3, 1) := by decide +kernel
theorem d_X12_readWay_11 : decode cX12_readWay 11 = .ok (.iaload, 1) := by decide +kernel
theorem d_X12_readWay_12 : decode cX12_readWay 12 = .ok (.iconst 1, 1) := by decide +kernel
theorem d_X12_readWay_13 : decode cX12_readWay 13 = .ok (.isub, 1) := by decide +kernel
theorem d_X12_readWay_14 : decode cX12_readWay 14 = .ok (.invokevirtual 189, 3) := by decide +kernel
theorem d_X12_readWay_17 : decode cX12_readWay 17 = .ok (.istore_n 1, 1) := by decide +kernel
theorem d_X12_readWay_18 : decode cX12_readWay 18 = .ok (.aload_n 0, 1) := by decide +kernel
theorem d_X12_readWay_19 : decode cX12_readWay 19 = .ok (.bipush 23, 2) := by decide +kernel
theorem d_X12_readWay_21 : decode cX12_readWay 21 = .ok (.invokevirtual 138, 3) := by decide +kernel
theorem d_X12_readWay_24 : decode cX12_readWay 24 = .ok (.ifCond .eq 16, 3) := by decide +kernel
theorem d_X12_readWay_27 : decode cX12_readWay 27 = .ok (.aload_n 0, 1) := by decide +kernel
theorem d_X12_readWay_28 : decode cX12_readWay 28 = .ok (.getfield 127, 3) := by decide +kernel
theorem d_X12_readWay_31 : decode cX12_readWay 31 = .ok (.iload_n 1, 1) := by decide +kernel
theorem d_X12_readWay_32 : decode cX12_readWay 32 = .ok (.if_icmp .ne 8, 3) := by decide +kernel
theorem d_X12_readWay_35 : decode cX12_readWay 35 = .ok (.aload_n 0, 1) := by decide +kernel
theorem d_X12_readWay_36 : decode cX12_readWay 36 = .ok (.iconst 3, 1) := by decide +kernel
theorem d_X12_readWay_37 : decode cX12_readWay 37 = .ok (.invokevirtual 144, 3) := by decide +kernel
theorem d_X12_readWay_40 : decode cX12_readWay 40 = .ok (.aload_n 0, 1) := by decide +kernel
theorem d_X12_readWay_41 : decode cX12_readWay 41 = .ok (.iconst 0, 1) := by decide +kernel
theorem d_X12_readWay_42 : decode cX12_readWay 42 = .ok (.aload_n 0, 1) := by decide +kernel
theorem d_X12_readWay_43 : decode cX12_readWay 43 = .ok (.getfield 24, 3) := by decide +kernel
theorem d_X12_readWay_46 : decode cX12_readWay 46 = .ok (.iconst 3, 1) := by decide +kernel
theorem d_X12_readWay_47 : decode cX12_readWay 47 = .ok (.iaload, 1) := by decide +kernel
theorem d_X12_readWay_48 : decode cX12_readWay 48 = .ok (.iconst 1, 1) := by decide +kernel
theorem d_X12_readWay_49 : decode cX12_readWay 49 = .ok (.isub, 1) := by decide +kernel
theorem d_X12_readWay_50 : decode cX12_readWay 50 = .ok (.invokevirtual 189, 3) := by decide +kernel
theorem d_X12_readWay_53 : decode cX12_readWay 53 = .ok (.istore_n 2, 1) := by decide +kernel
theorem d_X12_readWay_54 : decode cX12_readWay 54 = .ok (.aload_n 0, 1) := by decide +kernel
theorem d_X12_readWay_55 : decode cX12_readWay 55 = .ok (.getfield 132, 3) := by decide +kernel
theorem d_X12_readWay_58 : decode cX12_readWay 58 = .ok (.ifCond .eq 4, 3) := by decide +kernel
theorem d_X12_readWay_61 : decode cX12_readWay 61 = .ok (.return_, 1) := by decide +kernel
theorem d_X12_readWay_62 : decode cX12_readWay 62 = .ok (.aload_n 0, 1) := by decide +kernel
theorem d_X12_readWay_63 : decode cX12_readWay 63 = .ok (.getfield 24, 3) := by decide +kernel
theorem d_X12_readWay_66 : decode cX12_readWay 66 = .ok (.bipush 77, 2) := by decide +kernel
theorem d_X12_readWay_68 : decode cX12_readWay 68 = .ok (.iload_n 1, 1) := by decide +kernel
theorem d_X12_readWay_69 : decode cX12_readWay 69 = .ok (.iadd, 1) := by decide +kernel
theorem d_X12_readWay_70 : decode cX12_readWay 70 = .ok (.dup2, 1) := by decide +kernel
theorem d_X12_readWay_71 : decode cX12_readWay 71 = .ok (.iaload, 1) := by decide +kernel
theorem d_X12_readWay_72 : decode cX12_readWay 72 = .ok (.iconst 1, 1) := by decide +kernel
theorem d_X12_readWay_73 : decode cX12_readWay 73 = .ok (.iload_n 2, 1) := by decide +kernel
theorem d_X12_readWay_74 : decode cX12_readWay 74 = .ok (.ishl, 1) := by decide +kernel
theorem d_X12_readWay_75 : decode cX12_readWay 75 = .ok (.ior, 1) := by decide +kernel
theorem d_X12_readWay_76 : decode cX12_readWay 76 = .ok (.iastore, 1) := by decide +kernel
theorem d_X12_readWay_77 : decode cX12_readWay 77 = .ok (.aload_n 0, 1) := by decide +kernel
theorem d_X12_readWay_78 : decode cX12_readWay 78 = .ok (.getfield 24, 3) := by decide +kernel
theorem d_X12_readWay_81 : decode cX12_readWay 81 = .ok (.bipush 77, 2) := by decide +kernel
theorem d_X12_readWay_83 : decode cX12_readWay 83 = .ok (.iload_n 2, 1) := by decide +kernel
theorem d_X12_readWay_84 : decode cX12_readWay 84 = .ok (.iadd, 1) := by decide +kernel
theorem d_X12_readWay_85 : decode cX12_readWay 85 = .ok (.dup2, 1) := by decide +kernel
theorem d_X12_readWay_86 : decode cX12_readWay 86 = .ok (.iaload, 1) := by decide +kernel
theorem d_X12_readWay_87 : decode cX12_readWay 87 = .ok (.iconst 1, 1) := by decide +kernel
theorem d_X12_readWay_88 : decode cX12_readWay 88 = .ok (.iload_n 1, 1) := by decide +kernel
theorem d_X12_readWay_89 : decode cX12_readWay 89 = .ok (.ishl, 1) := by decide +kernel
theorem d_X12_readWay_90 : decode cX12_readWay 90 = .ok (.ior, 1) := by decide +kernel
theorem d_X12_readWay_91 : decode cX12_readWay 91 = .ok (.iastore, 1) := by decide +kernel
theorem d_X12_readWay_92 : decode cX12_readWay 92 = .ok (.return_, 1) := by decide +kernel
def F_X12_readWay_b40 (x0 : Nat) (x1 : Int32) (h : xH) : Option (Unit × xH) := (fR h x0 11 4).bind fun v43 => (aI h v43 3).bind fun v47 => (rc h x0 11).bind fun _ => (F_X12_takes x0 0 (v47 - 1) h).bind fun z50 => (fI z50.2 x0 11 11).bind fun v55 => if v55 = 0 then (fR z50.2 x0 11 4).bind fun v63 => (aI z50.2 v63 (((77 : Int32)) + x1)).bind fun v71 => (sI z50.2 v63 (((77 : Int32)) + x1) (v71 ||| (((1 : Int32)) <<< (z50.1 &&& 31)))).bind fun h76 => (fR h76 x0 11 4).bind fun v78 => (aI h76 v78 (((77 : Int32)) + z50.1)).bind fun v86 => (sI h76 v78 (((77 : Int32)) + z50.1) (v86 ||| (((1 : Int32)) <<< (x1 &&& 31)))).bind fun h91 => some ((), h91) else some ((), z50.2)
theorem R_X12_readWay_b40 {Γ : xG} {l : Launch} {d : Nat} {Q : Option Value → xH → Prop} {r : Unit} {h' : xH} (hdp : 8 ≤ d) (hq : Q (none) h') : ∀ (x0 : Nat) (x1 : Int32) (h : xH), F_X12_readWay_b40 x0 x1 h = some (r, h') → Gd Γ l d m_X12_readWay 40 [.ref x0, .int x1, xhole] [] h 0 0 Q := by
  intro x0 x1 h hF
  unfold F_X12_readWay_b40 at hF
  refine g_aloadn d_X12_readWay_40 rfl ?_
  refine g_ic (0) d_X12_readWay_41 ic_0 ?_
  refine g_aloadn d_X12_readWay_42 rfl ?_
  obtain ⟨v43, e43, hF⟩ := Option.bind_eq_some_iff.mp hF
  refine q_fR d_X12_readWay_43 f_X12_24 e43 ?_
  refine g_ic (3) d_X12_readWay_46 ic_3 ?_
  obtain ⟨v47, e47, hF⟩ := Option.bind_eq_some_iff.mp hF
  refine q_aI d_X12_readWay_47 e47 ?_
  refine g_ic (1) d_X12_readWay_48 ic_1 ?_
  refine g_isub d_X12_readWay_49 ?_
  obtain ⟨_, g50, hF⟩ := Option.bind_eq_some_iff.mp hF
  obtain ⟨⟨r50, h50⟩, e50, hF⟩ := Option.bind_eq_some_iff.mp hF
  try dsimp only at hF
  refine q_callV [.int 0, .int (v47 - 1)] [] rfl d_X12_readWay_50 v_X12_189 (by omega) rfl (Nat.le_of_ble_eq_true rfl) (rc_rc g50 (by decide) rfl) (R_X12_takes _ _ _ _ (by omega) e50) ?_
  refine q_istoren [.ref x0, .int x1, .int (r50)] d_X12_readWay_53 (by decide) rfl ?_
  refine g_aloadn d_X12_readWay_54 rfl ?_
  obtain ⟨v55, e55, hF⟩ := Option.bind_eq_some_iff.mp hF
  refine q_fI d_X12_readWay_55 f_X12_132 e55 ?_
  refine g_if_eq 62 d_X12_readWay_58 rfl (fun c58 => ?_) (fun c58 => ?_)
  · have hF := x_t hF c58
    refine g_aloadn d_X12_readWay_62 rfl ?_
    obtain ⟨v63, e63, hF⟩ := Option.bind_eq_some_iff.mp hF
    refine q_fR d_X12_readWay_63 f_X12_24 e63 ?_
    refine g_bi (77) d_X12_readWay_66 bi_77 ?_
    refine g_iloadn d_X12_readWay_68 rfl ?_
    refine g_iadd d_X12_readWay_69 ?_
    refine g_dup2 d_X12_readWay_70 rfl rfl ?_
    obtain ⟨v71, e71, hF⟩ := Option.bind_eq_some_iff.mp hF
    refine q_aI d_X12_readWay_71 e71 ?_
    refine g_ic (1) d_X12_readWay_72 ic_1 ?_
    refine g_iloadn d_X12_readWay_73 rfl ?_
    refine g_ishl d_X12_readWay_74 ?_
    refine g_ior d_X12_readWay_75 ?_
    obtain ⟨h76, e76, hF⟩ := Option.bind_eq_some_iff.mp hF
    refine q_sI d_X12_readWay_76 e76 ?_
    refine g_aloadn d_X12_readWay_77 rfl ?_
    obtain ⟨v78, e78, hF⟩ := Option.bind_eq_some_iff.mp hF
    refine q_fR d_X12_readWay_78 f_X12_24 e78 ?_
    refine g_bi (77) d_X12_readWay_81 bi_77 ?_
    refine g_iloadn d_X12_readWay_83 rfl ?_
    refine g_iadd d_X12_readWay_84 ?_
    refine g_dup2 d_X12_readWay_85 rfl rfl ?_
    obtain ⟨v86, e86, hF⟩ := Option.bind_eq_some_iff.mp hF
    refine q_aI d_X12_readWay_86 e86 ?_
    refine g_ic (1) d_X12_readWay_87 ic_1 ?_
    refine g_iloadn d_X12_readWay_88 rfl ?_
    refine g_ishl d_X12_readWay_89 ?_
    refine g_ior d_X12_readWay_90 ?_
    obtain ⟨h91, e91, hF⟩ := Option.bind_eq_some_iff.mp hF
    refine q_sI d_X12_readWay_91 e91 ?_
    obtain ⟨rfl, rfl⟩ := x_inj hF
    exact g_vret d_X12_readWay_92 rfl hq
  · have hF := x_f hF c58
    obtain ⟨rfl, rfl⟩ := x_inj hF
    exact g_vret d_X12_readWay_61 rfl hq
def F_X12_readWay (x0 : Nat) (h : xH) : Option (Unit × xH) := (rc h x0 11).bind fun _ => (F_X12_next x0 h).bind fun z1 => (fR z1.2 x0 11 4).bind fun v7 => (aI z1.2 v7 3).bind fun v11 => (rc z1.2 x0 11).bind fun _ => (F_X12_takes x0 0 (v11 - 1) z1.2).bind fun z14 => (rc z14.2 x0 11).bind fun _ => (F_X12_is x0 23 z14.2).bind fun z21 => if z21.1 = 0 then F_X12_readWay_b40 x0 z14.1 z21.2 else (fI z21.2 x0 11 10).bind fun v28 => if ¬ v28 = z14.1 then F_X12_readWay_b40 x0 z14.1 z21.2 else (rc z21.2 x0 11).bind fun _ => (F_X12_fails x0 3 z21.2).bind fun z37 => F_X12_readWay_b40 x0 z14.1 z37.2
theorem R_X12_readWay {Γ : xG} {l : Launch} {d : Nat} {r : Unit} {h' : xH} (x0 : Nat) (h : xH) (hdp : 8 ≤ d) (hF : F_X12_readWay x0 h = some (r, h')) : Gm Γ l d 0 0 m_X12_readWay [.ref x0] h (fun a u => a = none ∧ u = h') := by
  refine Gm.of pn_X12 (Nat.le_of_ble_eq_true rfl) ?_
  show Gd Γ l d m_X12_readWay 0 [.ref x0, xhole, xhole] [] h 0 0 _
  generalize hQ : (fun (a : Option Value) (u : xH) => a = none ∧ u = h') = Q
  have hq : Q (none) h' := by rw [← hQ]; exact ⟨rfl, rfl⟩
  clear hQ
  unfold F_X12_readWay at hF
  refine g_aloadn d_X12_readWay_0 rfl ?_
  obtain ⟨_, g1, hF⟩ := Option.bind_eq_some_iff.mp hF
  obtain ⟨⟨r1, h1⟩, e1, hF⟩ := Option.bind_eq_some_iff.mp hF
  try dsimp only at hF
  refine q_callV [] [] rfl d_X12_readWay_1 v_X12_141 (by omega) rfl (Nat.le_of_ble_eq_true rfl) (rc_rc g1 (by decide) rfl) (R_X12_next _ _ (by omega) e1) ?_
  refine g_aloadn d_X12_readWay_4 rfl ?_
  refine g_ic (0) d_X12_readWay_5 ic_0 ?_
  refine g_aloadn d_X12_readWay_6 rfl ?_
  obtain ⟨v7, e7, hF⟩ := Option.bind_eq_some_iff.mp hF
  refine q_fR d_X12_readWay_7 f_X12_24 e7 ?_
  refine g_ic (3) d_X12_readWay_10 ic_3 ?_
  obtain ⟨v11, e11, hF⟩ := Option.bind_eq_some_iff.mp hF
  refine q_aI d_X12_readWay_11 e11 ?_
  refine g_ic (1) d_X12_readWay_12 ic_1 ?_
  refine g_isub d_X12_readWay_13 ?_
  obtain ⟨_, g14, hF⟩ := Option.bind_eq_some_iff.mp hF
  obtain ⟨⟨r14, h14⟩, e14, hF⟩ := Option.bind_eq_some_iff.mp hF
  try dsimp only at hF
  refine q_callV [.int 0, .int (v11 - 1)] [] rfl d_X12_readWay_14 v_X12_189 (by omega) rfl (Nat.le_of_ble_eq_true rfl) (rc_rc g14 (by decide) rfl) (R_X12_takes _ _ _ _ (by omega) e14) ?_
  refine q_istoren [.ref x0, .int (r14), xhole] d_X12_readWay_17 (by decide) rfl ?_
  refine g_aloadn d_X12_readWay_18 rfl ?_
  refine g_bi (23) d_X12_readWay_19 bi_23 ?_
  obtain ⟨_, g21, hF⟩ := Option.bind_eq_some_iff.mp hF
  obtain ⟨⟨r21, h21⟩, e21, hF⟩ := Option.bind_eq_some_iff.mp hF
  try dsimp only at hF
  refine q_callV [.int 23] [] rfl d_X12_readWay_21 v_X12_138 (by omega) rfl (Nat.le_of_ble_eq_true rfl) (rc_rc g21 (by decide) rfl) (R_X12_is _ _ _ (by omega) e21) ?_
  refine g_if_eq 40 d_X12_readWay_24 rfl (fun c24 => ?_) (fun c24 => ?_)
  · have hF := x_t hF c24
    exact q_to (xs_r (xs_r (xs_h xs_n))) (R_X12_readWay_b40 hdp hq _ _ _ hF)
  · have hF := x_f hF c24
    refine g_aloadn d_X12_readWay_27 rfl ?_
    obtain ⟨v28, e28, hF⟩ := Option.bind_eq_some_iff.mp hF
    refine q_fI d_X12_readWay_28 f_X12_127 e28 ?_
    refine g_iloadn d_X12_readWay_31 rfl ?_
    refine g_icmp_ne 40 d_X12_readWay_32 rfl (fun c32 => ?_) (fun c32 => ?_)
    · have hF := x_t hF c32
      exact q_to (xs_r (xs_r (xs_h xs_n))) (R_X12_readWay_b40 hdp hq _ _ _ hF)
    · have hF := x_f hF (not_not_intro c32)
      refine g_aloadn d_X12_readWay_35 rfl ?_
      refine g_ic (3) d_X12_readWay_36 ic_3 ?_
      obtain ⟨_, g37, hF⟩ := Option.bind_eq_some_iff.mp hF
      obtain ⟨⟨r37, h37⟩, e37, hF⟩ := Option.bind_eq_some_iff.mp hF
      try dsimp only at hF
      refine q_callV [.int 3] [] rfl d_X12_readWay_37 v_X12_144 (by omega) rfl (Nat.le_of_ble_eq_true rfl) (rc_rc g37 (by decide) rfl) (R_X12_fails _ _ _ (by omega) e37) ?_
      exact q_to (xs_r (xs_r (xs_h xs_n))) (R_X12_readWay_b40 hdp hq _ _ _ hF)
theorem d_X12_readFlag_0 : decode cX12_readFlag 0 = .ok (.aload_n 0, 1) := by decide +kernel
theorem d_X12_readFlag_1 : decode cX12_readFlag 1 = .ok (.bipush 6, 2) := by decide +kernel
theorem d_X12_readFlag_3 : decode cX12_readFlag 3 = .ok (.invokevirtual 171, 3) := by decide +kernel
theorem d_X12_readFlag_6 : decode cX12_readFlag 6 = .ok (.ifCond .eq 28, 3) := by decide +kernel
theorem d_X12_readFlag_9 : decode cX12_readFlag 9 = .ok (.aload_n 0, 1) := by decide +kernel
theorem d_X12_readFlag_10 : decode cX12_readFlag 10 = .ok (.getfield 24, 3) := by decide +kernel
theorem d_X12_readFlag_13 : decode cX12_readFlag 13 = .ok (.bipush 121, 2) := by decide +kernel
theorem d_X12_readFlag_15 : decode cX12_readFlag 15 = .ok (.iload_n 1, 1) := by decide +kernel
theorem d_X12_readFlag_16 : decode cX12_readFlag 16 = .ok (.iadd, 1) := by decide +kernel
theorem d_X12_readFlag_17 : decode cX12_readFlag 17 = .ok (.aload_n 0, 1) := by decide +kernel
theorem d_X12_readFlag_18 : decode cX12_readFlag 18 = .ok (.iconst 0, 1) := by decide +kernel
theorem d_X12_readFlag_19 : decode cX12_readFlag 19 = .ok (.aload_n 0, 1) := by decide +kernel
theorem d_X12_readFlag_20 : decode cX12_readFlag 20 = .ok (.getfield 24, 3) := by decide +kernel
theorem d_X12_readFlag_23 : decode cX12_readFlag 23 = .ok (.iconst 1, 1) := by decide +kernel
theorem d_X12_readFlag_24 : decode cX12_readFlag 24 = .ok (.iaload, 1) := by decide +kernel
theorem d_X12_readFlag_25 : decode cX12_readFlag 25 = .ok (.iconst 1, 1) := by decide +kernel
theorem d_X12_readFlag_26 : decode cX12_readFlag 26 = .ok (.isub, 1) := by decide +kernel
theorem d_X12_readFlag_27 : decode cX12_readFlag 27 = .ok (.invokevirtual 189, 3) := by decide +kernel
theorem d_X12_readFlag_30 : decode cX12_readFlag 30 = .ok (.iastore, 1) := by decide +kernel
theorem d_X12_readFlag_31 : decode cX12_readFlag 31 = .ok (.goto 58, 3) := by decide +kernel
theorem d_X12_readFlag_34 : decode cX12_readFlag 34 = .ok (.aload_n 0, 1) := by decide +kernel
theorem d_X12_readFlag_35 : decode cX12_readFlag 35 = .ok (.bipush 7, 2) := by decide +kernel
theorem d_X12_readFlag_37 : decode cX12_readFlag 37 = .ok (.invokevirtual 171, 3) := by decide +kernel
theorem d_X12_readFlag_40 : decode cX12_readFlag 40 = .ok (.ifCond .eq 22, 3) := by decide +kernel
theorem d_X12_readFlag_43 : decode cX12_readFlag 43 = .ok (.aload_n 0, 1) := by decide +kernel
theorem d_X12_readFlag_44 : decode cX12_readFlag 44 = .ok (.getfield 24, 3) := by decide +kernel
theorem d_X12_readFlag_47 : decode cX12_readFlag 47 = .ok (.bipush 115, 2) := by decide +kernel
theorem d_X12_readFlag_49 : decode cX12_readFlag 49 = .ok (.iload_n 1, 1) := by decide +kernel
theorem d_X12_readFlag_50 : decode cX12_readFlag 50 = .ok (.iadd, 1) := by decide +kernel
theorem d_X12_readFlag_51 : decode cX12_readFlag 51 = .ok (.aload_n 0, 1) := by decide +kernel
theorem d_X12_readFlag_52 : decode cX12_readFlag 52 = .ok (.iconst 0, 1) := by decide +kernel
theorem d_X12_readFlag_53 : decode cX12_readFlag 53 = .ok (.bipush 9, 2) := by decide +kernel
theorem d_X12_readFlag_55 : decode cX12_readFlag 55 = .ok (.invokevirtual 189, 3) := by decide +kernel
theorem d_X12_readFlag_58 : decode cX12_readFlag 58 = .ok (.iastore, 1) := by decide +kernel
theorem d_X12_readFlag_59 : decode cX12_readFlag 59 = .ok (.goto 30, 3) := by decide +kernel
theorem d_X12_readFlag_62 : decode cX12_readFlag 62 = .ok (.aload_n 0, 1) := by decide +kernel
theorem d_X12_readFlag_63 : decode cX12_readFlag 63 = .ok (.bipush 8, 2) := by decide +kernel
theorem d_X12_readFlag_65 : decode cX12_readFlag 65 = .ok (.invokevirtual 171, 3) := by decide +kernel
theorem d_X12_readFlag_68 : decode cX12_readFlag 68 = .ok (.ifCond .eq 19, 3) := by decide +kernel
theorem d_X12_readFlag_71 : decode cX12_readFlag 71 = .ok (.aload_n 0, 1) := by decide +kernel
theorem d_X12_readFlag_72 : decode cX12_readFlag 72 = .ok (.getfield 24, 3) := by decide +kernel
theorem d_X12_readFlag_75 : decode cX12_readFlag 75 = .ok (.bipush 108, 2) := by decide +kernel
theorem d_X12_readFlag_77 : decode cX12_readFlag 77 = .ok (.dup2, 1) := by decide +kernel
theorem d_X12_readFlag_78 : decode cX12_readFlag 78 = .ok (.iaload, 1) := by decide +kernel
theorem d_X12_readFlag_79 : decode cX12_readFlag 79 = .ok (.iconst 1, 1) := by decide +kernel
theorem d_X12_readFlag_80 : decode cX12_readFlag 80 = .ok (.iload_n 1, 1) := by decide +kernel
theorem d_X12_readFlag_81 : decode cX12_readFlag 81 = .ok (.ishl, 1) := by decide +kernel
theorem d_X12_readFlag_82 : decode cX12_readFlag 82 = .ok (.ior, 1) := by decide +kernel
theorem d_X12_readFlag_83 : decode cX12_readFlag 83 = .ok (.iastore, 1) := by decide +kernel
theorem d_X12_readFlag_84 : decode cX12_readFlag 84 = .ok (.goto 5, 3) := by decide +kernel
theorem d_X12_readFlag_87 : decode cX12_readFlag 87 = .ok (.iconst 0, 1) := by decide +kernel
theorem d_X12_readFlag_88 : decode cX12_readFlag 88 = .ok (.ireturn, 1) := by decide +kernel
theorem d_X12_readFlag_89 : decode cX12_readFlag 89 = .ok (.aload_n 0, 1) := by decide +kernel
theorem d_X12_readFlag_90 : decode cX12_readFlag 90 = .ok (.getfield 132, 3) := by decide +kernel
theorem d_X12_readFlag_93 : decode cX12_readFlag 93 = .ok (.ifCond .ne 7, 3) := by decide +kernel
theorem d_X12_readFlag_96 : decode cX12_readFlag 96 = .ok (.iconst 1, 1) := by decide +kernel
theorem d_X12_readFlag_97 : decode cX12_readFlag 97 = .ok (.goto 4, 3) := by decide +kernel
theorem d_X12_readFlag_100 : decode cX12_readFlag 100 = .ok (.iconst 0, 1) := by decide +kernel
theorem d_X12_readFlag_101 : decode cX12_readFlag 101 = .ok (.ireturn, 1) := by decide +kernel
def F_X12_readFlag_b89 (x0 : Nat) (h : xH) : Option (Int32 × xH) := (fI h x0 11 11).bind fun v90 => if ¬ v90 = 0 then some (0, h) else some (1, h)
theorem R_X12_readFlag_b89 {Γ : xG} {l : Launch} {d : Nat} {Q : Option Value → xH → Prop} {r : Int32} {h' : xH} (hdp : 8 ≤ d) (hq : Q (some (.int r)) h') : ∀ (x0 : Nat) (h : xH), F_X12_readFlag_b89 x0 h = some (r, h') → Gd Γ l d m_X12_readFlag 89 [.ref x0, xhole] [] h 0 0 Q := by
  intro x0 h hF
  unfold F_X12_readFlag_b89 at hF
  refine g_aloadn d_X12_readFlag_89 rfl ?_
  obtain ⟨v90, e90, hF⟩ := Option.bind_eq_some_iff.mp hF
  refine q_fI d_X12_readFlag_90 f_X12_132 e90 ?_
  refine g_if_ne 100 d_X12_readFlag_93 rfl (fun c93 => ?_) (fun c93 => ?_)
  · have hF := x_t hF c93
    refine g_ic (0) d_X12_readFlag_100 ic_0 ?_
    obtain ⟨rfl, rfl⟩ := x_inj hF
    exact g_zret d_X12_readFlag_101 rfl rfl hq
  · have hF := x_f hF (not_not_intro c93)
    refine g_ic (1) d_X12_readFlag_96 ic_1 ?_
    refine g_goto 101 d_X12_readFlag_97 rfl ?_
    obtain ⟨rfl, rfl⟩ := x_inj hF
    exact g_zret d_X12_readFlag_101 rfl rfl hq
def F_X12_readFlag (x0 : Nat) (x1 : Int32) (h : xH) : Option (Int32 × xH) := (rc h x0 11).bind fun _ => (F_X12_eats x0 6 h).bind fun z3 => if z3.1 = 0 then (rc z3.2 x0 11).bind fun _ => (F_X12_eats x0 7 z3.2).bind fun z37 => if z37.1 = 0 then (rc z37.2 x0 11).bind fun _ => (F_X12_eats x0 8 z37.2).bind fun z65 => if z65.1 = 0 then some (0, z65.2) else (fR z65.2 x0 11 4).bind fun v72 => (aI z65.2 v72 108).bind fun v78 => (sI z65.2 v72 108 (v78 ||| (((1 : Int32)) <<< (x1 &&& 31)))).bind fun h83 => F_X12_readFlag_b89 x0 h83 else (fR z37.2 x0 11 4).bind fun v44 => (rc z37.2 x0 11).bind fun _ => (F_X12_takes x0 0 9 z37.2).bind fun z55 => (sI z55.2 v44 (((115 : Int32)) + x1) z55.1).bind fun h58 => F_X12_readFlag_b89 x0 h58 else (fR z3.2 x0 11 4).bind fun v10 => (fR z3.2 x0 11 4).bind fun v20 => (aI z3.2 v20 1).bind fun v24 => (rc z3.2 x0 11).bind fun _ => (F_X12_takes x0 0 (v24 - 1) z3.2).bind fun z27 => (sI z27.2 v10 (((121 : Int32)) + x1) z27.1).bind fun h30 => F_X12_readFlag_b89 x0 h30
theorem R_X12_readFlag {Γ : xG} {l : Launch} {d : Nat} {r : Int32} {h' : xH} (x0 : Nat) (x1 : Int32) (h : xH) (hdp : 8 ≤ d) (hF : F_X12_readFlag x0 x1 h = some (r, h')) : Gm Γ l d 0 0 m_X12_readFlag [.ref x0, .int x1] h (fun a u => a = some (.int r) ∧ u = h') := by
  refine Gm.of pn_X12 (Nat.le_of_ble_eq_true rfl) ?_
  show Gd Γ l d m_X12_readFlag 0 [.ref x0, .int x1] [] h 0 0 _
  generalize hQ : (fun (a : Option Value) (u : xH) => a = some (.int r) ∧ u = h') = Q
  have hq : Q (some (.int r)) h' := by rw [← hQ]; exact ⟨rfl, rfl⟩
  clear hQ
  unfold F_X12_readFlag at hF
  refine g_aloadn d_X12_readFlag_0 rfl ?_
  refine g_bi (6) d_X12_readFlag_1 bi_6 ?_
  obtain ⟨_, g3, hF⟩ := Option.bind_eq_some_iff.mp hF
  obtain ⟨⟨r3, h3⟩, e3, hF⟩ := Option.bind_eq_some_iff.mp hF
  try dsimp only at hF
  refine q_callV [.int 6] [] rfl d_X12_readFlag_3 v_X12_171 (by omega) rfl (Nat.le_of_ble_eq_true rfl) (rc_rc g3 (by decide) rfl) (R_X12_eats _ _ _ (by omega) e3) ?_
  refine g_if_eq 34 d_X12_readFlag_6 rfl (fun c6 => ?_) (fun c6 => ?_)
  · have hF := x_t hF c6
    refine g_aloadn d_X12_readFlag_34 rfl ?_
    refine g_bi (7) d_X12_readFlag_35 bi_7 ?_
    obtain ⟨_, g37, hF⟩ := Option.bind_eq_some_iff.mp hF
    obtain ⟨⟨r37, h37⟩, e37, hF⟩ := Option.bind_eq_some_iff.mp hF
    try dsimp only at hF
    refine q_callV [.int 7] [] rfl d_X12_readFlag_37 v_X12_171 (by omega) rfl (Nat.le_of_ble_eq_true rfl) (rc_rc g37 (by decide) rfl) (R_X12_eats _ _ _ (by omega) e37) ?_
    refine g_if_eq 62 d_X12_readFlag_40 rfl (fun c40 => ?_) (fun c40 => ?_)
    · have hF := x_t hF c40
      refine g_aloadn d_X12_readFlag_62 rfl ?_
      refine g_bi (8) d_X12_readFlag_63 bi_8 ?_
      obtain ⟨_, g65, hF⟩ := Option.bind_eq_some_iff.mp hF
      obtain ⟨⟨r65, h65⟩, e65, hF⟩ := Option.bind_eq_some_iff.mp hF
      try dsimp only at hF
      refine q_callV [.int 8] [] rfl d_X12_readFlag_65 v_X12_171 (by omega) rfl (Nat.le_of_ble_eq_true rfl) (rc_rc g65 (by decide) rfl) (R_X12_eats _ _ _ (by omega) e65) ?_
      refine g_if_eq 87 d_X12_readFlag_68 rfl (fun c68 => ?_) (fun c68 => ?_)
      · have hF := x_t hF c68
        refine g_ic (0) d_X12_readFlag_87 ic_0 ?_
        obtain ⟨rfl, rfl⟩ := x_inj hF
        exact g_zret d_X12_readFlag_88 rfl rfl hq
      · have hF := x_f hF c68
        refine g_aloadn d_X12_readFlag_71 rfl ?_
        obtain ⟨v72, e72, hF⟩ := Option.bind_eq_some_iff.mp hF
        refine q_fR d_X12_readFlag_72 f_X12_24 e72 ?_
        refine g_bi (108) d_X12_readFlag_75 bi_108 ?_
        refine g_dup2 d_X12_readFlag_77 rfl rfl ?_
        obtain ⟨v78, e78, hF⟩ := Option.bind_eq_some_iff.mp hF
        refine q_aI d_X12_readFlag_78 e78 ?_
        refine g_ic (1) d_X12_readFlag_79 ic_1 ?_
        refine g_iloadn d_X12_readFlag_80 rfl ?_
        refine g_ishl d_X12_readFlag_81 ?_
        refine g_ior d_X12_readFlag_82 ?_
        obtain ⟨h83, e83, hF⟩ := Option.bind_eq_some_iff.mp hF
        refine q_sI d_X12_readFlag_83 e83 ?_
        refine g_goto 89 d_X12_readFlag_84 rfl ?_
        exact q_to (xs_r (xs_h xs_n)) (R_X12_readFlag_b89 hdp hq _ _ hF)
    · have hF := x_f hF c40
      refine g_aloadn d_X12_readFlag_43 rfl ?_
      obtain ⟨v44, e44, hF⟩ := Option.bind_eq_some_iff.mp hF
      refine q_fR d_X12_readFlag_44 f_X12_24 e44 ?_
      refine g_bi (115) d_X12_readFlag_47 bi_115 ?_
      refine g_iloadn d_X12_readFlag_49 rfl ?_
      refine g_iadd d_X12_readFlag_50 ?_
      refine g_aloadn d_X12_readFlag_51 rfl ?_
      refine g_ic (0) d_X12_readFlag_52 ic_0 ?_
      refine g_bi (9) d_X12_readFlag_53 bi_9 ?_
      obtain ⟨_, g55, hF⟩ := Option.bind_eq_some_iff.mp hF
      obtain ⟨⟨r55, h55⟩, e55, hF⟩ := Option.bind_eq_some_iff.mp hF
      try dsimp only at hF
      refine q_callV [.int 0, .int 9] [.int (((115 : Int32)) + x1), .ref v44] rfl d_X12_readFlag_55 v_X12_189 (by omega) rfl (Nat.le_of_ble_eq_true rfl) (rc_rc g55 (by decide) rfl) (R_X12_takes _ _ _ _ (by omega) e55) ?_
      obtain ⟨h58, e58, hF⟩ := Option.bind_eq_some_iff.mp hF
      refine q_sI d_X12_readFlag_58 e58 ?_
      refine g_goto 89 d_X12_readFlag_59 rfl ?_
      exact q_to (xs_r (xs_h xs_n)) (R_X12_readFlag_b89 hdp hq _ _ hF)
  · have hF := x_f hF c6
    refine g_aloadn d_X12_readFlag_9 rfl ?_
    obtain ⟨v10, e10, hF⟩ := Option.bind_eq_some_iff.mp hF
    refine q_fR d_X12_readFlag_10 f_X12_24 e10 ?_
    refine g_bi (121) d_X12_readFlag_13 bi_121 ?_
    refine g_iloadn d_X12_readFlag_15 rfl ?_
    refine g_iadd d_X12_readFlag_16 ?_
    refine g_aloadn d_X12_readFlag_17 rfl ?_
    refine g_ic (0) d_X12_readFlag_18 ic_0 ?_
    refine g_aloadn d_X12_readFlag_19 rfl ?_
    obtain ⟨v20, e20, hF⟩ := Option.bind_eq_some_iff.mp hF
    refine q_fR d_X12_readFlag_20 f_X12_24 e20 ?_
    refine g_ic (1) d_X12_readFlag_23 ic_1 ?_
    obtain ⟨v24, e24, hF⟩ := Option.bind_eq_some_iff.mp hF
    refine q_aI d_X12_readFlag_24 e24 ?_
    refine g_ic (1) d_X12_readFlag_25 ic_1 ?_
    refine g_isub d_X12_readFlag_26 ?_
    obtain ⟨_, g27, hF⟩ := Option.bind_eq_some_iff.mp hF
    obtain ⟨⟨r27, h27⟩, e27, hF⟩ := Option.bind_eq_some_iff.mp hF
    try dsimp only at hF
    refine q_callV [.int 0, .int (v24 - 1)] [.int (((121 : Int32)) + x1), .ref v10] rfl d_X12_readFlag_27 v_X12_189 (by omega) rfl (Nat.le_of_ble_eq_true rfl) (rc_rc g27 (by decide) rfl) (R_X12_takes _ _ _ _ (by omega) e27) ?_
    obtain ⟨h30, e30, hF⟩ := Option.bind_eq_some_iff.mp hF
    refine q_sI d_X12_readFlag_30 e30 ?_
    refine g_goto 89 d_X12_readFlag_31 rfl ?_
    exact q_to (xs_r (xs_h xs_n)) (R_X12_readFlag_b89 hdp hq _ _ hF)
theorem d_X12_readPerson_0 : decode cX12_readPerson 0 = .ok (.aload_n 0, 1) := by decide +kernel
theorem d_X12_readPerson_1 : decode cX12_readPerson 1 = .ok (.getfield 24, 3) := by decide +kernel
theorem d_X12_readPerson_4 : decode cX12_readPerson 4 = .ok (.iconst 4, 1) := by decide +kernel
theorem d_X12_readPerson_5 : decode cX12_readPerson 5 = .ok (.iaload, 1) := by decide +kernel
theorem d_X12_readPerson_6 : decode cX12_readPerson 6 = .ok (.istore_n 1, 1) := by decide +kernel
theorem d_X12_readPerson_7 : decode cX12_readPerson 7 = .ok (.iload_n 1, 1) := by decide +kernel
theorem d_X12_readPerson_8 : decode cX12_readPerson 8 = .ok (.bipush 6, 2) := by decide +kernel
theorem d_X12_readPerson_10 : decode cX12_readPerson 10 = .ok (.if_icmp .ne 8, 3) := by decide +kernel
theorem d_X12_readPerson_13 : decode cX12_readPerson 13 = .ok (.aload_n 0, 1) := by decide +kernel
theorem d_X12_readPerson_14 : decode cX12_readPerson 14 = .ok (.iconst 4, 1) := by decide +kernel
theorem d_X12_readPerson_15 : decode cX12_readPerson 15 = .ok (.invokevirtual 144, 3) := by decide +kernel
theorem d_X12_readPerson_18 : decode cX12_readPerson 18 = .ok (.aload_n 0, 1) := by decide +kernel
theorem d_X12_readPerson_19 : decode cX12_readPerson 19 = .ok (.getfield 132, 3) := by decide +kernel
theorem d_X12_readPerson_22 : decode cX12_readPerson 22 = .ok (.ifCond .eq 4, 3) := by decide +kernel
theorem d_X12_readPerson_25 : decode cX12_readPerson 25 = .ok (.return_, 1) := by decide +kernel
theorem d_X12_readPerson_26 : decode cX12_readPerson 26 = .ok (.aload_n 0, 1) := by decide +kernel
theorem d_X12_readPerson_27 : decode cX12_readPerson 27 = .ok (.invokevirtual 141, 3) := by decide +kernel
theorem d_X12_readPerson_30 : decode cX12_readPerson 30 = .ok (.aload_n 0, 1) := by decide +kernel
theorem d_X12_readPerson_31 : decode cX12_readPerson 31 = .ok (.iconst 5, 1) := by decide +kernel
theorem d_X12_readPerson_32 : decode cX12_readPerson 32 = .ok (.invokevirtual 171, 3) := by decide +kernel
theorem d_X12_readPerson_35 : decode cX12_readPerson 35 = .ok (.ifCond .ne 8, 3) := by decide +kernel
theorem d_X12_readPerson_38 : decode cX12_readPerson 38 = .ok (.aload_n 0, 1) := by decide +kernel
theorem d_X12_readPerson_39 : decode cX12_readPerson 39 = .ok (.iconst 2, 1) := by decide +kernel
theorem d_X12_readPerson_40 : decode cX12_readPerson 40 = .ok (.invokevirtual 144, 3) := by decide +kernel
theorem d_X12_readPerson_43 : decode cX12_readPerson 43 = .ok (.aload_n 0, 1) := by decide +kernel
theorem d_X12_readPerson_44 : decode cX12_readPerson 44 = .ok (.getfield 24, 3) := by decide +kernel
theorem d_X12_readPerson_47 : decode cX12_readPerson 47 = .ok (.bipush 109, 2) := by decide +kernel
theorem d_X12_readPerson_49 : decode cX12_readPerson 49 = .ok (.iload_n 1, 1) := by decide +kernel
theorem d_X12_readPerson_50 : decode cX12_readPerson 50 = .ok (.iadd, 1) := by decide +kernel
theorem d_X12_readPerson_51 : decode cX12_readPerson 51 = .ok (.aload_n 0, 1) := by decide +kernel
theorem d_X12_readPerson_52 : decode cX12_readPerson 52 = .ok (.iconst 0, 1) := by decide +kernel
theorem d_X12_readPerson_53 : decode cX12_readPerson 53 = .ok (.aload_n 0, 1) := by decide +kernel
theorem d_X12_readPerson_54 : decode cX12_readPerson 54 = .ok (.getfield 24, 3) := by decide +kernel
theorem d_X12_readPerson_57 : decode cX12_readPerson 57 = .ok (.iconst 3, 1) := by decide +kernel
theorem d_X12_readPerson_58 : decode cX12_readPerson 58 = .ok (.iaload, 1) := by decide +kernel
theorem d_X12_readPerson_59 : decode cX12_readPerson 59 = .ok (.iconst 1, 1) := by decide +kernel
theorem d_X12_readPerson_60 : decode cX12_readPerson 60 = .ok (.isub, 1) := by decide +kernel
theorem d_X12_readPerson_61 : decode cX12_readPerson 61 = .ok (.invokevirtual 189, 3) := by decide +kernel
theorem d_X12_readPerson_64 : decode cX12_readPerson 64 = .ok (.iastore, 1) := by decide +kernel
theorem d_X12_readPerson_65 : decode cX12_readPerson 65 = .ok (.aload_n 0, 1) := by decide +kernel
theorem d_X12_readPerson_66 : decode cX12_readPerson 66 = .ok (.getfield 132, 3) := by decide +kernel
theorem d_X12_readPerson_69 : decode cX12_readPerson 69 = .ok (.ifCond .ne 14, 3) := by decide +kernel
theorem d_X12_readPerson_72 : decode cX12_readPerson 72 = .ok (.aload_n 0, 1) := by decide +kernel
theorem d_X12_readPerson_73 : decode cX12_readPerson 73 = .ok (.iload_n 1, 1) := by decide +kernel
theorem d_X12_readPerson_74 : decode cX12_readPerson 74 = .ok (.invokevirtual 193, 3) := by decide +kernel
theorem d_X12_readPerson_77 : decode cX12_readPerson 77 = .ok (.ifCond .eq 6, 3) := by decide +kernel
theorem d_X12_readPerson_80 : decode cX12_readPerson 80 = .ok (.goto (-15), 3) := by decide +kernel
theorem d_X12_readPerson_83 : decode cX12_readPerson 83 = .ok (.aload_n 0, 1) := by decide +kernel
theorem d_X12_readPerson_84 : decode cX12_readPerson 84 = .ok (.getfield 132, 3) := by decide +kernel
theorem d_X12_readPerson_87 : decode cX12_readPerson 87 = .ok (.ifCond .ne 13, 3) := by decide +kernel
theorem d_X12_readPerson_90 : decode cX12_readPerson 90 = .ok (.aload_n 0, 1) := by decide +kernel
theorem d_X12_readPerson_91 : decode cX12_readPerson 91 = .ok (.getfield 24, 3) := by decide +kernel
theorem d_X12_readPerson_94 : decode cX12_readPerson 94 = .ok (.iconst 4, 1) := by decide +kernel
theorem d_X12_readPerson_95 : decode cX12_readPerson 95 = .ok (.dup2, 1) := by decide +kernel
theorem d_X12_readPerson_96 : decode cX12_readPerson 96 = .ok (.iaload, 1) := by decide +kernel
theorem d_X12_readPerson_97 : decode cX12_readPerson 97 = .ok (.iconst 1, 1) := by decide +kernel
theorem d_X12_readPerson_98 : decode cX12_readPerson 98 = .ok (.iadd, 1) := by decide +kernel
theorem d_X12_readPerson_99 : decode cX12_readPerson 99 = .ok (.iastore, 1) := by decide +kernel
theorem d_X12_readPerson_100 : decode cX12_readPerson 100 = .ok (.return_, 1) := by decide +kernel
def F_X12_readPerson_b83 (x0 : Nat) (h : xH) : Option (Unit × xH) := (fI h x0 11 11).bind fun v84 => if ¬ v84 = 0 then some ((), h) else (fR h x0 11 4).bind fun v91 => (aI h v91 4).bind fun v96 => (sI h v91 4 (v96 + 1)).bind fun h99 => some ((), h99)
theorem R_X12_readPerson_b83 {Γ : xG} {l : Launch} {d : Nat} {Q : Option Value → xH → Prop} {r : Unit} {h' : xH} (hdp : 9 ≤ d) (hq : Q (none) h') : ∀ (x0 : Nat) (h : xH), F_X12_readPerson_b83 x0 h = some (r, h') → Gd Γ l d m_X12_readPerson 83 [.ref x0, xhole] [] h 0 0 Q := by
  intro x0 h hF
  unfold F_X12_readPerson_b83 at hF
  refine g_aloadn d_X12_readPerson_83 rfl ?_
  obtain ⟨v84, e84, hF⟩ := Option.bind_eq_some_iff.mp hF
  refine q_fI d_X12_readPerson_84 f_X12_132 e84 ?_
  refine g_if_ne 100 d_X12_readPerson_87 rfl (fun c87 => ?_) (fun c87 => ?_)
  · have hF := x_t hF c87
    obtain ⟨rfl, rfl⟩ := x_inj hF
    exact g_vret d_X12_readPerson_100 rfl hq
  · have hF := x_f hF (not_not_intro c87)
    refine g_aloadn d_X12_readPerson_90 rfl ?_
    obtain ⟨v91, e91, hF⟩ := Option.bind_eq_some_iff.mp hF
    refine q_fR d_X12_readPerson_91 f_X12_24 e91 ?_
    refine g_ic (4) d_X12_readPerson_94 ic_4 ?_
    refine g_dup2 d_X12_readPerson_95 rfl rfl ?_
    obtain ⟨v96, e96, hF⟩ := Option.bind_eq_some_iff.mp hF
    refine q_aI d_X12_readPerson_96 e96 ?_
    refine g_ic (1) d_X12_readPerson_97 ic_1 ?_
    refine g_iadd d_X12_readPerson_98 ?_
    obtain ⟨h99, e99, hF⟩ := Option.bind_eq_some_iff.mp hF
    refine q_sI d_X12_readPerson_99 e99 ?_
    obtain ⟨rfl, rfl⟩ := x_inj hF
    exact g_vret d_X12_readPerson_100 rfl hq
def F_X12_readPerson_b65 : Nat → Nat → Int32 → xH → Option (Unit × xH)
  | 0, _, _, _ => none
  | n + 1, x0, x1, h => (fI h x0 11 11).bind fun v66 => if ¬ v66 = 0 then F_X12_readPerson_b83 x0 h else (rc h x0 11).bind fun _ => (F_X12_readFlag x0 x1 h).bind fun z74 => if z74.1 = 0 then F_X12_readPerson_b83 x0 z74.2 else F_X12_readPerson_b65 n x0 x1 z74.2
theorem R_X12_readPerson_b65 {Γ : xG} {l : Launch} {d : Nat} {Q : Option Value → xH → Prop} {r : Unit} {h' : xH} (hdp : 9 ≤ d) (hq : Q (none) h') : ∀ (n : Nat) (x0 : Nat) (x1 : Int32) (h : xH), F_X12_readPerson_b65 n x0 x1 h = some (r, h') → Gd Γ l d m_X12_readPerson 65 [.ref x0, .int x1] [] h 0 0 Q := by
  intro n
  induction n with
  | zero => intro x0 x1 h hF; cases hF
  | succ n ih =>
  intro x0 x1 h hF
  rw [F_X12_readPerson_b65] at hF
  refine g_aloadn d_X12_readPerson_65 rfl ?_
  obtain ⟨v66, e66, hF⟩ := Option.bind_eq_some_iff.mp hF
  refine q_fI d_X12_readPerson_66 f_X12_132 e66 ?_
  refine g_if_ne 83 d_X12_readPerson_69 rfl (fun c69 => ?_) (fun c69 => ?_)
  · have hF := x_t hF c69
    exact q_to (xs_r (xs_h xs_n)) (R_X12_readPerson_b83 hdp hq _ _ hF)
  · have hF := x_f hF (not_not_intro c69)
    refine g_aloadn d_X12_readPerson_72 rfl ?_
    refine g_iloadn d_X12_readPerson_73 rfl ?_
    obtain ⟨_, g74, hF⟩ := Option.bind_eq_some_iff.mp hF
    obtain ⟨⟨r74, h74⟩, e74, hF⟩ := Option.bind_eq_some_iff.mp hF
    try dsimp only at hF
    refine q_callV [.int x1] [] rfl d_X12_readPerson_74 v_X12_193 (by omega) rfl (Nat.le_of_ble_eq_true rfl) (rc_rc g74 (by decide) rfl) (R_X12_readFlag _ _ _ (by omega) e74) ?_
    refine g_if_eq 83 d_X12_readPerson_77 rfl (fun c77 => ?_) (fun c77 => ?_)
    · have hF := x_t hF c77
      exact q_to (xs_r (xs_h xs_n)) (R_X12_readPerson_b83 hdp hq _ _ hF)
    · have hF := x_f hF c77
      refine g_goto 65 d_X12_readPerson_80 rfl ?_
      exact q_to (xs_r (xs_r xs_n)) (ih _ _ _ hF)
def F_X12_readPerson_b43 (x0 : Nat) (x1 : Int32) (h : xH) : Option (Unit × xH) := (fR h x0 11 4).bind fun v44 => (fR h x0 11 4).bind fun v54 => (aI h v54 3).bind fun v58 => (rc h x0 11).bind fun _ => (F_X12_takes x0 0 (v58 - 1) h).bind fun z61 => (sI z61.2 v44 (((109 : Int32)) + x1) z61.1).bind fun h64 => F_X12_readPerson_b65 FU x0 x1 h64
theorem R_X12_readPerson_b43 {Γ : xG} {l : Launch} {d : Nat} {Q : Option Value → xH → Prop} {r : Unit} {h' : xH} (hdp : 9 ≤ d) (hq : Q (none) h') : ∀ (x0 : Nat) (x1 : Int32) (h : xH), F_X12_readPerson_b43 x0 x1 h = some (r, h') → Gd Γ l d m_X12_readPerson 43 [.ref x0, .int x1] [] h 0 0 Q := by
  intro x0 x1 h hF
  unfold F_X12_readPerson_b43 at hF
  refine g_aloadn d_X12_readPerson_43 rfl ?_
  obtain ⟨v44, e44, hF⟩ := Option.bind_eq_some_iff.mp hF
  refine q_fR d_X12_readPerson_44 f_X12_24 e44 ?_
  refine g_bi (109) d_X12_readPerson_47 bi_109 ?_
  refine g_iloadn d_X12_readPerson_49 rfl ?_
  refine g_iadd d_X12_readPerson_50 ?_
  refine g_aloadn d_X12_readPerson_51 rfl ?_
  refine g_ic (0) d_X12_readPerson_52 ic_0 ?_
  refine g_aloadn d_X12_readPerson_53 rfl ?_
  obtain ⟨v54, e54, hF⟩ := Option.bind_eq_some_iff.mp hF
  refine q_fR d_X12_readPerson_54 f_X12_24 e54 ?_
  refine g_ic (3) d_X12_readPerson_57 ic_3 ?_
  obtain ⟨v58, e58, hF⟩ := Option.bind_eq_some_iff.mp hF
  refine q_aI d_X12_readPerson_58 e58 ?_
  refine g_ic (1) d_X12_readPerson_59 ic_1 ?_
  refine g_isub d_X12_readPerson_60 ?_
  obtain ⟨_, g61, hF⟩ := Option.bind_eq_some_iff.mp hF
  obtain ⟨⟨r61, h61⟩, e61, hF⟩ := Option.bind_eq_some_iff.mp hF
  try dsimp only at hF
  refine q_callV [.int 0, .int (v58 - 1)] [.int (((109 : Int32)) + x1), .ref v44] rfl d_X12_readPerson_61 v_X12_189 (by omega) rfl (Nat.le_of_ble_eq_true rfl) (rc_rc g61 (by decide) rfl) (R_X12_takes _ _ _ _ (by omega) e61) ?_
  obtain ⟨h64, e64, hF⟩ := Option.bind_eq_some_iff.mp hF
  refine q_sI d_X12_readPerson_64 e64 ?_
  exact q_to (xs_r (xs_r xs_n)) (R_X12_readPerson_b65 hdp hq FU _ _ _ hF)
def F_X12_readPerson_b18 (x0 : Nat) (x1 : Int32) (h : xH) : Option (Unit × xH) := (fI h x0 11 11).bind fun v19 => if v19 = 0 then (rc h x0 11).bind fun _ => (F_X12_next x0 h).bind fun z27 => (rc z27.2 x0 11).bind fun _ => (F_X12_eats x0 5 z27.2).bind fun z32 => if ¬ z32.1 = 0 then F_X12_readPerson_b43 x0 x1 z32.2 else (rc z32.2 x0 11).bind fun _ => (F_X12_fails x0 2 z32.2).bind fun z40 => F_X12_readPerson_b43 x0 x1 z40.2 else some ((), h)
theorem R_X12_readPerson_b18 {Γ : xG} {l : Launch} {d : Nat} {Q : Option Value → xH → Prop} {r : Unit} {h' : xH} (hdp : 9 ≤ d) (hq : Q (none) h') : ∀ (x0 : Nat) (x1 : Int32) (h : xH), F_X12_readPerson_b18 x0 x1 h = some (r, h') → Gd Γ l d m_X12_readPerson 18 [.ref x0, .int x1] [] h 0 0 Q := by
  intro x0 x1 h hF
  unfold F_X12_readPerson_b18 at hF
  refine g_aloadn d_X12_readPerson_18 rfl ?_
  obtain ⟨v19, e19, hF⟩ := Option.bind_eq_some_iff.mp hF
  refine q_fI d_X12_readPerson_19 f_X12_132 e19 ?_
  refine g_if_eq 26 d_X12_readPerson_22 rfl (fun c22 => ?_) (fun c22 => ?_)
  · have hF := x_t hF c22
    refine g_aloadn d_X12_readPerson_26 rfl ?_
    obtain ⟨_, g27, hF⟩ := Option.bind_eq_some_iff.mp hF
    obtain ⟨⟨r27, h27⟩, e27, hF⟩ := Option.bind_eq_some_iff.mp hF
    try dsimp only at hF
    refine q_callV [] [] rfl d_X12_readPerson_27 v_X12_141 (by omega) rfl (Nat.le_of_ble_eq_true rfl) (rc_rc g27 (by decide) rfl) (R_X12_next _ _ (by omega) e27) ?_
    refine g_aloadn d_X12_readPerson_30 rfl ?_
    refine g_ic (5) d_X12_readPerson_31 ic_5 ?_
    obtain ⟨_, g32, hF⟩ := Option.bind_eq_some_iff.mp hF
    obtain ⟨⟨r32, h32⟩, e32, hF⟩ := Option.bind_eq_some_iff.mp hF
    try dsimp only at hF
    refine q_callV [.int 5] [] rfl d_X12_readPerson_32 v_X12_171 (by omega) rfl (Nat.le_of_ble_eq_true rfl) (rc_rc g32 (by decide) rfl) (R_X12_eats _ _ _ (by omega) e32) ?_
    refine g_if_ne 43 d_X12_readPerson_35 rfl (fun c35 => ?_) (fun c35 => ?_)
    · have hF := x_t hF c35
      exact q_to (xs_r (xs_r xs_n)) (R_X12_readPerson_b43 hdp hq _ _ _ hF)
    · have hF := x_f hF (not_not_intro c35)
      refine g_aloadn d_X12_readPerson_38 rfl ?_
      refine g_ic (2) d_X12_readPerson_39 ic_2 ?_
      obtain ⟨_, g40, hF⟩ := Option.bind_eq_some_iff.mp hF
      obtain ⟨⟨r40, h40⟩, e40, hF⟩ := Option.bind_eq_some_iff.mp hF
      try dsimp only at hF
      refine q_callV [.int 2] [] rfl d_X12_readPerson_40 v_X12_144 (by omega) rfl (Nat.le_of_ble_eq_true rfl) (rc_rc g40 (by decide) rfl) (R_X12_fails _ _ _ (by omega) e40) ?_
      exact q_to (xs_r (xs_r xs_n)) (R_X12_readPerson_b43 hdp hq _ _ _ hF)
  · have hF := x_f hF c22
    obtain ⟨rfl, rfl⟩ := x_inj hF
    exact g_vret d_X12_readPerson_25 rfl hq
def F_X12_readPerson (x0 : Nat) (h : xH) : Option (Unit × xH) := (fR h x0 11 4).bind fun v1 => (aI h v1 4).bind fun v5 => if ¬ v5 = ((6 : Int32)) then F_X12_readPerson_b18 x0 v5 h else (rc h x0 11).bind fun _ => (F_X12_fails x0 4 h).bind fun z15 => F_X12_readPerson_b18 x0 v5 z15.2
theorem R_X12_readPerson {Γ : xG} {l : Launch} {d : Nat} {r : Unit} {h' : xH} (x0 : Nat) (h : xH) (hdp : 9 ≤ d) (hF : F_X12_readPerson x0 h = some (r, h')) : Gm Γ l d 0 0 m_X12_readPerson [.ref x0] h (fun a u => a = none ∧ u = h') := by
  refine Gm.of pn_X12 (Nat.le_of_ble_eq_true rfl) ?_
  show Gd Γ l d m_X12_readPerson 0 [.ref x0, xhole] [] h 0 0 _
  generalize hQ : (fun (a : Option Value) (u : xH) => a = none ∧ u = h') = Q
  have hq : Q (none) h' := by rw [← hQ]; exact ⟨rfl, rfl⟩
  clear hQ
  unfold F_X12_readPerson at hF
  refine g_aloadn d_X12_readPerson_0 rfl ?_
  obtain ⟨v1, e1, hF⟩ := Option.bind_eq_some_iff.mp hF
  refine q_fR d_X12_readPerson_1 f_X12_24 e1 ?_
  refine g_ic (4) d_X12_readPerson_4 ic_4 ?_
  obtain ⟨v5, e5, hF⟩ := Option.bind_eq_some_iff.mp hF
  refine q_aI d_X12_readPerson_5 e5 ?_
  refine q_istoren [.ref x0, .int v5] d_X12_readPerson_6 (by decide) rfl ?_
  refine g_iloadn d_X12_readPerson_7 rfl ?_
  refine g_bi (6) d_X12_readPerson_8 bi_6 ?_
  refine g_icmp_ne 18 d_X12_readPerson_10 rfl (fun c10 => ?_) (fun c10 => ?_)
  · have hF := x_t hF c10
    exact q_to (xs_r (xs_r xs_n)) (R_X12_readPerson_b18 hdp hq _ _ _ hF)
  · have hF := x_f hF (not_not_intro c10)
    refine g_aloadn d_X12_readPerson_13 rfl ?_
    refine g_ic (4) d_X12_readPerson_14 ic_4 ?_
    obtain ⟨_, g15, hF⟩ := Option.bind_eq_some_iff.mp hF
    obtain ⟨⟨r15, h15⟩, e15, hF⟩ := Option.bind_eq_some_iff.mp hF
    try dsimp only at hF
    refine q_callV [.int 4] [] rfl d_X12_readPerson_15 v_X12_144 (by omega) rfl (Nat.le_of_ble_eq_true rfl) (rc_rc g15 (by decide) rfl) (R_X12_fails _ _ _ (by omega) e15) ?_
    exact q_to (xs_r (xs_r xs_n)) (R_X12_readPerson_b18 hdp hq _ _ _ hF)
theorem d_X12_readLaw_0 : decode cX12_readLaw 0 = .ok (.aload_n 0, 1) := by decide +kernel
theorem d_X12_readLaw_1 : decode cX12_readLaw 1 = .ok (.invokevirtual 141, 3) := by decide +kernel
theorem d_X12_readLaw_4 : decode cX12_readLaw 4 = .ok (.aload_n 0, 1) := by decide +kernel
theorem d_X12_readLaw_5 : decode cX12_readLaw 5 = .ok (.bipush 31, 2) := by decide +kernel
theorem d_X12_readLaw_7 : decode cX12_readLaw 7 = .ok (.invokevirtual 171, 3) := by decide +kernel
theorem d_X12_readLaw_10 : decode cX12_readLaw 10 = .ok (.ifCond .ne 8, 3) := by decide +kernel
theorem d_X12_readLaw_13 : decode cX12_readLaw 13 = .ok (.aload_n 0, 1) := by decide +kernel
theorem d_X12_readLaw_14 : decode cX12_readLaw 14 = .ok (.iconst 2, 1) := by decide +kernel
theorem d_X12_readLaw_15 : decode cX12_readLaw 15 = .ok (.invokevirtual 144, 3) := by decide +kernel
theorem d_X12_readLaw_18 : decode cX12_readLaw 18 = .ok (.aload_n 0, 1) := by decide +kernel
theorem d_X12_readLaw_19 : decode cX12_readLaw 19 = .ok (.getfield 24, 3) := by decide +kernel
theorem d_X12_readLaw_22 : decode cX12_readLaw 22 = .ok (.sipush 328, 3) := by decide +kernel
theorem d_X12_readLaw_25 : decode cX12_readLaw 25 = .ok (.iaload, 1) := by decide +kernel
theorem d_X12_readLaw_26 : decode cX12_readLaw 26 = .ok (.istore_n 2, 1) := by decide +kernel
theorem d_X12_readLaw_27 : decode cX12_readLaw 27 = .ok (.aload_n 0, 1) := by decide +kernel
theorem d_X12_readLaw_28 : decode cX12_readLaw 28 = .ok (.iload_n 1, 1) := by decide +kernel
theorem d_X12_readLaw_29 : decode cX12_readLaw 29 = .ok (.putfield 152, 3) := by decide +kernel
theorem d_X12_readLaw_32 : decode cX12_readLaw 32 = .ok (.aload_n 0, 1) := by decide +kernel
theorem d_X12_readLaw_33 : decode cX12_readLaw 33 = .ok (.iconst 0, 1) := by decide +kernel
theorem d_X12_readLaw_34 : decode cX12_readLaw 34 = .ok (.invokevirtual 183, 3) := by decide +kernel
theorem d_X12_readLaw_37 : decode cX12_readLaw 37 = .ok (.aload_n 0, 1) := by decide +kernel
theorem d_X12_readLaw_38 : decode cX12_readLaw 38 = .ok (.getfield 132, 3) := by decide +kernel
theorem d_X12_readLaw_41 : decode cX12_readLaw 41 = .ok (.ifCond .eq 4, 3) := by decide +kernel
theorem d_X12_readLaw_44 : decode cX12_readLaw 44 = .ok (.return_, 1) := by decide +kernel
theorem d_X12_readLaw_45 : decode cX12_readLaw 45 = .ok (.aload_n 0, 1) := by decide +kernel
theorem d_X12_readLaw_46 : decode cX12_readLaw 46 = .ok (.getfield 24, 3) := by decide +kernel
theorem d_X12_readLaw_49 : decode cX12_readLaw 49 = .ok (.iconst 5, 1) := by decide +kernel
theorem d_X12_readLaw_50 : decode cX12_readLaw 50 = .ok (.iload_n 1, 1) := by decide +kernel
theorem d_X12_readLaw_51 : decode cX12_readLaw 51 = .ok (.iadd, 1) := by decide +kernel
theorem d_X12_readLaw_52 : decode cX12_readLaw 52 = .ok (.iconst 1, 1) := by decide +kernel
theorem d_X12_readLaw_53 : decode cX12_readLaw 53 = .ok (.iastore, 1) := by decide +kernel
theorem d_X12_readLaw_54 : decode cX12_readLaw 54 = .ok (.aload_n 0, 1) := by decide +kernel
theorem d_X12_readLaw_55 : decode cX12_readLaw 55 = .ok (.getfield 24, 3) := by decide +kernel
theorem d_X12_readLaw_58 : decode cX12_readLaw 58 = .ok (.bipush 7, 2) := by decide +kernel
theorem d_X12_readLaw_60 : decode cX12_readLaw 60 = .ok (.iload_n 1, 1) := by decide +kernel
theorem d_X12_readLaw_61 : decode cX12_readLaw 61 = .ok (.iadd, 1) := by decide +kernel
theorem d_X12_readLaw_62 : decode cX12_readLaw 62 = .ok (.iload_n 2, 1) := by decide +kernel
theorem d_X12_readLaw_63 : decode cX12_readLaw 63 = .ok (.iastore, 1) := by decide +kernel
theorem d_X12_readLaw_64 : decode cX12_readLaw 64 = .ok (.aload_n 0, 1) := by decide +kernel
theorem d_X12_readLaw_65 : decode cX12_readLaw 65 = .ok (.getfield 24, 3) := by decide +kernel
theorem d_X12_readLaw_68 : decode cX12_readLaw 68 = .ok (.bipush 9, 2) := by decide +kernel
theorem d_X12_readLaw_70 : decode cX12_readLaw 70 = .ok (.iload_n 1, 1) := by decide +kernel
theorem d_X12_readLaw_71 : decode cX12_readLaw 71 = .ok (.iadd, 1) := by decide +kernel
theorem d_X12_readLaw_72 : decode cX12_readLaw 72 = .ok (.aload_n 0, 1) := by decide +kernel
theorem d_X12_readLaw_73 : decode cX12_readLaw 73 = .ok (.getfield 24, 3) := by decide +kernel
theorem d_X12_readLaw_76 : decode cX12_readLaw 76 = .ok (.sipush 328, 3) := by decide +kernel
theorem d_X12_readLaw_79 : decode cX12_readLaw 79 = .ok (.iaload, 1) := by decide +kernel
theorem d_X12_readLaw_80 : decode cX12_readLaw 80 = .ok (.iload_n 2, 1) := by decide +kernel
theorem d_X12_readLaw_81 : decode cX12_readLaw 81 = .ok (.isub, 1) := by decide +kernel
theorem d_X12_readLaw_82 : decode cX12_readLaw 82 = .ok (.iastore, 1) := by decide +kernel
theorem d_X12_readLaw_83 : decode cX12_readLaw 83 = .ok (.return_, 1) := by decide +kernel
def F_X12_readLaw_b18 (x0 : Nat) (x1 : Int32) (h : xH) : Option (Unit × xH) := (fR h x0 11 4).bind fun v19 => (aI h v19 328).bind fun v25 => (wI h x0 11 15 x1).bind fun h29 => (rc h29 x0 11).bind fun _ => (C_X12_readTruth 100 x0 0 h29).bind fun z34 => (fI z34.2 x0 11 11).bind fun v38 => if v38 = 0 then (fR z34.2 x0 11 4).bind fun v46 => (sI z34.2 v46 (((5 : Int32)) + x1) 1).bind fun h53 => (fR h53 x0 11 4).bind fun v55 => (sI h53 v55 (((7 : Int32)) + x1) v25).bind fun h63 => (fR h63 x0 11 4).bind fun v65 => (fR h63 x0 11 4).bind fun v73 => (aI h63 v73 328).bind fun v79 => (sI h63 v65 (((9 : Int32)) + x1) (v79 - v25)).bind fun h82 => some ((), h82) else some ((), z34.2)
theorem R_X12_readLaw_b18 {Γ : xG} {l : Launch} {d : Nat} {Q : Option Value → xH → Prop} {r : Unit} {h' : xH} (hdp : 210 ≤ d) (hq : Q (none) h') : ∀ (x0 : Nat) (x1 : Int32) (h : xH), F_X12_readLaw_b18 x0 x1 h = some (r, h') → Gd Γ l d m_X12_readLaw 18 [.ref x0, .int x1, xhole] [] h 0 0 Q := by
  intro x0 x1 h hF
  unfold F_X12_readLaw_b18 at hF
  refine g_aloadn d_X12_readLaw_18 rfl ?_
  obtain ⟨v19, e19, hF⟩ := Option.bind_eq_some_iff.mp hF
  refine q_fR d_X12_readLaw_19 f_X12_24 e19 ?_
  refine g_si (328) d_X12_readLaw_22 si_328 ?_
  obtain ⟨v25, e25, hF⟩ := Option.bind_eq_some_iff.mp hF
  refine q_aI d_X12_readLaw_25 e25 ?_
  refine q_istoren [.ref x0, .int x1, .int v25] d_X12_readLaw_26 (by decide) rfl ?_
  refine g_aloadn d_X12_readLaw_27 rfl ?_
  refine g_iloadn d_X12_readLaw_28 rfl ?_
  obtain ⟨h29, e29, hF⟩ := Option.bind_eq_some_iff.mp hF
  refine q_wI d_X12_readLaw_29 (w_X12_152 _) e29 ?_
  refine g_aloadn d_X12_readLaw_32 rfl ?_
  refine g_ic (0) d_X12_readLaw_33 ic_0 ?_
  obtain ⟨_, g34, hF⟩ := Option.bind_eq_some_iff.mp hF
  obtain ⟨⟨r34, h34⟩, e34, hF⟩ := Option.bind_eq_some_iff.mp hF
  try dsimp only at hF
  refine q_callV [.int 0] [] rfl d_X12_readLaw_34 v_X12_183 (by omega) rfl (Nat.le_of_ble_eq_true rfl) (rc_rc g34 (by decide) rfl) (RC_X12_readTruth 100 _ _ _ (by omega) e34) ?_
  refine g_aloadn d_X12_readLaw_37 rfl ?_
  obtain ⟨v38, e38, hF⟩ := Option.bind_eq_some_iff.mp hF
  refine q_fI d_X12_readLaw_38 f_X12_132 e38 ?_
  refine g_if_eq 45 d_X12_readLaw_41 rfl (fun c41 => ?_) (fun c41 => ?_)
  · have hF := x_t hF c41
    refine g_aloadn d_X12_readLaw_45 rfl ?_
    obtain ⟨v46, e46, hF⟩ := Option.bind_eq_some_iff.mp hF
    refine q_fR d_X12_readLaw_46 f_X12_24 e46 ?_
    refine g_ic (5) d_X12_readLaw_49 ic_5 ?_
    refine g_iloadn d_X12_readLaw_50 rfl ?_
    refine g_iadd d_X12_readLaw_51 ?_
    refine g_ic (1) d_X12_readLaw_52 ic_1 ?_
    obtain ⟨h53, e53, hF⟩ := Option.bind_eq_some_iff.mp hF
    refine q_sI d_X12_readLaw_53 e53 ?_
    refine g_aloadn d_X12_readLaw_54 rfl ?_
    obtain ⟨v55, e55, hF⟩ := Option.bind_eq_some_iff.mp hF
    refine q_fR d_X12_readLaw_55 f_X12_24 e55 ?_
    refine g_bi (7) d_X12_readLaw_58 bi_7 ?_
    refine g_iloadn d_X12_readLaw_60 rfl ?_
    refine g_iadd d_X12_readLaw_61 ?_
    refine g_iloadn d_X12_readLaw_62 rfl ?_
    obtain ⟨h63, e63, hF⟩ := Option.bind_eq_some_iff.mp hF
    refine q_sI d_X12_readLaw_63 e63 ?_
    refine g_aloadn d_X12_readLaw_64 rfl ?_
    obtain ⟨v65, e65, hF⟩ := Option.bind_eq_some_iff.mp hF
    refine q_fR d_X12_readLaw_65 f_X12_24 e65 ?_
    refine g_bi (9) d_X12_readLaw_68 bi_9 ?_
    refine g_iloadn d_X12_readLaw_70 rfl ?_
    refine g_iadd d_X12_readLaw_71 ?_
    refine g_aloadn d_X12_readLaw_72 rfl ?_
    obtain ⟨v73, e73, hF⟩ := Option.bind_eq_some_iff.mp hF
    refine q_fR d_X12_readLaw_73 f_X12_24 e73 ?_
    refine g_si (328) d_X12_readLaw_76 si_328 ?_
    obtain ⟨v79, e79, hF⟩ := Option.bind_eq_some_iff.mp hF
    refine q_aI d_X12_readLaw_79 e79 ?_
    refine g_iloadn d_X12_readLaw_80 rfl ?_
    refine g_isub d_X12_readLaw_81 ?_
    obtain ⟨h82, e82, hF⟩ := Option.bind_eq_some_iff.mp hF
    refine q_sI d_X12_readLaw_82 e82 ?_
    obtain ⟨rfl, rfl⟩ := x_inj hF
    exact g_vret d_X12_readLaw_83 rfl hq
  · have hF := x_f hF c41
    obtain ⟨rfl, rfl⟩ := x_inj hF
    exact g_vret d_X12_readLaw_44 rfl hq
def F_X12_readLaw (x0 : Nat) (x1 : Int32) (h : xH) : Option (Unit × xH) := (rc h x0 11).bind fun _ => (F_X12_next x0 h).bind fun z1 => (rc z1.2 x0 11).bind fun _ => (F_X12_eats x0 31 z1.2).bind fun z7 => if ¬ z7.1 = 0 then F_X12_readLaw_b18 x0 x1 z7.2 else (rc z7.2 x0 11).bind fun _ => (F_X12_fails x0 2 z7.2).bind fun z15 => F_X12_readLaw_b18 x0 x1 z15.2
theorem R_X12_readLaw {Γ : xG} {l : Launch} {d : Nat} {r : Unit} {h' : xH} (x0 : Nat) (x1 : Int32) (h : xH) (hdp : 210 ≤ d) (hF : F_X12_readLaw x0 x1 h = some (r, h')) : Gm Γ l d 0 0 m_X12_readLaw [.ref x0, .int x1] h (fun a u => a = none ∧ u = h') := by
  refine Gm.of pn_X12 (Nat.le_of_ble_eq_true rfl) ?_
  show Gd Γ l d m_X12_readLaw 0 [.ref x0, .int x1, xhole] [] h 0 0 _
  generalize hQ : (fun (a : Option Value) (u : xH) => a = none ∧ u = h') = Q
  have hq : Q (none) h' := by rw [← hQ]; exact ⟨rfl, rfl⟩
  clear hQ
  unfold F_X12_readLaw at hF
  refine g_aloadn d_X12_readLaw_0 rfl ?_
  obtain ⟨_, g1, hF⟩ := Option.bind_eq_some_iff.mp hF
  obtain ⟨⟨r1, h1⟩, e1, hF⟩ := Option.bind_eq_some_iff.mp hF
  try dsimp only at hF
  refine q_callV [] [] rfl d_X12_readLaw_1 v_X12_141 (by omega) rfl (Nat.le_of_ble_eq_true rfl) (rc_rc g1 (by decide) rfl) (R_X12_next _ _ (by omega) e1) ?_
  refine g_aloadn d_X12_readLaw_4 rfl ?_
  refine g_bi (31) d_X12_readLaw_5 bi_31 ?_
  obtain ⟨_, g7, hF⟩ := Option.bind_eq_some_iff.mp hF
  obtain ⟨⟨r7, h7⟩, e7, hF⟩ := Option.bind_eq_some_iff.mp hF
  try dsimp only at hF
  refine q_callV [.int 31] [] rfl d_X12_readLaw_7 v_X12_171 (by omega) rfl (Nat.le_of_ble_eq_true rfl) (rc_rc g7 (by decide) rfl) (R_X12_eats _ _ _ (by omega) e7) ?_
  refine g_if_ne 18 d_X12_readLaw_10 rfl (fun c10 => ?_) (fun c10 => ?_)
  · have hF := x_t hF c10
    exact q_to (xs_r (xs_r (xs_h xs_n))) (R_X12_readLaw_b18 hdp hq _ _ _ hF)
  · have hF := x_f hF (not_not_intro c10)
    refine g_aloadn d_X12_readLaw_13 rfl ?_
    refine g_ic (2) d_X12_readLaw_14 ic_2 ?_
    obtain ⟨_, g15, hF⟩ := Option.bind_eq_some_iff.mp hF
    obtain ⟨⟨r15, h15⟩, e15, hF⟩ := Option.bind_eq_some_iff.mp hF
    try dsimp only at hF
    refine q_callV [.int 2] [] rfl d_X12_readLaw_15 v_X12_144 (by omega) rfl (Nat.le_of_ble_eq_true rfl) (rc_rc g15 (by decide) rfl) (R_X12_fails _ _ _ (by omega) e15) ?_
    exact q_to (xs_r (xs_r (xs_h xs_n))) (R_X12_readLaw_b18 hdp hq _ _ _ hF)
theorem d_X12_readLine_0 : decode cX12_readLine 0 = .ok (.aload_n 0, 1) := by decide +kernel
theorem d_X12_readLine_1 : decode cX12_readLine 1 = .ok (.getfield 132, 3) := by decide +kernel
theorem d_X12_readLine_4 : decode cX12_readLine 4 = .ok (.ifCond .eq 4, 3) := by decide +kernel
theorem d_X12_readLine_7 : decode cX12_readLine 7 = .ok (.return_, 1) := by decide +kernel
theorem d_X12_readLine_8 : decode cX12_readLine 8 = .ok (.aload_n 0, 1) := by decide +kernel
theorem d_X12_readLine_9 : decode cX12_readLine 9 = .ok (.iconst 1, 1) := by decide +kernel
theorem d_X12_readLine_10 : decode cX12_readLine 10 = .ok (.invokevirtual 138, 3) := by decide +kernel
theorem d_X12_readLine_13 : decode cX12_readLine 13 = .ok (.ifCond .eq 10, 3) := by decide +kernel
theorem d_X12_readLine_16 : decode cX12_readLine 16 = .ok (.aload_n 0, 1) := by decide +kernel
theorem d_X12_readLine_17 : decode cX12_readLine 17 = .ok (.invokevirtual 196, 3) := by decide +kernel
theorem d_X12_readLine_20 : decode cX12_readLine 20 = .ok (.goto 85, 3) := by decide +kernel
theorem d_X12_readLine_23 : decode cX12_readLine 23 = .ok (.aload_n 0, 1) := by decide +kernel
theorem d_X12_readLine_24 : decode cX12_readLine 24 = .ok (.iconst 2, 1) := by decide +kernel
theorem d_X12_readLine_25 : decode cX12_readLine 25 = .ok (.invokevirtual 138, 3) := by decide +kernel
theorem d_X12_readLine_28 : decode cX12_readLine 28 = .ok (.ifCond .eq 10, 3) := by decide +kernel
theorem d_X12_readLine_31 : decode cX12_readLine 31 = .ok (.aload_n 0, 1) := by decide +kernel
theorem d_X12_readLine_32 : decode cX12_readLine 32 = .ok (.invokevirtual 199, 3) := by decide +kernel
theorem d_X12_readLine_35 : decode cX12_readLine 35 = .ok (.goto 70, 3) := by decide +kernel
theorem d_X12_readLine_38 : decode cX12_readLine 38 = .ok (.aload_n 0, 1) := by decide +kernel
theorem d_X12_readLine_39 : decode cX12_readLine 39 = .ok (.iconst 3, 1) := by decide +kernel
theorem d_X12_readLine_40 : decode cX12_readLine 40 = .ok (.invokevirtual 138, 3) := by decide +kernel
theorem d_X12_readLine_43 : decode cX12_readLine 43 = .ok (.ifCond .eq 10, 3) := by decide +kernel
theorem d_X12_readLine_46 : decode cX12_readLine 46 = .ok (.aload_n 0, 1) := by decide +kernel
theorem d_X12_readLine_47 : decode cX12_readLine 47 = .ok (.invokevirtual 202, 3) := by decide +kernel
theorem d_X12_readLine_50 : decode cX12_readLine 50 = .ok (.goto 55, 3) := by decide +kernel
theorem d_X12_readLine_53 : decode cX12_readLine 53 = .ok (.aload_n 0, 1) := by decide +kernel
theorem d_X12_readLine_54 : decode cX12_readLine 54 = .ok (.iconst 4, 1) := by decide +kernel
theorem d_X12_readLine_55 : decode cX12_readLine 55 = .ok (.invokevirtual 138, 3) := by decide +kernel
theorem d_X12_readLine_58 : decode cX12_readLine 58 = .ok (.ifCond .eq 10, 3) := by decide +kernel
theorem d_X12_readLine_61 : decode cX12_readLine 61 = .ok (.aload_n 0, 1) := by decide +kernel
theorem d_X12_readLine_62 : decode cX12_readLine 62 = .ok (.invokevirtual 205, 3) := by decide +kernel
theorem d_X12_readLine_65 : decode cX12_readLine 65 = .ok (.goto 40, 3) := by decide +kernel
theorem d_X12_readLine_68 : decode cX12_readLine 68 = .ok (.aload_n 0, 1) := by decide +kernel
theorem d_X12_readLine_69 : decode cX12_readLine 69 = .ok (.bipush 9, 2) := by decide +kernel
theorem d_X12_readLine_71 : decode cX12_readLine 71 = .ok (.invokevirtual 138, 3) := by decide +kernel
theorem d_X12_readLine_74 : decode cX12_readLine 74 = .ok (.ifCond .ne 12, 3) := by decide +kernel
theorem d_X12_readLine_77 : decode cX12_readLine 77 = .ok (.aload_n 0, 1) := by decide +kernel
theorem d_X12_readLine_78 : decode cX12_readLine 78 = .ok (.bipush 10, 2) := by decide +kernel
theorem d_X12_readLine_80 : decode cX12_readLine 80 = .ok (.invokevirtual 138, 3) := by decide +kernel
theorem d_X12_readLine_83 : decode cX12_readLine 83 = .ok (.ifCond .eq 17, 3) := by decide +kernel
theorem d_X12_readLine_86 : decode cX12_readLine 86 = .ok (.aload_n 0, 1) := by decide +kernel
theorem d_X12_readLine_87 : decode cX12_readLine 87 = .ok (.aload_n 0, 1) := by decide +kernel
theorem d_X12_readLine_88 : decode cX12_readLine 88 = .ok (.getfield 114, 3) := by decide +kernel
theorem d_X12_readLine_91 : decode cX12_readLine 91 = .ok (.bipush 9, 2) := by decide +kernel
theorem d_X12_readLine_93 : decode cX12_readLine 93 = .ok (.isub, 1) := by decide +kernel
theorem d_X12_readLine_94 : decode cX12_readLine 94 = .ok (.invokevirtual 208, 3) := by decide +kernel
theorem d_X12_readLine_97 : decode cX12_readLine 97 = .ok (.goto 8, 3) := by decide +kernel
theorem d_X12_readLine_100 : decode cX12_readLine 100 = .ok (.aload_n 0, 1) := by decide +kernel
theorem d_X12_readLine_101 : decode cX12_readLine 101 = .ok (.iconst 2, 1) := by decide +kernel
theorem d_X12_readLine_102 : decode cX12_readLine 102 = .ok (.invokevirtual 144, 3) := by decide +kernel
theorem d_X12_readLine_105 : decode cX12_readLine 105 = .ok (.return_, 1) := by decide +kernel
def F_X12_readLine_b86 (x0 : Nat) (h : xH) : Option (Unit × xH) := (fI h x0 11 9).bind fun v88 => (rc h x0 11).bind fun _ => (F_X12_readLaw x0 (v88 - 9) h).bind fun z94 => some ((), z94.2)
theorem R_X12_readLine_b86 {Γ : xG} {l : Launch} {d : Nat} {Q : Option Value → xH → Prop} {r : Unit} {h' : xH} (hdp : 211 ≤ d) (hq : Q (none) h') : ∀ (x0 : Nat) (h : xH), F_X12_readLine_b86 x0 h = some (r, h') → Gd Γ l d m_X12_readLine 86 [.ref x0] [] h 0 0 Q := by
  intro x0 h hF
  unfold F_X12_readLine_b86 at hF
  refine g_aloadn d_X12_readLine_86 rfl ?_
  refine g_aloadn d_X12_readLine_87 rfl ?_
  obtain ⟨v88, e88, hF⟩ := Option.bind_eq_some_iff.mp hF
  refine q_fI d_X12_readLine_88 f_X12_114 e88 ?_
  refine g_bi (9) d_X12_readLine_91 bi_9 ?_
  refine g_isub d_X12_readLine_93 ?_
  obtain ⟨_, g94, hF⟩ := Option.bind_eq_some_iff.mp hF
  obtain ⟨⟨r94, h94⟩, e94, hF⟩ := Option.bind_eq_some_iff.mp hF
  try dsimp only at hF
  refine q_callV [.int (v88 - 9)] [] rfl d_X12_readLine_94 v_X12_208 (by omega) rfl (Nat.le_of_ble_eq_true rfl) (rc_rc g94 (by decide) rfl) (R_X12_readLaw _ _ _ (by omega) e94) ?_
  refine g_goto 105 d_X12_readLine_97 rfl ?_
  obtain ⟨rfl, rfl⟩ := x_inj hF
  exact g_vret d_X12_readLine_105 rfl hq
def F_X12_readLine (x0 : Nat) (h : xH) : Option (Unit × xH) := (fI h x0 11 11).bind fun v1 => if v1 = 0 then (rc h x0 11).bind fun _ => (F_X12_is x0 1 h).bind fun z10 => if z10.1 = 0 then (rc z10.2 x0 11).bind fun _ => (F_X12_is x0 2 z10.2).bind fun z25 => if z25.1 = 0 then (rc z25.2 x0 11).bind fun _ => (F_X12_is x0 3 z25.2).bind fun z40 => if z40.1 = 0 then (rc z40.2 x0 11).bind fun _ => (F_X12_is x0 4 z40.2).bind fun z55 => if z55.1 = 0 then (rc z55.2 x0 11).bind fun _ => (F_X12_is x0 9 z55.2).bind fun z71 => if ¬ z71.1 = 0 then F_X12_readLine_b86 x0 z71.2 else (rc z71.2 x0 11).bind fun _ => (F_X12_is x0 10 z71.2).bind fun z80 => if z80.1 = 0 then (rc z80.2 x0 11).bind fun _ => (F_X12_fails x0 2 z80.2).bind fun z102 => some ((), z102.2) else F_X12_readLine_b86 x0 z80.2 else (rc z55.2 x0 11).bind fun _ => (F_X12_readPerson x0 z55.2).bind fun z62 => some ((), z62.2) else (rc z40.2 x0 11).bind fun _ => (F_X12_readWay x0 z40.2).bind fun z47 => some ((), z47.2) else (rc z25.2 x0 11).bind fun _ => (F_X12_readPlace x0 z25.2).bind fun z32 => some ((), z32.2) else (rc z10.2 x0 11).bind fun _ => (F_X12_readTune x0 z10.2).bind fun z17 => some ((), z17.2) else some ((), h)
theorem R_X12_readLine {Γ : xG} {l : Launch} {d : Nat} {r : Unit} {h' : xH} (x0 : Nat) (h : xH) (hdp : 211 ≤ d) (hF : F_X12_readLine x0 h = some (r, h')) : Gm Γ l d 0 0 m_X12_readLine [.ref x0] h (fun a u => a = none ∧ u = h') := by
  refine Gm.of pn_X12 (Nat.le_of_ble_eq_true rfl) ?_
  show Gd Γ l d m_X12_readLine 0 [.ref x0] [] h 0 0 _
  generalize hQ : (fun (a : Option Value) (u : xH) => a = none ∧ u = h') = Q
  have hq : Q (none) h' := by rw [← hQ]; exact ⟨rfl, rfl⟩
  clear hQ
  unfold F_X12_readLine at hF
  refine g_aloadn d_X12_readLine_0 rfl ?_
  obtain ⟨v1, e1, hF⟩ := Option.bind_eq_some_iff.mp hF
  refine q_fI d_X12_readLine_1 f_X12_132 e1 ?_
  refine g_if_eq 8 d_X12_readLine_4 rfl (fun c4 => ?_) (fun c4 => ?_)
  · have hF := x_t hF c4
    refine g_aloadn d_X12_readLine_8 rfl ?_
    refine g_ic (1) d_X12_readLine_9 ic_1 ?_
    obtain ⟨_, g10, hF⟩ := Option.bind_eq_some_iff.mp hF
    obtain ⟨⟨r10, h10⟩, e10, hF⟩ := Option.bind_eq_some_iff.mp hF
    try dsimp only at hF
    refine q_callV [.int 1] [] rfl d_X12_readLine_10 v_X12_138 (by omega) rfl (Nat.le_of_ble_eq_true rfl) (rc_rc g10 (by decide) rfl) (R_X12_is _ _ _ (by omega) e10) ?_
    refine g_if_eq 23 d_X12_readLine_13 rfl (fun c13 => ?_) (fun c13 => ?_)
    · have hF := x_t hF c13
      refine g_aloadn d_X12_readLine_23 rfl ?_
      refine g_ic (2) d_X12_readLine_24 ic_2 ?_
      obtain ⟨_, g25, hF⟩ := Option.bind_eq_some_iff.mp hF
      obtain ⟨⟨r25, h25⟩, e25, hF⟩ := Option.bind_eq_some_iff.mp hF
      try dsimp only at hF
      refine q_callV [.int 2] [] rfl d_X12_readLine_25 v_X12_138 (by omega) rfl (Nat.le_of_ble_eq_true rfl) (rc_rc g25 (by decide) rfl) (R_X12_is _ _ _ (by omega) e25) ?_
      refine g_if_eq 38 d_X12_readLine_28 rfl (fun c28 => ?_) (fun c28 => ?_)
      · have hF := x_t hF c28
        refine g_aloadn d_X12_readLine_38 rfl ?_
        refine g_ic (3) d_X12_readLine_39 ic_3 ?_
        obtain ⟨_, g40, hF⟩ := Option.bind_eq_some_iff.mp hF
        obtain ⟨⟨r40, h40⟩, e40, hF⟩ := Option.bind_eq_some_iff.mp hF
        try dsimp only at hF
        refine q_callV [.int 3] [] rfl d_X12_readLine_40 v_X12_138 (by omega) rfl (Nat.le_of_ble_eq_true rfl) (rc_rc g40 (by decide) rfl) (R_X12_is _ _ _ (by omega) e40) ?_
        refine g_if_eq 53 d_X12_readLine_43 rfl (fun c43 => ?_) (fun c43 => ?_)
        · have hF := x_t hF c43
          refine g_aloadn d_X12_readLine_53 rfl ?_
          refine g_ic (4) d_X12_readLine_54 ic_4 ?_
          obtain ⟨_, g55, hF⟩ := Option.bind_eq_some_iff.mp hF
          obtain ⟨⟨r55, h55⟩, e55, hF⟩ := Option.bind_eq_some_iff.mp hF
          try dsimp only at hF
          refine q_callV [.int 4] [] rfl d_X12_readLine_55 v_X12_138 (by omega) rfl (Nat.le_of_ble_eq_true rfl) (rc_rc g55 (by decide) rfl) (R_X12_is _ _ _ (by omega) e55) ?_
          refine g_if_eq 68 d_X12_readLine_58 rfl (fun c58 => ?_) (fun c58 => ?_)
          · have hF := x_t hF c58
            refine g_aloadn d_X12_readLine_68 rfl ?_
            refine g_bi (9) d_X12_readLine_69 bi_9 ?_
            obtain ⟨_, g71, hF⟩ := Option.bind_eq_some_iff.mp hF
            obtain ⟨⟨r71, h71⟩, e71, hF⟩ := Option.bind_eq_some_iff.mp hF
            try dsimp only at hF
            refine q_callV [.int 9] [] rfl d_X12_readLine_71 v_X12_138 (by omega) rfl (Nat.le_of_ble_eq_true rfl) (rc_rc g71 (by decide) rfl) (R_X12_is _ _ _ (by omega) e71) ?_
            refine g_if_ne 86 d_X12_readLine_74 rfl (fun c74 => ?_) (fun c74 => ?_)
            · have hF := x_t hF c74
              exact q_to (xs_r xs_n) (R_X12_readLine_b86 hdp hq _ _ hF)
            · have hF := x_f hF (not_not_intro c74)
              refine g_aloadn d_X12_readLine_77 rfl ?_
              refine g_bi (10) d_X12_readLine_78 bi_10 ?_
              obtain ⟨_, g80, hF⟩ := Option.bind_eq_some_iff.mp hF
              obtain ⟨⟨r80, h80⟩, e80, hF⟩ := Option.bind_eq_some_iff.mp hF
              try dsimp only at hF
              refine q_callV [.int 10] [] rfl d_X12_readLine_80 v_X12_138 (by omega) rfl (Nat.le_of_ble_eq_true rfl) (rc_rc g80 (by decide) rfl) (R_X12_is _ _ _ (by omega) e80) ?_
              refine g_if_eq 100 d_X12_readLine_83 rfl (fun c83 => ?_) (fun c83 => ?_)
              · have hF := x_t hF c83
                refine g_aloadn d_X12_readLine_100 rfl ?_
                refine g_ic (2) d_X12_readLine_101 ic_2 ?_
                obtain ⟨_, g102, hF⟩ := Option.bind_eq_some_iff.mp hF
                obtain ⟨⟨r102, h102⟩, e102, hF⟩ := Option.bind_eq_some_iff.mp hF
                try dsimp only at hF
                refine q_callV [.int 2] [] rfl d_X12_readLine_102 v_X12_144 (by omega) rfl (Nat.le_of_ble_eq_true rfl) (rc_rc g102 (by decide) rfl) (R_X12_fails _ _ _ (by omega) e102) ?_
                obtain ⟨rfl, rfl⟩ := x_inj hF
                exact g_vret d_X12_readLine_105 rfl hq
              · have hF := x_f hF c83
                exact q_to (xs_r xs_n) (R_X12_readLine_b86 hdp hq _ _ hF)
          · have hF := x_f hF c58
            refine g_aloadn d_X12_readLine_61 rfl ?_
            obtain ⟨_, g62, hF⟩ := Option.bind_eq_some_iff.mp hF
            obtain ⟨⟨r62, h62⟩, e62, hF⟩ := Option.bind_eq_some_iff.mp hF
            try dsimp only at hF
            refine q_callV [] [] rfl d_X12_readLine_62 v_X12_205 (by omega) rfl (Nat.le_of_ble_eq_true rfl) (rc_rc g62 (by decide) rfl) (R_X12_readPerson _ _ (by omega) e62) ?_
            refine g_goto 105 d_X12_readLine_65 rfl ?_
            obtain ⟨rfl, rfl⟩ := x_inj hF
            exact g_vret d_X12_readLine_105 rfl hq
        · have hF := x_f hF c43
          refine g_aloadn d_X12_readLine_46 rfl ?_
          obtain ⟨_, g47, hF⟩ := Option.bind_eq_some_iff.mp hF
          obtain ⟨⟨r47, h47⟩, e47, hF⟩ := Option.bind_eq_some_iff.mp hF
          try dsimp only at hF
          refine q_callV [] [] rfl d_X12_readLine_47 v_X12_202 (by omega) rfl (Nat.le_of_ble_eq_true rfl) (rc_rc g47 (by decide) rfl) (R_X12_readWay _ _ (by omega) e47) ?_
          refine g_goto 105 d_X12_readLine_50 rfl ?_
          obtain ⟨rfl, rfl⟩ := x_inj hF
          exact g_vret d_X12_readLine_105 rfl hq
      · have hF := x_f hF c28
        refine g_aloadn d_X12_readLine_31 rfl ?_
        obtain ⟨_, g32, hF⟩ := Option.bind_eq_some_iff.mp hF
        obtain ⟨⟨r32, h32⟩, e32, hF⟩ := Option.bind_eq_some_iff.mp hF
        try dsimp only at hF
        refine q_callV [] [] rfl d_X12_readLine_32 v_X12_199 (by omega) rfl (Nat.le_of_ble_eq_true rfl) (rc_rc g32 (by decide) rfl) (R_X12_readPlace _ _ (by omega) e32) ?_
        refine g_goto 105 d_X12_readLine_35 rfl ?_
        obtain ⟨rfl, rfl⟩ := x_inj hF
        exact g_vret d_X12_readLine_105 rfl hq
    · have hF := x_f hF c13
      refine g_aloadn d_X12_readLine_16 rfl ?_
      obtain ⟨_, g17, hF⟩ := Option.bind_eq_some_iff.mp hF
      obtain ⟨⟨r17, h17⟩, e17, hF⟩ := Option.bind_eq_some_iff.mp hF
      try dsimp only at hF
      refine q_callV [] [] rfl d_X12_readLine_17 v_X12_196 (by omega) rfl (Nat.le_of_ble_eq_true rfl) (rc_rc g17 (by decide) rfl) (R_X12_readTune _ _ (by omega) e17) ?_
      refine g_goto 105 d_X12_readLine_20 rfl ?_
      obtain ⟨rfl, rfl⟩ := x_inj hF
      exact g_vret d_X12_readLine_105 rfl hq
  · have hF := x_f hF c4
    obtain ⟨rfl, rfl⟩ := x_inj hF
    exact g_vret d_X12_readLine_7 rfl hq
theorem d_X12_ends_0 : decode cX12_ends 0 = .ok (.aload_n 0, 1) := by decide +kernel
theorem d_X12_ends_1 : decode cX12_ends 1 = .ok (.bipush 30, 2) := by decide +kernel
theorem d_X12_ends_3 : decode cX12_ends 3 = .ok (.invokevirtual 171, 3) := by decide +kernel
theorem d_X12_ends_6 : decode cX12_ends 6 = .ok (.ifCond .ne 8, 3) := by decide +kernel
theorem d_X12_ends_9 : decode cX12_ends 9 = .ok (.aload_n 0, 1) := by decide +kernel
theorem d_X12_ends_10 : decode cX12_ends 10 = .ok (.iconst 2, 1) := by decide +kernel
theorem d_X12_ends_11 : decode cX12_ends 11 = .ok (.invokevirtual 144, 3) := by decide +kernel
theorem d_X12_ends_14 : decode cX12_ends 14 = .ok (.aload_n 0, 1) := by decide +kernel
theorem d_X12_ends_15 : decode cX12_ends 15 = .ok (.getfield 24, 3) := by decide +kernel
theorem d_X12_ends_18 : decode cX12_ends 18 = .ok (.iconst 0, 1) := by decide +kernel
theorem d_X12_ends_19 : decode cX12_ends 19 = .ok (.dup2, 1) := by decide +kernel
theorem d_X12_ends_20 : decode cX12_ends 20 = .ok (.iaload, 1) := by decide +kernel
theorem d_X12_ends_21 : decode cX12_ends 21 = .ok (.iconst 1, 1) := by decide +kernel
theorem d_X12_ends_22 : decode cX12_ends 22 = .ok (.iadd, 1) := by decide +kernel
theorem d_X12_ends_23 : decode cX12_ends 23 = .ok (.iastore, 1) := by decide +kernel
theorem d_X12_ends_24 : decode cX12_ends 24 = .ok (.return_, 1) := by decide +kernel
def F_X12_ends_b14 (x0 : Nat) (h : xH) : Option (Unit × xH) := (fR h x0 11 4).bind fun v15 => (aI h v15 0).bind fun v20 => (sI h v15 0 (v20 + 1)).bind fun h23 => some ((), h23)
theorem R_X12_ends_b14 {Γ : xG} {l : Launch} {d : Nat} {Q : Option Value → xH → Prop} {r : Unit} {h' : xH} (hdp : 8 ≤ d) (hq : Q (none) h') : ∀ (x0 : Nat) (h : xH), F_X12_ends_b14 x0 h = some (r, h') → Gd Γ l d m_X12_ends 14 [.ref x0] [] h 0 0 Q := by
  intro x0 h hF
  unfold F_X12_ends_b14 at hF
  refine g_aloadn d_X12_ends_14 rfl ?_
  obtain ⟨v15, e15, hF⟩ := Option.bind_eq_some_iff.mp hF
  refine q_fR d_X12_ends_15 f_X12_24 e15 ?_
  refine g_ic (0) d_X12_ends_18 ic_0 ?_
  refine g_dup2 d_X12_ends_19 rfl rfl ?_
  obtain ⟨v20, e20, hF⟩ := Option.bind_eq_some_iff.mp hF
  refine q_aI d_X12_ends_20 e20 ?_
  refine g_ic (1) d_X12_ends_21 ic_1 ?_
  refine g_iadd d_X12_ends_22 ?_
  obtain ⟨h23, e23, hF⟩ := Option.bind_eq_some_iff.mp hF
  refine q_sI d_X12_ends_23 e23 ?_
  obtain ⟨rfl, rfl⟩ := x_inj hF
  exact g_vret d_X12_ends_24 rfl hq
def F_X12_ends (x0 : Nat) (h : xH) : Option (Unit × xH) := (rc h x0 11).bind fun _ => (F_X12_eats x0 30 h).bind fun z3 => if ¬ z3.1 = 0 then F_X12_ends_b14 x0 z3.2 else (rc z3.2 x0 11).bind fun _ => (F_X12_fails x0 2 z3.2).bind fun z11 => F_X12_ends_b14 x0 z11.2
theorem R_X12_ends {Γ : xG} {l : Launch} {d : Nat} {r : Unit} {h' : xH} (x0 : Nat) (h : xH) (hdp : 8 ≤ d) (hF : F_X12_ends x0 h = some (r, h')) : Gm Γ l d 0 0 m_X12_ends [.ref x0] h (fun a u => a = none ∧ u = h') := by
  refine Gm.of pn_X12 (Nat.le_of_ble_eq_true rfl) ?_
  show Gd Γ l d m_X12_ends 0 [.ref x0] [] h 0 0 _
  generalize hQ : (fun (a : Option Value) (u : xH) => a = none ∧ u = h') = Q
  have hq : Q (none) h' := by rw [← hQ]; exact ⟨rfl, rfl⟩
  clear hQ
  unfold F_X12_ends at hF
  refine g_aloadn d_X12_ends_0 rfl ?_
  refine g_bi (30) d_X12_ends_1 bi_30 ?_
  obtain ⟨_, g3, hF⟩ := Option.bind_eq_some_iff.mp hF
  obtain ⟨⟨r3, h3⟩, e3, hF⟩ := Option.bind_eq_some_iff.mp hF
  try dsimp only at hF
  refine q_callV [.int 30] [] rfl d_X12_ends_3 v_X12_171 (by omega) rfl (Nat.le_of_ble_eq_true rfl) (rc_rc g3 (by decide) rfl) (R_X12_eats _ _ _ (by omega) e3) ?_
  refine g_if_ne 14 d_X12_ends_6 rfl (fun c6 => ?_) (fun c6 => ?_)
  · have hF := x_t hF c6
    exact q_to (xs_r xs_n) (R_X12_ends_b14 hdp hq _ _ hF)
  · have hF := x_f hF (not_not_intro c6)
    refine g_aloadn d_X12_ends_9 rfl ?_
    refine g_ic (2) d_X12_ends_10 ic_2 ?_
    obtain ⟨_, g11, hF⟩ := Option.bind_eq_some_iff.mp hF
    obtain ⟨⟨r11, h11⟩, e11, hF⟩ := Option.bind_eq_some_iff.mp hF
    try dsimp only at hF
    refine q_callV [.int 2] [] rfl d_X12_ends_11 v_X12_144 (by omega) rfl (Nat.le_of_ble_eq_true rfl) (rc_rc g11 (by decide) rfl) (R_X12_fails _ _ _ (by omega) e11) ?_
    exact q_to (xs_r xs_n) (R_X12_ends_b14 hdp hq _ _ hF)
theorem d_X12_valley_0 : decode cX12_valley 0 = .ok (.aload_n 0, 1) := by decide +kernel
theorem d_X12_valley_1 : decode cX12_valley 1 = .ok (.iconst 0, 1) := by decide +kernel
theorem d_X12_valley_2 : decode cX12_valley 2 = .ok (.putfield 1, 3) := by decide +kernel
theorem d_X12_valley_5 : decode cX12_valley 5 = .ok (.iload_n 1, 1) := by decide +kernel
theorem d_X12_valley_6 : decode cX12_valley 6 = .ok (.i2l, 1) := by decide +kernel
theorem d_X12_valley_7 : decode cX12_valley 7 = .ok (.lconst 0, 1) := by decide +kernel
theorem d_X12_valley_8 : decode cX12_valley 8 = .ok (.aload_n 0, 1) := by decide +kernel
theorem d_X12_valley_9 : decode cX12_valley 9 = .ok (.getfield 86, 3) := by decide +kernel
theorem d_X12_valley_12 : decode cX12_valley 12 = .ok (.i2l, 1) := by decide +kernel
theorem d_X12_valley_13 : decode cX12_valley 13 = .ok (.invokestatic 148, 3) := by decide +kernel
theorem d_X12_valley_16 : decode cX12_valley 16 = .ok (.ifCond .ne 6, 3) := by decide +kernel
theorem d_X12_valley_19 : decode cX12_valley 19 = .ok (.bipush (-3), 2) := by decide +kernel
theorem d_X12_valley_21 : decode cX12_valley 21 = .ok (.ireturn, 1) := by decide +kernel
theorem d_X12_valley_22 : decode cX12_valley 22 = .ok (.aload_n 0, 1) := by decide +kernel
theorem d_X12_valley_23 : decode cX12_valley 23 = .ok (.iload_n 1, 1) := by decide +kernel
theorem d_X12_valley_24 : decode cX12_valley 24 = .ok (.putfield 89, 3) := by decide +kernel
theorem d_X12_valley_27 : decode cX12_valley 27 = .ok (.aload_n 0, 1) := by decide +kernel
theorem d_X12_valley_28 : decode cX12_valley 28 = .ok (.iconst 0, 1) := by decide +kernel
theorem d_X12_valley_29 : decode cX12_valley 29 = .ok (.putfield 86, 3) := by decide +kernel
theorem d_X12_valley_32 : decode cX12_valley 32 = .ok (.aload_n 0, 1) := by decide +kernel
theorem d_X12_valley_33 : decode cX12_valley 33 = .ok (.iconst 0, 1) := by decide +kernel
theorem d_X12_valley_34 : decode cX12_valley 34 = .ok (.putfield 107, 3) := by decide +kernel
theorem d_X12_valley_37 : decode cX12_valley 37 = .ok (.aload_n 0, 1) := by decide +kernel
theorem d_X12_valley_38 : decode cX12_valley 38 = .ok (.iconst 0, 1) := by decide +kernel
theorem d_X12_valley_39 : decode cX12_valley 39 = .ok (.putfield 132, 3) := by decide +kernel
theorem d_X12_valley_42 : decode cX12_valley 42 = .ok (.aload_n 0, 1) := by decide +kernel
theorem d_X12_valley_43 : decode cX12_valley 43 = .ok (.getfield 24, 3) := by decide +kernel
theorem d_X12_valley_46 : decode cX12_valley 46 = .ok (.invokestatic 82, 3) := by decide +kernel
theorem d_X12_valley_49 : decode cX12_valley 49 = .ok (.aload_n 0, 1) := by decide +kernel
theorem d_X12_valley_50 : decode cX12_valley 50 = .ok (.invokevirtual 141, 3) := by decide +kernel
theorem d_X12_valley_53 : decode cX12_valley 53 = .ok (.aload_n 0, 1) := by decide +kernel
theorem d_X12_valley_54 : decode cX12_valley 54 = .ok (.iconst 0, 1) := by decide +kernel
theorem d_X12_valley_55 : decode cX12_valley 55 = .ok (.invokevirtual 171, 3) := by decide +kernel
theorem d_X12_valley_58 : decode cX12_valley 58 = .ok (.ifCond .ne 8, 3) := by decide +kernel
theorem d_X12_valley_61 : decode cX12_valley 61 = .ok (.aload_n 0, 1) := by decide +kernel
theorem d_X12_valley_62 : decode cX12_valley 62 = .ok (.iconst 2, 1) := by decide +kernel
theorem d_X12_valley_63 : decode cX12_valley 63 = .ok (.invokevirtual 144, 3) := by decide +kernel
theorem d_X12_valley_66 : decode cX12_valley 66 = .ok (.aload_n 0, 1) := by decide +kernel
theorem d_X12_valley_67 : decode cX12_valley 67 = .ok (.getfield 24, 3) := by decide +kernel
theorem d_X12_valley_70 : decode cX12_valley 70 = .ok (.iconst 1, 1) := by decide +kernel
theorem d_X12_valley_71 : decode cX12_valley 71 = .ok (.aload_n 0, 1) := by decide +kernel
theorem d_X12_valley_72 : decode cX12_valley 72 = .ok (.iconst 2, 1) := by decide +kernel
theorem d_X12_valley_73 : decode cX12_valley 73 = .ok (.bipush 10, 2) := by decide +kernel
theorem d_X12_valley_75 : decode cX12_valley 75 = .ok (.invokevirtual 189, 3) := by decide +kernel
theorem d_X12_valley_78 : decode cX12_valley 78 = .ok (.iastore, 1) := by decide +kernel
theorem d_X12_valley_79 : decode cX12_valley 79 = .ok (.aload_n 0, 1) := by decide +kernel
theorem d_X12_valley_80 : decode cX12_valley 80 = .ok (.invokevirtual 211, 3) := by decide +kernel
theorem d_X12_valley_83 : decode cX12_valley 83 = .ok (.aload_n 0, 1) := by decide +kernel
theorem d_X12_valley_84 : decode cX12_valley 84 = .ok (.getfield 132, 3) := by decide +kernel
theorem d_X12_valley_87 : decode cX12_valley 87 = .ok (.ifCond .ne 23, 3) := by decide +kernel
theorem d_X12_valley_90 : decode cX12_valley 90 = .ok (.aload_n 0, 1) := by decide +kernel
theorem d_X12_valley_91 : decode cX12_valley 91 = .ok (.getfield 114, 3) := by decide +kernel
theorem d_X12_valley_94 : decode cX12_valley 94 = .ok (.bipush 24, 2) := by decide +kernel
theorem d_X12_valley_96 : decode cX12_valley 96 = .ok (.if_icmp .eq 14, 3) := by decide +kernel
theorem d_X12_valley_99 : decode cX12_valley 99 = .ok (.aload_n 0, 1) := by decide +kernel
theorem d_X12_valley_100 : decode cX12_valley 100 = .ok (.invokevirtual 214, 3) := by decide +kernel
theorem d_X12_valley_103 : decode cX12_valley 103 = .ok (.aload_n 0, 1) := by decide +kernel
theorem d_X12_valley_104 : decode cX12_valley 104 = .ok (.invokevirtual 211, 3) := by decide +kernel
theorem d_X12_valley_107 : decode cX12_valley 107 = .ok (.goto (-24), 3) := by decide +kernel
theorem d_X12_valley_110 : decode cX12_valley 110 = .ok (.aload_n 0, 1) := by decide +kernel
theorem d_X12_valley_111 : decode cX12_valley 111 = .ok (.aload_n 0, 1) := by decide +kernel
theorem d_X12_valley_112 : decode cX12_valley 112 = .ok (.getfield 132, 3) := by decide +kernel
theorem d_X12_valley_115 : decode cX12_valley 115 = .ok (.putfield 217, 3) := by decide +kernel
theorem d_X12_valley_118 : decode cX12_valley 118 = .ok (.aload_n 0, 1) := by decide +kernel
theorem d_X12_valley_119 : decode cX12_valley 119 = .ok (.aload_n 0, 1) := by decide +kernel
theorem d_X12_valley_120 : decode cX12_valley 120 = .ok (.getfield 132, 3) := by decide +kernel
theorem d_X12_valley_123 : decode cX12_valley 123 = .ok (.ifCond .ne 7, 3) := by decide +kernel
theorem d_X12_valley_126 : decode cX12_valley 126 = .ok (.iconst (-1), 1) := by decide +kernel
theorem d_X12_valley_127 : decode cX12_valley 127 = .ok (.goto 7, 3) := by decide +kernel
theorem d_X12_valley_130 : decode cX12_valley 130 = .ok (.aload_n 0, 1) := by decide +kernel
theorem d_X12_valley_131 : decode cX12_valley 131 = .ok (.getfield 135, 3) := by decide +kernel
theorem d_X12_valley_134 : decode cX12_valley 134 = .ok (.putfield 27, 3) := by decide +kernel
theorem d_X12_valley_137 : decode cX12_valley 137 = .ok (.aload_n 0, 1) := by decide +kernel
theorem d_X12_valley_138 : decode cX12_valley 138 = .ok (.getfield 132, 3) := by decide +kernel
theorem d_X12_valley_141 : decode cX12_valley 141 = .ok (.ifCond .eq 11, 3) := by decide +kernel
theorem d_X12_valley_144 : decode cX12_valley 144 = .ok (.bipush (-30), 2) := by decide +kernel
theorem d_X12_valley_146 : decode cX12_valley 146 = .ok (.aload_n 0, 1) := by decide +kernel
theorem d_X12_valley_147 : decode cX12_valley 147 = .ok (.getfield 132, 3) := by decide +kernel
theorem d_X12_valley_150 : decode cX12_valley 150 = .ok (.isub, 1) := by decide +kernel
theorem d_X12_valley_151 : decode cX12_valley 151 = .ok (.ireturn, 1) := by decide +kernel
theorem d_X12_valley_152 : decode cX12_valley 152 = .ok (.iconst 0, 1) := by decide +kernel
theorem d_X12_valley_153 : decode cX12_valley 153 = .ok (.istore_n 2, 1) := by decide +kernel
theorem d_X12_valley_154 : decode cX12_valley 154 = .ok (.iload_n 2, 1) := by decide +kernel
theorem d_X12_valley_155 : decode cX12_valley 155 = .ok (.sipush 1229, 3) := by decide +kernel
theorem d_X12_valley_158 : decode cX12_valley 158 = .ok (.if_icmp .ge 21, 3) := by decide +kernel
theorem d_X12_valley_161 : decode cX12_valley 161 = .ok (.aload_n 0, 1) := by decide +kernel
theorem d_X12_valley_162 : decode cX12_valley 162 = .ok (.getfield 13, 3) := by decide +kernel
theorem d_X12_valley_165 : decode cX12_valley 165 = .ok (.iload_n 2, 1) := by decide +kernel
theorem d_X12_valley_166 : decode cX12_valley 166 = .ok (.aload_n 0, 1) := by decide +kernel
theorem d_X12_valley_167 : decode cX12_valley 167 = .ok (.getfield 24, 3) := by decide +kernel
theorem d_X12_valley_170 : decode cX12_valley 170 = .ok (.iload_n 2, 1) := by decide +kernel
theorem d_X12_valley_171 : decode cX12_valley 171 = .ok (.iaload, 1) := by decide +kernel
theorem d_X12_valley_172 : decode cX12_valley 172 = .ok (.iastore, 1) := by decide +kernel
theorem d_X12_valley_173 : decode cX12_valley 173 = .ok (.iinc 2 1, 3) := by decide +kernel
theorem d_X12_valley_176 : decode cX12_valley 176 = .ok (.goto (-22), 3) := by decide +kernel
theorem d_X12_valley_179 : decode cX12_valley 179 = .ok (.aload_n 0, 1) := by decide +kernel
theorem d_X12_valley_180 : decode cX12_valley 180 = .ok (.getfield 13, 3) := by decide +kernel
theorem d_X12_valley_183 : decode cX12_valley 183 = .ok (.iconst 0, 1) := by decide +kernel
theorem d_X12_valley_184 : decode cX12_valley 184 = .ok (.iaload, 1) := by decide +kernel
theorem d_X12_valley_185 : decode cX12_valley 185 = .ok (.ireturn, 1) := by decide +kernel
def F_X12_valley_b154 : Nat → Nat → Int32 → xH → Option (Int32 × xH)
  | 0, _, _, _ => none
  | n + 1, x0, x2, h => if ((1229 : Int32)) ≤ x2 then (fR h x0 11 1).bind fun v180 => (aI h v180 0).bind fun v184 => some (v184, h) else (fR h x0 11 1).bind fun v162 => (fR h x0 11 4).bind fun v167 => (aI h v167 x2).bind fun v171 => (sI h v162 x2 v171).bind fun h172 => F_X12_valley_b154 n x0 (x2 + 1) h172
theorem R_X12_valley_b154 {Γ : xG} {l : Launch} {d : Nat} {Q : Option Value → xH → Prop} {r : Int32} {h' : xH} (hdp : 212 ≤ d) (hq : Q (some (.int r)) h') : ∀ (n : Nat) (x0 : Nat) (x2 : Int32) (h : xH), F_X12_valley_b154 n x0 x2 h = some (r, h') → Gd Γ l d m_X12_valley 154 [.ref x0, xhole, .int x2] [] h 0 0 Q := by
  intro n
  induction n with
  | zero => intro x0 x2 h hF; cases hF
  | succ n ih =>
  intro x0 x2 h hF
  rw [F_X12_valley_b154] at hF
  refine g_iloadn d_X12_valley_154 rfl ?_
  refine g_si (1229) d_X12_valley_155 si_1229 ?_
  refine g_icmp_ge 179 d_X12_valley_158 rfl (fun c158 => ?_) (fun c158 => ?_)
  · have hF := x_t hF c158
    refine g_aloadn d_X12_valley_179 rfl ?_
    obtain ⟨v180, e180, hF⟩ := Option.bind_eq_some_iff.mp hF
    refine q_fR d_X12_valley_180 f_X12_13 e180 ?_
    refine g_ic (0) d_X12_valley_183 ic_0 ?_
    obtain ⟨v184, e184, hF⟩ := Option.bind_eq_some_iff.mp hF
    refine q_aI d_X12_valley_184 e184 ?_
    obtain ⟨rfl, rfl⟩ := x_inj hF
    exact g_iret d_X12_valley_185 rfl hq
  · have hF := x_f hF c158
    refine g_aloadn d_X12_valley_161 rfl ?_
    obtain ⟨v162, e162, hF⟩ := Option.bind_eq_some_iff.mp hF
    refine q_fR d_X12_valley_162 f_X12_13 e162 ?_
    refine g_iloadn d_X12_valley_165 rfl ?_
    refine g_aloadn d_X12_valley_166 rfl ?_
    obtain ⟨v167, e167, hF⟩ := Option.bind_eq_some_iff.mp hF
    refine q_fR d_X12_valley_167 f_X12_24 e167 ?_
    refine g_iloadn d_X12_valley_170 rfl ?_
    obtain ⟨v171, e171, hF⟩ := Option.bind_eq_some_iff.mp hF
    refine q_aI d_X12_valley_171 e171 ?_
    obtain ⟨h172, e172, hF⟩ := Option.bind_eq_some_iff.mp hF
    refine q_sI d_X12_valley_172 e172 ?_
    refine q_iinc (1) [.ref x0, xhole, .int (x2 + 1)] d_X12_valley_173 ic_1 rfl (by decide) rfl ?_
    refine g_goto 154 d_X12_valley_176 rfl ?_
    exact q_to (xs_r (xs_h (xs_r xs_n))) (ih _ _ _ hF)
def F_X12_valley_b134 (x0 : Nat) (s0 : Nat) (s1 : Int32) (h : xH) : Option (Int32 × xH) := (wI h s0 11 14 s1).bind fun h134 => (fI h134 x0 11 11).bind fun v138 => if v138 = 0 then F_X12_valley_b154 FU x0 0 h134 else (fI h134 x0 11 11).bind fun v147 => some ((((-30) : Int32)) - v147, h134)
theorem R_X12_valley_b134 {Γ : xG} {l : Launch} {d : Nat} {Q : Option Value → xH → Prop} {r : Int32} {h' : xH} (hdp : 212 ≤ d) (hq : Q (some (.int r)) h') : ∀ (x0 : Nat) (s0 : Nat) (s1 : Int32) (h : xH), F_X12_valley_b134 x0 s0 s1 h = some (r, h') → Gd Γ l d m_X12_valley 134 [.ref x0, xhole, xhole] [.int s1, .ref s0] h 0 0 Q := by
  intro x0 s0 s1 h hF
  unfold F_X12_valley_b134 at hF
  obtain ⟨h134, e134, hF⟩ := Option.bind_eq_some_iff.mp hF
  refine q_wI d_X12_valley_134 (w_X12_27 _) e134 ?_
  refine g_aloadn d_X12_valley_137 rfl ?_
  obtain ⟨v138, e138, hF⟩ := Option.bind_eq_some_iff.mp hF
  refine q_fI d_X12_valley_138 f_X12_132 e138 ?_
  refine g_if_eq 152 d_X12_valley_141 rfl (fun c141 => ?_) (fun c141 => ?_)
  · have hF := x_t hF c141
    refine g_ic (0) d_X12_valley_152 ic_0 ?_
    refine q_istoren [.ref x0, xhole, .int 0] d_X12_valley_153 (by decide) rfl ?_
    exact q_to (xs_r (xs_h (xs_r xs_n))) (R_X12_valley_b154 hdp hq FU _ _ _ hF)
  · have hF := x_f hF c141
    refine g_bi (-30) d_X12_valley_144 bi_m30 ?_
    refine g_aloadn d_X12_valley_146 rfl ?_
    obtain ⟨v147, e147, hF⟩ := Option.bind_eq_some_iff.mp hF
    refine q_fI d_X12_valley_147 f_X12_132 e147 ?_
    refine g_isub d_X12_valley_150 ?_
    obtain ⟨rfl, rfl⟩ := x_inj hF
    exact g_iret d_X12_valley_151 rfl hq
def F_X12_valley_b110 (x0 : Nat) (h : xH) : Option (Int32 × xH) := (fI h x0 11 11).bind fun v112 => (wI h x0 11 13 v112).bind fun h115 => (fI h115 x0 11 11).bind fun v120 => if ¬ v120 = 0 then (fI h115 x0 11 12).bind fun v131 => F_X12_valley_b134 x0 x0 v131 h115 else F_X12_valley_b134 x0 x0 ((-1)) h115
theorem R_X12_valley_b110 {Γ : xG} {l : Launch} {d : Nat} {Q : Option Value → xH → Prop} {r : Int32} {h' : xH} (hdp : 212 ≤ d) (hq : Q (some (.int r)) h') : ∀ (x0 : Nat) (h : xH), F_X12_valley_b110 x0 h = some (r, h') → Gd Γ l d m_X12_valley 110 [.ref x0, xhole, xhole] [] h 0 0 Q := by
  intro x0 h hF
  unfold F_X12_valley_b110 at hF
  refine g_aloadn d_X12_valley_110 rfl ?_
  refine g_aloadn d_X12_valley_111 rfl ?_
  obtain ⟨v112, e112, hF⟩ := Option.bind_eq_some_iff.mp hF
  refine q_fI d_X12_valley_112 f_X12_132 e112 ?_
  obtain ⟨h115, e115, hF⟩ := Option.bind_eq_some_iff.mp hF
  refine q_wI d_X12_valley_115 (w_X12_217 _) e115 ?_
  refine g_aloadn d_X12_valley_118 rfl ?_
  refine g_aloadn d_X12_valley_119 rfl ?_
  obtain ⟨v120, e120, hF⟩ := Option.bind_eq_some_iff.mp hF
  refine q_fI d_X12_valley_120 f_X12_132 e120 ?_
  refine g_if_ne 130 d_X12_valley_123 rfl (fun c123 => ?_) (fun c123 => ?_)
  · have hF := x_t hF c123
    refine g_aloadn d_X12_valley_130 rfl ?_
    obtain ⟨v131, e131, hF⟩ := Option.bind_eq_some_iff.mp hF
    refine q_fI d_X12_valley_131 f_X12_135 e131 ?_
    exact q_to (xs_r (xs_h (xs_h xs_n))) (R_X12_valley_b134 hdp hq _ _ _ _ hF)
  · have hF := x_f hF (not_not_intro c123)
    refine g_ic (-1) d_X12_valley_126 ic_m1 ?_
    refine g_goto 134 d_X12_valley_127 rfl ?_
    exact q_to (xs_r (xs_h (xs_h xs_n))) (R_X12_valley_b134 hdp hq _ _ _ _ hF)
def F_X12_valley_b83 : Nat → Nat → xH → Option (Int32 × xH)
  | 0, _, _ => none
  | n + 1, x0, h => (fI h x0 11 11).bind fun v84 => if ¬ v84 = 0 then F_X12_valley_b110 x0 h else (fI h x0 11 9).bind fun v91 => if v91 = ((24 : Int32)) then F_X12_valley_b110 x0 h else (rc h x0 11).bind fun _ => (F_X12_readLine x0 h).bind fun z100 => (rc z100.2 x0 11).bind fun _ => (F_X12_ends x0 z100.2).bind fun z104 => F_X12_valley_b83 n x0 z104.2
theorem R_X12_valley_b83 {Γ : xG} {l : Launch} {d : Nat} {Q : Option Value → xH → Prop} {r : Int32} {h' : xH} (hdp : 212 ≤ d) (hq : Q (some (.int r)) h') : ∀ (n : Nat) (x0 : Nat) (h : xH), F_X12_valley_b83 n x0 h = some (r, h') → Gd Γ l d m_X12_valley 83 [.ref x0, xhole, xhole] [] h 0 0 Q := by
  intro n
  induction n with
  | zero => intro x0 h hF; cases hF
  | succ n ih =>
  intro x0 h hF
  rw [F_X12_valley_b83] at hF
  refine g_aloadn d_X12_valley_83 rfl ?_
  obtain ⟨v84, e84, hF⟩ := Option.bind_eq_some_iff.mp hF
  refine q_fI d_X12_valley_84 f_X12_132 e84 ?_
  refine g_if_ne 110 d_X12_valley_87 rfl (fun c87 => ?_) (fun c87 => ?_)
  · have hF := x_t hF c87
    exact q_to (xs_r (xs_h (xs_h xs_n))) (R_X12_valley_b110 hdp hq _ _ hF)
  · have hF := x_f hF (not_not_intro c87)
    refine g_aloadn d_X12_valley_90 rfl ?_
    obtain ⟨v91, e91, hF⟩ := Option.bind_eq_some_iff.mp hF
    refine q_fI d_X12_valley_91 f_X12_114 e91 ?_
    refine g_bi (24) d_X12_valley_94 bi_24 ?_
    refine g_icmp_eq 110 d_X12_valley_96 rfl (fun c96 => ?_) (fun c96 => ?_)
    · have hF := x_t hF c96
      exact q_to (xs_r (xs_h (xs_h xs_n))) (R_X12_valley_b110 hdp hq _ _ hF)
    · have hF := x_f hF c96
      refine g_aloadn d_X12_valley_99 rfl ?_
      obtain ⟨_, g100, hF⟩ := Option.bind_eq_some_iff.mp hF
      obtain ⟨⟨r100, h100⟩, e100, hF⟩ := Option.bind_eq_some_iff.mp hF
      try dsimp only at hF
      refine q_callV [] [] rfl d_X12_valley_100 v_X12_214 (by omega) rfl (Nat.le_of_ble_eq_true rfl) (rc_rc g100 (by decide) rfl) (R_X12_readLine _ _ (by omega) e100) ?_
      refine g_aloadn d_X12_valley_103 rfl ?_
      obtain ⟨_, g104, hF⟩ := Option.bind_eq_some_iff.mp hF
      obtain ⟨⟨r104, h104⟩, e104, hF⟩ := Option.bind_eq_some_iff.mp hF
      try dsimp only at hF
      refine q_callV [] [] rfl d_X12_valley_104 v_X12_211 (by omega) rfl (Nat.le_of_ble_eq_true rfl) (rc_rc g104 (by decide) rfl) (R_X12_ends _ _ (by omega) e104) ?_
      refine g_goto 83 d_X12_valley_107 rfl ?_
      exact q_to (xs_r (xs_h (xs_h xs_n))) (ih _ _ hF)
def F_X12_valley_b66 (x0 : Nat) (h : xH) : Option (Int32 × xH) := (fR h x0 11 4).bind fun v67 => (rc h x0 11).bind fun _ => (F_X12_takes x0 2 10 h).bind fun z75 => (sI z75.2 v67 1 z75.1).bind fun h78 => (rc h78 x0 11).bind fun _ => (F_X12_ends x0 h78).bind fun z80 => F_X12_valley_b83 FU x0 z80.2
theorem R_X12_valley_b66 {Γ : xG} {l : Launch} {d : Nat} {Q : Option Value → xH → Prop} {r : Int32} {h' : xH} (hdp : 212 ≤ d) (hq : Q (some (.int r)) h') : ∀ (x0 : Nat) (h : xH), F_X12_valley_b66 x0 h = some (r, h') → Gd Γ l d m_X12_valley 66 [.ref x0, xhole, xhole] [] h 0 0 Q := by
  intro x0 h hF
  unfold F_X12_valley_b66 at hF
  refine g_aloadn d_X12_valley_66 rfl ?_
  obtain ⟨v67, e67, hF⟩ := Option.bind_eq_some_iff.mp hF
  refine q_fR d_X12_valley_67 f_X12_24 e67 ?_
  refine g_ic (1) d_X12_valley_70 ic_1 ?_
  refine g_aloadn d_X12_valley_71 rfl ?_
  refine g_ic (2) d_X12_valley_72 ic_2 ?_
  refine g_bi (10) d_X12_valley_73 bi_10 ?_
  obtain ⟨_, g75, hF⟩ := Option.bind_eq_some_iff.mp hF
  obtain ⟨⟨r75, h75⟩, e75, hF⟩ := Option.bind_eq_some_iff.mp hF
  try dsimp only at hF
  refine q_callV [.int 2, .int 10] [.int 1, .ref v67] rfl d_X12_valley_75 v_X12_189 (by omega) rfl (Nat.le_of_ble_eq_true rfl) (rc_rc g75 (by decide) rfl) (R_X12_takes _ _ _ _ (by omega) e75) ?_
  obtain ⟨h78, e78, hF⟩ := Option.bind_eq_some_iff.mp hF
  refine q_sI d_X12_valley_78 e78 ?_
  refine g_aloadn d_X12_valley_79 rfl ?_
  obtain ⟨_, g80, hF⟩ := Option.bind_eq_some_iff.mp hF
  obtain ⟨⟨r80, h80⟩, e80, hF⟩ := Option.bind_eq_some_iff.mp hF
  try dsimp only at hF
  refine q_callV [] [] rfl d_X12_valley_80 v_X12_211 (by omega) rfl (Nat.le_of_ble_eq_true rfl) (rc_rc g80 (by decide) rfl) (R_X12_ends _ _ (by omega) e80) ?_
  exact q_to (xs_r (xs_h (xs_h xs_n))) (R_X12_valley_b83 hdp hq FU _ _ hF)
def F_X12_valley (x0 : Nat) (x1 : Int32) (h : xH) : Option (Int32 × xH) := (wI h x0 11 0 0).bind fun h2 => (fI h2 x0 11 5).bind fun v9 => (F_X12_within x1.toInt64 0 v9.toInt64 h2).bind fun z13 => if ¬ z13.1 = 0 then (wI z13.2 x0 11 8 x1).bind fun h24 => (wI h24 x0 11 5 0).bind fun h29 => (wI h29 x0 11 7 0).bind fun h34 => (wI h34 x0 11 11 0).bind fun h39 => (fR h39 x0 11 4).bind fun v43 => (F_X12_plain v43 h39).bind fun z46 => (rc z46.2 x0 11).bind fun _ => (F_X12_next x0 z46.2).bind fun z50 => (rc z50.2 x0 11).bind fun _ => (F_X12_eats x0 0 z50.2).bind fun z55 => if ¬ z55.1 = 0 then F_X12_valley_b66 x0 z55.2 else (rc z55.2 x0 11).bind fun _ => (F_X12_fails x0 2 z55.2).bind fun z63 => F_X12_valley_b66 x0 z63.2 else some ((-3), z13.2)
theorem R_X12_valley {Γ : xG} {l : Launch} {d : Nat} {r : Int32} {h' : xH} (x0 : Nat) (x1 : Int32) (h : xH) (hdp : 212 ≤ d) (hF : F_X12_valley x0 x1 h = some (r, h')) : Gm Γ l d 0 0 m_X12_valley [.ref x0, .int x1] h (fun a u => a = some (.int r) ∧ u = h') := by
  refine Gm.of pn_X12 (Nat.le_of_ble_eq_true rfl) ?_
  show Gd Γ l d m_X12_valley 0 [.ref x0, .int x1, xhole] [] h 0 0 _
  generalize hQ : (fun (a : Option Value) (u : xH) => a = some (.int r) ∧ u = h') = Q
  have hq : Q (some (.int r)) h' := by rw [← hQ]; exact ⟨rfl, rfl⟩
  clear hQ
  unfold F_X12_valley at hF
  refine g_aloadn d_X12_valley_0 rfl ?_
  refine g_ic (0) d_X12_valley_1 ic_0 ?_
  obtain ⟨h2, e2, hF⟩ := Option.bind_eq_some_iff.mp hF
  refine q_wI d_X12_valley_2 (w_X12_1 _) e2 ?_
  refine g_iloadn d_X12_valley_5 rfl ?_
  refine g_i2l d_X12_valley_6 ?_
  refine g_lc 0 d_X12_valley_7 rfl ?_
  refine g_aloadn d_X12_valley_8 rfl ?_
  obtain ⟨v9, e9, hF⟩ := Option.bind_eq_some_iff.mp hF
  refine q_fI d_X12_valley_9 f_X12_86 e9 ?_
  refine g_i2l d_X12_valley_12 ?_
  obtain ⟨⟨r13, h13⟩, e13, hF⟩ := Option.bind_eq_some_iff.mp hF
  try dsimp only at hF
  refine q_callS [.long (x1.toInt64), .long 0, .long (v9.toInt64)] [] rfl d_X12_valley_13 s_X12_148 (by omega) rfl (Nat.le_of_ble_eq_true rfl) (R_X12_within _ _ _ _ (by omega) e13) ?_
  refine g_if_ne 22 d_X12_valley_16 rfl (fun c16 => ?_) (fun c16 => ?_)
  · have hF := x_t hF c16
    refine g_aloadn d_X12_valley_22 rfl ?_
    refine g_iloadn d_X12_valley_23 rfl ?_
    obtain ⟨h24, e24, hF⟩ := Option.bind_eq_some_iff.mp hF
    refine q_wI d_X12_valley_24 (w_X12_89 _) e24 ?_
    refine g_aloadn d_X12_valley_27 rfl ?_
    refine g_ic (0) d_X12_valley_28 ic_0 ?_
    obtain ⟨h29, e29, hF⟩ := Option.bind_eq_some_iff.mp hF
    refine q_wI d_X12_valley_29 (w_X12_86 _) e29 ?_
    refine g_aloadn d_X12_valley_32 rfl ?_
    refine g_ic (0) d_X12_valley_33 ic_0 ?_
    obtain ⟨h34, e34, hF⟩ := Option.bind_eq_some_iff.mp hF
    refine q_wI d_X12_valley_34 (w_X12_107 _) e34 ?_
    refine g_aloadn d_X12_valley_37 rfl ?_
    refine g_ic (0) d_X12_valley_38 ic_0 ?_
    obtain ⟨h39, e39, hF⟩ := Option.bind_eq_some_iff.mp hF
    refine q_wI d_X12_valley_39 (w_X12_132 _) e39 ?_
    refine g_aloadn d_X12_valley_42 rfl ?_
    obtain ⟨v43, e43, hF⟩ := Option.bind_eq_some_iff.mp hF
    refine q_fR d_X12_valley_43 f_X12_24 e43 ?_
    obtain ⟨⟨r46, h46⟩, e46, hF⟩ := Option.bind_eq_some_iff.mp hF
    try dsimp only at hF
    refine q_callS [.ref v43] [] rfl d_X12_valley_46 s_X12_82 (by omega) rfl (Nat.le_of_ble_eq_true rfl) (R_X12_plain _ _ (by omega) e46) ?_
    refine g_aloadn d_X12_valley_49 rfl ?_
    obtain ⟨_, g50, hF⟩ := Option.bind_eq_some_iff.mp hF
    obtain ⟨⟨r50, h50⟩, e50, hF⟩ := Option.bind_eq_some_iff.mp hF
    try dsimp only at hF
    refine q_callV [] [] rfl d_X12_valley_50 v_X12_141 (by omega) rfl (Nat.le_of_ble_eq_true rfl) (rc_rc g50 (by decide) rfl) (R_X12_next _ _ (by omega) e50) ?_
    refine g_aloadn d_X12_valley_53 rfl ?_
    refine g_ic (0) d_X12_valley_54 ic_0 ?_
    obtain ⟨_, g55, hF⟩ := Option.bind_eq_some_iff.mp hF
    obtain ⟨⟨r55, h55⟩, e55, hF⟩ := Option.bind_eq_some_iff.mp hF
    try dsimp only at hF
    refine q_callV [.int 0] [] rfl d_X12_valley_55 v_X12_171 (by omega) rfl (Nat.le_of_ble_eq_true rfl) (rc_rc g55 (by decide) rfl) (R_X12_eats _ _ _ (by omega) e55) ?_
    refine g_if_ne 66 d_X12_valley_58 rfl (fun c58 => ?_) (fun c58 => ?_)
    · have hF := x_t hF c58
      exact q_to (xs_r (xs_h (xs_h xs_n))) (R_X12_valley_b66 hdp hq _ _ hF)
    · have hF := x_f hF (not_not_intro c58)
      refine g_aloadn d_X12_valley_61 rfl ?_
      refine g_ic (2) d_X12_valley_62 ic_2 ?_
      obtain ⟨_, g63, hF⟩ := Option.bind_eq_some_iff.mp hF
      obtain ⟨⟨r63, h63⟩, e63, hF⟩ := Option.bind_eq_some_iff.mp hF
      try dsimp only at hF
      refine q_callV [.int 2] [] rfl d_X12_valley_63 v_X12_144 (by omega) rfl (Nat.le_of_ble_eq_true rfl) (rc_rc g63 (by decide) rfl) (R_X12_fails _ _ _ (by omega) e63) ?_
      exact q_to (xs_r (xs_h (xs_h xs_n))) (R_X12_valley_b66 hdp hq _ _ hF)
  · have hF := x_f hF (not_not_intro c16)
    refine g_bi (-3) d_X12_valley_19 bi_m3 ?_
    obtain ⟨rfl, rfl⟩ := x_inj hF
    exact g_iret d_X12_valley_21 rfl hq
theorem d_X12_fault_0 : decode cX12_fault 0 = .ok (.aload_n 0, 1) := by decide +kernel
theorem d_X12_fault_1 : decode cX12_fault 1 = .ok (.iconst 0, 1) := by decide +kernel
theorem d_X12_fault_2 : decode cX12_fault 2 = .ok (.putfield 1, 3) := by decide +kernel
theorem d_X12_fault_5 : decode cX12_fault 5 = .ok (.iload_n 1, 1) := by decide +kernel
theorem d_X12_fault_6 : decode cX12_fault 6 = .ok (.ifCond .ne 10, 3) := by decide +kernel
theorem d_X12_fault_9 : decode cX12_fault 9 = .ok (.aload_n 0, 1) := by decide +kernel
theorem d_X12_fault_10 : decode cX12_fault 10 = .ok (.getfield 217, 3) := by decide +kernel
theorem d_X12_fault_13 : decode cX12_fault 13 = .ok (.goto 16, 3) := by decide +kernel
theorem d_X12_fault_16 : decode cX12_fault 16 = .ok (.iload_n 1, 1) := by decide +kernel
theorem d_X12_fault_17 : decode cX12_fault 17 = .ok (.iconst 1, 1) := by decide +kernel
theorem d_X12_fault_18 : decode cX12_fault 18 = .ok (.if_icmp .ne 10, 3) := by decide +kernel
theorem d_X12_fault_21 : decode cX12_fault 21 = .ok (.aload_n 0, 1) := by decide +kernel
theorem d_X12_fault_22 : decode cX12_fault 22 = .ok (.getfield 27, 3) := by decide +kernel
theorem d_X12_fault_25 : decode cX12_fault 25 = .ok (.goto 4, 3) := by decide +kernel
theorem d_X12_fault_28 : decode cX12_fault 28 = .ok (.iconst (-1), 1) := by decide +kernel
theorem d_X12_fault_29 : decode cX12_fault 29 = .ok (.ireturn, 1) := by decide +kernel
def F_X12_fault (x0 : Nat) (x1 : Int32) (h : xH) : Option (Int32 × xH) := (wI h x0 11 0 0).bind fun h2 => if ¬ x1 = 0 then if ¬ x1 = ((1 : Int32)) then some ((-1), h2) else (fI h2 x0 11 14).bind fun v22 => some (v22, h2) else (fI h2 x0 11 13).bind fun v10 => some (v10, h2)
theorem R_X12_fault {Γ : xG} {l : Launch} {d : Nat} {r : Int32} {h' : xH} (x0 : Nat) (x1 : Int32) (h : xH) (hdp : 0 ≤ d) (hF : F_X12_fault x0 x1 h = some (r, h')) : Gm Γ l d 0 0 m_X12_fault [.ref x0, .int x1] h (fun a u => a = some (.int r) ∧ u = h') := by
  refine Gm.of pn_X12 (Nat.le_of_ble_eq_true rfl) ?_
  show Gd Γ l d m_X12_fault 0 [.ref x0, .int x1] [] h 0 0 _
  generalize hQ : (fun (a : Option Value) (u : xH) => a = some (.int r) ∧ u = h') = Q
  have hq : Q (some (.int r)) h' := by rw [← hQ]; exact ⟨rfl, rfl⟩
  clear hQ
  unfold F_X12_fault at hF
  refine g_aloadn d_X12_fault_0 rfl ?_
  refine g_ic (0) d_X12_fault_1 ic_0 ?_
  obtain ⟨h2, e2, hF⟩ := Option.bind_eq_some_iff.mp hF
  refine q_wI d_X12_fault_2 (w_X12_1 _) e2 ?_
  refine g_iloadn d_X12_fault_5 rfl ?_
  refine g_if_ne 16 d_X12_fault_6 rfl (fun c6 => ?_) (fun c6 => ?_)
  · have hF := x_t hF c6
    refine g_iloadn d_X12_fault_16 rfl ?_
    refine g_ic (1) d_X12_fault_17 ic_1 ?_
    refine g_icmp_ne 28 d_X12_fault_18 rfl (fun c18 => ?_) (fun c18 => ?_)
    · have hF := x_t hF c18
      refine g_ic (-1) d_X12_fault_28 ic_m1 ?_
      obtain ⟨rfl, rfl⟩ := x_inj hF
      exact g_iret d_X12_fault_29 rfl hq
    · have hF := x_f hF (not_not_intro c18)
      refine g_aloadn d_X12_fault_21 rfl ?_
      obtain ⟨v22, e22, hF⟩ := Option.bind_eq_some_iff.mp hF
      refine q_fI d_X12_fault_22 f_X12_27 e22 ?_
      refine g_goto 29 d_X12_fault_25 rfl ?_
      obtain ⟨rfl, rfl⟩ := x_inj hF
      exact g_iret d_X12_fault_29 rfl hq
  · have hF := x_f hF (not_not_intro c6)
    refine g_aloadn d_X12_fault_9 rfl ?_
    obtain ⟨v10, e10, hF⟩ := Option.bind_eq_some_iff.mp hF
    refine q_fI d_X12_fault_10 f_X12_217 e10 ?_
    refine g_goto 29 d_X12_fault_13 rfl ?_
    obtain ⟨rfl, rfl⟩ := x_inj hF
    exact g_iret d_X12_fault_29 rfl hq
theorem d_X12_isNote_0 : decode cX12_isNote 0 = .ok (.lload_n 1, 1) := by decide +kernel
theorem d_X12_isNote_1 : decode cX12_isNote 1 = .ok (.lconst 0, 1) := by decide +kernel
theorem d_X12_isNote_2 : decode cX12_isNote 2 = .ok (.aload_n 0, 1) := by decide +kernel
theorem d_X12_isNote_3 : decode cX12_isNote 3 = .ok (.getfield 13, 3) := by decide +kernel
theorem d_X12_isNote_6 : decode cX12_isNote 6 = .ok (.iconst 1, 1) := by decide +kernel
theorem d_X12_isNote_7 : decode cX12_isNote 7 = .ok (.iaload, 1) := by decide +kernel
theorem d_X12_isNote_8 : decode cX12_isNote 8 = .ok (.iconst 1, 1) := by decide +kernel
theorem d_X12_isNote_9 : decode cX12_isNote 9 = .ok (.isub, 1) := by decide +kernel
theorem d_X12_isNote_10 : decode cX12_isNote 10 = .ok (.i2l, 1) := by decide +kernel
theorem d_X12_isNote_11 : decode cX12_isNote 11 = .ok (.invokestatic 148, 3) := by decide +kernel
theorem d_X12_isNote_14 : decode cX12_isNote 14 = .ok (.ireturn, 1) := by decide +kernel
def F_X12_isNote (x0 : Nat) (x1 : Int64) (h : xH) : Option (Int32 × xH) := (fR h x0 11 1).bind fun v3 => (aI h v3 1).bind fun v7 => (F_X12_within x1 0 ((v7 - 1).toInt64) h).bind fun z11 => rz .boolean z11.1 z11.2
theorem R_X12_isNote {Γ : xG} {l : Launch} {d : Nat} {r : Int32} {h' : xH} (x0 : Nat) (x1 : Int64) (h : xH) (hdp : 1 ≤ d) (hF : F_X12_isNote x0 x1 h = some (r, h')) : Gm Γ l d 0 0 m_X12_isNote [.ref x0, .long x1] h (fun a u => a = some (.int r) ∧ u = h') := by
  refine Gm.of pn_X12 (Nat.le_of_ble_eq_true rfl) ?_
  show Gd Γ l d m_X12_isNote 0 [.ref x0, .long x1, xhole] [] h 0 0 _
  generalize hQ : (fun (a : Option Value) (u : xH) => a = some (.int r) ∧ u = h') = Q
  have hq : Q (some (.int r)) h' := by rw [← hQ]; exact ⟨rfl, rfl⟩
  clear hQ
  unfold F_X12_isNote at hF
  refine g_lloadn d_X12_isNote_0 rfl ?_
  refine g_lc 0 d_X12_isNote_1 rfl ?_
  refine g_aloadn d_X12_isNote_2 rfl ?_
  obtain ⟨v3, e3, hF⟩ := Option.bind_eq_some_iff.mp hF
  refine q_fR d_X12_isNote_3 f_X12_13 e3 ?_
  refine g_ic (1) d_X12_isNote_6 ic_1 ?_
  obtain ⟨v7, e7, hF⟩ := Option.bind_eq_some_iff.mp hF
  refine q_aI d_X12_isNote_7 e7 ?_
  refine g_ic (1) d_X12_isNote_8 ic_1 ?_
  refine g_isub d_X12_isNote_9 ?_
  refine g_i2l d_X12_isNote_10 ?_
  obtain ⟨⟨r11, h11⟩, e11, hF⟩ := Option.bind_eq_some_iff.mp hF
  try dsimp only at hF
  refine q_callS [.long x1, .long 0, .long ((v7 - 1).toInt64)] [] rfl d_X12_isNote_11 s_X12_148 (by omega) rfl (Nat.le_of_ble_eq_true rfl) (R_X12_within _ _ _ _ (by omega) e11) ?_
  exact q_rz d_X12_isNote_14 rfl (Or.inl rfl) hF hq
theorem d_X12_isTune_0 : decode cX12_isTune 0 = .ok (.iload_n 1, 1) := by decide +kernel
theorem d_X12_isTune_1 : decode cX12_isTune 1 = .ok (.i2l, 1) := by decide +kernel
theorem d_X12_isTune_2 : decode cX12_isTune 2 = .ok (.lconst 0, 1) := by decide +kernel
theorem d_X12_isTune_3 : decode cX12_isTune 3 = .ok (.aload_n 0, 1) := by decide +kernel
theorem d_X12_isTune_4 : decode cX12_isTune 4 = .ok (.getfield 13, 3) := by decide +kernel
theorem d_X12_isTune_7 : decode cX12_isTune 7 = .ok (.iconst 2, 1) := by decide +kernel
theorem d_X12_isTune_8 : decode cX12_isTune 8 = .ok (.iaload, 1) := by decide +kernel
theorem d_X12_isTune_9 : decode cX12_isTune 9 = .ok (.iconst 1, 1) := by decide +kernel
theorem d_X12_isTune_10 : decode cX12_isTune 10 = .ok (.isub, 1) := by decide +kernel
theorem d_X12_isTune_11 : decode cX12_isTune 11 = .ok (.i2l, 1) := by decide +kernel
theorem d_X12_isTune_12 : decode cX12_isTune 12 = .ok (.invokestatic 148, 3) := by decide +kernel
theorem d_X12_isTune_15 : decode cX12_isTune 15 = .ok (.ireturn, 1) := by decide +kernel
def F_X12_isTune (x0 : Nat) (x1 : Int32) (h : xH) : Option (Int32 × xH) := (fR h x0 11 1).bind fun v4 => (aI h v4 2).bind fun v8 => (F_X12_within x1.toInt64 0 ((v8 - 1).toInt64) h).bind fun z12 => rz .boolean z12.1 z12.2
theorem R_X12_isTune {Γ : xG} {l : Launch} {d : Nat} {r : Int32} {h' : xH} (x0 : Nat) (x1 : Int32) (h : xH) (hdp : 1 ≤ d) (hF : F_X12_isTune x0 x1 h = some (r, h')) : Gm Γ l d 0 0 m_X12_isTune [.ref x0, .int x1] h (fun a u => a = some (.int r) ∧ u = h') := by
  refine Gm.of pn_X12 (Nat.le_of_ble_eq_true rfl) ?_
  show Gd Γ l d m_X12_isTune 0 [.ref x0, .int x1] [] h 0 0 _
  generalize hQ : (fun (a : Option Value) (u : xH) => a = some (.int r) ∧ u = h') = Q
  have hq : Q (some (.int r)) h' := by rw [← hQ]; exact ⟨rfl, rfl⟩
  clear hQ
  unfold F_X12_isTune at hF
  refine g_iloadn d_X12_isTune_0 rfl ?_
  refine g_i2l d_X12_isTune_1 ?_
  refine g_lc 0 d_X12_isTune_2 rfl ?_
  refine g_aloadn d_X12_isTune_3 rfl ?_
  obtain ⟨v4, e4, hF⟩ := Option.bind_eq_some_iff.mp hF
  refine q_fR d_X12_isTune_4 f_X12_13 e4 ?_
  refine g_ic (2) d_X12_isTune_7 ic_2 ?_
  obtain ⟨v8, e8, hF⟩ := Option.bind_eq_some_iff.mp hF
  refine q_aI d_X12_isTune_8 e8 ?_
  refine g_ic (1) d_X12_isTune_9 ic_1 ?_
  refine g_isub d_X12_isTune_10 ?_
  refine g_i2l d_X12_isTune_11 ?_
  obtain ⟨⟨r12, h12⟩, e12, hF⟩ := Option.bind_eq_some_iff.mp hF
  try dsimp only at hF
  refine q_callS [.long (x1.toInt64), .long 0, .long ((v8 - 1).toInt64)] [] rfl d_X12_isTune_12 s_X12_148 (by omega) rfl (Nat.le_of_ble_eq_true rfl) (R_X12_within _ _ _ _ (by omega) e12) ?_
  exact q_rz d_X12_isTune_15 rfl (Or.inl rfl) hF hq
theorem d_X12_isPlace_0 : decode cX12_isPlace 0 = .ok (.lload_n 1, 1) := by decide +kernel
theorem d_X12_isPlace_1 : decode cX12_isPlace 1 = .ok (.lconst 0, 1) := by decide +kernel
theorem d_X12_isPlace_2 : decode cX12_isPlace 2 = .ok (.aload_n 0, 1) := by decide +kernel
theorem d_X12_isPlace_3 : decode cX12_isPlace 3 = .ok (.getfield 13, 3) := by decide +kernel
theorem d_X12_isPlace_6 : decode cX12_isPlace 6 = .ok (.iconst 3, 1) := by decide +kernel
theorem d_X12_isPlace_7 : decode cX12_isPlace 7 = .ok (.iaload, 1) := by decide +kernel
theorem d_X12_isPlace_8 : decode cX12_isPlace 8 = .ok (.iconst 1, 1) := by decide +kernel
theorem d_X12_isPlace_9 : decode cX12_isPlace 9 = .ok (.isub, 1) := by decide +kernel
theorem d_X12_isPlace_10 : decode cX12_isPlace 10 = .ok (.i2l, 1) := by decide +kernel
theorem d_X12_isPlace_11 : decode cX12_isPlace 11 = .ok (.invokestatic 148, 3) := by decide +kernel
theorem d_X12_isPlace_14 : decode cX12_isPlace 14 = .ok (.ireturn, 1) := by decide +kernel
def F_X12_isPlace (x0 : Nat) (x1 : Int64) (h : xH) : Option (Int32 × xH) := (fR h x0 11 1).bind fun v3 => (aI h v3 3).bind fun v7 => (F_X12_within x1 0 ((v7 - 1).toInt64) h).bind fun z11 => rz .boolean z11.1 z11.2
theorem R_X12_isPlace {Γ : xG} {l : Launch} {d : Nat} {r : Int32} {h' : xH} (x0 : Nat) (x1 : Int64) (h : xH) (hdp : 1 ≤ d) (hF : F_X12_isPlace x0 x1 h = some (r, h')) : Gm Γ l d 0 0 m_X12_isPlace [.ref x0, .long x1] h (fun a u => a = some (.int r) ∧ u = h') := by
  refine Gm.of pn_X12 (Nat.le_of_ble_eq_true rfl) ?_
  show Gd Γ l d m_X12_isPlace 0 [.ref x0, .long x1, xhole] [] h 0 0 _
  generalize hQ : (fun (a : Option Value) (u : xH) => a = some (.int r) ∧ u = h') = Q
  have hq : Q (some (.int r)) h' := by rw [← hQ]; exact ⟨rfl, rfl⟩
  clear hQ
  unfold F_X12_isPlace at hF
  refine g_lloadn d_X12_isPlace_0 rfl ?_
  refine g_lc 0 d_X12_isPlace_1 rfl ?_
  refine g_aloadn d_X12_isPlace_2 rfl ?_
  obtain ⟨v3, e3, hF⟩ := Option.bind_eq_some_iff.mp hF
  refine q_fR d_X12_isPlace_3 f_X12_13 e3 ?_
  refine g_ic (3) d_X12_isPlace_6 ic_3 ?_
  obtain ⟨v7, e7, hF⟩ := Option.bind_eq_some_iff.mp hF
  refine q_aI d_X12_isPlace_7 e7 ?_
  refine g_ic (1) d_X12_isPlace_8 ic_1 ?_
  refine g_isub d_X12_isPlace_9 ?_
  refine g_i2l d_X12_isPlace_10 ?_
  obtain ⟨⟨r11, h11⟩, e11, hF⟩ := Option.bind_eq_some_iff.mp hF
  try dsimp only at hF
  refine q_callS [.long x1, .long 0, .long ((v7 - 1).toInt64)] [] rfl d_X12_isPlace_11 s_X12_148 (by omega) rfl (Nat.le_of_ble_eq_true rfl) (R_X12_within _ _ _ _ (by omega) e11) ?_
  exact q_rz d_X12_isPlace_14 rfl (Or.inl rfl) hF hq
theorem d_X12_isPerson_0 : decode cX12_isPerson 0 = .ok (.lload_n 1, 1) := by decide +kernel
theorem d_X12_isPerson_1 : decode cX12_isPerson 1 = .ok (.lconst 0, 1) := by decide +kernel
theorem d_X12_isPerson_2 : decode cX12_isPerson 2 = .ok (.aload_n 0, 1) := by decide +kernel
theorem d_X12_isPerson_3 : decode cX12_isPerson 3 = .ok (.getfield 13, 3) := by decide +kernel
theorem d_X12_isPerson_6 : decode cX12_isPerson 6 = .ok (.iconst 4, 1) := by decide +kernel
theorem d_X12_isPerson_7 : decode cX12_isPerson 7 = .ok (.iaload, 1) := by decide +kernel
theorem d_X12_isPerson_8 : decode cX12_isPerson 8 = .ok (.iconst 1, 1) := by decide +kernel
theorem d_X12_isPerson_9 : decode cX12_isPerson 9 = .ok (.isub, 1) := by decide +kernel
theorem d_X12_isPerson_10 : decode cX12_isPerson 10 = .ok (.i2l, 1) := by decide +kernel
theorem d_X12_isPerson_11 : decode cX12_isPerson 11 = .ok (.invokestatic 148, 3) := by decide +kernel
theorem d_X12_isPerson_14 : decode cX12_isPerson 14 = .ok (.ireturn, 1) := by decide +kernel
def F_X12_isPerson (x0 : Nat) (x1 : Int64) (h : xH) : Option (Int32 × xH) := (fR h x0 11 1).bind fun v3 => (aI h v3 4).bind fun v7 => (F_X12_within x1 0 ((v7 - 1).toInt64) h).bind fun z11 => rz .boolean z11.1 z11.2
theorem R_X12_isPerson {Γ : xG} {l : Launch} {d : Nat} {r : Int32} {h' : xH} (x0 : Nat) (x1 : Int64) (h : xH) (hdp : 1 ≤ d) (hF : F_X12_isPerson x0 x1 h = some (r, h')) : Gm Γ l d 0 0 m_X12_isPerson [.ref x0, .long x1] h (fun a u => a = some (.int r) ∧ u = h') := by
  refine Gm.of pn_X12 (Nat.le_of_ble_eq_true rfl) ?_
  show Gd Γ l d m_X12_isPerson 0 [.ref x0, .long x1, xhole] [] h 0 0 _
  generalize hQ : (fun (a : Option Value) (u : xH) => a = some (.int r) ∧ u = h') = Q
  have hq : Q (some (.int r)) h' := by rw [← hQ]; exact ⟨rfl, rfl⟩
  clear hQ
  unfold F_X12_isPerson at hF
  refine g_lloadn d_X12_isPerson_0 rfl ?_
  refine g_lc 0 d_X12_isPerson_1 rfl ?_
  refine g_aloadn d_X12_isPerson_2 rfl ?_
  obtain ⟨v3, e3, hF⟩ := Option.bind_eq_some_iff.mp hF
  refine q_fR d_X12_isPerson_3 f_X12_13 e3 ?_
  refine g_ic (4) d_X12_isPerson_6 ic_4 ?_
  obtain ⟨v7, e7, hF⟩ := Option.bind_eq_some_iff.mp hF
  refine q_aI d_X12_isPerson_7 e7 ?_
  refine g_ic (1) d_X12_isPerson_8 ic_1 ?_
  refine g_isub d_X12_isPerson_9 ?_
  refine g_i2l d_X12_isPerson_10 ?_
  obtain ⟨⟨r11, h11⟩, e11, hF⟩ := Option.bind_eq_some_iff.mp hF
  try dsimp only at hF
  refine q_callS [.long x1, .long 0, .long ((v7 - 1).toInt64)] [] rfl d_X12_isPerson_11 s_X12_148 (by omega) rfl (Nat.le_of_ble_eq_true rfl) (R_X12_within _ _ _ _ (by omega) e11) ?_
  exact q_rz d_X12_isPerson_14 rfl (Or.inl rfl) hF hq
theorem d_X12_bitsOf_0 : decode cX12_bitsOf 0 = .ok (.iconst 0, 1) := by decide +kernel
theorem d_X12_bitsOf_1 : decode cX12_bitsOf 1 = .ok (.istore_n 1, 1) := by decide +kernel
theorem d_X12_bitsOf_2 : decode cX12_bitsOf 2 = .ok (.iconst 0, 1) := by decide +kernel
theorem d_X12_bitsOf_3 : decode cX12_bitsOf 3 = .ok (.istore_n 2, 1) := by decide +kernel
theorem d_X12_bitsOf_4 : decode cX12_bitsOf 4 = .ok (.iload_n 2, 1) := by decide +kernel
theorem d_X12_bitsOf_5 : decode cX12_bitsOf 5 = .ok (.bipush 10, 2) := by decide +kernel
theorem d_X12_bitsOf_7 : decode cX12_bitsOf 7 = .ok (.if_icmp .gt 17, 3) := by decide +kernel
theorem d_X12_bitsOf_10 : decode cX12_bitsOf 10 = .ok (.iload_n 1, 1) := by decide +kernel
theorem d_X12_bitsOf_11 : decode cX12_bitsOf 11 = .ok (.iload_n 0, 1) := by decide +kernel
theorem d_X12_bitsOf_12 : decode cX12_bitsOf 12 = .ok (.iload_n 2, 1) := by decide +kernel
theorem d_X12_bitsOf_13 : decode cX12_bitsOf 13 = .ok (.ishr, 1) := by decide +kernel
theorem d_X12_bitsOf_14 : decode cX12_bitsOf 14 = .ok (.iconst 1, 1) := by decide +kernel
theorem d_X12_bitsOf_15 : decode cX12_bitsOf 15 = .ok (.iand, 1) := by decide +kernel
theorem d_X12_bitsOf_16 : decode cX12_bitsOf 16 = .ok (.iadd, 1) := by decide +kernel
theorem d_X12_bitsOf_17 : decode cX12_bitsOf 17 = .ok (.istore_n 1, 1) := by decide +kernel
theorem d_X12_bitsOf_18 : decode cX12_bitsOf 18 = .ok (.iinc 2 1, 3) := by decide +kernel
theorem d_X12_bitsOf_21 : decode cX12_bitsOf 21 = .ok (.goto (-17), 3) := by decide +kernel
theorem d_X12_bitsOf_24 : decode cX12_bitsOf 24 = .ok (.iload_n 1, 1) := by decide +kernel
theorem d_X12_bitsOf_25 : decode cX12_bitsOf 25 = .ok (.ireturn, 1) := by decide +kernel
def F_X12_bitsOf_b4 : Nat → Int32 → Int32 → Int32 → xH → Option (Int32 × xH)
  | 0, _, _, _, _ => none
  | n + 1, x0, x1, x2, h => if ((10 : Int32)) < x2 then some (x1, h) else F_X12_bitsOf_b4 n x0 (x1 + ((x0 >>> (x2 &&& 31)) &&& 1)) (x2 + 1) h
theorem R_X12_bitsOf_b4 {Γ : xG} {l : Launch} {d : Nat} {Q : Option Value → xH → Prop} {r : Int32} {h' : xH} (hdp : 0 ≤ d) (hq : Q (some (.int r)) h') : ∀ (n : Nat) (x0 : Int32) (x1 : Int32) (x2 : Int32) (h : xH), F_X12_bitsOf_b4 n x0 x1 x2 h = some (r, h') → Gd Γ l d m_X12_bitsOf 4 [.int x0, .int x1, .int x2] [] h 0 0 Q := by
  intro n
  induction n with
  | zero => intro x0 x1 x2 h hF; cases hF
  | succ n ih =>
  intro x0 x1 x2 h hF
  rw [F_X12_bitsOf_b4] at hF
  refine g_iloadn d_X12_bitsOf_4 rfl ?_
  refine g_bi (10) d_X12_bitsOf_5 bi_10 ?_
  refine g_icmp_gt 24 d_X12_bitsOf_7 rfl (fun c7 => ?_) (fun c7 => ?_)
  · have hF := x_t hF c7
    refine g_iloadn d_X12_bitsOf_24 rfl ?_
    obtain ⟨rfl, rfl⟩ := x_inj hF
    exact g_iret d_X12_bitsOf_25 rfl hq
  · have hF := x_f hF c7
    refine g_iloadn d_X12_bitsOf_10 rfl ?_
    refine g_iloadn d_X12_bitsOf_11 rfl ?_
    refine g_iloadn d_X12_bitsOf_12 rfl ?_
    refine g_ishr d_X12_bitsOf_13 ?_
    refine g_ic (1) d_X12_bitsOf_14 ic_1 ?_
    refine g_iand d_X12_bitsOf_15 ?_
    refine g_iadd d_X12_bitsOf_16 ?_
    refine q_istoren [.int x0, .int (x1 + ((x0 >>> (x2 &&& 31)) &&& 1)), .int x2] d_X12_bitsOf_17 (by decide) rfl ?_
    refine q_iinc (1) [.int x0, .int (x1 + ((x0 >>> (x2 &&& 31)) &&& 1)), .int (x2 + 1)] d_X12_bitsOf_18 ic_1 rfl (by decide) rfl ?_
    refine g_goto 4 d_X12_bitsOf_21 rfl ?_
    exact q_to (xs_r (xs_r (xs_r xs_n))) (ih _ _ _ _ hF)
def F_X12_bitsOf (x0 : Int32) (h : xH) : Option (Int32 × xH) := F_X12_bitsOf_b4 FU x0 0 0 h
theorem R_X12_bitsOf {Γ : xG} {l : Launch} {d : Nat} {r : Int32} {h' : xH} (x0 : Int32) (h : xH) (hdp : 0 ≤ d) (hF : F_X12_bitsOf x0 h = some (r, h')) : Gm Γ l d 0 0 m_X12_bitsOf [.int x0] h (fun a u => a = some (.int r) ∧ u = h') := by
  refine Gm.of pn_X12 (Nat.le_of_ble_eq_true rfl) ?_
  show Gd Γ l d m_X12_bitsOf 0 [.int x0, xhole, xhole] [] h 0 0 _
  generalize hQ : (fun (a : Option Value) (u : xH) => a = some (.int r) ∧ u = h') = Q
  have hq : Q (some (.int r)) h' := by rw [← hQ]; exact ⟨rfl, rfl⟩
  clear hQ
  unfold F_X12_bitsOf at hF
  refine g_ic (0) d_X12_bitsOf_0 ic_0 ?_
  refine q_istoren [.int x0, .int 0, xhole] d_X12_bitsOf_1 (by decide) rfl ?_
  refine g_ic (0) d_X12_bitsOf_2 ic_0 ?_
  refine q_istoren [.int x0, .int 0, .int 0] d_X12_bitsOf_3 (by decide) rfl ?_
  exact q_to (xs_r (xs_r (xs_r xs_n))) (R_X12_bitsOf_b4 hdp hq FU _ _ _ _ hF)
theorem d_X12_between_0 : decode cX12_between 0 = .ok (.iload_n 0, 1) := by decide +kernel
theorem d_X12_between_1 : decode cX12_between 1 = .ok (.tableswitch 80 3003 3008 #[39, 50, 61, 80, 72, 76], 39) := by decide +kernel
theorem d_X12_between_40 : decode cX12_between 40 = .ok (.iload_n 1, 1) := by decide +kernel
theorem d_X12_between_41 : decode cX12_between 41 = .ok (.iload_n 2, 1) := by decide +kernel
theorem d_X12_between_42 : decode cX12_between 42 = .ok (.if_icmp .ne 7, 3) := by decide +kernel
theorem d_X12_between_45 : decode cX12_between 45 = .ok (.iconst 1, 1) := by decide +kernel
theorem d_X12_between_46 : decode cX12_between 46 = .ok (.goto 4, 3) := by decide +kernel
theorem d_X12_between_49 : decode cX12_between 49 = .ok (.iconst 0, 1) := by decide +kernel
theorem d_X12_between_50 : decode cX12_between 50 = .ok (.ireturn, 1) := by decide +kernel
theorem d_X12_between_51 : decode cX12_between 51 = .ok (.iload_n 1, 1) := by decide +kernel
theorem d_X12_between_52 : decode cX12_between 52 = .ok (.iload_n 2, 1) := by decide +kernel
theorem d_X12_between_53 : decode cX12_between 53 = .ok (.if_icmp .ge 7, 3) := by decide +kernel
theorem d_X12_between_56 : decode cX12_between 56 = .ok (.iconst 1, 1) := by decide +kernel
theorem d_X12_between_57 : decode cX12_between 57 = .ok (.goto 4, 3) := by decide +kernel
theorem d_X12_between_60 : decode cX12_between 60 = .ok (.iconst 0, 1) := by decide +kernel
theorem d_X12_between_61 : decode cX12_between 61 = .ok (.ireturn, 1) := by decide +kernel
theorem d_X12_between_62 : decode cX12_between 62 = .ok (.iload_n 1, 1) := by decide +kernel
theorem d_X12_between_63 : decode cX12_between 63 = .ok (.iload_n 2, 1) := by decide +kernel
theorem d_X12_between_64 : decode cX12_between 64 = .ok (.if_icmp .le 7, 3) := by decide +kernel
theorem d_X12_between_67 : decode cX12_between 67 = .ok (.iconst 1, 1) := by decide +kernel
theorem d_X12_between_68 : decode cX12_between 68 = .ok (.goto 4, 3) := by decide +kernel
theorem d_X12_between_71 : decode cX12_between 71 = .ok (.iconst 0, 1) := by decide +kernel
theorem d_X12_between_72 : decode cX12_between 72 = .ok (.ireturn, 1) := by decide +kernel
theorem d_X12_between_73 : decode cX12_between 73 = .ok (.iload_n 1, 1) := by decide +kernel
theorem d_X12_between_74 : decode cX12_between 74 = .ok (.iload_n 2, 1) := by decide +kernel
theorem d_X12_between_75 : decode cX12_between 75 = .ok (.iand, 1) := by decide +kernel
theorem d_X12_between_76 : decode cX12_between 76 = .ok (.ireturn, 1) := by decide +kernel
theorem d_X12_between_77 : decode cX12_between 77 = .ok (.iload_n 1, 1) := by decide +kernel
theorem d_X12_between_78 : decode cX12_between 78 = .ok (.iload_n 2, 1) := by decide +kernel
theorem d_X12_between_79 : decode cX12_between 79 = .ok (.ior, 1) := by decide +kernel
theorem d_X12_between_80 : decode cX12_between 80 = .ok (.ireturn, 1) := by decide +kernel
theorem d_X12_between_81 : decode cX12_between 81 = .ok (.iload_n 0, 1) := by decide +kernel
theorem d_X12_between_82 : decode cX12_between 82 = .ok (.sipush 3000, 3) := by decide +kernel
theorem d_X12_between_85 : decode cX12_between 85 = .ok (.if_icmp .ne 11, 3) := by decide +kernel
theorem d_X12_between_88 : decode cX12_between 88 = .ok (.iload_n 1, 1) := by decide +kernel
theorem d_X12_between_89 : decode cX12_between 89 = .ok (.i2l, 1) := by decide +kernel
theorem d_X12_between_90 : decode cX12_between 90 = .ok (.iload_n 2, 1) := by decide +kernel
theorem d_X12_between_91 : decode cX12_between 91 = .ok (.i2l, 1) := by decide +kernel
theorem d_X12_between_92 : decode cX12_between 92 = .ok (.ladd, 1) := by decide +kernel
theorem d_X12_between_93 : decode cX12_between 93 = .ok (.goto 23, 3) := by decide +kernel
theorem d_X12_between_96 : decode cX12_between 96 = .ok (.iload_n 0, 1) := by decide +kernel
theorem d_X12_between_97 : decode cX12_between 97 = .ok (.sipush 3001, 3) := by decide +kernel
theorem d_X12_between_100 : decode cX12_between 100 = .ok (.if_icmp .ne 11, 3) := by decide +kernel
theorem d_X12_between_103 : decode cX12_between 103 = .ok (.iload_n 1, 1) := by decide +kernel
theorem d_X12_between_104 : decode cX12_between 104 = .ok (.i2l, 1) := by decide +kernel
theorem d_X12_between_105 : decode cX12_between 105 = .ok (.iload_n 2, 1) := by decide +kernel
theorem d_X12_between_106 : decode cX12_between 106 = .ok (.i2l, 1) := by decide +kernel
theorem d_X12_between_107 : decode cX12_between 107 = .ok (.lsub, 1) := by decide +kernel
theorem d_X12_between_108 : decode cX12_between 108 = .ok (.goto 8, 3) := by decide +kernel
theorem d_X12_between_111 : decode cX12_between 111 = .ok (.iload_n 1, 1) := by decide +kernel
theorem d_X12_between_112 : decode cX12_between 112 = .ok (.i2l, 1) := by decide +kernel
theorem d_X12_between_113 : decode cX12_between 113 = .ok (.iload_n 2, 1) := by decide +kernel
theorem d_X12_between_114 : decode cX12_between 114 = .ok (.i2l, 1) := by decide +kernel
theorem d_X12_between_115 : decode cX12_between 115 = .ok (.lmul, 1) := by decide +kernel
theorem d_X12_between_116 : decode cX12_between 116 = .ok (.lstore_n 3, 1) := by decide +kernel
theorem d_X12_between_117 : decode cX12_between 117 = .ok (.lload_n 3, 1) := by decide +kernel
theorem d_X12_between_118 : decode cX12_between 118 = .ok (.ldc2_w 220, 3) := by decide +kernel
theorem d_X12_between_121 : decode cX12_between 121 = .ok (.lcmp, 1) := by decide +kernel
theorem d_X12_between_122 : decode cX12_between 122 = .ok (.ifCond .le 9, 3) := by decide +kernel
theorem d_X12_between_125 : decode cX12_between 125 = .ok (.ldc2_w 220, 3) := by decide +kernel
theorem d_X12_between_128 : decode cX12_between 128 = .ok (.goto 18, 3) := by decide +kernel
theorem d_X12_between_131 : decode cX12_between 131 = .ok (.lload_n 3, 1) := by decide +kernel
theorem d_X12_between_132 : decode cX12_between 132 = .ok (.ldc2_w 222, 3) := by decide +kernel
theorem d_X12_between_135 : decode cX12_between 135 = .ok (.lcmp, 1) := by decide +kernel
theorem d_X12_between_136 : decode cX12_between 136 = .ok (.ifCond .ge 9, 3) := by decide +kernel
theorem d_X12_between_139 : decode cX12_between 139 = .ok (.ldc2_w 222, 3) := by decide +kernel
theorem d_X12_between_142 : decode cX12_between 142 = .ok (.goto 4, 3) := by decide +kernel
theorem d_X12_between_145 : decode cX12_between 145 = .ok (.lload_n 3, 1) := by decide +kernel
theorem d_X12_between_146 : decode cX12_between 146 = .ok (.l2i, 1) := by decide +kernel
theorem d_X12_between_147 : decode cX12_between 147 = .ok (.ireturn, 1) := by decide +kernel
def F_X12_between_b116 (s0 : Int64) (h : xH) : Option (Int32 × xH) := if (lg_cmp s0 1000000) ≤ 0 then if 0 ≤ (lg_cmp s0 ((-1000000))) then some (s0.toInt32, h) else some ((((-1000000) : Int64)).toInt32, h) else some (((1000000 : Int64)).toInt32, h)
theorem R_X12_between_b116 {Γ : xG} {l : Launch} {d : Nat} {Q : Option Value → xH → Prop} {r : Int32} {h' : xH} (hdp : 0 ≤ d) (hq : Q (some (.int r)) h') : ∀ (s0 : Int64) (h : xH), F_X12_between_b116 s0 h = some (r, h') → Gd Γ l d m_X12_between 116 [xhole, xhole, xhole, xhole, xhole] [.long s0] h 0 0 Q := by
  intro s0 h hF
  unfold F_X12_between_b116 at hF
  refine q_lstoren [xhole, xhole, xhole, .long s0, xhole] d_X12_between_116 (by decide) rfl ?_
  refine g_lloadn d_X12_between_117 rfl ?_
  refine g_ldc2 d_X12_between_118 k_X12_220 ?_
  refine g_lcmp d_X12_between_121 ?_
  refine g_if_le 131 d_X12_between_122 rfl (fun c122 => ?_) (fun c122 => ?_)
  · have hF := x_t hF c122
    refine g_lloadn d_X12_between_131 rfl ?_
    refine g_ldc2 d_X12_between_132 k_X12_222 ?_
    refine g_lcmp d_X12_between_135 ?_
    refine g_if_ge 145 d_X12_between_136 rfl (fun c136 => ?_) (fun c136 => ?_)
    · have hF := x_t hF c136
      refine g_lloadn d_X12_between_145 rfl ?_
      refine g_l2i d_X12_between_146 ?_
      obtain ⟨rfl, rfl⟩ := x_inj hF
      exact g_iret d_X12_between_147 rfl hq
    · have hF := x_f hF c136
      refine g_ldc2 d_X12_between_139 k_X12_222 ?_
      refine g_goto 146 d_X12_between_142 rfl ?_
      refine g_l2i d_X12_between_146 ?_
      obtain ⟨rfl, rfl⟩ := x_inj hF
      exact g_iret d_X12_between_147 rfl hq
  · have hF := x_f hF c122
    refine g_ldc2 d_X12_between_125 k_X12_220 ?_
    refine g_goto 146 d_X12_between_128 rfl ?_
    refine g_l2i d_X12_between_146 ?_
    obtain ⟨rfl, rfl⟩ := x_inj hF
    exact g_iret d_X12_between_147 rfl hq
def F_X12_between_b81 (x0 : Int32) (x1 : Int32) (x2 : Int32) (h : xH) : Option (Int32 × xH) := if ¬ x0 = ((3000 : Int32)) then if ¬ x0 = ((3001 : Int32)) then F_X12_between_b116 (x1.toInt64 * x2.toInt64) h else F_X12_between_b116 (x1.toInt64 - x2.toInt64) h else F_X12_between_b116 (x1.toInt64 + x2.toInt64) h
theorem R_X12_between_b81 {Γ : xG} {l : Launch} {d : Nat} {Q : Option Value → xH → Prop} {r : Int32} {h' : xH} (hdp : 0 ≤ d) (hq : Q (some (.int r)) h') : ∀ (x0 : Int32) (x1 : Int32) (x2 : Int32) (h : xH), F_X12_between_b81 x0 x1 x2 h = some (r, h') → Gd Γ l d m_X12_between 81 [.int x0, .int x1, .int x2, xhole, xhole] [] h 0 0 Q := by
  intro x0 x1 x2 h hF
  unfold F_X12_between_b81 at hF
  refine g_iloadn d_X12_between_81 rfl ?_
  refine g_si (3000) d_X12_between_82 si_3000 ?_
  refine g_icmp_ne 96 d_X12_between_85 rfl (fun c85 => ?_) (fun c85 => ?_)
  · have hF := x_t hF c85
    refine g_iloadn d_X12_between_96 rfl ?_
    refine g_si (3001) d_X12_between_97 si_3001 ?_
    refine g_icmp_ne 111 d_X12_between_100 rfl (fun c100 => ?_) (fun c100 => ?_)
    · have hF := x_t hF c100
      refine g_iloadn d_X12_between_111 rfl ?_
      refine g_i2l d_X12_between_112 ?_
      refine g_iloadn d_X12_between_113 rfl ?_
      refine g_i2l d_X12_between_114 ?_
      refine g_lmul d_X12_between_115 ?_
      exact q_to (xs_h (xs_h (xs_h (xs_h (xs_h xs_n))))) (R_X12_between_b116 hdp hq _ _ hF)
    · have hF := x_f hF (not_not_intro c100)
      refine g_iloadn d_X12_between_103 rfl ?_
      refine g_i2l d_X12_between_104 ?_
      refine g_iloadn d_X12_between_105 rfl ?_
      refine g_i2l d_X12_between_106 ?_
      refine g_lsub d_X12_between_107 ?_
      refine g_goto 116 d_X12_between_108 rfl ?_
      exact q_to (xs_h (xs_h (xs_h (xs_h (xs_h xs_n))))) (R_X12_between_b116 hdp hq _ _ hF)
  · have hF := x_f hF (not_not_intro c85)
    refine g_iloadn d_X12_between_88 rfl ?_
    refine g_i2l d_X12_between_89 ?_
    refine g_iloadn d_X12_between_90 rfl ?_
    refine g_i2l d_X12_between_91 ?_
    refine g_ladd d_X12_between_92 ?_
    refine g_goto 116 d_X12_between_93 rfl ?_
    exact q_to (xs_h (xs_h (xs_h (xs_h (xs_h xs_n))))) (R_X12_between_b116 hdp hq _ _ hF)
def F_X12_between (x0 : Int32) (x1 : Int32) (x2 : Int32) (h : xH) : Option (Int32 × xH) := if x0 = 3003 then if ¬ x1 = x2 then some (0, h) else some (1, h) else if x0 = 3004 then if x2 ≤ x1 then some (0, h) else some (1, h) else if x0 = 3005 then if x1 ≤ x2 then some (0, h) else some (1, h) else if x0 = 3006 then F_X12_between_b81 x0 x1 x2 h else if x0 = 3007 then some (x1 &&& x2, h) else if x0 = 3008 then some (x1 ||| x2, h) else F_X12_between_b81 x0 x1 x2 h
theorem R_X12_between {Γ : xG} {l : Launch} {d : Nat} {r : Int32} {h' : xH} (x0 : Int32) (x1 : Int32) (x2 : Int32) (h : xH) (hdp : 0 ≤ d) (hF : F_X12_between x0 x1 x2 h = some (r, h')) : Gm Γ l d 0 0 m_X12_between [.int x0, .int x1, .int x2] h (fun a u => a = some (.int r) ∧ u = h') := by
  refine Gm.of pn_X12 (Nat.le_of_ble_eq_true rfl) ?_
  show Gd Γ l d m_X12_between 0 [.int x0, .int x1, .int x2, xhole, xhole] [] h 0 0 _
  generalize hQ : (fun (a : Option Value) (u : xH) => a = some (.int r) ∧ u = h') = Q
  have hq : Q (some (.int r)) h' := by rw [← hQ]; exact ⟨rfl, rfl⟩
  clear hQ
  unfold F_X12_between at hF
  refine g_iloadn d_X12_between_0 rfl ?_
  rcases Classical.em (x0 = 3003) with c1_0 | c1_0
  · have hF := x_t hF c1_0
    refine q_tabIn 40 d_X12_between_1 c1_0 (by decide) (by decide) rfl rfl ?_
    refine g_iloadn d_X12_between_40 rfl ?_
    refine g_iloadn d_X12_between_41 rfl ?_
    refine g_icmp_ne 49 d_X12_between_42 rfl (fun c42 => ?_) (fun c42 => ?_)
    · have hF := x_t hF c42
      refine g_ic (0) d_X12_between_49 ic_0 ?_
      obtain ⟨rfl, rfl⟩ := x_inj hF
      exact g_iret d_X12_between_50 rfl hq
    · have hF := x_f hF (not_not_intro c42)
      refine g_ic (1) d_X12_between_45 ic_1 ?_
      refine g_goto 50 d_X12_between_46 rfl ?_
      obtain ⟨rfl, rfl⟩ := x_inj hF
      exact g_iret d_X12_between_50 rfl hq
  have hF := x_f hF c1_0
  rcases Classical.em (x0 = 3004) with c1_1 | c1_1
  · have hF := x_t hF c1_1
    refine q_tabIn 51 d_X12_between_1 c1_1 (by decide) (by decide) rfl rfl ?_
    refine g_iloadn d_X12_between_51 rfl ?_
    refine g_iloadn d_X12_between_52 rfl ?_
    refine g_icmp_ge 60 d_X12_between_53 rfl (fun c53 => ?_) (fun c53 => ?_)
    · have hF := x_t hF c53
      refine g_ic (0) d_X12_between_60 ic_0 ?_
      obtain ⟨rfl, rfl⟩ := x_inj hF
      exact g_iret d_X12_between_61 rfl hq
    · have hF := x_f hF c53
      refine g_ic (1) d_X12_between_56 ic_1 ?_
      refine g_goto 61 d_X12_between_57 rfl ?_
      obtain ⟨rfl, rfl⟩ := x_inj hF
      exact g_iret d_X12_between_61 rfl hq
  have hF := x_f hF c1_1
  rcases Classical.em (x0 = 3005) with c1_2 | c1_2
  · have hF := x_t hF c1_2
    refine q_tabIn 62 d_X12_between_1 c1_2 (by decide) (by decide) rfl rfl ?_
    refine g_iloadn d_X12_between_62 rfl ?_
    refine g_iloadn d_X12_between_63 rfl ?_
    refine g_icmp_le 71 d_X12_between_64 rfl (fun c64 => ?_) (fun c64 => ?_)
    · have hF := x_t hF c64
      refine g_ic (0) d_X12_between_71 ic_0 ?_
      obtain ⟨rfl, rfl⟩ := x_inj hF
      exact g_iret d_X12_between_72 rfl hq
    · have hF := x_f hF c64
      refine g_ic (1) d_X12_between_67 ic_1 ?_
      refine g_goto 72 d_X12_between_68 rfl ?_
      obtain ⟨rfl, rfl⟩ := x_inj hF
      exact g_iret d_X12_between_72 rfl hq
  have hF := x_f hF c1_2
  rcases Classical.em (x0 = 3006) with c1_3 | c1_3
  · have hF := x_t hF c1_3
    refine q_tabIn 81 d_X12_between_1 c1_3 (by decide) (by decide) rfl rfl ?_
    exact q_to (xs_r (xs_r (xs_r (xs_h (xs_h xs_n))))) (R_X12_between_b81 hdp hq _ _ _ _ hF)
  have hF := x_f hF c1_3
  rcases Classical.em (x0 = 3007) with c1_4 | c1_4
  · have hF := x_t hF c1_4
    refine q_tabIn 73 d_X12_between_1 c1_4 (by decide) (by decide) rfl rfl ?_
    refine g_iloadn d_X12_between_73 rfl ?_
    refine g_iloadn d_X12_between_74 rfl ?_
    refine g_iand d_X12_between_75 ?_
    obtain ⟨rfl, rfl⟩ := x_inj hF
    exact g_iret d_X12_between_76 rfl hq
  have hF := x_f hF c1_4
  rcases Classical.em (x0 = 3008) with c1_5 | c1_5
  · have hF := x_t hF c1_5
    refine q_tabIn 77 d_X12_between_1 c1_5 (by decide) (by decide) rfl rfl ?_
    refine g_iloadn d_X12_between_77 rfl ?_
    refine g_iloadn d_X12_between_78 rfl ?_
    refine g_ior d_X12_between_79 ?_
    obtain ⟨rfl, rfl⟩ := x_inj hF
    exact g_iret d_X12_between_80 rfl hq
  have hF := x_f hF c1_5
  refine g_tabOut 81 d_X12_between_1 (by have a0 := sw_ne c1_0 (k := 3003) (by decide); have a1 := sw_ne c1_1 (k := 3004) (by decide); have a2 := sw_ne c1_2 (k := 3005) (by decide); have a3 := sw_ne c1_3 (k := 3006) (by decide); have a4 := sw_ne c1_4 (k := 3007) (by decide); have a5 := sw_ne c1_5 (k := 3008) (by decide); omega) rfl ?_
  exact q_to (xs_r (xs_r (xs_r (xs_h (xs_h xs_n))))) (R_X12_between_b81 hdp hq _ _ _ _ hF)
theorem d_X12_reckons_0 : decode cX12_reckons 0 = .ok (.iconst 0, 1) := by decide +kernel
theorem d_X12_reckons_1 : decode cX12_reckons 1 = .ok (.istore_n 2, 1) := by decide +kernel
theorem d_X12_reckons_2 : decode cX12_reckons 2 = .ok (.iconst 0, 1) := by decide +kernel
theorem d_X12_reckons_3 : decode cX12_reckons 3 = .ok (.istore_n 3, 1) := by decide +kernel
theorem d_X12_reckons_4 : decode cX12_reckons 4 = .ok (.iload_n 3, 1) := by decide +kernel
theorem d_X12_reckons_5 : decode cX12_reckons 5 = .ok (.aload_n 0, 1) := by decide +kernel
theorem d_X12_reckons_6 : decode cX12_reckons 6 = .ok (.getfield 13, 3) := by decide +kernel
theorem d_X12_reckons_9 : decode cX12_reckons 9 = .ok (.bipush 9, 2) := by decide +kernel
theorem d_X12_reckons_11 : decode cX12_reckons 11 = .ok (.iload_n 1, 1) := by decide +kernel
theorem d_X12_reckons_12 : decode cX12_reckons 12 = .ok (.iadd, 1) := by decide +kernel
theorem d_X12_reckons_13 : decode cX12_reckons 13 = .ok (.iaload, 1) := by decide +kernel
theorem d_X12_reckons_14 : decode cX12_reckons 14 = .ok (.if_icmp .ge 134, 3) := by decide +kernel
theorem d_X12_reckons_17 : decode cX12_reckons 17 = .ok (.aload_n 0, 1) := by decide +kernel
theorem d_X12_reckons_18 : decode cX12_reckons 18 = .ok (.getfield 13, 3) := by decide +kernel
theorem d_X12_reckons_21 : decode cX12_reckons 21 = .ok (.sipush 329, 3) := by decide +kernel
theorem d_X12_reckons_24 : decode cX12_reckons 24 = .ok (.aload_n 0, 1) := by decide +kernel
theorem d_X12_reckons_25 : decode cX12_reckons 25 = .ok (.getfield 13, 3) := by decide +kernel
theorem d_X12_reckons_28 : decode cX12_reckons 28 = .ok (.bipush 7, 2) := by decide +kernel
theorem d_X12_reckons_30 : decode cX12_reckons 30 = .ok (.iload_n 1, 1) := by decide +kernel
theorem d_X12_reckons_31 : decode cX12_reckons 31 = .ok (.iadd, 1) := by decide +kernel
theorem d_X12_reckons_32 : decode cX12_reckons 32 = .ok (.iaload, 1) := by decide +kernel
theorem d_X12_reckons_33 : decode cX12_reckons 33 = .ok (.iadd, 1) := by decide +kernel
theorem d_X12_reckons_34 : decode cX12_reckons 34 = .ok (.iload_n 3, 1) := by decide +kernel
theorem d_X12_reckons_35 : decode cX12_reckons 35 = .ok (.iadd, 1) := by decide +kernel
theorem d_X12_reckons_36 : decode cX12_reckons 36 = .ok (.iaload, 1) := by decide +kernel
theorem d_X12_reckons_37 : decode cX12_reckons 37 = .ok (.istore 4, 2) := by decide +kernel
theorem d_X12_reckons_39 : decode cX12_reckons 39 = .ok (.iload 4, 2) := by decide +kernel
theorem d_X12_reckons_41 : decode cX12_reckons 41 = .ok (.sipush 3000, 3) := by decide +kernel
theorem d_X12_reckons_44 : decode cX12_reckons 44 = .ok (.if_icmp .ge 39, 3) := by decide +kernel
theorem d_X12_reckons_47 : decode cX12_reckons 47 = .ok (.aload_n 0, 1) := by decide +kernel
theorem d_X12_reckons_48 : decode cX12_reckons 48 = .ok (.getfield 30, 3) := by decide +kernel
theorem d_X12_reckons_51 : decode cX12_reckons 51 = .ok (.iload_n 2, 1) := by decide +kernel
theorem d_X12_reckons_52 : decode cX12_reckons 52 = .ok (.iload 4, 2) := by decide +kernel
theorem d_X12_reckons_54 : decode cX12_reckons 54 = .ok (.sipush 1000, 3) := by decide +kernel
theorem d_X12_reckons_57 : decode cX12_reckons 57 = .ok (.if_icmp .ge 8, 3) := by decide +kernel
theorem d_X12_reckons_60 : decode cX12_reckons 60 = .ok (.iload 4, 2) := by decide +kernel
theorem d_X12_reckons_62 : decode cX12_reckons 62 = .ok (.goto 14, 3) := by decide +kernel
theorem d_X12_reckons_65 : decode cX12_reckons 65 = .ok (.aload_n 0, 1) := by decide +kernel
theorem d_X12_reckons_66 : decode cX12_reckons 66 = .ok (.getfield 33, 3) := by decide +kernel
theorem d_X12_reckons_69 : decode cX12_reckons 69 = .ok (.iload 4, 2) := by decide +kernel
theorem d_X12_reckons_71 : decode cX12_reckons 71 = .ok (.sipush 1000, 3) := by decide +kernel
theorem d_X12_reckons_74 : decode cX12_reckons 74 = .ok (.isub, 1) := by decide +kernel
theorem d_X12_reckons_75 : decode cX12_reckons 75 = .ok (.iaload, 1) := by decide +kernel
theorem d_X12_reckons_76 : decode cX12_reckons 76 = .ok (.iastore, 1) := by decide +kernel
theorem d_X12_reckons_77 : decode cX12_reckons 77 = .ok (.iinc 2 1, 3) := by decide +kernel
theorem d_X12_reckons_80 : decode cX12_reckons 80 = .ok (.goto 62, 3) := by decide +kernel
theorem d_X12_reckons_83 : decode cX12_reckons 83 = .ok (.iload 4, 2) := by decide +kernel
theorem d_X12_reckons_85 : decode cX12_reckons 85 = .ok (.sipush 3006, 3) := by decide +kernel
theorem d_X12_reckons_88 : decode cX12_reckons 88 = .ok (.if_icmp .ne 24, 3) := by decide +kernel
theorem d_X12_reckons_91 : decode cX12_reckons 91 = .ok (.aload_n 0, 1) := by decide +kernel
theorem d_X12_reckons_92 : decode cX12_reckons 92 = .ok (.getfield 30, 3) := by decide +kernel
theorem d_X12_reckons_95 : decode cX12_reckons 95 = .ok (.iload_n 2, 1) := by decide +kernel
theorem d_X12_reckons_96 : decode cX12_reckons 96 = .ok (.iconst 1, 1) := by decide +kernel
theorem d_X12_reckons_97 : decode cX12_reckons 97 = .ok (.isub, 1) := by decide +kernel
theorem d_X12_reckons_98 : decode cX12_reckons 98 = .ok (.iconst 1, 1) := by decide +kernel
theorem d_X12_reckons_99 : decode cX12_reckons 99 = .ok (.aload_n 0, 1) := by decide +kernel
theorem d_X12_reckons_100 : decode cX12_reckons 100 = .ok (.getfield 30, 3) := by decide +kernel
theorem d_X12_reckons_103 : decode cX12_reckons 103 = .ok (.iload_n 2, 1) := by decide +kernel
theorem d_X12_reckons_104 : decode cX12_reckons 104 = .ok (.iconst 1, 1) := by decide +kernel
theorem d_X12_reckons_105 : decode cX12_reckons 105 = .ok (.isub, 1) := by decide +kernel
theorem d_X12_reckons_106 : decode cX12_reckons 106 = .ok (.iaload, 1) := by decide +kernel
theorem d_X12_reckons_107 : decode cX12_reckons 107 = .ok (.isub, 1) := by decide +kernel
theorem d_X12_reckons_108 : decode cX12_reckons 108 = .ok (.iastore, 1) := by decide +kernel
theorem d_X12_reckons_109 : decode cX12_reckons 109 = .ok (.goto 33, 3) := by decide +kernel
theorem d_X12_reckons_112 : decode cX12_reckons 112 = .ok (.iinc 2 (-1), 3) := by decide +kernel
theorem d_X12_reckons_115 : decode cX12_reckons 115 = .ok (.aload_n 0, 1) := by decide +kernel
theorem d_X12_reckons_116 : decode cX12_reckons 116 = .ok (.getfield 30, 3) := by decide +kernel
theorem d_X12_reckons_119 : decode cX12_reckons 119 = .ok (.iload_n 2, 1) := by decide +kernel
theorem d_X12_reckons_120 : decode cX12_reckons 120 = .ok (.iconst 1, 1) := by decide +kernel
theorem d_X12_reckons_121 : decode cX12_reckons 121 = .ok (.isub, 1) := by decide +kernel
theorem d_X12_reckons_122 : decode cX12_reckons 122 = .ok (.iload 4, 2) := by decide +kernel
theorem d_X12_reckons_124 : decode cX12_reckons 124 = .ok (.aload_n 0, 1) := by decide +kernel
theorem d_X12_reckons_125 : decode cX12_reckons 125 = .ok (.getfield 30, 3) := by decide +kernel
theorem d_X12_reckons_128 : decode cX12_reckons 128 = .ok (.iload_n 2, 1) := by decide +kernel
theorem d_X12_reckons_129 : decode cX12_reckons 129 = .ok (.iconst 1, 1) := by decide +kernel
theorem d_X12_reckons_130 : decode cX12_reckons 130 = .ok (.isub, 1) := by decide +kernel
theorem d_X12_reckons_131 : decode cX12_reckons 131 = .ok (.iaload, 1) := by decide +kernel
theorem d_X12_reckons_132 : decode cX12_reckons 132 = .ok (.aload_n 0, 1) := by decide +kernel
theorem d_X12_reckons_133 : decode cX12_reckons 133 = .ok (.getfield 30, 3) := by decide +kernel
theorem d_X12_reckons_136 : decode cX12_reckons 136 = .ok (.iload_n 2, 1) := by decide +kernel
theorem d_X12_reckons_137 : decode cX12_reckons 137 = .ok (.iaload, 1) := by decide +kernel
theorem d_X12_reckons_138 : decode cX12_reckons 138 = .ok (.invokestatic 224, 3) := by decide +kernel
theorem d_X12_reckons_141 : decode cX12_reckons 141 = .ok (.iastore, 1) := by decide +kernel
theorem d_X12_reckons_142 : decode cX12_reckons 142 = .ok (.iinc 3 1, 3) := by decide +kernel
theorem d_X12_reckons_145 : decode cX12_reckons 145 = .ok (.goto (-141), 3) := by decide +kernel
theorem d_X12_reckons_148 : decode cX12_reckons 148 = .ok (.aload_n 0, 1) := by decide +kernel
theorem d_X12_reckons_149 : decode cX12_reckons 149 = .ok (.getfield 30, 3) := by decide +kernel
theorem d_X12_reckons_152 : decode cX12_reckons 152 = .ok (.iconst 0, 1) := by decide +kernel
theorem d_X12_reckons_153 : decode cX12_reckons 153 = .ok (.iaload, 1) := by decide +kernel
theorem d_X12_reckons_154 : decode cX12_reckons 154 = .ok (.iconst 1, 1) := by decide +kernel
theorem d_X12_reckons_155 : decode cX12_reckons 155 = .ok (.if_icmp .ne 7, 3) := by decide +kernel
theorem d_X12_reckons_158 : decode cX12_reckons 158 = .ok (.iconst 1, 1) := by decide +kernel
theorem d_X12_reckons_159 : decode cX12_reckons 159 = .ok (.goto 4, 3) := by decide +kernel
theorem d_X12_reckons_162 : decode cX12_reckons 162 = .ok (.iconst 0, 1) := by decide +kernel
theorem d_X12_reckons_163 : decode cX12_reckons 163 = .ok (.ireturn, 1) := by decide +kernel
def F_X12_reckons_b4 : Nat → Nat → Int32 → Int32 → Int32 → xH → Option (Int32 × xH)
  | 0, _, _, _, _, _ => none
  | n + 1, x0, x1, x2, x3, h => (fR h x0 11 1).bind fun v6 => (aI h v6 (((9 : Int32)) + x1)).bind fun v13 => if v13 ≤ x3 then (fR h x0 11 16).bind fun v149 => (aI h v149 0).bind fun v153 => if ¬ v153 = ((1 : Int32)) then some (0, h) else some (1, h) else (fR h x0 11 1).bind fun v18 => (fR h x0 11 1).bind fun v25 => (aI h v25 (((7 : Int32)) + x1)).bind fun v32 => (aI h v18 ((((329 : Int32)) + v32) + x3)).bind fun v36 => if ((3000 : Int32)) ≤ v36 then if ¬ v36 = ((3006 : Int32)) then (fR h x0 11 16).bind fun v116 => (fR h x0 11 16).bind fun v125 => (aI h v125 ((x2 + (-1)) - 1)).bind fun v131 => (fR h x0 11 16).bind fun v133 => (aI h v133 (x2 + (-1))).bind fun v137 => (F_X12_between v36 v131 v137 h).bind fun z138 => (sI z138.2 v116 ((x2 + (-1)) - 1) z138.1).bind fun h141 => F_X12_reckons_b4 n x0 x1 (x2 + (-1)) (x3 + 1) h141 else (fR h x0 11 16).bind fun v92 => (fR h x0 11 16).bind fun v100 => (aI h v100 (x2 - 1)).bind fun v106 => (sI h v92 (x2 - 1) (((1 : Int32)) - v106)).bind fun h108 => F_X12_reckons_b4 n x0 x1 x2 (x3 + 1) h108 else (fR h x0 11 16).bind fun v48 => if ((1000 : Int32)) ≤ v36 then (fR h x0 11 17).bind fun v66 => (aI h v66 (v36 - 1000)).bind fun v75 => (sI h v48 x2 v75).bind fun h76 => F_X12_reckons_b4 n x0 x1 (x2 + 1) (x3 + 1) h76 else (sI h v48 x2 v36).bind fun h76 => F_X12_reckons_b4 n x0 x1 (x2 + 1) (x3 + 1) h76
theorem R_X12_reckons_b4 {Γ : xG} {l : Launch} {d : Nat} {Q : Option Value → xH → Prop} {r : Int32} {h' : xH} (hdp : 1 ≤ d) (hq : Q (some (.int r)) h') : ∀ (n : Nat) (x0 : Nat) (x1 : Int32) (x2 : Int32) (x3 : Int32) (h : xH), F_X12_reckons_b4 n x0 x1 x2 x3 h = some (r, h') → Gd Γ l d m_X12_reckons 4 [.ref x0, .int x1, .int x2, .int x3, xhole] [] h 0 0 Q := by
  intro n
  induction n with
  | zero => intro x0 x1 x2 x3 h hF; cases hF
  | succ n ih =>
  intro x0 x1 x2 x3 h hF
  rw [F_X12_reckons_b4] at hF
  refine g_iloadn d_X12_reckons_4 rfl ?_
  refine g_aloadn d_X12_reckons_5 rfl ?_
  obtain ⟨v6, e6, hF⟩ := Option.bind_eq_some_iff.mp hF
  refine q_fR d_X12_reckons_6 f_X12_13 e6 ?_
  refine g_bi (9) d_X12_reckons_9 bi_9 ?_
  refine g_iloadn d_X12_reckons_11 rfl ?_
  refine g_iadd d_X12_reckons_12 ?_
  obtain ⟨v13, e13, hF⟩ := Option.bind_eq_some_iff.mp hF
  refine q_aI d_X12_reckons_13 e13 ?_
  refine g_icmp_ge 148 d_X12_reckons_14 rfl (fun c14 => ?_) (fun c14 => ?_)
  · have hF := x_t hF c14
    refine g_aloadn d_X12_reckons_148 rfl ?_
    obtain ⟨v149, e149, hF⟩ := Option.bind_eq_some_iff.mp hF
    refine q_fR d_X12_reckons_149 f_X12_30 e149 ?_
    refine g_ic (0) d_X12_reckons_152 ic_0 ?_
    obtain ⟨v153, e153, hF⟩ := Option.bind_eq_some_iff.mp hF
    refine q_aI d_X12_reckons_153 e153 ?_
    refine g_ic (1) d_X12_reckons_154 ic_1 ?_
    refine g_icmp_ne 162 d_X12_reckons_155 rfl (fun c155 => ?_) (fun c155 => ?_)
    · have hF := x_t hF c155
      refine g_ic (0) d_X12_reckons_162 ic_0 ?_
      obtain ⟨rfl, rfl⟩ := x_inj hF
      exact g_zret d_X12_reckons_163 rfl rfl hq
    · have hF := x_f hF (not_not_intro c155)
      refine g_ic (1) d_X12_reckons_158 ic_1 ?_
      refine g_goto 163 d_X12_reckons_159 rfl ?_
      obtain ⟨rfl, rfl⟩ := x_inj hF
      exact g_zret d_X12_reckons_163 rfl rfl hq
  · have hF := x_f hF c14
    refine g_aloadn d_X12_reckons_17 rfl ?_
    obtain ⟨v18, e18, hF⟩ := Option.bind_eq_some_iff.mp hF
    refine q_fR d_X12_reckons_18 f_X12_13 e18 ?_
    refine g_si (329) d_X12_reckons_21 si_329 ?_
    refine g_aloadn d_X12_reckons_24 rfl ?_
    obtain ⟨v25, e25, hF⟩ := Option.bind_eq_some_iff.mp hF
    refine q_fR d_X12_reckons_25 f_X12_13 e25 ?_
    refine g_bi (7) d_X12_reckons_28 bi_7 ?_
    refine g_iloadn d_X12_reckons_30 rfl ?_
    refine g_iadd d_X12_reckons_31 ?_
    obtain ⟨v32, e32, hF⟩ := Option.bind_eq_some_iff.mp hF
    refine q_aI d_X12_reckons_32 e32 ?_
    refine g_iadd d_X12_reckons_33 ?_
    refine g_iloadn d_X12_reckons_34 rfl ?_
    refine g_iadd d_X12_reckons_35 ?_
    obtain ⟨v36, e36, hF⟩ := Option.bind_eq_some_iff.mp hF
    refine q_aI d_X12_reckons_36 e36 ?_
    refine q_istore [.ref x0, .int x1, .int x2, .int x3, .int v36] d_X12_reckons_37 (by decide) rfl ?_
    refine g_iload d_X12_reckons_39 rfl ?_
    refine g_si (3000) d_X12_reckons_41 si_3000 ?_
    refine g_icmp_ge 83 d_X12_reckons_44 rfl (fun c44 => ?_) (fun c44 => ?_)
    · have hF := x_t hF c44
      refine g_iload d_X12_reckons_83 rfl ?_
      refine g_si (3006) d_X12_reckons_85 si_3006 ?_
      refine g_icmp_ne 112 d_X12_reckons_88 rfl (fun c88 => ?_) (fun c88 => ?_)
      · have hF := x_t hF c88
        refine q_iinc (-1) [.ref x0, .int x1, .int (x2 + (-1)), .int x3, .int v36] d_X12_reckons_112 ic_m1 rfl (by decide) rfl ?_
        refine g_aloadn d_X12_reckons_115 rfl ?_
        obtain ⟨v116, e116, hF⟩ := Option.bind_eq_some_iff.mp hF
        refine q_fR d_X12_reckons_116 f_X12_30 e116 ?_
        refine g_iloadn d_X12_reckons_119 rfl ?_
        refine g_ic (1) d_X12_reckons_120 ic_1 ?_
        refine g_isub d_X12_reckons_121 ?_
        refine g_iload d_X12_reckons_122 rfl ?_
        refine g_aloadn d_X12_reckons_124 rfl ?_
        obtain ⟨v125, e125, hF⟩ := Option.bind_eq_some_iff.mp hF
        refine q_fR d_X12_reckons_125 f_X12_30 e125 ?_
        refine g_iloadn d_X12_reckons_128 rfl ?_
        refine g_ic (1) d_X12_reckons_129 ic_1 ?_
        refine g_isub d_X12_reckons_130 ?_
        obtain ⟨v131, e131, hF⟩ := Option.bind_eq_some_iff.mp hF
        refine q_aI d_X12_reckons_131 e131 ?_
        refine g_aloadn d_X12_reckons_132 rfl ?_
        obtain ⟨v133, e133, hF⟩ := Option.bind_eq_some_iff.mp hF
        refine q_fR d_X12_reckons_133 f_X12_30 e133 ?_
        refine g_iloadn d_X12_reckons_136 rfl ?_
        obtain ⟨v137, e137, hF⟩ := Option.bind_eq_some_iff.mp hF
        refine q_aI d_X12_reckons_137 e137 ?_
        obtain ⟨⟨r138, h138⟩, e138, hF⟩ := Option.bind_eq_some_iff.mp hF
        try dsimp only at hF
        refine q_callS [.int v36, .int v131, .int v137] [.int ((x2 + (-1)) - 1), .ref v116] rfl d_X12_reckons_138 s_X12_224 (by omega) rfl (Nat.le_of_ble_eq_true rfl) (R_X12_between _ _ _ _ (by omega) e138) ?_
        obtain ⟨h141, e141, hF⟩ := Option.bind_eq_some_iff.mp hF
        refine q_sI d_X12_reckons_141 e141 ?_
        refine q_iinc (1) [.ref x0, .int x1, .int (x2 + (-1)), .int (x3 + 1), .int v36] d_X12_reckons_142 ic_1 rfl (by decide) rfl ?_
        refine g_goto 4 d_X12_reckons_145 rfl ?_
        exact q_to (xs_r (xs_r (xs_r (xs_r (xs_h xs_n))))) (ih _ _ _ _ _ hF)
      · have hF := x_f hF (not_not_intro c88)
        refine g_aloadn d_X12_reckons_91 rfl ?_
        obtain ⟨v92, e92, hF⟩ := Option.bind_eq_some_iff.mp hF
        refine q_fR d_X12_reckons_92 f_X12_30 e92 ?_
        refine g_iloadn d_X12_reckons_95 rfl ?_
        refine g_ic (1) d_X12_reckons_96 ic_1 ?_
        refine g_isub d_X12_reckons_97 ?_
        refine g_ic (1) d_X12_reckons_98 ic_1 ?_
        refine g_aloadn d_X12_reckons_99 rfl ?_
        obtain ⟨v100, e100, hF⟩ := Option.bind_eq_some_iff.mp hF
        refine q_fR d_X12_reckons_100 f_X12_30 e100 ?_
        refine g_iloadn d_X12_reckons_103 rfl ?_
        refine g_ic (1) d_X12_reckons_104 ic_1 ?_
        refine g_isub d_X12_reckons_105 ?_
        obtain ⟨v106, e106, hF⟩ := Option.bind_eq_some_iff.mp hF
        refine q_aI d_X12_reckons_106 e106 ?_
        refine g_isub d_X12_reckons_107 ?_
        obtain ⟨h108, e108, hF⟩ := Option.bind_eq_some_iff.mp hF
        refine q_sI d_X12_reckons_108 e108 ?_
        refine g_goto 142 d_X12_reckons_109 rfl ?_
        refine q_iinc (1) [.ref x0, .int x1, .int x2, .int (x3 + 1), .int v36] d_X12_reckons_142 ic_1 rfl (by decide) rfl ?_
        refine g_goto 4 d_X12_reckons_145 rfl ?_
        exact q_to (xs_r (xs_r (xs_r (xs_r (xs_h xs_n))))) (ih _ _ _ _ _ hF)
    · have hF := x_f hF c44
      refine g_aloadn d_X12_reckons_47 rfl ?_
      obtain ⟨v48, e48, hF⟩ := Option.bind_eq_some_iff.mp hF
      refine q_fR d_X12_reckons_48 f_X12_30 e48 ?_
      refine g_iloadn d_X12_reckons_51 rfl ?_
      refine g_iload d_X12_reckons_52 rfl ?_
      refine g_si (1000) d_X12_reckons_54 si_1000 ?_
      refine g_icmp_ge 65 d_X12_reckons_57 rfl (fun c57 => ?_) (fun c57 => ?_)
      · have hF := x_t hF c57
        refine g_aloadn d_X12_reckons_65 rfl ?_
        obtain ⟨v66, e66, hF⟩ := Option.bind_eq_some_iff.mp hF
        refine q_fR d_X12_reckons_66 f_X12_33 e66 ?_
        refine g_iload d_X12_reckons_69 rfl ?_
        refine g_si (1000) d_X12_reckons_71 si_1000 ?_
        refine g_isub d_X12_reckons_74 ?_
        obtain ⟨v75, e75, hF⟩ := Option.bind_eq_some_iff.mp hF
        refine q_aI d_X12_reckons_75 e75 ?_
        obtain ⟨h76, e76, hF⟩ := Option.bind_eq_some_iff.mp hF
        refine q_sI d_X12_reckons_76 e76 ?_
        refine q_iinc (1) [.ref x0, .int x1, .int (x2 + 1), .int x3, .int v36] d_X12_reckons_77 ic_1 rfl (by decide) rfl ?_
        refine g_goto 142 d_X12_reckons_80 rfl ?_
        refine q_iinc (1) [.ref x0, .int x1, .int (x2 + 1), .int (x3 + 1), .int v36] d_X12_reckons_142 ic_1 rfl (by decide) rfl ?_
        refine g_goto 4 d_X12_reckons_145 rfl ?_
        exact q_to (xs_r (xs_r (xs_r (xs_r (xs_h xs_n))))) (ih _ _ _ _ _ hF)
      · have hF := x_f hF c57
        refine g_iload d_X12_reckons_60 rfl ?_
        refine g_goto 76 d_X12_reckons_62 rfl ?_
        obtain ⟨h76, e76, hF⟩ := Option.bind_eq_some_iff.mp hF
        refine q_sI d_X12_reckons_76 e76 ?_
        refine q_iinc (1) [.ref x0, .int x1, .int (x2 + 1), .int x3, .int v36] d_X12_reckons_77 ic_1 rfl (by decide) rfl ?_
        refine g_goto 142 d_X12_reckons_80 rfl ?_
        refine q_iinc (1) [.ref x0, .int x1, .int (x2 + 1), .int (x3 + 1), .int v36] d_X12_reckons_142 ic_1 rfl (by decide) rfl ?_
        refine g_goto 4 d_X12_reckons_145 rfl ?_
        exact q_to (xs_r (xs_r (xs_r (xs_r (xs_h xs_n))))) (ih _ _ _ _ _ hF)
def F_X12_reckons (x0 : Nat) (x1 : Int32) (h : xH) : Option (Int32 × xH) := F_X12_reckons_b4 FU x0 x1 0 0 h
theorem R_X12_reckons {Γ : xG} {l : Launch} {d : Nat} {r : Int32} {h' : xH} (x0 : Nat) (x1 : Int32) (h : xH) (hdp : 1 ≤ d) (hF : F_X12_reckons x0 x1 h = some (r, h')) : Gm Γ l d 0 0 m_X12_reckons [.ref x0, .int x1] h (fun a u => a = some (.int r) ∧ u = h') := by
  refine Gm.of pn_X12 (Nat.le_of_ble_eq_true rfl) ?_
  show Gd Γ l d m_X12_reckons 0 [.ref x0, .int x1, xhole, xhole, xhole] [] h 0 0 _
  generalize hQ : (fun (a : Option Value) (u : xH) => a = some (.int r) ∧ u = h') = Q
  have hq : Q (some (.int r)) h' := by rw [← hQ]; exact ⟨rfl, rfl⟩
  clear hQ
  unfold F_X12_reckons at hF
  refine g_ic (0) d_X12_reckons_0 ic_0 ?_
  refine q_istoren [.ref x0, .int x1, .int 0, xhole, xhole] d_X12_reckons_1 (by decide) rfl ?_
  refine g_ic (0) d_X12_reckons_2 ic_0 ?_
  refine q_istoren [.ref x0, .int x1, .int 0, .int 0, xhole] d_X12_reckons_3 (by decide) rfl ?_
  exact q_to (xs_r (xs_r (xs_r (xs_r (xs_h xs_n))))) (R_X12_reckons_b4 hdp hq FU _ _ _ _ _ hF)
theorem d_X12_hasFound_0 : decode cX12_hasFound 0 = .ok (.aload_n 0, 1) := by decide +kernel
theorem d_X12_hasFound_1 : decode cX12_hasFound 1 = .ok (.getfield 13, 3) := by decide +kernel
theorem d_X12_hasFound_4 : decode cX12_hasFound 4 = .ok (.bipush 108, 2) := by decide +kernel
theorem d_X12_hasFound_6 : decode cX12_hasFound 6 = .ok (.iaload, 1) := by decide +kernel
theorem d_X12_hasFound_7 : decode cX12_hasFound 7 = .ok (.i2l, 1) := by decide +kernel
theorem d_X12_hasFound_8 : decode cX12_hasFound 8 = .ok (.iload_n 1, 1) := by decide +kernel
theorem d_X12_hasFound_9 : decode cX12_hasFound 9 = .ok (.invokestatic 228, 3) := by decide +kernel
theorem d_X12_hasFound_12 : decode cX12_hasFound 12 = .ok (.ireturn, 1) := by decide +kernel
def F_X12_hasFound (x0 : Nat) (x1 : Int32) (h : xH) : Option (Int32 × xH) := (fR h x0 11 1).bind fun v1 => (aI h v1 108).bind fun v6 => (F_X12_isIn v6.toInt64 x1 h).bind fun z9 => rz .boolean z9.1 z9.2
theorem R_X12_hasFound {Γ : xG} {l : Launch} {d : Nat} {r : Int32} {h' : xH} (x0 : Nat) (x1 : Int32) (h : xH) (hdp : 1 ≤ d) (hF : F_X12_hasFound x0 x1 h = some (r, h')) : Gm Γ l d 0 0 m_X12_hasFound [.ref x0, .int x1] h (fun a u => a = some (.int r) ∧ u = h') := by
  refine Gm.of pn_X12 (Nat.le_of_ble_eq_true rfl) ?_
  show Gd Γ l d m_X12_hasFound 0 [.ref x0, .int x1] [] h 0 0 _
  generalize hQ : (fun (a : Option Value) (u : xH) => a = some (.int r) ∧ u = h') = Q
  have hq : Q (some (.int r)) h' := by rw [← hQ]; exact ⟨rfl, rfl⟩
  clear hQ
  unfold F_X12_hasFound at hF
  refine g_aloadn d_X12_hasFound_0 rfl ?_
  obtain ⟨v1, e1, hF⟩ := Option.bind_eq_some_iff.mp hF
  refine q_fR d_X12_hasFound_1 f_X12_13 e1 ?_
  refine g_bi (108) d_X12_hasFound_4 bi_108 ?_
  obtain ⟨v6, e6, hF⟩ := Option.bind_eq_some_iff.mp hF
  refine q_aI d_X12_hasFound_6 e6 ?_
  refine g_i2l d_X12_hasFound_7 ?_
  refine g_iloadn d_X12_hasFound_8 rfl ?_
  obtain ⟨⟨r9, h9⟩, e9, hF⟩ := Option.bind_eq_some_iff.mp hF
  try dsimp only at hF
  refine q_callS [.long (v6.toInt64), .int x1] [] rfl d_X12_hasFound_9 s_X12_228 (by omega) rfl (Nat.le_of_ble_eq_true rfl) (R_X12_isIn _ _ _ (by omega) e9) ?_
  exact q_rz d_X12_hasFound_12 rfl (Or.inl rfl) hF hq
theorem d_X12_hearsBy_0 : decode cX12_hearsBy 0 = .ok (.aload_n 0, 1) := by decide +kernel
theorem d_X12_hearsBy_1 : decode cX12_hearsBy 1 = .ok (.getfield 13, 3) := by decide +kernel
theorem d_X12_hearsBy_4 : decode cX12_hearsBy 4 = .ok (.iconst 5, 1) := by decide +kernel
theorem d_X12_hearsBy_5 : decode cX12_hearsBy 5 = .ok (.iaload, 1) := by decide +kernel
theorem d_X12_hearsBy_6 : decode cX12_hearsBy 6 = .ok (.ifCond .ne 22, 3) := by decide +kernel
theorem d_X12_hearsBy_9 : decode cX12_hearsBy 9 = .ok (.iload_n 2, 1) := by decide +kernel
theorem d_X12_hearsBy_10 : decode cX12_hearsBy 10 = .ok (.iload_n 3, 1) := by decide +kernel
theorem d_X12_hearsBy_11 : decode cX12_hearsBy 11 = .ok (.if_icmp .ne 11, 3) := by decide +kernel
theorem d_X12_hearsBy_14 : decode cX12_hearsBy 14 = .ok (.aload_n 0, 1) := by decide +kernel
theorem d_X12_hearsBy_15 : decode cX12_hearsBy 15 = .ok (.iload_n 1, 1) := by decide +kernel
theorem d_X12_hearsBy_16 : decode cX12_hearsBy 16 = .ok (.invokevirtual 232, 3) := by decide +kernel
theorem d_X12_hearsBy_19 : decode cX12_hearsBy 19 = .ok (.ifCond .eq 7, 3) := by decide +kernel
theorem d_X12_hearsBy_22 : decode cX12_hearsBy 22 = .ok (.iconst 1, 1) := by decide +kernel
theorem d_X12_hearsBy_23 : decode cX12_hearsBy 23 = .ok (.goto 4, 3) := by decide +kernel
theorem d_X12_hearsBy_26 : decode cX12_hearsBy 26 = .ok (.iconst 0, 1) := by decide +kernel
theorem d_X12_hearsBy_27 : decode cX12_hearsBy 27 = .ok (.ireturn, 1) := by decide +kernel
theorem d_X12_hearsBy_28 : decode cX12_hearsBy 28 = .ok (.aload_n 0, 1) := by decide +kernel
theorem d_X12_hearsBy_29 : decode cX12_hearsBy 29 = .ok (.getfield 33, 3) := by decide +kernel
theorem d_X12_hearsBy_32 : decode cX12_hearsBy 32 = .ok (.iconst 0, 1) := by decide +kernel
theorem d_X12_hearsBy_33 : decode cX12_hearsBy 33 = .ok (.iload_n 1, 1) := by decide +kernel
theorem d_X12_hearsBy_34 : decode cX12_hearsBy 34 = .ok (.iastore, 1) := by decide +kernel
theorem d_X12_hearsBy_35 : decode cX12_hearsBy 35 = .ok (.aload_n 0, 1) := by decide +kernel
theorem d_X12_hearsBy_36 : decode cX12_hearsBy 36 = .ok (.getfield 33, 3) := by decide +kernel
theorem d_X12_hearsBy_39 : decode cX12_hearsBy 39 = .ok (.iconst 1, 1) := by decide +kernel
theorem d_X12_hearsBy_40 : decode cX12_hearsBy 40 = .ok (.iload_n 2, 1) := by decide +kernel
theorem d_X12_hearsBy_41 : decode cX12_hearsBy 41 = .ok (.iastore, 1) := by decide +kernel
theorem d_X12_hearsBy_42 : decode cX12_hearsBy 42 = .ok (.aload_n 0, 1) := by decide +kernel
theorem d_X12_hearsBy_43 : decode cX12_hearsBy 43 = .ok (.getfield 33, 3) := by decide +kernel
theorem d_X12_hearsBy_46 : decode cX12_hearsBy 46 = .ok (.iconst 2, 1) := by decide +kernel
theorem d_X12_hearsBy_47 : decode cX12_hearsBy 47 = .ok (.iload_n 3, 1) := by decide +kernel
theorem d_X12_hearsBy_48 : decode cX12_hearsBy 48 = .ok (.iastore, 1) := by decide +kernel
theorem d_X12_hearsBy_49 : decode cX12_hearsBy 49 = .ok (.aload_n 0, 1) := by decide +kernel
theorem d_X12_hearsBy_50 : decode cX12_hearsBy 50 = .ok (.getfield 33, 3) := by decide +kernel
theorem d_X12_hearsBy_53 : decode cX12_hearsBy 53 = .ok (.iconst 3, 1) := by decide +kernel
theorem d_X12_hearsBy_54 : decode cX12_hearsBy 54 = .ok (.aload_n 0, 1) := by decide +kernel
theorem d_X12_hearsBy_55 : decode cX12_hearsBy 55 = .ok (.getfield 13, 3) := by decide +kernel
theorem d_X12_hearsBy_58 : decode cX12_hearsBy 58 = .ok (.bipush 115, 2) := by decide +kernel
theorem d_X12_hearsBy_60 : decode cX12_hearsBy 60 = .ok (.iload_n 1, 1) := by decide +kernel
theorem d_X12_hearsBy_61 : decode cX12_hearsBy 61 = .ok (.iadd, 1) := by decide +kernel
theorem d_X12_hearsBy_62 : decode cX12_hearsBy 62 = .ok (.iaload, 1) := by decide +kernel
theorem d_X12_hearsBy_63 : decode cX12_hearsBy 63 = .ok (.iastore, 1) := by decide +kernel
theorem d_X12_hearsBy_64 : decode cX12_hearsBy 64 = .ok (.aload_n 0, 1) := by decide +kernel
theorem d_X12_hearsBy_65 : decode cX12_hearsBy 65 = .ok (.getfield 33, 3) := by decide +kernel
theorem d_X12_hearsBy_68 : decode cX12_hearsBy 68 = .ok (.iconst 4, 1) := by decide +kernel
theorem d_X12_hearsBy_69 : decode cX12_hearsBy 69 = .ok (.aload_n 0, 1) := by decide +kernel
theorem d_X12_hearsBy_70 : decode cX12_hearsBy 70 = .ok (.iload_n 1, 1) := by decide +kernel
theorem d_X12_hearsBy_71 : decode cX12_hearsBy 71 = .ok (.invokevirtual 232, 3) := by decide +kernel
theorem d_X12_hearsBy_74 : decode cX12_hearsBy 74 = .ok (.ifCond .eq 7, 3) := by decide +kernel
theorem d_X12_hearsBy_77 : decode cX12_hearsBy 77 = .ok (.iconst 1, 1) := by decide +kernel
theorem d_X12_hearsBy_78 : decode cX12_hearsBy 78 = .ok (.goto 4, 3) := by decide +kernel
theorem d_X12_hearsBy_81 : decode cX12_hearsBy 81 = .ok (.iconst 0, 1) := by decide +kernel
theorem d_X12_hearsBy_82 : decode cX12_hearsBy 82 = .ok (.iastore, 1) := by decide +kernel
theorem d_X12_hearsBy_83 : decode cX12_hearsBy 83 = .ok (.aload_n 0, 1) := by decide +kernel
theorem d_X12_hearsBy_84 : decode cX12_hearsBy 84 = .ok (.iconst 0, 1) := by decide +kernel
theorem d_X12_hearsBy_85 : decode cX12_hearsBy 85 = .ok (.invokevirtual 235, 3) := by decide +kernel
theorem d_X12_hearsBy_88 : decode cX12_hearsBy 88 = .ok (.ireturn, 1) := by decide +kernel
def F_X12_hearsBy_b82 (x0 : Nat) (s0 : Nat) (s1 : Int32) (s2 : Int32) (h : xH) : Option (Int32 × xH) := (sI h s0 s1 s2).bind fun h82 => (rc h82 x0 11).bind fun _ => (F_X12_reckons x0 0 h82).bind fun z85 => rz .boolean z85.1 z85.2
theorem R_X12_hearsBy_b82 {Γ : xG} {l : Launch} {d : Nat} {Q : Option Value → xH → Prop} {r : Int32} {h' : xH} (hdp : 2 ≤ d) (hq : Q (some (.int r)) h') : ∀ (x0 : Nat) (s0 : Nat) (s1 : Int32) (s2 : Int32) (h : xH), F_X12_hearsBy_b82 x0 s0 s1 s2 h = some (r, h') → Gd Γ l d m_X12_hearsBy 82 [.ref x0, xhole, xhole, xhole] [.int s2, .int s1, .ref s0] h 0 0 Q := by
  intro x0 s0 s1 s2 h hF
  unfold F_X12_hearsBy_b82 at hF
  obtain ⟨h82, e82, hF⟩ := Option.bind_eq_some_iff.mp hF
  refine q_sI d_X12_hearsBy_82 e82 ?_
  refine g_aloadn d_X12_hearsBy_83 rfl ?_
  refine g_ic (0) d_X12_hearsBy_84 ic_0 ?_
  obtain ⟨_, g85, hF⟩ := Option.bind_eq_some_iff.mp hF
  obtain ⟨⟨r85, h85⟩, e85, hF⟩ := Option.bind_eq_some_iff.mp hF
  try dsimp only at hF
  refine q_callV [.int 0] [] rfl d_X12_hearsBy_85 v_X12_235 (by omega) rfl (Nat.le_of_ble_eq_true rfl) (rc_rc g85 (by decide) rfl) (R_X12_reckons _ _ _ (by omega) e85) ?_
  exact q_rz d_X12_hearsBy_88 rfl (Or.inl rfl) hF hq
def F_X12_hearsBy (x0 : Nat) (x1 : Int32) (x2 : Int32) (x3 : Int32) (h : xH) : Option (Int32 × xH) := (fR h x0 11 1).bind fun v1 => (aI h v1 5).bind fun v5 => if ¬ v5 = 0 then (fR h x0 11 17).bind fun v29 => (sI h v29 0 x1).bind fun h34 => (fR h34 x0 11 17).bind fun v36 => (sI h34 v36 1 x2).bind fun h41 => (fR h41 x0 11 17).bind fun v43 => (sI h41 v43 2 x3).bind fun h48 => (fR h48 x0 11 17).bind fun v50 => (fR h48 x0 11 1).bind fun v55 => (aI h48 v55 (((115 : Int32)) + x1)).bind fun v62 => (sI h48 v50 3 v62).bind fun h63 => (fR h63 x0 11 17).bind fun v65 => (rc h63 x0 11).bind fun _ => (F_X12_hasFound x0 x1 h63).bind fun z71 => if z71.1 = 0 then F_X12_hearsBy_b82 x0 v65 4 0 z71.2 else F_X12_hearsBy_b82 x0 v65 4 1 z71.2 else if ¬ x2 = x3 then some (1, h) else (rc h x0 11).bind fun _ => (F_X12_hasFound x0 x1 h).bind fun z16 => if z16.1 = 0 then some (0, z16.2) else some (1, z16.2)
theorem R_X12_hearsBy {Γ : xG} {l : Launch} {d : Nat} {r : Int32} {h' : xH} (x0 : Nat) (x1 : Int32) (x2 : Int32) (x3 : Int32) (h : xH) (hdp : 2 ≤ d) (hF : F_X12_hearsBy x0 x1 x2 x3 h = some (r, h')) : Gm Γ l d 0 0 m_X12_hearsBy [.ref x0, .int x1, .int x2, .int x3] h (fun a u => a = some (.int r) ∧ u = h') := by
  refine Gm.of pn_X12 (Nat.le_of_ble_eq_true rfl) ?_
  show Gd Γ l d m_X12_hearsBy 0 [.ref x0, .int x1, .int x2, .int x3] [] h 0 0 _
  generalize hQ : (fun (a : Option Value) (u : xH) => a = some (.int r) ∧ u = h') = Q
  have hq : Q (some (.int r)) h' := by rw [← hQ]; exact ⟨rfl, rfl⟩
  clear hQ
  unfold F_X12_hearsBy at hF
  refine g_aloadn d_X12_hearsBy_0 rfl ?_
  obtain ⟨v1, e1, hF⟩ := Option.bind_eq_some_iff.mp hF
  refine q_fR d_X12_hearsBy_1 f_X12_13 e1 ?_
  refine g_ic (5) d_X12_hearsBy_4 ic_5 ?_
  obtain ⟨v5, e5, hF⟩ := Option.bind_eq_some_iff.mp hF
  refine q_aI d_X12_hearsBy_5 e5 ?_
  refine g_if_ne 28 d_X12_hearsBy_6 rfl (fun c6 => ?_) (fun c6 => ?_)
  · have hF := x_t hF c6
    refine g_aloadn d_X12_hearsBy_28 rfl ?_
    obtain ⟨v29, e29, hF⟩ := Option.bind_eq_some_iff.mp hF
    refine q_fR d_X12_hearsBy_29 f_X12_33 e29 ?_
    refine g_ic (0) d_X12_hearsBy_32 ic_0 ?_
    refine g_iloadn d_X12_hearsBy_33 rfl ?_
    obtain ⟨h34, e34, hF⟩ := Option.bind_eq_some_iff.mp hF
    refine q_sI d_X12_hearsBy_34 e34 ?_
    refine g_aloadn d_X12_hearsBy_35 rfl ?_
    obtain ⟨v36, e36, hF⟩ := Option.bind_eq_some_iff.mp hF
    refine q_fR d_X12_hearsBy_36 f_X12_33 e36 ?_
    refine g_ic (1) d_X12_hearsBy_39 ic_1 ?_
    refine g_iloadn d_X12_hearsBy_40 rfl ?_
    obtain ⟨h41, e41, hF⟩ := Option.bind_eq_some_iff.mp hF
    refine q_sI d_X12_hearsBy_41 e41 ?_
    refine g_aloadn d_X12_hearsBy_42 rfl ?_
    obtain ⟨v43, e43, hF⟩ := Option.bind_eq_some_iff.mp hF
    refine q_fR d_X12_hearsBy_43 f_X12_33 e43 ?_
    refine g_ic (2) d_X12_hearsBy_46 ic_2 ?_
    refine g_iloadn d_X12_hearsBy_47 rfl ?_
    obtain ⟨h48, e48, hF⟩ := Option.bind_eq_some_iff.mp hF
    refine q_sI d_X12_hearsBy_48 e48 ?_
    refine g_aloadn d_X12_hearsBy_49 rfl ?_
    obtain ⟨v50, e50, hF⟩ := Option.bind_eq_some_iff.mp hF
    refine q_fR d_X12_hearsBy_50 f_X12_33 e50 ?_
    refine g_ic (3) d_X12_hearsBy_53 ic_3 ?_
    refine g_aloadn d_X12_hearsBy_54 rfl ?_
    obtain ⟨v55, e55, hF⟩ := Option.bind_eq_some_iff.mp hF
    refine q_fR d_X12_hearsBy_55 f_X12_13 e55 ?_
    refine g_bi (115) d_X12_hearsBy_58 bi_115 ?_
    refine g_iloadn d_X12_hearsBy_60 rfl ?_
    refine g_iadd d_X12_hearsBy_61 ?_
    obtain ⟨v62, e62, hF⟩ := Option.bind_eq_some_iff.mp hF
    refine q_aI d_X12_hearsBy_62 e62 ?_
    obtain ⟨h63, e63, hF⟩ := Option.bind_eq_some_iff.mp hF
    refine q_sI d_X12_hearsBy_63 e63 ?_
    refine g_aloadn d_X12_hearsBy_64 rfl ?_
    obtain ⟨v65, e65, hF⟩ := Option.bind_eq_some_iff.mp hF
    refine q_fR d_X12_hearsBy_65 f_X12_33 e65 ?_
    refine g_ic (4) d_X12_hearsBy_68 ic_4 ?_
    refine g_aloadn d_X12_hearsBy_69 rfl ?_
    refine g_iloadn d_X12_hearsBy_70 rfl ?_
    obtain ⟨_, g71, hF⟩ := Option.bind_eq_some_iff.mp hF
    obtain ⟨⟨r71, h71⟩, e71, hF⟩ := Option.bind_eq_some_iff.mp hF
    try dsimp only at hF
    refine q_callV [.int x1] [.int 4, .ref v65] rfl d_X12_hearsBy_71 v_X12_232 (by omega) rfl (Nat.le_of_ble_eq_true rfl) (rc_rc g71 (by decide) rfl) (R_X12_hasFound _ _ _ (by omega) e71) ?_
    refine g_if_eq 81 d_X12_hearsBy_74 rfl (fun c74 => ?_) (fun c74 => ?_)
    · have hF := x_t hF c74
      refine g_ic (0) d_X12_hearsBy_81 ic_0 ?_
      exact q_to (xs_r (xs_h (xs_h (xs_h xs_n)))) (R_X12_hearsBy_b82 hdp hq _ _ _ _ _ hF)
    · have hF := x_f hF c74
      refine g_ic (1) d_X12_hearsBy_77 ic_1 ?_
      refine g_goto 82 d_X12_hearsBy_78 rfl ?_
      exact q_to (xs_r (xs_h (xs_h (xs_h xs_n)))) (R_X12_hearsBy_b82 hdp hq _ _ _ _ _ hF)
  · have hF := x_f hF (not_not_intro c6)
    refine g_iloadn d_X12_hearsBy_9 rfl ?_
    refine g_iloadn d_X12_hearsBy_10 rfl ?_
    refine g_icmp_ne 22 d_X12_hearsBy_11 rfl (fun c11 => ?_) (fun c11 => ?_)
    · have hF := x_t hF c11
      refine g_ic (1) d_X12_hearsBy_22 ic_1 ?_
      refine g_goto 27 d_X12_hearsBy_23 rfl ?_
      obtain ⟨rfl, rfl⟩ := x_inj hF
      exact g_zret d_X12_hearsBy_27 rfl rfl hq
    · have hF := x_f hF (not_not_intro c11)
      refine g_aloadn d_X12_hearsBy_14 rfl ?_
      refine g_iloadn d_X12_hearsBy_15 rfl ?_
      obtain ⟨_, g16, hF⟩ := Option.bind_eq_some_iff.mp hF
      obtain ⟨⟨r16, h16⟩, e16, hF⟩ := Option.bind_eq_some_iff.mp hF
      try dsimp only at hF
      refine q_callV [.int x1] [] rfl d_X12_hearsBy_16 v_X12_232 (by omega) rfl (Nat.le_of_ble_eq_true rfl) (rc_rc g16 (by decide) rfl) (R_X12_hasFound _ _ _ (by omega) e16) ?_
      refine g_if_eq 26 d_X12_hearsBy_19 rfl (fun c19 => ?_) (fun c19 => ?_)
      · have hF := x_t hF c19
        refine g_ic (0) d_X12_hearsBy_26 ic_0 ?_
        obtain ⟨rfl, rfl⟩ := x_inj hF
        exact g_zret d_X12_hearsBy_27 rfl rfl hq
      · have hF := x_f hF c19
        refine g_ic (1) d_X12_hearsBy_22 ic_1 ?_
        refine g_goto 27 d_X12_hearsBy_23 rfl ?_
        obtain ⟨rfl, rfl⟩ := x_inj hF
        exact g_zret d_X12_hearsBy_27 rfl rfl hq
theorem d_X12_hearsNow_0 : decode cX12_hearsNow 0 = .ok (.aload_n 0, 1) := by decide +kernel
theorem d_X12_hearsNow_1 : decode cX12_hearsNow 1 = .ok (.iload_n 1, 1) := by decide +kernel
theorem d_X12_hearsNow_2 : decode cX12_hearsNow 2 = .ok (.iload_n 2, 1) := by decide +kernel
theorem d_X12_hearsNow_3 : decode cX12_hearsNow 3 = .ok (.aload_n 0, 1) := by decide +kernel
theorem d_X12_hearsNow_4 : decode cX12_hearsNow 4 = .ok (.getfield 13, 3) := by decide +kernel
theorem d_X12_hearsNow_7 : decode cX12_hearsNow 7 = .ok (.bipush 121, 2) := by decide +kernel
theorem d_X12_hearsNow_9 : decode cX12_hearsNow 9 = .ok (.iload_n 1, 1) := by decide +kernel
theorem d_X12_hearsNow_10 : decode cX12_hearsNow 10 = .ok (.iadd, 1) := by decide +kernel
theorem d_X12_hearsNow_11 : decode cX12_hearsNow 11 = .ok (.iaload, 1) := by decide +kernel
theorem d_X12_hearsNow_12 : decode cX12_hearsNow 12 = .ok (.iconst (-1), 1) := by decide +kernel
theorem d_X12_hearsNow_13 : decode cX12_hearsNow 13 = .ok (.if_icmp .ne 12, 3) := by decide +kernel
theorem d_X12_hearsNow_16 : decode cX12_hearsNow 16 = .ok (.aload_n 0, 1) := by decide +kernel
theorem d_X12_hearsNow_17 : decode cX12_hearsNow 17 = .ok (.getfield 13, 3) := by decide +kernel
theorem d_X12_hearsNow_20 : decode cX12_hearsNow 20 = .ok (.iconst 1, 1) := by decide +kernel
theorem d_X12_hearsNow_21 : decode cX12_hearsNow 21 = .ok (.iaload, 1) := by decide +kernel
theorem d_X12_hearsNow_22 : decode cX12_hearsNow 22 = .ok (.goto 12, 3) := by decide +kernel
theorem d_X12_hearsNow_25 : decode cX12_hearsNow 25 = .ok (.aload_n 0, 1) := by decide +kernel
theorem d_X12_hearsNow_26 : decode cX12_hearsNow 26 = .ok (.getfield 13, 3) := by decide +kernel
theorem d_X12_hearsNow_29 : decode cX12_hearsNow 29 = .ok (.bipush 121, 2) := by decide +kernel
theorem d_X12_hearsNow_31 : decode cX12_hearsNow 31 = .ok (.iload_n 1, 1) := by decide +kernel
theorem d_X12_hearsNow_32 : decode cX12_hearsNow 32 = .ok (.iadd, 1) := by decide +kernel
theorem d_X12_hearsNow_33 : decode cX12_hearsNow 33 = .ok (.iaload, 1) := by decide +kernel
theorem d_X12_hearsNow_34 : decode cX12_hearsNow 34 = .ok (.invokevirtual 238, 3) := by decide +kernel
theorem d_X12_hearsNow_37 : decode cX12_hearsNow 37 = .ok (.ireturn, 1) := by decide +kernel
def F_X12_hearsNow_b34 (s0 : Nat) (s1 : Int32) (s2 : Int32) (s3 : Int32) (h : xH) : Option (Int32 × xH) := (rc h s0 11).bind fun _ => (F_X12_hearsBy s0 s1 s2 s3 h).bind fun z34 => rz .boolean z34.1 z34.2
theorem R_X12_hearsNow_b34 {Γ : xG} {l : Launch} {d : Nat} {Q : Option Value → xH → Prop} {r : Int32} {h' : xH} (hdp : 3 ≤ d) (hq : Q (some (.int r)) h') : ∀ (s0 : Nat) (s1 : Int32) (s2 : Int32) (s3 : Int32) (h : xH), F_X12_hearsNow_b34 s0 s1 s2 s3 h = some (r, h') → Gd Γ l d m_X12_hearsNow 34 [xhole, xhole, xhole] [.int s3, .int s2, .int s1, .ref s0] h 0 0 Q := by
  intro s0 s1 s2 s3 h hF
  unfold F_X12_hearsNow_b34 at hF
  obtain ⟨_, g34, hF⟩ := Option.bind_eq_some_iff.mp hF
  obtain ⟨⟨r34, h34⟩, e34, hF⟩ := Option.bind_eq_some_iff.mp hF
  try dsimp only at hF
  refine q_callV [.int s1, .int s2, .int s3] [] rfl d_X12_hearsNow_34 v_X12_238 (by omega) rfl (Nat.le_of_ble_eq_true rfl) (rc_rc g34 (by decide) rfl) (R_X12_hearsBy _ _ _ _ _ (by omega) e34) ?_
  exact q_rz d_X12_hearsNow_37 rfl (Or.inl rfl) hF hq
def F_X12_hearsNow (x0 : Nat) (x1 : Int32) (x2 : Int32) (h : xH) : Option (Int32 × xH) := (fR h x0 11 1).bind fun v4 => (aI h v4 (((121 : Int32)) + x1)).bind fun v11 => if ¬ v11 = (((-1) : Int32)) then (fR h x0 11 1).bind fun v26 => (aI h v26 (((121 : Int32)) + x1)).bind fun v33 => F_X12_hearsNow_b34 x0 x1 x2 v33 h else (fR h x0 11 1).bind fun v17 => (aI h v17 1).bind fun v21 => F_X12_hearsNow_b34 x0 x1 x2 v21 h
theorem R_X12_hearsNow {Γ : xG} {l : Launch} {d : Nat} {r : Int32} {h' : xH} (x0 : Nat) (x1 : Int32) (x2 : Int32) (h : xH) (hdp : 3 ≤ d) (hF : F_X12_hearsNow x0 x1 x2 h = some (r, h')) : Gm Γ l d 0 0 m_X12_hearsNow [.ref x0, .int x1, .int x2] h (fun a u => a = some (.int r) ∧ u = h') := by
  refine Gm.of pn_X12 (Nat.le_of_ble_eq_true rfl) ?_
  show Gd Γ l d m_X12_hearsNow 0 [.ref x0, .int x1, .int x2] [] h 0 0 _
  generalize hQ : (fun (a : Option Value) (u : xH) => a = some (.int r) ∧ u = h') = Q
  have hq : Q (some (.int r)) h' := by rw [← hQ]; exact ⟨rfl, rfl⟩
  clear hQ
  unfold F_X12_hearsNow at hF
  refine g_aloadn d_X12_hearsNow_0 rfl ?_
  refine g_iloadn d_X12_hearsNow_1 rfl ?_
  refine g_iloadn d_X12_hearsNow_2 rfl ?_
  refine g_aloadn d_X12_hearsNow_3 rfl ?_
  obtain ⟨v4, e4, hF⟩ := Option.bind_eq_some_iff.mp hF
  refine q_fR d_X12_hearsNow_4 f_X12_13 e4 ?_
  refine g_bi (121) d_X12_hearsNow_7 bi_121 ?_
  refine g_iloadn d_X12_hearsNow_9 rfl ?_
  refine g_iadd d_X12_hearsNow_10 ?_
  obtain ⟨v11, e11, hF⟩ := Option.bind_eq_some_iff.mp hF
  refine q_aI d_X12_hearsNow_11 e11 ?_
  refine g_ic (-1) d_X12_hearsNow_12 ic_m1 ?_
  refine g_icmp_ne 25 d_X12_hearsNow_13 rfl (fun c13 => ?_) (fun c13 => ?_)
  · have hF := x_t hF c13
    refine g_aloadn d_X12_hearsNow_25 rfl ?_
    obtain ⟨v26, e26, hF⟩ := Option.bind_eq_some_iff.mp hF
    refine q_fR d_X12_hearsNow_26 f_X12_13 e26 ?_
    refine g_bi (121) d_X12_hearsNow_29 bi_121 ?_
    refine g_iloadn d_X12_hearsNow_31 rfl ?_
    refine g_iadd d_X12_hearsNow_32 ?_
    obtain ⟨v33, e33, hF⟩ := Option.bind_eq_some_iff.mp hF
    refine q_aI d_X12_hearsNow_33 e33 ?_
    exact q_to (xs_h (xs_h (xs_h xs_n))) (R_X12_hearsNow_b34 hdp hq _ _ _ _ _ hF)
  · have hF := x_f hF (not_not_intro c13)
    refine g_aloadn d_X12_hearsNow_16 rfl ?_
    obtain ⟨v17, e17, hF⟩ := Option.bind_eq_some_iff.mp hF
    refine q_fR d_X12_hearsNow_17 f_X12_13 e17 ?_
    refine g_ic (1) d_X12_hearsNow_20 ic_1 ?_
    obtain ⟨v21, e21, hF⟩ := Option.bind_eq_some_iff.mp hF
    refine q_aI d_X12_hearsNow_21 e21 ?_
    refine g_goto 34 d_X12_hearsNow_22 rfl ?_
    exact q_to (xs_h (xs_h (xs_h xs_n))) (R_X12_hearsNow_b34 hdp hq _ _ _ _ _ hF)
theorem d_X12_heardBy_0 : decode cX12_heardBy 0 = .ok (.iconst 0, 1) := by decide +kernel
theorem d_X12_heardBy_1 : decode cX12_heardBy 1 = .ok (.istore_n 2, 1) := by decide +kernel
theorem d_X12_heardBy_2 : decode cX12_heardBy 2 = .ok (.iconst 0, 1) := by decide +kernel
theorem d_X12_heardBy_3 : decode cX12_heardBy 3 = .ok (.istore_n 3, 1) := by decide +kernel
theorem d_X12_heardBy_4 : decode cX12_heardBy 4 = .ok (.iload_n 3, 1) := by decide +kernel
theorem d_X12_heardBy_5 : decode cX12_heardBy 5 = .ok (.aload_n 0, 1) := by decide +kernel
theorem d_X12_heardBy_6 : decode cX12_heardBy 6 = .ok (.getfield 13, 3) := by decide +kernel
theorem d_X12_heardBy_9 : decode cX12_heardBy 9 = .ok (.iconst 1, 1) := by decide +kernel
theorem d_X12_heardBy_10 : decode cX12_heardBy 10 = .ok (.iaload, 1) := by decide +kernel
theorem d_X12_heardBy_11 : decode cX12_heardBy 11 = .ok (.if_icmp .ge 28, 3) := by decide +kernel
theorem d_X12_heardBy_14 : decode cX12_heardBy 14 = .ok (.iload_n 2, 1) := by decide +kernel
theorem d_X12_heardBy_15 : decode cX12_heardBy 15 = .ok (.aload_n 0, 1) := by decide +kernel
theorem d_X12_heardBy_16 : decode cX12_heardBy 16 = .ok (.iload_n 1, 1) := by decide +kernel
theorem d_X12_heardBy_17 : decode cX12_heardBy 17 = .ok (.iload_n 3, 1) := by decide +kernel
theorem d_X12_heardBy_18 : decode cX12_heardBy 18 = .ok (.invokevirtual 242, 3) := by decide +kernel
theorem d_X12_heardBy_21 : decode cX12_heardBy 21 = .ok (.ifCond .eq 9, 3) := by decide +kernel
theorem d_X12_heardBy_24 : decode cX12_heardBy 24 = .ok (.iconst 1, 1) := by decide +kernel
theorem d_X12_heardBy_25 : decode cX12_heardBy 25 = .ok (.iload_n 3, 1) := by decide +kernel
theorem d_X12_heardBy_26 : decode cX12_heardBy 26 = .ok (.ishl, 1) := by decide +kernel
theorem d_X12_heardBy_27 : decode cX12_heardBy 27 = .ok (.goto 4, 3) := by decide +kernel
theorem d_X12_heardBy_30 : decode cX12_heardBy 30 = .ok (.iconst 0, 1) := by decide +kernel
theorem d_X12_heardBy_31 : decode cX12_heardBy 31 = .ok (.ior, 1) := by decide +kernel
theorem d_X12_heardBy_32 : decode cX12_heardBy 32 = .ok (.istore_n 2, 1) := by decide +kernel
theorem d_X12_heardBy_33 : decode cX12_heardBy 33 = .ok (.iinc 3 1, 3) := by decide +kernel
theorem d_X12_heardBy_36 : decode cX12_heardBy 36 = .ok (.goto (-32), 3) := by decide +kernel
theorem d_X12_heardBy_39 : decode cX12_heardBy 39 = .ok (.iload_n 2, 1) := by decide +kernel
theorem d_X12_heardBy_40 : decode cX12_heardBy 40 = .ok (.ireturn, 1) := by decide +kernel
def F_X12_heardBy_b31 (k4 : Nat → Int32 → Int32 → Int32 → xH → Option (Int32 × xH)) (x0 : Nat) (x1 : Int32) (x3 : Int32) (s0 : Int32) (s1 : Int32) (h : xH) : Option (Int32 × xH) := k4 x0 x1 (s0 ||| s1) (x3 + 1) h
theorem R_X12_heardBy_b31 {Γ : xG} {l : Launch} {d : Nat} {Q : Option Value → xH → Prop} {r : Int32} {h' : xH} {k4 : Nat → Int32 → Int32 → Int32 → xH → Option (Int32 × xH)} (K4 : ∀ (x0 : Nat) (x1 : Int32) (x2 : Int32) (x3 : Int32)  (h : xH), k4 x0 x1 x2 x3 h = some (r, h') → Gd Γ l d m_X12_heardBy 4 [.ref x0, .int x1, .int x2, .int x3] [] h 0 0 Q) (hdp : 4 ≤ d) (hq : Q (some (.int r)) h') : ∀ (x0 : Nat) (x1 : Int32) (x3 : Int32) (s0 : Int32) (s1 : Int32) (h : xH), F_X12_heardBy_b31 k4 x0 x1 x3 s0 s1 h = some (r, h') → Gd Γ l d m_X12_heardBy 31 [.ref x0, .int x1, xhole, .int x3] [.int s1, .int s0] h 0 0 Q := by
  intro x0 x1 x3 s0 s1 h hF
  unfold F_X12_heardBy_b31 at hF
  refine g_ior d_X12_heardBy_31 ?_
  refine q_istoren [.ref x0, .int x1, .int (s0 ||| s1), .int x3] d_X12_heardBy_32 (by decide) rfl ?_
  refine q_iinc (1) [.ref x0, .int x1, .int (s0 ||| s1), .int (x3 + 1)] d_X12_heardBy_33 ic_1 rfl (by decide) rfl ?_
  refine g_goto 4 d_X12_heardBy_36 rfl ?_
  exact q_to (xs_r (xs_r (xs_r (xs_r xs_n)))) (K4 _ _ _ _ _ hF)
def F_X12_heardBy_b4 : Nat → Nat → Int32 → Int32 → Int32 → xH → Option (Int32 × xH)
  | 0, _, _, _, _, _ => none
  | n + 1, x0, x1, x2, x3, h => (fR h x0 11 1).bind fun v6 => (aI h v6 1).bind fun v10 => if v10 ≤ x3 then some (x2, h) else (rc h x0 11).bind fun _ => (F_X12_hearsNow x0 x1 x3 h).bind fun z18 => if z18.1 = 0 then F_X12_heardBy_b31 (F_X12_heardBy_b4 n) x0 x1 x3 x2 0 z18.2 else F_X12_heardBy_b31 (F_X12_heardBy_b4 n) x0 x1 x3 x2 (((1 : Int32)) <<< (x3 &&& 31)) z18.2
theorem R_X12_heardBy_b4 {Γ : xG} {l : Launch} {d : Nat} {Q : Option Value → xH → Prop} {r : Int32} {h' : xH} (hdp : 4 ≤ d) (hq : Q (some (.int r)) h') : ∀ (n : Nat) (x0 : Nat) (x1 : Int32) (x2 : Int32) (x3 : Int32) (h : xH), F_X12_heardBy_b4 n x0 x1 x2 x3 h = some (r, h') → Gd Γ l d m_X12_heardBy 4 [.ref x0, .int x1, .int x2, .int x3] [] h 0 0 Q := by
  intro n
  induction n with
  | zero => intro x0 x1 x2 x3 h hF; cases hF
  | succ n ih =>
  intro x0 x1 x2 x3 h hF
  rw [F_X12_heardBy_b4] at hF
  refine g_iloadn d_X12_heardBy_4 rfl ?_
  refine g_aloadn d_X12_heardBy_5 rfl ?_
  obtain ⟨v6, e6, hF⟩ := Option.bind_eq_some_iff.mp hF
  refine q_fR d_X12_heardBy_6 f_X12_13 e6 ?_
  refine g_ic (1) d_X12_heardBy_9 ic_1 ?_
  obtain ⟨v10, e10, hF⟩ := Option.bind_eq_some_iff.mp hF
  refine q_aI d_X12_heardBy_10 e10 ?_
  refine g_icmp_ge 39 d_X12_heardBy_11 rfl (fun c11 => ?_) (fun c11 => ?_)
  · have hF := x_t hF c11
    refine g_iloadn d_X12_heardBy_39 rfl ?_
    obtain ⟨rfl, rfl⟩ := x_inj hF
    exact g_iret d_X12_heardBy_40 rfl hq
  · have hF := x_f hF c11
    refine g_iloadn d_X12_heardBy_14 rfl ?_
    refine g_aloadn d_X12_heardBy_15 rfl ?_
    refine g_iloadn d_X12_heardBy_16 rfl ?_
    refine g_iloadn d_X12_heardBy_17 rfl ?_
    obtain ⟨_, g18, hF⟩ := Option.bind_eq_some_iff.mp hF
    obtain ⟨⟨r18, h18⟩, e18, hF⟩ := Option.bind_eq_some_iff.mp hF
    try dsimp only at hF
    refine q_callV [.int x1, .int x3] [.int x2] rfl d_X12_heardBy_18 v_X12_242 (by omega) rfl (Nat.le_of_ble_eq_true rfl) (rc_rc g18 (by decide) rfl) (R_X12_hearsNow _ _ _ _ (by omega) e18) ?_
    refine g_if_eq 30 d_X12_heardBy_21 rfl (fun c21 => ?_) (fun c21 => ?_)
    · have hF := x_t hF c21
      refine g_ic (0) d_X12_heardBy_30 ic_0 ?_
      exact q_to (xs_r (xs_r (xs_h (xs_r xs_n)))) (R_X12_heardBy_b31 ih hdp hq _ _ _ _ _ _ hF)
    · have hF := x_f hF c21
      refine g_ic (1) d_X12_heardBy_24 ic_1 ?_
      refine g_iloadn d_X12_heardBy_25 rfl ?_
      refine g_ishl d_X12_heardBy_26 ?_
      refine g_goto 31 d_X12_heardBy_27 rfl ?_
      exact q_to (xs_r (xs_r (xs_h (xs_r xs_n)))) (R_X12_heardBy_b31 ih hdp hq _ _ _ _ _ _ hF)
def F_X12_heardBy (x0 : Nat) (x1 : Int32) (h : xH) : Option (Int32 × xH) := F_X12_heardBy_b4 FU x0 x1 0 0 h
theorem R_X12_heardBy {Γ : xG} {l : Launch} {d : Nat} {r : Int32} {h' : xH} (x0 : Nat) (x1 : Int32) (h : xH) (hdp : 4 ≤ d) (hF : F_X12_heardBy x0 x1 h = some (r, h')) : Gm Γ l d 0 0 m_X12_heardBy [.ref x0, .int x1] h (fun a u => a = some (.int r) ∧ u = h') := by
  refine Gm.of pn_X12 (Nat.le_of_ble_eq_true rfl) ?_
  show Gd Γ l d m_X12_heardBy 0 [.ref x0, .int x1, xhole, xhole] [] h 0 0 _
  generalize hQ : (fun (a : Option Value) (u : xH) => a = some (.int r) ∧ u = h') = Q
  have hq : Q (some (.int r)) h' := by rw [← hQ]; exact ⟨rfl, rfl⟩
  clear hQ
  unfold F_X12_heardBy at hF
  refine g_ic (0) d_X12_heardBy_0 ic_0 ?_
  refine q_istoren [.ref x0, .int x1, .int 0, xhole] d_X12_heardBy_1 (by decide) rfl ?_
  refine g_ic (0) d_X12_heardBy_2 ic_0 ?_
  refine q_istoren [.ref x0, .int x1, .int 0, .int 0] d_X12_heardBy_3 (by decide) rfl ?_
  exact q_to (xs_r (xs_r (xs_r (xs_r xs_n)))) (R_X12_heardBy_b4 hdp hq FU _ _ _ _ _ hF)
theorem d_X12_follows_0 : decode cX12_follows 0 = .ok (.aload_n 0, 1) := by decide +kernel
theorem d_X12_follows_1 : decode cX12_follows 1 = .ok (.getfield 13, 3) := by decide +kernel
theorem d_X12_follows_4 : decode cX12_follows 4 = .ok (.bipush 6, 2) := by decide +kernel
theorem d_X12_follows_6 : decode cX12_follows 6 = .ok (.iaload, 1) := by decide +kernel
theorem d_X12_follows_7 : decode cX12_follows 7 = .ok (.ifCond .ne 5, 3) := by decide +kernel
theorem d_X12_follows_10 : decode cX12_follows 10 = .ok (.iconst 1, 1) := by decide +kernel
theorem d_X12_follows_11 : decode cX12_follows 11 = .ok (.ireturn, 1) := by decide +kernel
theorem d_X12_follows_12 : decode cX12_follows 12 = .ok (.aload_n 0, 1) := by decide +kernel
theorem d_X12_follows_13 : decode cX12_follows 13 = .ok (.getfield 33, 3) := by decide +kernel
theorem d_X12_follows_16 : decode cX12_follows 16 = .ok (.iconst 5, 1) := by decide +kernel
theorem d_X12_follows_17 : decode cX12_follows 17 = .ok (.iload_n 1, 1) := by decide +kernel
theorem d_X12_follows_18 : decode cX12_follows 18 = .ok (.iastore, 1) := by decide +kernel
theorem d_X12_follows_19 : decode cX12_follows 19 = .ok (.aload_n 0, 1) := by decide +kernel
theorem d_X12_follows_20 : decode cX12_follows 20 = .ok (.getfield 33, 3) := by decide +kernel
theorem d_X12_follows_23 : decode cX12_follows 23 = .ok (.bipush 6, 2) := by decide +kernel
theorem d_X12_follows_25 : decode cX12_follows 25 = .ok (.iload_n 2, 1) := by decide +kernel
theorem d_X12_follows_26 : decode cX12_follows 26 = .ok (.iastore, 1) := by decide +kernel
theorem d_X12_follows_27 : decode cX12_follows 27 = .ok (.aload_n 0, 1) := by decide +kernel
theorem d_X12_follows_28 : decode cX12_follows 28 = .ok (.getfield 33, 3) := by decide +kernel
theorem d_X12_follows_31 : decode cX12_follows 31 = .ok (.bipush 7, 2) := by decide +kernel
theorem d_X12_follows_33 : decode cX12_follows 33 = .ok (.iload_n 1, 1) := by decide +kernel
theorem d_X12_follows_34 : decode cX12_follows 34 = .ok (.iload_n 2, 1) := by decide +kernel
theorem d_X12_follows_35 : decode cX12_follows 35 = .ok (.if_icmp .ge 9, 3) := by decide +kernel
theorem d_X12_follows_38 : decode cX12_follows 38 = .ok (.iload_n 2, 1) := by decide +kernel
theorem d_X12_follows_39 : decode cX12_follows 39 = .ok (.iload_n 1, 1) := by decide +kernel
theorem d_X12_follows_40 : decode cX12_follows 40 = .ok (.isub, 1) := by decide +kernel
theorem d_X12_follows_41 : decode cX12_follows 41 = .ok (.goto 6, 3) := by decide +kernel
theorem d_X12_follows_44 : decode cX12_follows 44 = .ok (.iload_n 1, 1) := by decide +kernel
theorem d_X12_follows_45 : decode cX12_follows 45 = .ok (.iload_n 2, 1) := by decide +kernel
theorem d_X12_follows_46 : decode cX12_follows 46 = .ok (.isub, 1) := by decide +kernel
theorem d_X12_follows_47 : decode cX12_follows 47 = .ok (.iastore, 1) := by decide +kernel
theorem d_X12_follows_48 : decode cX12_follows 48 = .ok (.aload_n 0, 1) := by decide +kernel
theorem d_X12_follows_49 : decode cX12_follows 49 = .ok (.iconst 1, 1) := by decide +kernel
theorem d_X12_follows_50 : decode cX12_follows 50 = .ok (.invokevirtual 235, 3) := by decide +kernel
theorem d_X12_follows_53 : decode cX12_follows 53 = .ok (.ireturn, 1) := by decide +kernel
def F_X12_follows_b47 (x0 : Nat) (s0 : Nat) (s1 : Int32) (s2 : Int32) (h : xH) : Option (Int32 × xH) := (sI h s0 s1 s2).bind fun h47 => (rc h47 x0 11).bind fun _ => (F_X12_reckons x0 1 h47).bind fun z50 => rz .boolean z50.1 z50.2
theorem R_X12_follows_b47 {Γ : xG} {l : Launch} {d : Nat} {Q : Option Value → xH → Prop} {r : Int32} {h' : xH} (hdp : 2 ≤ d) (hq : Q (some (.int r)) h') : ∀ (x0 : Nat) (s0 : Nat) (s1 : Int32) (s2 : Int32) (h : xH), F_X12_follows_b47 x0 s0 s1 s2 h = some (r, h') → Gd Γ l d m_X12_follows 47 [.ref x0, xhole, xhole] [.int s2, .int s1, .ref s0] h 0 0 Q := by
  intro x0 s0 s1 s2 h hF
  unfold F_X12_follows_b47 at hF
  obtain ⟨h47, e47, hF⟩ := Option.bind_eq_some_iff.mp hF
  refine q_sI d_X12_follows_47 e47 ?_
  refine g_aloadn d_X12_follows_48 rfl ?_
  refine g_ic (1) d_X12_follows_49 ic_1 ?_
  obtain ⟨_, g50, hF⟩ := Option.bind_eq_some_iff.mp hF
  obtain ⟨⟨r50, h50⟩, e50, hF⟩ := Option.bind_eq_some_iff.mp hF
  try dsimp only at hF
  refine q_callV [.int 1] [] rfl d_X12_follows_50 v_X12_235 (by omega) rfl (Nat.le_of_ble_eq_true rfl) (rc_rc g50 (by decide) rfl) (R_X12_reckons _ _ _ (by omega) e50) ?_
  exact q_rz d_X12_follows_53 rfl (Or.inl rfl) hF hq
def F_X12_follows (x0 : Nat) (x1 : Int32) (x2 : Int32) (h : xH) : Option (Int32 × xH) := (fR h x0 11 1).bind fun v1 => (aI h v1 6).bind fun v6 => if ¬ v6 = 0 then (fR h x0 11 17).bind fun v13 => (sI h v13 5 x1).bind fun h18 => (fR h18 x0 11 17).bind fun v20 => (sI h18 v20 6 x2).bind fun h26 => (fR h26 x0 11 17).bind fun v28 => if x2 ≤ x1 then F_X12_follows_b47 x0 v28 7 (x1 - x2) h26 else F_X12_follows_b47 x0 v28 7 (x2 - x1) h26 else some (1, h)
theorem R_X12_follows {Γ : xG} {l : Launch} {d : Nat} {r : Int32} {h' : xH} (x0 : Nat) (x1 : Int32) (x2 : Int32) (h : xH) (hdp : 2 ≤ d) (hF : F_X12_follows x0 x1 x2 h = some (r, h')) : Gm Γ l d 0 0 m_X12_follows [.ref x0, .int x1, .int x2] h (fun a u => a = some (.int r) ∧ u = h') := by
  refine Gm.of pn_X12 (Nat.le_of_ble_eq_true rfl) ?_
  show Gd Γ l d m_X12_follows 0 [.ref x0, .int x1, .int x2] [] h 0 0 _
  generalize hQ : (fun (a : Option Value) (u : xH) => a = some (.int r) ∧ u = h') = Q
  have hq : Q (some (.int r)) h' := by rw [← hQ]; exact ⟨rfl, rfl⟩
  clear hQ
  unfold F_X12_follows at hF
  refine g_aloadn d_X12_follows_0 rfl ?_
  obtain ⟨v1, e1, hF⟩ := Option.bind_eq_some_iff.mp hF
  refine q_fR d_X12_follows_1 f_X12_13 e1 ?_
  refine g_bi (6) d_X12_follows_4 bi_6 ?_
  obtain ⟨v6, e6, hF⟩ := Option.bind_eq_some_iff.mp hF
  refine q_aI d_X12_follows_6 e6 ?_
  refine g_if_ne 12 d_X12_follows_7 rfl (fun c7 => ?_) (fun c7 => ?_)
  · have hF := x_t hF c7
    refine g_aloadn d_X12_follows_12 rfl ?_
    obtain ⟨v13, e13, hF⟩ := Option.bind_eq_some_iff.mp hF
    refine q_fR d_X12_follows_13 f_X12_33 e13 ?_
    refine g_ic (5) d_X12_follows_16 ic_5 ?_
    refine g_iloadn d_X12_follows_17 rfl ?_
    obtain ⟨h18, e18, hF⟩ := Option.bind_eq_some_iff.mp hF
    refine q_sI d_X12_follows_18 e18 ?_
    refine g_aloadn d_X12_follows_19 rfl ?_
    obtain ⟨v20, e20, hF⟩ := Option.bind_eq_some_iff.mp hF
    refine q_fR d_X12_follows_20 f_X12_33 e20 ?_
    refine g_bi (6) d_X12_follows_23 bi_6 ?_
    refine g_iloadn d_X12_follows_25 rfl ?_
    obtain ⟨h26, e26, hF⟩ := Option.bind_eq_some_iff.mp hF
    refine q_sI d_X12_follows_26 e26 ?_
    refine g_aloadn d_X12_follows_27 rfl ?_
    obtain ⟨v28, e28, hF⟩ := Option.bind_eq_some_iff.mp hF
    refine q_fR d_X12_follows_28 f_X12_33 e28 ?_
    refine g_bi (7) d_X12_follows_31 bi_7 ?_
    refine g_iloadn d_X12_follows_33 rfl ?_
    refine g_iloadn d_X12_follows_34 rfl ?_
    refine g_icmp_ge 44 d_X12_follows_35 rfl (fun c35 => ?_) (fun c35 => ?_)
    · have hF := x_t hF c35
      refine g_iloadn d_X12_follows_44 rfl ?_
      refine g_iloadn d_X12_follows_45 rfl ?_
      refine g_isub d_X12_follows_46 ?_
      exact q_to (xs_r (xs_h (xs_h xs_n))) (R_X12_follows_b47 hdp hq _ _ _ _ _ hF)
    · have hF := x_f hF c35
      refine g_iloadn d_X12_follows_38 rfl ?_
      refine g_iloadn d_X12_follows_39 rfl ?_
      refine g_isub d_X12_follows_40 ?_
      refine g_goto 47 d_X12_follows_41 rfl ?_
      exact q_to (xs_r (xs_h (xs_h xs_n))) (R_X12_follows_b47 hdp hq _ _ _ _ _ hF)
  · have hF := x_f hF (not_not_intro c7)
    refine g_ic (1) d_X12_follows_10 ic_1 ?_
    obtain ⟨rfl, rfl⟩ := x_inj hF
    exact g_zret d_X12_follows_11 rfl rfl hq
theorem d_X12_soundOf_0 : decode cX12_soundOf 0 = .ok (.aload_n 0, 1) := by decide +kernel
theorem d_X12_soundOf_1 : decode cX12_soundOf 1 = .ok (.getfield 13, 3) := by decide +kernel
theorem d_X12_soundOf_4 : decode cX12_soundOf 4 = .ok (.bipush 83, 2) := by decide +kernel
theorem d_X12_soundOf_6 : decode cX12_soundOf 6 = .ok (.iconst 4, 1) := by decide +kernel
theorem d_X12_soundOf_7 : decode cX12_soundOf 7 = .ok (.iload_n 1, 1) := by decide +kernel
theorem d_X12_soundOf_8 : decode cX12_soundOf 8 = .ok (.imul, 1) := by decide +kernel
theorem d_X12_soundOf_9 : decode cX12_soundOf 9 = .ok (.iadd, 1) := by decide +kernel
theorem d_X12_soundOf_10 : decode cX12_soundOf 10 = .ok (.iload_n 2, 1) := by decide +kernel
theorem d_X12_soundOf_11 : decode cX12_soundOf 11 = .ok (.aload_n 0, 1) := by decide +kernel
theorem d_X12_soundOf_12 : decode cX12_soundOf 12 = .ok (.getfield 13, 3) := by decide +kernel
theorem d_X12_soundOf_15 : decode cX12_soundOf 15 = .ok (.bipush 71, 2) := by decide +kernel
theorem d_X12_soundOf_17 : decode cX12_soundOf 17 = .ok (.iload_n 1, 1) := by decide +kernel
theorem d_X12_soundOf_18 : decode cX12_soundOf 18 = .ok (.iadd, 1) := by decide +kernel
theorem d_X12_soundOf_19 : decode cX12_soundOf 19 = .ok (.iaload, 1) := by decide +kernel
theorem d_X12_soundOf_20 : decode cX12_soundOf 20 = .ok (.irem, 1) := by decide +kernel
theorem d_X12_soundOf_21 : decode cX12_soundOf 21 = .ok (.iadd, 1) := by decide +kernel
theorem d_X12_soundOf_22 : decode cX12_soundOf 22 = .ok (.iaload, 1) := by decide +kernel
theorem d_X12_soundOf_23 : decode cX12_soundOf 23 = .ok (.istore_n 3, 1) := by decide +kernel
theorem d_X12_soundOf_24 : decode cX12_soundOf 24 = .ok (.iload_n 3, 1) := by decide +kernel
theorem d_X12_soundOf_25 : decode cX12_soundOf 25 = .ok (.aload_n 0, 1) := by decide +kernel
theorem d_X12_soundOf_26 : decode cX12_soundOf 26 = .ok (.getfield 13, 3) := by decide +kernel
theorem d_X12_soundOf_29 : decode cX12_soundOf 29 = .ok (.iconst 1, 1) := by decide +kernel
theorem d_X12_soundOf_30 : decode cX12_soundOf 30 = .ok (.iaload, 1) := by decide +kernel
theorem d_X12_soundOf_31 : decode cX12_soundOf 31 = .ok (.if_icmp .ne 7, 3) := by decide +kernel
theorem d_X12_soundOf_34 : decode cX12_soundOf 34 = .ok (.iconst (-1), 1) := by decide +kernel
theorem d_X12_soundOf_35 : decode cX12_soundOf 35 = .ok (.goto 4, 3) := by decide +kernel
theorem d_X12_soundOf_38 : decode cX12_soundOf 38 = .ok (.iload_n 3, 1) := by decide +kernel
theorem d_X12_soundOf_39 : decode cX12_soundOf 39 = .ok (.ireturn, 1) := by decide +kernel
def F_X12_soundOf (x0 : Nat) (x1 : Int32) (x2 : Int32) (h : xH) : Option (Int32 × xH) := (fR h x0 11 1).bind fun v1 => (fR h x0 11 1).bind fun v12 => (aI h v12 (((71 : Int32)) + x1)).bind fun v19 => if v19 = 0 then none else (aI h v1 ((((83 : Int32)) + (((4 : Int32)) * x1)) + (irm x2 v19))).bind fun v22 => (fR h x0 11 1).bind fun v26 => (aI h v26 1).bind fun v30 => if ¬ v22 = v30 then some (v22, h) else some ((-1), h)
theorem R_X12_soundOf {Γ : xG} {l : Launch} {d : Nat} {r : Int32} {h' : xH} (x0 : Nat) (x1 : Int32) (x2 : Int32) (h : xH) (hdp : 0 ≤ d) (hF : F_X12_soundOf x0 x1 x2 h = some (r, h')) : Gm Γ l d 0 0 m_X12_soundOf [.ref x0, .int x1, .int x2] h (fun a u => a = some (.int r) ∧ u = h') := by
  refine Gm.of pn_X12 (Nat.le_of_ble_eq_true rfl) ?_
  show Gd Γ l d m_X12_soundOf 0 [.ref x0, .int x1, .int x2, xhole] [] h 0 0 _
  generalize hQ : (fun (a : Option Value) (u : xH) => a = some (.int r) ∧ u = h') = Q
  have hq : Q (some (.int r)) h' := by rw [← hQ]; exact ⟨rfl, rfl⟩
  clear hQ
  unfold F_X12_soundOf at hF
  refine g_aloadn d_X12_soundOf_0 rfl ?_
  obtain ⟨v1, e1, hF⟩ := Option.bind_eq_some_iff.mp hF
  refine q_fR d_X12_soundOf_1 f_X12_13 e1 ?_
  refine g_bi (83) d_X12_soundOf_4 bi_83 ?_
  refine g_ic (4) d_X12_soundOf_6 ic_4 ?_
  refine g_iloadn d_X12_soundOf_7 rfl ?_
  refine g_imul d_X12_soundOf_8 ?_
  refine g_iadd d_X12_soundOf_9 ?_
  refine g_iloadn d_X12_soundOf_10 rfl ?_
  refine g_aloadn d_X12_soundOf_11 rfl ?_
  obtain ⟨v12, e12, hF⟩ := Option.bind_eq_some_iff.mp hF
  refine q_fR d_X12_soundOf_12 f_X12_13 e12 ?_
  refine g_bi (71) d_X12_soundOf_15 bi_71 ?_
  refine g_iloadn d_X12_soundOf_17 rfl ?_
  refine g_iadd d_X12_soundOf_18 ?_
  obtain ⟨v19, e19, hF⟩ := Option.bind_eq_some_iff.mp hF
  refine q_aI d_X12_soundOf_19 e19 ?_
  rcases x_nz hF with ⟨z20, hF⟩
  refine q_irem d_X12_soundOf_20 z20 ?_
  refine g_iadd d_X12_soundOf_21 ?_
  obtain ⟨v22, e22, hF⟩ := Option.bind_eq_some_iff.mp hF
  refine q_aI d_X12_soundOf_22 e22 ?_
  refine q_istoren [.ref x0, .int x1, .int x2, .int v22] d_X12_soundOf_23 (by decide) rfl ?_
  refine g_iloadn d_X12_soundOf_24 rfl ?_
  refine g_aloadn d_X12_soundOf_25 rfl ?_
  obtain ⟨v26, e26, hF⟩ := Option.bind_eq_some_iff.mp hF
  refine q_fR d_X12_soundOf_26 f_X12_13 e26 ?_
  refine g_ic (1) d_X12_soundOf_29 ic_1 ?_
  obtain ⟨v30, e30, hF⟩ := Option.bind_eq_some_iff.mp hF
  refine q_aI d_X12_soundOf_30 e30 ?_
  refine g_icmp_ne 38 d_X12_soundOf_31 rfl (fun c31 => ?_) (fun c31 => ?_)
  · have hF := x_t hF c31
    refine g_iloadn d_X12_soundOf_38 rfl ?_
    obtain ⟨rfl, rfl⟩ := x_inj hF
    exact g_iret d_X12_soundOf_39 rfl hq
  · have hF := x_f hF (not_not_intro c31)
    refine g_ic (-1) d_X12_soundOf_34 ic_m1 ?_
    refine g_goto 39 d_X12_soundOf_35 rfl ?_
    obtain ⟨rfl, rfl⟩ := x_inj hF
    exact g_iret d_X12_soundOf_39 rfl hq
theorem d_X12_person_0 : decode cX12_person 0 = .ok (.aload_n 0, 1) := by decide +kernel
theorem d_X12_person_1 : decode cX12_person 1 = .ok (.iconst 0, 1) := by decide +kernel
theorem d_X12_person_2 : decode cX12_person 2 = .ok (.putfield 1, 3) := by decide +kernel
theorem d_X12_person_5 : decode cX12_person 5 = .ok (.aload_n 0, 1) := by decide +kernel
theorem d_X12_person_6 : decode cX12_person 6 = .ok (.iload_n 1, 1) := by decide +kernel
theorem d_X12_person_7 : decode cX12_person 7 = .ok (.i2l, 1) := by decide +kernel
theorem d_X12_person_8 : decode cX12_person 8 = .ok (.invokevirtual 246, 3) := by decide +kernel
theorem d_X12_person_11 : decode cX12_person 11 = .ok (.ifCond .ne 6, 3) := by decide +kernel
theorem d_X12_person_14 : decode cX12_person 14 = .ok (.bipush (-2), 2) := by decide +kernel
theorem d_X12_person_16 : decode cX12_person 16 = .ok (.ireturn, 1) := by decide +kernel
theorem d_X12_person_17 : decode cX12_person 17 = .ok (.iload_n 2, 1) := by decide +kernel
theorem d_X12_person_18 : decode cX12_person 18 = .ok (.tableswitch 84 0 4 #[34, 44, 54, 64, 78], 34) := by decide +kernel
theorem d_X12_person_52 : decode cX12_person 52 = .ok (.aload_n 0, 1) := by decide +kernel
theorem d_X12_person_53 : decode cX12_person 53 = .ok (.getfield 13, 3) := by decide +kernel
theorem d_X12_person_56 : decode cX12_person 56 = .ok (.bipush 109, 2) := by decide +kernel
theorem d_X12_person_58 : decode cX12_person 58 = .ok (.iload_n 1, 1) := by decide +kernel
theorem d_X12_person_59 : decode cX12_person 59 = .ok (.iadd, 1) := by decide +kernel
theorem d_X12_person_60 : decode cX12_person 60 = .ok (.iaload, 1) := by decide +kernel
theorem d_X12_person_61 : decode cX12_person 61 = .ok (.ireturn, 1) := by decide +kernel
theorem d_X12_person_62 : decode cX12_person 62 = .ok (.aload_n 0, 1) := by decide +kernel
theorem d_X12_person_63 : decode cX12_person 63 = .ok (.getfield 13, 3) := by decide +kernel
theorem d_X12_person_66 : decode cX12_person 66 = .ok (.bipush 121, 2) := by decide +kernel
theorem d_X12_person_68 : decode cX12_person 68 = .ok (.iload_n 1, 1) := by decide +kernel
theorem d_X12_person_69 : decode cX12_person 69 = .ok (.iadd, 1) := by decide +kernel
theorem d_X12_person_70 : decode cX12_person 70 = .ok (.iaload, 1) := by decide +kernel
theorem d_X12_person_71 : decode cX12_person 71 = .ok (.ireturn, 1) := by decide +kernel
theorem d_X12_person_72 : decode cX12_person 72 = .ok (.aload_n 0, 1) := by decide +kernel
theorem d_X12_person_73 : decode cX12_person 73 = .ok (.getfield 13, 3) := by decide +kernel
theorem d_X12_person_76 : decode cX12_person 76 = .ok (.bipush 115, 2) := by decide +kernel
theorem d_X12_person_78 : decode cX12_person 78 = .ok (.iload_n 1, 1) := by decide +kernel
theorem d_X12_person_79 : decode cX12_person 79 = .ok (.iadd, 1) := by decide +kernel
theorem d_X12_person_80 : decode cX12_person 80 = .ok (.iaload, 1) := by decide +kernel
theorem d_X12_person_81 : decode cX12_person 81 = .ok (.ireturn, 1) := by decide +kernel
theorem d_X12_person_82 : decode cX12_person 82 = .ok (.aload_n 0, 1) := by decide +kernel
theorem d_X12_person_83 : decode cX12_person 83 = .ok (.iload_n 1, 1) := by decide +kernel
theorem d_X12_person_84 : decode cX12_person 84 = .ok (.invokevirtual 232, 3) := by decide +kernel
theorem d_X12_person_87 : decode cX12_person 87 = .ok (.ifCond .eq 7, 3) := by decide +kernel
theorem d_X12_person_90 : decode cX12_person 90 = .ok (.iconst 1, 1) := by decide +kernel
theorem d_X12_person_91 : decode cX12_person 91 = .ok (.goto 4, 3) := by decide +kernel
theorem d_X12_person_94 : decode cX12_person 94 = .ok (.iconst 0, 1) := by decide +kernel
theorem d_X12_person_95 : decode cX12_person 95 = .ok (.ireturn, 1) := by decide +kernel
theorem d_X12_person_96 : decode cX12_person 96 = .ok (.aload_n 0, 1) := by decide +kernel
theorem d_X12_person_97 : decode cX12_person 97 = .ok (.iload_n 1, 1) := by decide +kernel
theorem d_X12_person_98 : decode cX12_person 98 = .ok (.invokevirtual 250, 3) := by decide +kernel
theorem d_X12_person_101 : decode cX12_person 101 = .ok (.ireturn, 1) := by decide +kernel
theorem d_X12_person_102 : decode cX12_person 102 = .ok (.bipush (-2), 2) := by decide +kernel
theorem d_X12_person_104 : decode cX12_person 104 = .ok (.ireturn, 1) := by decide +kernel
def F_X12_person (x0 : Nat) (x1 : Int32) (x2 : Int32) (h : xH) : Option (Int32 × xH) := (wI h x0 11 0 0).bind fun h2 => (rc h2 x0 11).bind fun _ => (F_X12_isPerson x0 x1.toInt64 h2).bind fun z8 => if ¬ z8.1 = 0 then if x2 = 0 then (fR z8.2 x0 11 1).bind fun v53 => (aI z8.2 v53 (((109 : Int32)) + x1)).bind fun v60 => some (v60, z8.2) else if x2 = 1 then (fR z8.2 x0 11 1).bind fun v63 => (aI z8.2 v63 (((121 : Int32)) + x1)).bind fun v70 => some (v70, z8.2) else if x2 = 2 then (fR z8.2 x0 11 1).bind fun v73 => (aI z8.2 v73 (((115 : Int32)) + x1)).bind fun v80 => some (v80, z8.2) else if x2 = 3 then (rc z8.2 x0 11).bind fun _ => (F_X12_hasFound x0 x1 z8.2).bind fun z84 => if z84.1 = 0 then some (0, z84.2) else some (1, z84.2) else if x2 = 4 then (rc z8.2 x0 11).bind fun _ => (F_X12_heardBy x0 x1 z8.2).bind fun z98 => some (z98.1, z98.2) else some ((-2), z8.2) else some ((-2), z8.2)
theorem R_X12_person {Γ : xG} {l : Launch} {d : Nat} {r : Int32} {h' : xH} (x0 : Nat) (x1 : Int32) (x2 : Int32) (h : xH) (hdp : 5 ≤ d) (hF : F_X12_person x0 x1 x2 h = some (r, h')) : Gm Γ l d 0 0 m_X12_person [.ref x0, .int x1, .int x2] h (fun a u => a = some (.int r) ∧ u = h') := by
  refine Gm.of pn_X12 (Nat.le_of_ble_eq_true rfl) ?_
  show Gd Γ l d m_X12_person 0 [.ref x0, .int x1, .int x2] [] h 0 0 _
  generalize hQ : (fun (a : Option Value) (u : xH) => a = some (.int r) ∧ u = h') = Q
  have hq : Q (some (.int r)) h' := by rw [← hQ]; exact ⟨rfl, rfl⟩
  clear hQ
  unfold F_X12_person at hF
  refine g_aloadn d_X12_person_0 rfl ?_
  refine g_ic (0) d_X12_person_1 ic_0 ?_
  obtain ⟨h2, e2, hF⟩ := Option.bind_eq_some_iff.mp hF
  refine q_wI d_X12_person_2 (w_X12_1 _) e2 ?_
  refine g_aloadn d_X12_person_5 rfl ?_
  refine g_iloadn d_X12_person_6 rfl ?_
  refine g_i2l d_X12_person_7 ?_
  obtain ⟨_, g8, hF⟩ := Option.bind_eq_some_iff.mp hF
  obtain ⟨⟨r8, h8⟩, e8, hF⟩ := Option.bind_eq_some_iff.mp hF
  try dsimp only at hF
  refine q_callV [.long (x1.toInt64)] [] rfl d_X12_person_8 v_X12_246 (by omega) rfl (Nat.le_of_ble_eq_true rfl) (rc_rc g8 (by decide) rfl) (R_X12_isPerson _ _ _ (by omega) e8) ?_
  refine g_if_ne 17 d_X12_person_11 rfl (fun c11 => ?_) (fun c11 => ?_)
  · have hF := x_t hF c11
    refine g_iloadn d_X12_person_17 rfl ?_
    rcases Classical.em (x2 = 0) with c18_0 | c18_0
    · have hF := x_t hF c18_0
      refine q_tabIn 52 d_X12_person_18 c18_0 (by decide) (by decide) rfl rfl ?_
      refine g_aloadn d_X12_person_52 rfl ?_
      obtain ⟨v53, e53, hF⟩ := Option.bind_eq_some_iff.mp hF
      refine q_fR d_X12_person_53 f_X12_13 e53 ?_
      refine g_bi (109) d_X12_person_56 bi_109 ?_
      refine g_iloadn d_X12_person_58 rfl ?_
      refine g_iadd d_X12_person_59 ?_
      obtain ⟨v60, e60, hF⟩ := Option.bind_eq_some_iff.mp hF
      refine q_aI d_X12_person_60 e60 ?_
      obtain ⟨rfl, rfl⟩ := x_inj hF
      exact g_iret d_X12_person_61 rfl hq
    have hF := x_f hF c18_0
    rcases Classical.em (x2 = 1) with c18_1 | c18_1
    · have hF := x_t hF c18_1
      refine q_tabIn 62 d_X12_person_18 c18_1 (by decide) (by decide) rfl rfl ?_
      refine g_aloadn d_X12_person_62 rfl ?_
      obtain ⟨v63, e63, hF⟩ := Option.bind_eq_some_iff.mp hF
      refine q_fR d_X12_person_63 f_X12_13 e63 ?_
      refine g_bi (121) d_X12_person_66 bi_121 ?_
      refine g_iloadn d_X12_person_68 rfl ?_
      refine g_iadd d_X12_person_69 ?_
      obtain ⟨v70, e70, hF⟩ := Option.bind_eq_some_iff.mp hF
      refine q_aI d_X12_person_70 e70 ?_
      obtain ⟨rfl, rfl⟩ := x_inj hF
      exact g_iret d_X12_person_71 rfl hq
    have hF := x_f hF c18_1
    rcases Classical.em (x2 = 2) with c18_2 | c18_2
    · have hF := x_t hF c18_2
      refine q_tabIn 72 d_X12_person_18 c18_2 (by decide) (by decide) rfl rfl ?_
      refine g_aloadn d_X12_person_72 rfl ?_
      obtain ⟨v73, e73, hF⟩ := Option.bind_eq_some_iff.mp hF
      refine q_fR d_X12_person_73 f_X12_13 e73 ?_
      refine g_bi (115) d_X12_person_76 bi_115 ?_
      refine g_iloadn d_X12_person_78 rfl ?_
      refine g_iadd d_X12_person_79 ?_
      obtain ⟨v80, e80, hF⟩ := Option.bind_eq_some_iff.mp hF
      refine q_aI d_X12_person_80 e80 ?_
      obtain ⟨rfl, rfl⟩ := x_inj hF
      exact g_iret d_X12_person_81 rfl hq
    have hF := x_f hF c18_2
    rcases Classical.em (x2 = 3) with c18_3 | c18_3
    · have hF := x_t hF c18_3
      refine q_tabIn 82 d_X12_person_18 c18_3 (by decide) (by decide) rfl rfl ?_
      refine g_aloadn d_X12_person_82 rfl ?_
      refine g_iloadn d_X12_person_83 rfl ?_
      obtain ⟨_, g84, hF⟩ := Option.bind_eq_some_iff.mp hF
      obtain ⟨⟨r84, h84⟩, e84, hF⟩ := Option.bind_eq_some_iff.mp hF
      try dsimp only at hF
      refine q_callV [.int x1] [] rfl d_X12_person_84 v_X12_232 (by omega) rfl (Nat.le_of_ble_eq_true rfl) (rc_rc g84 (by decide) rfl) (R_X12_hasFound _ _ _ (by omega) e84) ?_
      refine g_if_eq 94 d_X12_person_87 rfl (fun c87 => ?_) (fun c87 => ?_)
      · have hF := x_t hF c87
        refine g_ic (0) d_X12_person_94 ic_0 ?_
        obtain ⟨rfl, rfl⟩ := x_inj hF
        exact g_iret d_X12_person_95 rfl hq
      · have hF := x_f hF c87
        refine g_ic (1) d_X12_person_90 ic_1 ?_
        refine g_goto 95 d_X12_person_91 rfl ?_
        obtain ⟨rfl, rfl⟩ := x_inj hF
        exact g_iret d_X12_person_95 rfl hq
    have hF := x_f hF c18_3
    rcases Classical.em (x2 = 4) with c18_4 | c18_4
    · have hF := x_t hF c18_4
      refine q_tabIn 96 d_X12_person_18 c18_4 (by decide) (by decide) rfl rfl ?_
      refine g_aloadn d_X12_person_96 rfl ?_
      refine g_iloadn d_X12_person_97 rfl ?_
      obtain ⟨_, g98, hF⟩ := Option.bind_eq_some_iff.mp hF
      obtain ⟨⟨r98, h98⟩, e98, hF⟩ := Option.bind_eq_some_iff.mp hF
      try dsimp only at hF
      refine q_callV [.int x1] [] rfl d_X12_person_98 v_X12_250 (by omega) rfl (Nat.le_of_ble_eq_true rfl) (rc_rc g98 (by decide) rfl) (R_X12_heardBy _ _ _ (by omega) e98) ?_
      obtain ⟨rfl, rfl⟩ := x_inj hF
      exact g_iret d_X12_person_101 rfl hq
    have hF := x_f hF c18_4
    refine g_tabOut 102 d_X12_person_18 (by have a0 := sw_ne c18_0 (k := 0) (by decide); have a1 := sw_ne c18_1 (k := 1) (by decide); have a2 := sw_ne c18_2 (k := 2) (by decide); have a3 := sw_ne c18_3 (k := 3) (by decide); have a4 := sw_ne c18_4 (k := 4) (by decide); omega) rfl ?_
    refine g_bi (-2) d_X12_person_102 bi_m2 ?_
    obtain ⟨rfl, rfl⟩ := x_inj hF
    exact g_iret d_X12_person_104 rfl hq
  · have hF := x_f hF (not_not_intro c11)
    refine g_bi (-2) d_X12_person_14 bi_m2 ?_
    obtain ⟨rfl, rfl⟩ := x_inj hF
    exact g_iret d_X12_person_16 rfl hq
