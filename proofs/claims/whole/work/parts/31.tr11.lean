/-! ===== methods as functions, 11: written by a program out of the listings ===== -/
theorem d_X12_laysSoon_0 : decode cX12_laysSoon 0 = .ok (.iconst 0, 1) := by decide +kernel
theorem d_X12_laysSoon_1 : decode cX12_laysSoon 1 = .ok (.istore_n 2, 1) := by decide +kernel
theorem d_X12_laysSoon_2 : decode cX12_laysSoon 2 = .ok (.iload_n 2, 1) := by decide +kernel
theorem d_X12_laysSoon_3 : decode cX12_laysSoon 3 = .ok (.bipush 72, 2) := by decide +kernel
theorem d_X12_laysSoon_5 : decode cX12_laysSoon 5 = .ok (.if_icmp .ge 18, 3) := by decide +kernel
theorem d_X12_laysSoon_8 : decode cX12_laysSoon 8 = .ok (.aload_n 0, 1) := by decide +kernel
theorem d_X12_laysSoon_9 : decode cX12_laysSoon 9 = .ok (.getfield 70, 3) := by decide +kernel
theorem d_X12_laysSoon_12 : decode cX12_laysSoon 12 = .ok (.iload_n 2, 1) := by decide +kernel
theorem d_X12_laysSoon_13 : decode cX12_laysSoon 13 = .ok (.ldc_w 357, 3) := by decide +kernel
theorem d_X12_laysSoon_16 : decode cX12_laysSoon 16 = .ok (.iastore, 1) := by decide +kernel
theorem d_X12_laysSoon_17 : decode cX12_laysSoon 17 = .ok (.iinc 2 1, 3) := by decide +kernel
theorem d_X12_laysSoon_20 : decode cX12_laysSoon 20 = .ok (.goto (-18), 3) := by decide +kernel
theorem d_X12_laysSoon_23 : decode cX12_laysSoon 23 = .ok (.iconst 1, 1) := by decide +kernel
theorem d_X12_laysSoon_24 : decode cX12_laysSoon 24 = .ok (.istore_n 2, 1) := by decide +kernel
theorem d_X12_laysSoon_25 : decode cX12_laysSoon 25 = .ok (.iload_n 2, 1) := by decide +kernel
theorem d_X12_laysSoon_26 : decode cX12_laysSoon 26 = .ok (.ifCond .eq 114, 3) := by decide +kernel
theorem d_X12_laysSoon_29 : decode cX12_laysSoon 29 = .ok (.iconst 0, 1) := by decide +kernel
theorem d_X12_laysSoon_30 : decode cX12_laysSoon 30 = .ok (.istore_n 2, 1) := by decide +kernel
theorem d_X12_laysSoon_31 : decode cX12_laysSoon 31 = .ok (.iconst 0, 1) := by decide +kernel
theorem d_X12_laysSoon_32 : decode cX12_laysSoon 32 = .ok (.istore_n 3, 1) := by decide +kernel
theorem d_X12_laysSoon_33 : decode cX12_laysSoon 33 = .ok (.iload_n 3, 1) := by decide +kernel
theorem d_X12_laysSoon_34 : decode cX12_laysSoon 34 = .ok (.bipush 72, 2) := by decide +kernel
theorem d_X12_laysSoon_36 : decode cX12_laysSoon 36 = .ok (.if_icmp .ge 101, 3) := by decide +kernel
theorem d_X12_laysSoon_39 : decode cX12_laysSoon 39 = .ok (.iconst 0, 1) := by decide +kernel
theorem d_X12_laysSoon_40 : decode cX12_laysSoon 40 = .ok (.istore 4, 2) := by decide +kernel
theorem d_X12_laysSoon_42 : decode cX12_laysSoon 42 = .ok (.iload 4, 2) := by decide +kernel
theorem d_X12_laysSoon_44 : decode cX12_laysSoon 44 = .ok (.aload_n 0, 1) := by decide +kernel
theorem d_X12_laysSoon_45 : decode cX12_laysSoon 45 = .ok (.getfield 13, 3) := by decide +kernel
theorem d_X12_laysSoon_48 : decode cX12_laysSoon 48 = .ok (.iconst 3, 1) := by decide +kernel
theorem d_X12_laysSoon_49 : decode cX12_laysSoon 49 = .ok (.iaload, 1) := by decide +kernel
theorem d_X12_laysSoon_50 : decode cX12_laysSoon 50 = .ok (.if_icmp .ge 81, 3) := by decide +kernel
theorem d_X12_laysSoon_53 : decode cX12_laysSoon 53 = .ok (.iload_n 3, 1) := by decide +kernel
theorem d_X12_laysSoon_54 : decode cX12_laysSoon 54 = .ok (.bipush 6, 2) := by decide +kernel
theorem d_X12_laysSoon_56 : decode cX12_laysSoon 56 = .ok (.irem, 1) := by decide +kernel
theorem d_X12_laysSoon_57 : decode cX12_laysSoon 57 = .ok (.aload_n 0, 1) := by decide +kernel
theorem d_X12_laysSoon_58 : decode cX12_laysSoon 58 = .ok (.getfield 13, 3) := by decide +kernel
theorem d_X12_laysSoon_61 : decode cX12_laysSoon 61 = .ok (.iconst 3, 1) := by decide +kernel
theorem d_X12_laysSoon_62 : decode cX12_laysSoon 62 = .ok (.iaload, 1) := by decide +kernel
theorem d_X12_laysSoon_63 : decode cX12_laysSoon 63 = .ok (.if_icmp .ge 68, 3) := by decide +kernel
theorem d_X12_laysSoon_66 : decode cX12_laysSoon 66 = .ok (.aload_n 0, 1) := by decide +kernel
theorem d_X12_laysSoon_67 : decode cX12_laysSoon 67 = .ok (.iload_n 3, 1) := by decide +kernel
theorem d_X12_laysSoon_68 : decode cX12_laysSoon 68 = .ok (.bipush 6, 2) := by decide +kernel
theorem d_X12_laysSoon_70 : decode cX12_laysSoon 70 = .ok (.irem, 1) := by decide +kernel
theorem d_X12_laysSoon_71 : decode cX12_laysSoon 71 = .ok (.invokevirtual 436, 3) := by decide +kernel
theorem d_X12_laysSoon_74 : decode cX12_laysSoon 74 = .ok (.i2l, 1) := by decide +kernel
theorem d_X12_laysSoon_75 : decode cX12_laysSoon 75 = .ok (.iload 4, 2) := by decide +kernel
theorem d_X12_laysSoon_77 : decode cX12_laysSoon 77 = .ok (.invokestatic 228, 3) := by decide +kernel
theorem d_X12_laysSoon_80 : decode cX12_laysSoon 80 = .ok (.ifCond .eq 45, 3) := by decide +kernel
theorem d_X12_laysSoon_83 : decode cX12_laysSoon 83 = .ok (.aload_n 0, 1) := by decide +kernel
theorem d_X12_laysSoon_84 : decode cX12_laysSoon 84 = .ok (.iload_n 1, 1) := by decide +kernel
theorem d_X12_laysSoon_85 : decode cX12_laysSoon 85 = .ok (.iload 4, 2) := by decide +kernel
theorem d_X12_laysSoon_87 : decode cX12_laysSoon 87 = .ok (.iload_n 3, 1) := by decide +kernel
theorem d_X12_laysSoon_88 : decode cX12_laysSoon 88 = .ok (.bipush 6, 2) := by decide +kernel
theorem d_X12_laysSoon_90 : decode cX12_laysSoon 90 = .ok (.idiv, 1) := by decide +kernel
theorem d_X12_laysSoon_91 : decode cX12_laysSoon 91 = .ok (.invokevirtual 439, 3) := by decide +kernel
theorem d_X12_laysSoon_94 : decode cX12_laysSoon 94 = .ok (.aload_n 0, 1) := by decide +kernel
theorem d_X12_laysSoon_95 : decode cX12_laysSoon 95 = .ok (.getfield 70, 3) := by decide +kernel
theorem d_X12_laysSoon_98 : decode cX12_laysSoon 98 = .ok (.iload_n 3, 1) := by decide +kernel
theorem d_X12_laysSoon_99 : decode cX12_laysSoon 99 = .ok (.iaload, 1) := by decide +kernel
theorem d_X12_laysSoon_100 : decode cX12_laysSoon 100 = .ok (.if_icmp .lt 6, 3) := by decide +kernel
theorem d_X12_laysSoon_103 : decode cX12_laysSoon 103 = .ok (.goto 22, 3) := by decide +kernel
theorem d_X12_laysSoon_106 : decode cX12_laysSoon 106 = .ok (.aload_n 0, 1) := by decide +kernel
theorem d_X12_laysSoon_107 : decode cX12_laysSoon 107 = .ok (.getfield 70, 3) := by decide +kernel
theorem d_X12_laysSoon_110 : decode cX12_laysSoon 110 = .ok (.iload_n 3, 1) := by decide +kernel
theorem d_X12_laysSoon_111 : decode cX12_laysSoon 111 = .ok (.aload_n 0, 1) := by decide +kernel
theorem d_X12_laysSoon_112 : decode cX12_laysSoon 112 = .ok (.iload_n 1, 1) := by decide +kernel
theorem d_X12_laysSoon_113 : decode cX12_laysSoon 113 = .ok (.iload 4, 2) := by decide +kernel
theorem d_X12_laysSoon_115 : decode cX12_laysSoon 115 = .ok (.iload_n 3, 1) := by decide +kernel
theorem d_X12_laysSoon_116 : decode cX12_laysSoon 116 = .ok (.bipush 6, 2) := by decide +kernel
theorem d_X12_laysSoon_118 : decode cX12_laysSoon 118 = .ok (.idiv, 1) := by decide +kernel
theorem d_X12_laysSoon_119 : decode cX12_laysSoon 119 = .ok (.invokevirtual 439, 3) := by decide +kernel
theorem d_X12_laysSoon_122 : decode cX12_laysSoon 122 = .ok (.iastore, 1) := by decide +kernel
theorem d_X12_laysSoon_123 : decode cX12_laysSoon 123 = .ok (.iconst 1, 1) := by decide +kernel
theorem d_X12_laysSoon_124 : decode cX12_laysSoon 124 = .ok (.istore_n 2, 1) := by decide +kernel
theorem d_X12_laysSoon_125 : decode cX12_laysSoon 125 = .ok (.iinc 4 1, 3) := by decide +kernel
theorem d_X12_laysSoon_128 : decode cX12_laysSoon 128 = .ok (.goto (-86), 3) := by decide +kernel
theorem d_X12_laysSoon_131 : decode cX12_laysSoon 131 = .ok (.iinc 3 1, 3) := by decide +kernel
theorem d_X12_laysSoon_134 : decode cX12_laysSoon 134 = .ok (.goto (-101), 3) := by decide +kernel
theorem d_X12_laysSoon_137 : decode cX12_laysSoon 137 = .ok (.goto (-112), 3) := by decide +kernel
theorem d_X12_laysSoon_140 : decode cX12_laysSoon 140 = .ok (.return_, 1) := by decide +kernel
def F_X12_laysSoon_b42 (k25 : Nat → Int32 → Int32 → xH → Option (Unit × xH)) (k33 : Nat → Int32 → Int32 → Int32 → xH → Option (Unit × xH)) : Nat → Nat → Int32 → Int32 → Int32 → Int32 → xH → Option (Unit × xH)
  | 0, _, _, _, _, _, _ => none
  | n + 1, x0, x1, x2, x3, x4, h => (fR h x0 11 1).bind fun v45 => (aI h v45 3).bind fun v49 => if v49 ≤ x4 then k33 x0 x1 x2 (x3 + 1) h else (fR h x0 11 1).bind fun v58 => (aI h v58 3).bind fun v62 => if v62 ≤ (irm x3 6) then k33 x0 x1 x2 (x3 + 1) h else (rc h x0 11).bind fun _ => (F_X12_steppedTo x0 (irm x3 6) h).bind fun z71 => (F_X12_isIn z71.1.toInt64 x4 z71.2).bind fun z77 => if z77.1 = 0 then F_X12_laysSoon_b42 k25 k33 n x0 x1 x2 x3 (x4 + 1) z77.2 else (rc z77.2 x0 11).bind fun _ => (F_X12_foundBy x0 x1 x4 (idv x3 6) z77.2).bind fun z91 => (fR z91.2 x0 11 33).bind fun v95 => (aI z91.2 v95 x3).bind fun v99 => if z91.1 < v99 then (fR z91.2 x0 11 33).bind fun v107 => (rc z91.2 x0 11).bind fun _ => (F_X12_foundBy x0 x1 x4 (idv x3 6) z91.2).bind fun z119 => (sI z119.2 v107 x3 z119.1).bind fun h122 => F_X12_laysSoon_b42 k25 k33 n x0 x1 1 x3 (x4 + 1) h122 else F_X12_laysSoon_b42 k25 k33 n x0 x1 x2 x3 (x4 + 1) z91.2
theorem R_X12_laysSoon_b42 {Γ : xG} {l : Launch} {d : Nat} {Q : Option Value → xH → Prop} {r : Unit} {h' : xH} {k25 : Nat → Int32 → Int32 → xH → Option (Unit × xH)} {k33 : Nat → Int32 → Int32 → Int32 → xH → Option (Unit × xH)} (K25 : ∀ (x0 : Nat) (x1 : Int32) (x2 : Int32)  (h : xH), k25 x0 x1 x2 h = some (r, h') → Gd Γ l d m_X12_laysSoon 25 [.ref x0, .int x1, .int x2, xhole, xhole] [] h 0 0 Q) (K33 : ∀ (x0 : Nat) (x1 : Int32) (x2 : Int32) (x3 : Int32)  (h : xH), k33 x0 x1 x2 x3 h = some (r, h') → Gd Γ l d m_X12_laysSoon 33 [.ref x0, .int x1, .int x2, .int x3, xhole] [] h 0 0 Q) (hdp : 3 ≤ d) (hq : Q (none) h') : ∀ (n : Nat) (x0 : Nat) (x1 : Int32) (x2 : Int32) (x3 : Int32) (x4 : Int32) (h : xH), F_X12_laysSoon_b42 k25 k33 n x0 x1 x2 x3 x4 h = some (r, h') → Gd Γ l d m_X12_laysSoon 42 [.ref x0, .int x1, .int x2, .int x3, .int x4] [] h 0 0 Q := by
  intro n
  induction n with
  | zero => intro x0 x1 x2 x3 x4 h hF; cases hF
  | succ n ih =>
  intro x0 x1 x2 x3 x4 h hF
  rw [F_X12_laysSoon_b42] at hF
  refine g_iload d_X12_laysSoon_42 rfl ?_
  refine g_aloadn d_X12_laysSoon_44 rfl ?_
  obtain ⟨v45, e45, hF⟩ := Option.bind_eq_some_iff.mp hF
  refine q_fR d_X12_laysSoon_45 f_X12_13 e45 ?_
  refine g_ic (3) d_X12_laysSoon_48 ic_3 ?_
  obtain ⟨v49, e49, hF⟩ := Option.bind_eq_some_iff.mp hF
  refine q_aI d_X12_laysSoon_49 e49 ?_
  refine g_icmp_ge 131 d_X12_laysSoon_50 rfl (fun c50 => ?_) (fun c50 => ?_)
  · have hF := x_t hF c50
    refine q_iinc (1) [.ref x0, .int x1, .int x2, .int (x3 + 1), .int x4] d_X12_laysSoon_131 ic_1 rfl (by decide) rfl ?_
    refine g_goto 33 d_X12_laysSoon_134 rfl ?_
    exact q_to (xs_r (xs_r (xs_r (xs_r (xs_h xs_n))))) (K33 _ _ _ _ _ hF)
  · have hF := x_f hF c50
    refine g_iloadn d_X12_laysSoon_53 rfl ?_
    refine g_bi (6) d_X12_laysSoon_54 bi_6 ?_
    refine q_irem d_X12_laysSoon_56 (by decide) ?_
    refine g_aloadn d_X12_laysSoon_57 rfl ?_
    obtain ⟨v58, e58, hF⟩ := Option.bind_eq_some_iff.mp hF
    refine q_fR d_X12_laysSoon_58 f_X12_13 e58 ?_
    refine g_ic (3) d_X12_laysSoon_61 ic_3 ?_
    obtain ⟨v62, e62, hF⟩ := Option.bind_eq_some_iff.mp hF
    refine q_aI d_X12_laysSoon_62 e62 ?_
    refine g_icmp_ge 131 d_X12_laysSoon_63 rfl (fun c63 => ?_) (fun c63 => ?_)
    · have hF := x_t hF c63
      refine q_iinc (1) [.ref x0, .int x1, .int x2, .int (x3 + 1), .int x4] d_X12_laysSoon_131 ic_1 rfl (by decide) rfl ?_
      refine g_goto 33 d_X12_laysSoon_134 rfl ?_
      exact q_to (xs_r (xs_r (xs_r (xs_r (xs_h xs_n))))) (K33 _ _ _ _ _ hF)
    · have hF := x_f hF c63
      refine g_aloadn d_X12_laysSoon_66 rfl ?_
      refine g_iloadn d_X12_laysSoon_67 rfl ?_
      refine g_bi (6) d_X12_laysSoon_68 bi_6 ?_
      refine q_irem d_X12_laysSoon_70 (by decide) ?_
      obtain ⟨_, g71, hF⟩ := Option.bind_eq_some_iff.mp hF
      obtain ⟨⟨r71, h71⟩, e71, hF⟩ := Option.bind_eq_some_iff.mp hF
      try dsimp only at hF
      refine q_callV [.int (irm x3 6)] [] rfl d_X12_laysSoon_71 v_X12_436 (by omega) rfl (Nat.le_of_ble_eq_true rfl) (rc_rc g71 (by decide) rfl) (R_X12_steppedTo _ _ _ (by omega) e71) ?_
      refine g_i2l d_X12_laysSoon_74 ?_
      refine g_iload d_X12_laysSoon_75 rfl ?_
      obtain ⟨⟨r77, h77⟩, e77, hF⟩ := Option.bind_eq_some_iff.mp hF
      try dsimp only at hF
      refine q_callS [.long (r71.toInt64), .int x4] [] rfl d_X12_laysSoon_77 s_X12_228 (by omega) rfl (Nat.le_of_ble_eq_true rfl) (R_X12_isIn _ _ _ (by omega) e77) ?_
      refine g_if_eq 125 d_X12_laysSoon_80 rfl (fun c80 => ?_) (fun c80 => ?_)
      · have hF := x_t hF c80
        refine q_iinc (1) [.ref x0, .int x1, .int x2, .int x3, .int (x4 + 1)] d_X12_laysSoon_125 ic_1 rfl (by decide) rfl ?_
        refine g_goto 42 d_X12_laysSoon_128 rfl ?_
        exact q_to (xs_r (xs_r (xs_r (xs_r (xs_r xs_n))))) (ih _ _ _ _ _ _ hF)
      · have hF := x_f hF c80
        refine g_aloadn d_X12_laysSoon_83 rfl ?_
        refine g_iloadn d_X12_laysSoon_84 rfl ?_
        refine g_iload d_X12_laysSoon_85 rfl ?_
        refine g_iloadn d_X12_laysSoon_87 rfl ?_
        refine g_bi (6) d_X12_laysSoon_88 bi_6 ?_
        refine q_idiv d_X12_laysSoon_90 (by decide) ?_
        obtain ⟨_, g91, hF⟩ := Option.bind_eq_some_iff.mp hF
        obtain ⟨⟨r91, h91⟩, e91, hF⟩ := Option.bind_eq_some_iff.mp hF
        try dsimp only at hF
        refine q_callV [.int x1, .int x4, .int (idv x3 6)] [] rfl d_X12_laysSoon_91 v_X12_439 (by omega) rfl (Nat.le_of_ble_eq_true rfl) (rc_rc g91 (by decide) rfl) (R_X12_foundBy _ _ _ _ _ (by omega) e91) ?_
        refine g_aloadn d_X12_laysSoon_94 rfl ?_
        obtain ⟨v95, e95, hF⟩ := Option.bind_eq_some_iff.mp hF
        refine q_fR d_X12_laysSoon_95 f_X12_70 e95 ?_
        refine g_iloadn d_X12_laysSoon_98 rfl ?_
        obtain ⟨v99, e99, hF⟩ := Option.bind_eq_some_iff.mp hF
        refine q_aI d_X12_laysSoon_99 e99 ?_
        refine g_icmp_lt 106 d_X12_laysSoon_100 rfl (fun c100 => ?_) (fun c100 => ?_)
        · have hF := x_t hF c100
          refine g_aloadn d_X12_laysSoon_106 rfl ?_
          obtain ⟨v107, e107, hF⟩ := Option.bind_eq_some_iff.mp hF
          refine q_fR d_X12_laysSoon_107 f_X12_70 e107 ?_
          refine g_iloadn d_X12_laysSoon_110 rfl ?_
          refine g_aloadn d_X12_laysSoon_111 rfl ?_
          refine g_iloadn d_X12_laysSoon_112 rfl ?_
          refine g_iload d_X12_laysSoon_113 rfl ?_
          refine g_iloadn d_X12_laysSoon_115 rfl ?_
          refine g_bi (6) d_X12_laysSoon_116 bi_6 ?_
          refine q_idiv d_X12_laysSoon_118 (by decide) ?_
          obtain ⟨_, g119, hF⟩ := Option.bind_eq_some_iff.mp hF
          obtain ⟨⟨r119, h119⟩, e119, hF⟩ := Option.bind_eq_some_iff.mp hF
          try dsimp only at hF
          refine q_callV [.int x1, .int x4, .int (idv x3 6)] [.int x3, .ref v107] rfl d_X12_laysSoon_119 v_X12_439 (by omega) rfl (Nat.le_of_ble_eq_true rfl) (rc_rc g119 (by decide) rfl) (R_X12_foundBy _ _ _ _ _ (by omega) e119) ?_
          obtain ⟨h122, e122, hF⟩ := Option.bind_eq_some_iff.mp hF
          refine q_sI d_X12_laysSoon_122 e122 ?_
          refine g_ic (1) d_X12_laysSoon_123 ic_1 ?_
          refine q_istoren [.ref x0, .int x1, .int 1, .int x3, .int x4] d_X12_laysSoon_124 (by decide) rfl ?_
          refine q_iinc (1) [.ref x0, .int x1, .int 1, .int x3, .int (x4 + 1)] d_X12_laysSoon_125 ic_1 rfl (by decide) rfl ?_
          refine g_goto 42 d_X12_laysSoon_128 rfl ?_
          exact q_to (xs_r (xs_r (xs_r (xs_r (xs_r xs_n))))) (ih _ _ _ _ _ _ hF)
        · have hF := x_f hF c100
          refine g_goto 125 d_X12_laysSoon_103 rfl ?_
          refine q_iinc (1) [.ref x0, .int x1, .int x2, .int x3, .int (x4 + 1)] d_X12_laysSoon_125 ic_1 rfl (by decide) rfl ?_
          refine g_goto 42 d_X12_laysSoon_128 rfl ?_
          exact q_to (xs_r (xs_r (xs_r (xs_r (xs_r xs_n))))) (ih _ _ _ _ _ _ hF)
def F_X12_laysSoon_b33 (k25 : Nat → Int32 → Int32 → xH → Option (Unit × xH)) : Nat → Nat → Int32 → Int32 → Int32 → xH → Option (Unit × xH)
  | 0, _, _, _, _, _ => none
  | n + 1, x0, x1, x2, x3, h => if ((72 : Int32)) ≤ x3 then k25 x0 x1 x2 h else F_X12_laysSoon_b42 k25 (F_X12_laysSoon_b33 k25 n) FU x0 x1 x2 x3 0 h
theorem R_X12_laysSoon_b33 {Γ : xG} {l : Launch} {d : Nat} {Q : Option Value → xH → Prop} {r : Unit} {h' : xH} {k25 : Nat → Int32 → Int32 → xH → Option (Unit × xH)} (K25 : ∀ (x0 : Nat) (x1 : Int32) (x2 : Int32)  (h : xH), k25 x0 x1 x2 h = some (r, h') → Gd Γ l d m_X12_laysSoon 25 [.ref x0, .int x1, .int x2, xhole, xhole] [] h 0 0 Q) (hdp : 3 ≤ d) (hq : Q (none) h') : ∀ (n : Nat) (x0 : Nat) (x1 : Int32) (x2 : Int32) (x3 : Int32) (h : xH), F_X12_laysSoon_b33 k25 n x0 x1 x2 x3 h = some (r, h') → Gd Γ l d m_X12_laysSoon 33 [.ref x0, .int x1, .int x2, .int x3, xhole] [] h 0 0 Q := by
  intro n
  induction n with
  | zero => intro x0 x1 x2 x3 h hF; cases hF
  | succ n ih =>
  intro x0 x1 x2 x3 h hF
  rw [F_X12_laysSoon_b33] at hF
  refine g_iloadn d_X12_laysSoon_33 rfl ?_
  refine g_bi (72) d_X12_laysSoon_34 bi_72 ?_
  refine g_icmp_ge 137 d_X12_laysSoon_36 rfl (fun c36 => ?_) (fun c36 => ?_)
  · have hF := x_t hF c36
    refine g_goto 25 d_X12_laysSoon_137 rfl ?_
    exact q_to (xs_r (xs_r (xs_r (xs_h (xs_h xs_n))))) (K25 _ _ _ _ hF)
  · have hF := x_f hF c36
    refine g_ic (0) d_X12_laysSoon_39 ic_0 ?_
    refine q_istore [.ref x0, .int x1, .int x2, .int x3, .int 0] d_X12_laysSoon_40 (by decide) rfl ?_
    exact q_to (xs_r (xs_r (xs_r (xs_r (xs_r xs_n))))) (R_X12_laysSoon_b42 K25 ih hdp hq FU _ _ _ _ _ _ hF)
def F_X12_laysSoon_b25 : Nat → Nat → Int32 → Int32 → xH → Option (Unit × xH)
  | 0, _, _, _, _ => none
  | n + 1, x0, x1, x2, h => if x2 = 0 then some ((), h) else F_X12_laysSoon_b33 (F_X12_laysSoon_b25 n) FU x0 x1 0 0 h
theorem R_X12_laysSoon_b25 {Γ : xG} {l : Launch} {d : Nat} {Q : Option Value → xH → Prop} {r : Unit} {h' : xH} (hdp : 3 ≤ d) (hq : Q (none) h') : ∀ (n : Nat) (x0 : Nat) (x1 : Int32) (x2 : Int32) (h : xH), F_X12_laysSoon_b25 n x0 x1 x2 h = some (r, h') → Gd Γ l d m_X12_laysSoon 25 [.ref x0, .int x1, .int x2, xhole, xhole] [] h 0 0 Q := by
  intro n
  induction n with
  | zero => intro x0 x1 x2 h hF; cases hF
  | succ n ih =>
  intro x0 x1 x2 h hF
  rw [F_X12_laysSoon_b25] at hF
  refine g_iloadn d_X12_laysSoon_25 rfl ?_
  refine g_if_eq 140 d_X12_laysSoon_26 rfl (fun c26 => ?_) (fun c26 => ?_)
  · have hF := x_t hF c26
    obtain ⟨rfl, rfl⟩ := x_inj hF
    exact g_vret d_X12_laysSoon_140 rfl hq
  · have hF := x_f hF c26
    refine g_ic (0) d_X12_laysSoon_29 ic_0 ?_
    refine q_istoren [.ref x0, .int x1, .int 0, xhole, xhole] d_X12_laysSoon_30 (by decide) rfl ?_
    refine g_ic (0) d_X12_laysSoon_31 ic_0 ?_
    refine q_istoren [.ref x0, .int x1, .int 0, .int 0, xhole] d_X12_laysSoon_32 (by decide) rfl ?_
    exact q_to (xs_r (xs_r (xs_r (xs_r (xs_h xs_n))))) (R_X12_laysSoon_b33 ih hdp hq FU _ _ _ _ _ hF)
def F_X12_laysSoon_b2 : Nat → Nat → Int32 → Int32 → xH → Option (Unit × xH)
  | 0, _, _, _, _ => none
  | n + 1, x0, x1, x2, h => if ((72 : Int32)) ≤ x2 then F_X12_laysSoon_b25 FU x0 x1 1 h else (fR h x0 11 33).bind fun v9 => (sI h v9 x2 268435456).bind fun h16 => F_X12_laysSoon_b2 n x0 x1 (x2 + 1) h16
theorem R_X12_laysSoon_b2 {Γ : xG} {l : Launch} {d : Nat} {Q : Option Value → xH → Prop} {r : Unit} {h' : xH} (hdp : 3 ≤ d) (hq : Q (none) h') : ∀ (n : Nat) (x0 : Nat) (x1 : Int32) (x2 : Int32) (h : xH), F_X12_laysSoon_b2 n x0 x1 x2 h = some (r, h') → Gd Γ l d m_X12_laysSoon 2 [.ref x0, .int x1, .int x2, xhole, xhole] [] h 0 0 Q := by
  intro n
  induction n with
  | zero => intro x0 x1 x2 h hF; cases hF
  | succ n ih =>
  intro x0 x1 x2 h hF
  rw [F_X12_laysSoon_b2] at hF
  refine g_iloadn d_X12_laysSoon_2 rfl ?_
  refine g_bi (72) d_X12_laysSoon_3 bi_72 ?_
  refine g_icmp_ge 23 d_X12_laysSoon_5 rfl (fun c5 => ?_) (fun c5 => ?_)
  · have hF := x_t hF c5
    refine g_ic (1) d_X12_laysSoon_23 ic_1 ?_
    refine q_istoren [.ref x0, .int x1, .int 1, xhole, xhole] d_X12_laysSoon_24 (by decide) rfl ?_
    exact q_to (xs_r (xs_r (xs_r (xs_h (xs_h xs_n))))) (R_X12_laysSoon_b25 hdp hq FU _ _ _ _ hF)
  · have hF := x_f hF c5
    refine g_aloadn d_X12_laysSoon_8 rfl ?_
    obtain ⟨v9, e9, hF⟩ := Option.bind_eq_some_iff.mp hF
    refine q_fR d_X12_laysSoon_9 f_X12_70 e9 ?_
    refine g_iloadn d_X12_laysSoon_12 rfl ?_
    refine g_ldcw d_X12_laysSoon_13 k_X12_357 ?_
    obtain ⟨h16, e16, hF⟩ := Option.bind_eq_some_iff.mp hF
    refine q_sI d_X12_laysSoon_16 e16 ?_
    refine q_iinc (1) [.ref x0, .int x1, .int (x2 + 1), xhole, xhole] d_X12_laysSoon_17 ic_1 rfl (by decide) rfl ?_
    refine g_goto 2 d_X12_laysSoon_20 rfl ?_
    exact q_to (xs_r (xs_r (xs_r (xs_h (xs_h xs_n))))) (ih _ _ _ _ hF)
def F_X12_laysSoon (x0 : Nat) (x1 : Int32) (h : xH) : Option (Unit × xH) := F_X12_laysSoon_b2 FU x0 x1 0 h
theorem R_X12_laysSoon {Γ : xG} {l : Launch} {d : Nat} {r : Unit} {h' : xH} (x0 : Nat) (x1 : Int32) (h : xH) (hdp : 3 ≤ d) (hF : F_X12_laysSoon x0 x1 h = some (r, h')) : Gm Γ l d 0 0 m_X12_laysSoon [.ref x0, .int x1] h (fun a u => a = none ∧ u = h') := by
  refine Gm.of pn_X12 (Nat.le_of_ble_eq_true rfl) ?_
  show Gd Γ l d m_X12_laysSoon 0 [.ref x0, .int x1, xhole, xhole, xhole] [] h 0 0 _
  generalize hQ : (fun (a : Option Value) (u : xH) => a = none ∧ u = h') = Q
  have hq : Q (none) h' := by rw [← hQ]; exact ⟨rfl, rfl⟩
  clear hQ
  unfold F_X12_laysSoon at hF
  refine g_ic (0) d_X12_laysSoon_0 ic_0 ?_
  refine q_istoren [.ref x0, .int x1, .int 0, xhole, xhole] d_X12_laysSoon_1 (by decide) rfl ?_
  exact q_to (xs_r (xs_r (xs_r (xs_h (xs_h xs_n))))) (R_X12_laysSoon_b2 hdp hq FU _ _ _ _ hF)
theorem d_X12_findsOf_0 : decode cX12_findsOf 0 = .ok (.aload_n 0, 1) := by decide +kernel
theorem d_X12_findsOf_1 : decode cX12_findsOf 1 = .ok (.iload_n 1, 1) := by decide +kernel
theorem d_X12_findsOf_2 : decode cX12_findsOf 2 = .ok (.invokevirtual 232, 3) := by decide +kernel
theorem d_X12_findsOf_5 : decode cX12_findsOf 5 = .ok (.ifCond .eq 5, 3) := by decide +kernel
theorem d_X12_findsOf_8 : decode cX12_findsOf 8 = .ok (.iconst 0, 1) := by decide +kernel
theorem d_X12_findsOf_9 : decode cX12_findsOf 9 = .ok (.ireturn, 1) := by decide +kernel
theorem d_X12_findsOf_10 : decode cX12_findsOf 10 = .ok (.aload_n 0, 1) := by decide +kernel
theorem d_X12_findsOf_11 : decode cX12_findsOf 11 = .ok (.iload_n 1, 1) := by decide +kernel
theorem d_X12_findsOf_12 : decode cX12_findsOf 12 = .ok (.invokevirtual 442, 3) := by decide +kernel
theorem d_X12_findsOf_15 : decode cX12_findsOf 15 = .ok (.aload_n 0, 1) := by decide +kernel
theorem d_X12_findsOf_16 : decode cX12_findsOf 16 = .ok (.getfield 70, 3) := by decide +kernel
theorem d_X12_findsOf_19 : decode cX12_findsOf 19 = .ok (.bipush 6, 2) := by decide +kernel
theorem d_X12_findsOf_21 : decode cX12_findsOf 21 = .ok (.aload_n 0, 1) := by decide +kernel
theorem d_X12_findsOf_22 : decode cX12_findsOf 22 = .ok (.getfield 13, 3) := by decide +kernel
theorem d_X12_findsOf_25 : decode cX12_findsOf 25 = .ok (.bipush 107, 2) := by decide +kernel
theorem d_X12_findsOf_27 : decode cX12_findsOf 27 = .ok (.iaload, 1) := by decide +kernel
theorem d_X12_findsOf_28 : decode cX12_findsOf 28 = .ok (.bipush 12, 2) := by decide +kernel
theorem d_X12_findsOf_30 : decode cX12_findsOf 30 = .ok (.irem, 1) := by decide +kernel
theorem d_X12_findsOf_31 : decode cX12_findsOf 31 = .ok (.imul, 1) := by decide +kernel
theorem d_X12_findsOf_32 : decode cX12_findsOf 32 = .ok (.aload_n 0, 1) := by decide +kernel
theorem d_X12_findsOf_33 : decode cX12_findsOf 33 = .ok (.getfield 13, 3) := by decide +kernel
theorem d_X12_findsOf_36 : decode cX12_findsOf 36 = .ok (.bipush 109, 2) := by decide +kernel
theorem d_X12_findsOf_38 : decode cX12_findsOf 38 = .ok (.iload_n 1, 1) := by decide +kernel
theorem d_X12_findsOf_39 : decode cX12_findsOf 39 = .ok (.iadd, 1) := by decide +kernel
theorem d_X12_findsOf_40 : decode cX12_findsOf 40 = .ok (.iaload, 1) := by decide +kernel
theorem d_X12_findsOf_41 : decode cX12_findsOf 41 = .ok (.iadd, 1) := by decide +kernel
theorem d_X12_findsOf_42 : decode cX12_findsOf 42 = .ok (.iaload, 1) := by decide +kernel
theorem d_X12_findsOf_43 : decode cX12_findsOf 43 = .ok (.istore_n 2, 1) := by decide +kernel
theorem d_X12_findsOf_44 : decode cX12_findsOf 44 = .ok (.iload_n 2, 1) := by decide +kernel
theorem d_X12_findsOf_45 : decode cX12_findsOf 45 = .ok (.ldc_w 357, 3) := by decide +kernel
theorem d_X12_findsOf_48 : decode cX12_findsOf 48 = .ok (.if_icmp .ne 7, 3) := by decide +kernel
theorem d_X12_findsOf_51 : decode cX12_findsOf 51 = .ok (.iconst (-1), 1) := by decide +kernel
theorem d_X12_findsOf_52 : decode cX12_findsOf 52 = .ok (.goto 4, 3) := by decide +kernel
theorem d_X12_findsOf_55 : decode cX12_findsOf 55 = .ok (.iload_n 2, 1) := by decide +kernel
theorem d_X12_findsOf_56 : decode cX12_findsOf 56 = .ok (.ireturn, 1) := by decide +kernel
def F_X12_findsOf (x0 : Nat) (x1 : Int32) (h : xH) : Option (Int32 × xH) := (rc h x0 11).bind fun _ => (F_X12_hasFound x0 x1 h).bind fun z2 => if z2.1 = 0 then (rc z2.2 x0 11).bind fun _ => (F_X12_laysSoon x0 x1 z2.2).bind fun z12 => (fR z12.2 x0 11 33).bind fun v16 => (fR z12.2 x0 11 1).bind fun v22 => (aI z12.2 v22 107).bind fun v27 => (fR z12.2 x0 11 1).bind fun v33 => (aI z12.2 v33 (((109 : Int32)) + x1)).bind fun v40 => (aI z12.2 v16 ((((6 : Int32)) * (irm v27 12)) + v40)).bind fun v42 => if ¬ v42 = ((268435456 : Int32)) then some (v42, z12.2) else some ((-1), z12.2) else some (0, z2.2)
theorem R_X12_findsOf {Γ : xG} {l : Launch} {d : Nat} {r : Int32} {h' : xH} (x0 : Nat) (x1 : Int32) (h : xH) (hdp : 4 ≤ d) (hF : F_X12_findsOf x0 x1 h = some (r, h')) : Gm Γ l d 0 0 m_X12_findsOf [.ref x0, .int x1] h (fun a u => a = some (.int r) ∧ u = h') := by
  refine Gm.of pn_X12 (Nat.le_of_ble_eq_true rfl) ?_
  show Gd Γ l d m_X12_findsOf 0 [.ref x0, .int x1, xhole] [] h 0 0 _
  generalize hQ : (fun (a : Option Value) (u : xH) => a = some (.int r) ∧ u = h') = Q
  have hq : Q (some (.int r)) h' := by rw [← hQ]; exact ⟨rfl, rfl⟩
  clear hQ
  unfold F_X12_findsOf at hF
  refine g_aloadn d_X12_findsOf_0 rfl ?_
  refine g_iloadn d_X12_findsOf_1 rfl ?_
  obtain ⟨_, g2, hF⟩ := Option.bind_eq_some_iff.mp hF
  obtain ⟨⟨r2, h2⟩, e2, hF⟩ := Option.bind_eq_some_iff.mp hF
  try dsimp only at hF
  refine q_callV [.int x1] [] rfl d_X12_findsOf_2 v_X12_232 (by omega) rfl (Nat.le_of_ble_eq_true rfl) (rc_rc g2 (by decide) rfl) (R_X12_hasFound _ _ _ (by omega) e2) ?_
  refine g_if_eq 10 d_X12_findsOf_5 rfl (fun c5 => ?_) (fun c5 => ?_)
  · have hF := x_t hF c5
    refine g_aloadn d_X12_findsOf_10 rfl ?_
    refine g_iloadn d_X12_findsOf_11 rfl ?_
    obtain ⟨_, g12, hF⟩ := Option.bind_eq_some_iff.mp hF
    obtain ⟨⟨r12, h12⟩, e12, hF⟩ := Option.bind_eq_some_iff.mp hF
    try dsimp only at hF
    refine q_callV [.int x1] [] rfl d_X12_findsOf_12 v_X12_442 (by omega) rfl (Nat.le_of_ble_eq_true rfl) (rc_rc g12 (by decide) rfl) (R_X12_laysSoon _ _ _ (by omega) e12) ?_
    refine g_aloadn d_X12_findsOf_15 rfl ?_
    obtain ⟨v16, e16, hF⟩ := Option.bind_eq_some_iff.mp hF
    refine q_fR d_X12_findsOf_16 f_X12_70 e16 ?_
    refine g_bi (6) d_X12_findsOf_19 bi_6 ?_
    refine g_aloadn d_X12_findsOf_21 rfl ?_
    obtain ⟨v22, e22, hF⟩ := Option.bind_eq_some_iff.mp hF
    refine q_fR d_X12_findsOf_22 f_X12_13 e22 ?_
    refine g_bi (107) d_X12_findsOf_25 bi_107 ?_
    obtain ⟨v27, e27, hF⟩ := Option.bind_eq_some_iff.mp hF
    refine q_aI d_X12_findsOf_27 e27 ?_
    refine g_bi (12) d_X12_findsOf_28 bi_12 ?_
    refine q_irem d_X12_findsOf_30 (by decide) ?_
    refine g_imul d_X12_findsOf_31 ?_
    refine g_aloadn d_X12_findsOf_32 rfl ?_
    obtain ⟨v33, e33, hF⟩ := Option.bind_eq_some_iff.mp hF
    refine q_fR d_X12_findsOf_33 f_X12_13 e33 ?_
    refine g_bi (109) d_X12_findsOf_36 bi_109 ?_
    refine g_iloadn d_X12_findsOf_38 rfl ?_
    refine g_iadd d_X12_findsOf_39 ?_
    obtain ⟨v40, e40, hF⟩ := Option.bind_eq_some_iff.mp hF
    refine q_aI d_X12_findsOf_40 e40 ?_
    refine g_iadd d_X12_findsOf_41 ?_
    obtain ⟨v42, e42, hF⟩ := Option.bind_eq_some_iff.mp hF
    refine q_aI d_X12_findsOf_42 e42 ?_
    refine q_istoren [.ref x0, .int x1, .int v42] d_X12_findsOf_43 (by decide) rfl ?_
    refine g_iloadn d_X12_findsOf_44 rfl ?_
    refine g_ldcw d_X12_findsOf_45 k_X12_357 ?_
    refine g_icmp_ne 55 d_X12_findsOf_48 rfl (fun c48 => ?_) (fun c48 => ?_)
    · have hF := x_t hF c48
      refine g_iloadn d_X12_findsOf_55 rfl ?_
      obtain ⟨rfl, rfl⟩ := x_inj hF
      exact g_iret d_X12_findsOf_56 rfl hq
    · have hF := x_f hF (not_not_intro c48)
      refine g_ic (-1) d_X12_findsOf_51 ic_m1 ?_
      refine g_goto 56 d_X12_findsOf_52 rfl ?_
      obtain ⟨rfl, rfl⟩ := x_inj hF
      exact g_iret d_X12_findsOf_56 rfl hq
  · have hF := x_f hF c5
    refine g_ic (0) d_X12_findsOf_8 ic_0 ?_
    obtain ⟨rfl, rfl⟩ := x_inj hF
    exact g_iret d_X12_findsOf_9 rfl hq
theorem d_X12_finds_0 : decode cX12_finds 0 = .ok (.aload_n 0, 1) := by decide +kernel
theorem d_X12_finds_1 : decode cX12_finds 1 = .ok (.iconst 0, 1) := by decide +kernel
theorem d_X12_finds_2 : decode cX12_finds 2 = .ok (.putfield 1, 3) := by decide +kernel
theorem d_X12_finds_5 : decode cX12_finds 5 = .ok (.aload_n 0, 1) := by decide +kernel
theorem d_X12_finds_6 : decode cX12_finds 6 = .ok (.iload_n 1, 1) := by decide +kernel
theorem d_X12_finds_7 : decode cX12_finds 7 = .ok (.i2l, 1) := by decide +kernel
theorem d_X12_finds_8 : decode cX12_finds 8 = .ok (.invokevirtual 246, 3) := by decide +kernel
theorem d_X12_finds_11 : decode cX12_finds 11 = .ok (.ifCond .eq 11, 3) := by decide +kernel
theorem d_X12_finds_14 : decode cX12_finds 14 = .ok (.aload_n 0, 1) := by decide +kernel
theorem d_X12_finds_15 : decode cX12_finds 15 = .ok (.iload_n 1, 1) := by decide +kernel
theorem d_X12_finds_16 : decode cX12_finds 16 = .ok (.invokevirtual 445, 3) := by decide +kernel
theorem d_X12_finds_19 : decode cX12_finds 19 = .ok (.goto 5, 3) := by decide +kernel
theorem d_X12_finds_22 : decode cX12_finds 22 = .ok (.bipush (-2), 2) := by decide +kernel
theorem d_X12_finds_24 : decode cX12_finds 24 = .ok (.ireturn, 1) := by decide +kernel
def F_X12_finds (x0 : Nat) (x1 : Int32) (h : xH) : Option (Int32 × xH) := (wI h x0 11 0 0).bind fun h2 => (rc h2 x0 11).bind fun _ => (F_X12_isPerson x0 x1.toInt64 h2).bind fun z8 => if z8.1 = 0 then some ((-2), z8.2) else (rc z8.2 x0 11).bind fun _ => (F_X12_findsOf x0 x1 z8.2).bind fun z16 => some (z16.1, z16.2)
theorem R_X12_finds {Γ : xG} {l : Launch} {d : Nat} {r : Int32} {h' : xH} (x0 : Nat) (x1 : Int32) (h : xH) (hdp : 5 ≤ d) (hF : F_X12_finds x0 x1 h = some (r, h')) : Gm Γ l d 0 0 m_X12_finds [.ref x0, .int x1] h (fun a u => a = some (.int r) ∧ u = h') := by
  refine Gm.of pn_X12 (Nat.le_of_ble_eq_true rfl) ?_
  show Gd Γ l d m_X12_finds 0 [.ref x0, .int x1] [] h 0 0 _
  generalize hQ : (fun (a : Option Value) (u : xH) => a = some (.int r) ∧ u = h') = Q
  have hq : Q (some (.int r)) h' := by rw [← hQ]; exact ⟨rfl, rfl⟩
  clear hQ
  unfold F_X12_finds at hF
  refine g_aloadn d_X12_finds_0 rfl ?_
  refine g_ic (0) d_X12_finds_1 ic_0 ?_
  obtain ⟨h2, e2, hF⟩ := Option.bind_eq_some_iff.mp hF
  refine q_wI d_X12_finds_2 (w_X12_1 _) e2 ?_
  refine g_aloadn d_X12_finds_5 rfl ?_
  refine g_iloadn d_X12_finds_6 rfl ?_
  refine g_i2l d_X12_finds_7 ?_
  obtain ⟨_, g8, hF⟩ := Option.bind_eq_some_iff.mp hF
  obtain ⟨⟨r8, h8⟩, e8, hF⟩ := Option.bind_eq_some_iff.mp hF
  try dsimp only at hF
  refine q_callV [.long (x1.toInt64)] [] rfl d_X12_finds_8 v_X12_246 (by omega) rfl (Nat.le_of_ble_eq_true rfl) (rc_rc g8 (by decide) rfl) (R_X12_isPerson _ _ _ (by omega) e8) ?_
  refine g_if_eq 22 d_X12_finds_11 rfl (fun c11 => ?_) (fun c11 => ?_)
  · have hF := x_t hF c11
    refine g_bi (-2) d_X12_finds_22 bi_m2 ?_
    obtain ⟨rfl, rfl⟩ := x_inj hF
    exact g_iret d_X12_finds_24 rfl hq
  · have hF := x_f hF c11
    refine g_aloadn d_X12_finds_14 rfl ?_
    refine g_iloadn d_X12_finds_15 rfl ?_
    obtain ⟨_, g16, hF⟩ := Option.bind_eq_some_iff.mp hF
    obtain ⟨⟨r16, h16⟩, e16, hF⟩ := Option.bind_eq_some_iff.mp hF
    try dsimp only at hF
    refine q_callV [.int x1] [] rfl d_X12_finds_16 v_X12_445 (by omega) rfl (Nat.le_of_ble_eq_true rfl) (rc_rc g16 (by decide) rfl) (R_X12_findsOf _ _ _ (by omega) e16) ?_
    refine g_goto 24 d_X12_finds_19 rfl ?_
    obtain ⟨rfl, rfl⟩ := x_inj hF
    exact g_iret d_X12_finds_24 rfl hq
theorem d_X12_route_0 : decode cX12_route 0 = .ok (.aload_n 0, 1) := by decide +kernel
theorem d_X12_route_1 : decode cX12_route 1 = .ok (.iconst 0, 1) := by decide +kernel
theorem d_X12_route_2 : decode cX12_route 2 = .ok (.putfield 1, 3) := by decide +kernel
theorem d_X12_route_5 : decode cX12_route 5 = .ok (.aload_n 0, 1) := by decide +kernel
theorem d_X12_route_6 : decode cX12_route 6 = .ok (.iload_n 1, 1) := by decide +kernel
theorem d_X12_route_7 : decode cX12_route 7 = .ok (.i2l, 1) := by decide +kernel
theorem d_X12_route_8 : decode cX12_route 8 = .ok (.invokevirtual 246, 3) := by decide +kernel
theorem d_X12_route_11 : decode cX12_route 11 = .ok (.ifCond .ne 6, 3) := by decide +kernel
theorem d_X12_route_14 : decode cX12_route 14 = .ok (.bipush (-2), 2) := by decide +kernel
theorem d_X12_route_16 : decode cX12_route 16 = .ok (.ireturn, 1) := by decide +kernel
theorem d_X12_route_17 : decode cX12_route 17 = .ok (.iload_n 2, 1) := by decide +kernel
theorem d_X12_route_18 : decode cX12_route 18 = .ok (.ifCond .ge 6, 3) := by decide +kernel
theorem d_X12_route_21 : decode cX12_route 21 = .ok (.bipush (-3), 2) := by decide +kernel
theorem d_X12_route_23 : decode cX12_route 23 = .ok (.ireturn, 1) := by decide +kernel
theorem d_X12_route_24 : decode cX12_route 24 = .ok (.aload_n 0, 1) := by decide +kernel
theorem d_X12_route_25 : decode cX12_route 25 = .ok (.iload_n 1, 1) := by decide +kernel
theorem d_X12_route_26 : decode cX12_route 26 = .ok (.invokevirtual 445, 3) := by decide +kernel
theorem d_X12_route_29 : decode cX12_route 29 = .ok (.istore_n 3, 1) := by decide +kernel
theorem d_X12_route_30 : decode cX12_route 30 = .ok (.iload_n 3, 1) := by decide +kernel
theorem d_X12_route_31 : decode cX12_route 31 = .ok (.iconst (-1), 1) := by decide +kernel
theorem d_X12_route_32 : decode cX12_route 32 = .ok (.if_icmp .eq 8, 3) := by decide +kernel
theorem d_X12_route_35 : decode cX12_route 35 = .ok (.iload_n 2, 1) := by decide +kernel
theorem d_X12_route_36 : decode cX12_route 36 = .ok (.iload_n 3, 1) := by decide +kernel
theorem d_X12_route_37 : decode cX12_route 37 = .ok (.if_icmp .lt 5, 3) := by decide +kernel
theorem d_X12_route_40 : decode cX12_route 40 = .ok (.iconst (-1), 1) := by decide +kernel
theorem d_X12_route_41 : decode cX12_route 41 = .ok (.ireturn, 1) := by decide +kernel
theorem d_X12_route_42 : decode cX12_route 42 = .ok (.aload_n 0, 1) := by decide +kernel
theorem d_X12_route_43 : decode cX12_route 43 = .ok (.getfield 13, 3) := by decide +kernel
theorem d_X12_route_46 : decode cX12_route 46 = .ok (.bipush 109, 2) := by decide +kernel
theorem d_X12_route_48 : decode cX12_route 48 = .ok (.iload_n 1, 1) := by decide +kernel
theorem d_X12_route_49 : decode cX12_route 49 = .ok (.iadd, 1) := by decide +kernel
theorem d_X12_route_50 : decode cX12_route 50 = .ok (.iaload, 1) := by decide +kernel
theorem d_X12_route_51 : decode cX12_route 51 = .ok (.istore 4, 2) := by decide +kernel
theorem d_X12_route_53 : decode cX12_route 53 = .ok (.iconst 0, 1) := by decide +kernel
theorem d_X12_route_54 : decode cX12_route 54 = .ok (.istore 5, 2) := by decide +kernel
theorem d_X12_route_56 : decode cX12_route 56 = .ok (.iconst 0, 1) := by decide +kernel
theorem d_X12_route_57 : decode cX12_route 57 = .ok (.istore 6, 2) := by decide +kernel
theorem d_X12_route_59 : decode cX12_route 59 = .ok (.aload_n 0, 1) := by decide +kernel
theorem d_X12_route_60 : decode cX12_route 60 = .ok (.iload 4, 2) := by decide +kernel
theorem d_X12_route_62 : decode cX12_route 62 = .ok (.invokevirtual 436, 3) := by decide +kernel
theorem d_X12_route_65 : decode cX12_route 65 = .ok (.i2l, 1) := by decide +kernel
theorem d_X12_route_66 : decode cX12_route 66 = .ok (.iload 6, 2) := by decide +kernel
theorem d_X12_route_68 : decode cX12_route 68 = .ok (.invokestatic 228, 3) := by decide +kernel
theorem d_X12_route_71 : decode cX12_route 71 = .ok (.ifCond .eq 30, 3) := by decide +kernel
theorem d_X12_route_74 : decode cX12_route 74 = .ok (.aload_n 0, 1) := by decide +kernel
theorem d_X12_route_75 : decode cX12_route 75 = .ok (.iload_n 1, 1) := by decide +kernel
theorem d_X12_route_76 : decode cX12_route 76 = .ok (.iload 6, 2) := by decide +kernel
theorem d_X12_route_78 : decode cX12_route 78 = .ok (.aload_n 0, 1) := by decide +kernel
theorem d_X12_route_79 : decode cX12_route 79 = .ok (.getfield 13, 3) := by decide +kernel
theorem d_X12_route_82 : decode cX12_route 82 = .ok (.bipush 107, 2) := by decide +kernel
theorem d_X12_route_84 : decode cX12_route 84 = .ok (.iaload, 1) := by decide +kernel
theorem d_X12_route_85 : decode cX12_route 85 = .ok (.iload 5, 2) := by decide +kernel
theorem d_X12_route_87 : decode cX12_route 87 = .ok (.iadd, 1) := by decide +kernel
theorem d_X12_route_88 : decode cX12_route 88 = .ok (.bipush 12, 2) := by decide +kernel
theorem d_X12_route_90 : decode cX12_route 90 = .ok (.irem, 1) := by decide +kernel
theorem d_X12_route_91 : decode cX12_route 91 = .ok (.invokevirtual 439, 3) := by decide +kernel
theorem d_X12_route_94 : decode cX12_route 94 = .ok (.iload_n 3, 1) := by decide +kernel
theorem d_X12_route_95 : decode cX12_route 95 = .ok (.iload 5, 2) := by decide +kernel
theorem d_X12_route_97 : decode cX12_route 97 = .ok (.isub, 1) := by decide +kernel
theorem d_X12_route_98 : decode cX12_route 98 = .ok (.if_icmp .eq 9, 3) := by decide +kernel
theorem d_X12_route_101 : decode cX12_route 101 = .ok (.iinc 6 1, 3) := by decide +kernel
theorem d_X12_route_104 : decode cX12_route 104 = .ok (.goto (-45), 3) := by decide +kernel
theorem d_X12_route_107 : decode cX12_route 107 = .ok (.iload 5, 2) := by decide +kernel
theorem d_X12_route_109 : decode cX12_route 109 = .ok (.iload_n 2, 1) := by decide +kernel
theorem d_X12_route_110 : decode cX12_route 110 = .ok (.if_icmp .ne 6, 3) := by decide +kernel
theorem d_X12_route_113 : decode cX12_route 113 = .ok (.iload 6, 2) := by decide +kernel
theorem d_X12_route_115 : decode cX12_route 115 = .ok (.ireturn, 1) := by decide +kernel
theorem d_X12_route_116 : decode cX12_route 116 = .ok (.iload 6, 2) := by decide +kernel
theorem d_X12_route_118 : decode cX12_route 118 = .ok (.istore 4, 2) := by decide +kernel
theorem d_X12_route_120 : decode cX12_route 120 = .ok (.iinc 5 1, 3) := by decide +kernel
theorem d_X12_route_123 : decode cX12_route 123 = .ok (.goto (-67), 3) := by decide +kernel
def F_X12_route_b59 (k56 : Nat → Int32 → Int32 → Int32 → Int32 → Int32 → xH → Option (Int32 × xH)) : Nat → Nat → Int32 → Int32 → Int32 → Int32 → Int32 → Int32 → xH → Option (Int32 × xH)
  | 0, _, _, _, _, _, _, _, _ => none
  | n + 1, x0, x1, x2, x3, x4, x5, x6, h => (rc h x0 11).bind fun _ => (F_X12_steppedTo x0 x4 h).bind fun z62 => (F_X12_isIn z62.1.toInt64 x6 z62.2).bind fun z68 => if z68.1 = 0 then F_X12_route_b59 k56 n x0 x1 x2 x3 x4 x5 (x6 + 1) z68.2 else (fR z68.2 x0 11 1).bind fun v79 => (aI z68.2 v79 107).bind fun v84 => (rc z68.2 x0 11).bind fun _ => (F_X12_foundBy x0 x1 x6 (irm (v84 + x5) 12) z68.2).bind fun z91 => if z91.1 = (x3 - x5) then if ¬ x5 = x2 then k56 x0 x1 x2 x3 x6 (x5 + 1) z91.2 else some (x6, z91.2) else F_X12_route_b59 k56 n x0 x1 x2 x3 x4 x5 (x6 + 1) z91.2
theorem R_X12_route_b59 {Γ : xG} {l : Launch} {d : Nat} {Q : Option Value → xH → Prop} {r : Int32} {h' : xH} {k56 : Nat → Int32 → Int32 → Int32 → Int32 → Int32 → xH → Option (Int32 × xH)} (K56 : ∀ (x0 : Nat) (x1 : Int32) (x2 : Int32) (x3 : Int32) (x4 : Int32) (x5 : Int32)  (h : xH), k56 x0 x1 x2 x3 x4 x5 h = some (r, h') → Gd Γ l d m_X12_route 56 [.ref x0, .int x1, .int x2, .int x3, .int x4, .int x5, xhole] [] h 0 0 Q) (hdp : 5 ≤ d) (hq : Q (some (.int r)) h') : ∀ (n : Nat) (x0 : Nat) (x1 : Int32) (x2 : Int32) (x3 : Int32) (x4 : Int32) (x5 : Int32) (x6 : Int32) (h : xH), F_X12_route_b59 k56 n x0 x1 x2 x3 x4 x5 x6 h = some (r, h') → Gd Γ l d m_X12_route 59 [.ref x0, .int x1, .int x2, .int x3, .int x4, .int x5, .int x6] [] h 0 0 Q := by
  intro n
  induction n with
  | zero => intro x0 x1 x2 x3 x4 x5 x6 h hF; cases hF
  | succ n ih =>
  intro x0 x1 x2 x3 x4 x5 x6 h hF
  rw [F_X12_route_b59] at hF
  refine g_aloadn d_X12_route_59 rfl ?_
  refine g_iload d_X12_route_60 rfl ?_
  obtain ⟨_, g62, hF⟩ := Option.bind_eq_some_iff.mp hF
  obtain ⟨⟨r62, h62⟩, e62, hF⟩ := Option.bind_eq_some_iff.mp hF
  try dsimp only at hF
  refine q_callV [.int x4] [] rfl d_X12_route_62 v_X12_436 (by omega) rfl (Nat.le_of_ble_eq_true rfl) (rc_rc g62 (by decide) rfl) (R_X12_steppedTo _ _ _ (by omega) e62) ?_
  refine g_i2l d_X12_route_65 ?_
  refine g_iload d_X12_route_66 rfl ?_
  obtain ⟨⟨r68, h68⟩, e68, hF⟩ := Option.bind_eq_some_iff.mp hF
  try dsimp only at hF
  refine q_callS [.long (r62.toInt64), .int x6] [] rfl d_X12_route_68 s_X12_228 (by omega) rfl (Nat.le_of_ble_eq_true rfl) (R_X12_isIn _ _ _ (by omega) e68) ?_
  refine g_if_eq 101 d_X12_route_71 rfl (fun c71 => ?_) (fun c71 => ?_)
  · have hF := x_t hF c71
    refine q_iinc (1) [.ref x0, .int x1, .int x2, .int x3, .int x4, .int x5, .int (x6 + 1)] d_X12_route_101 ic_1 rfl (by decide) rfl ?_
    refine g_goto 59 d_X12_route_104 rfl ?_
    exact q_to (xs_r (xs_r (xs_r (xs_r (xs_r (xs_r (xs_r xs_n))))))) (ih _ _ _ _ _ _ _ _ hF)
  · have hF := x_f hF c71
    refine g_aloadn d_X12_route_74 rfl ?_
    refine g_iloadn d_X12_route_75 rfl ?_
    refine g_iload d_X12_route_76 rfl ?_
    refine g_aloadn d_X12_route_78 rfl ?_
    obtain ⟨v79, e79, hF⟩ := Option.bind_eq_some_iff.mp hF
    refine q_fR d_X12_route_79 f_X12_13 e79 ?_
    refine g_bi (107) d_X12_route_82 bi_107 ?_
    obtain ⟨v84, e84, hF⟩ := Option.bind_eq_some_iff.mp hF
    refine q_aI d_X12_route_84 e84 ?_
    refine g_iload d_X12_route_85 rfl ?_
    refine g_iadd d_X12_route_87 ?_
    refine g_bi (12) d_X12_route_88 bi_12 ?_
    refine q_irem d_X12_route_90 (by decide) ?_
    obtain ⟨_, g91, hF⟩ := Option.bind_eq_some_iff.mp hF
    obtain ⟨⟨r91, h91⟩, e91, hF⟩ := Option.bind_eq_some_iff.mp hF
    try dsimp only at hF
    refine q_callV [.int x1, .int x6, .int (irm (v84 + x5) 12)] [] rfl d_X12_route_91 v_X12_439 (by omega) rfl (Nat.le_of_ble_eq_true rfl) (rc_rc g91 (by decide) rfl) (R_X12_foundBy _ _ _ _ _ (by omega) e91) ?_
    refine g_iloadn d_X12_route_94 rfl ?_
    refine g_iload d_X12_route_95 rfl ?_
    refine g_isub d_X12_route_97 ?_
    refine g_icmp_eq 107 d_X12_route_98 rfl (fun c98 => ?_) (fun c98 => ?_)
    · have hF := x_t hF c98
      refine g_iload d_X12_route_107 rfl ?_
      refine g_iloadn d_X12_route_109 rfl ?_
      refine g_icmp_ne 116 d_X12_route_110 rfl (fun c110 => ?_) (fun c110 => ?_)
      · have hF := x_t hF c110
        refine g_iload d_X12_route_116 rfl ?_
        refine q_istore [.ref x0, .int x1, .int x2, .int x3, .int x6, .int x5, .int x6] d_X12_route_118 (by decide) rfl ?_
        refine q_iinc (1) [.ref x0, .int x1, .int x2, .int x3, .int x6, .int (x5 + 1), .int x6] d_X12_route_120 ic_1 rfl (by decide) rfl ?_
        refine g_goto 56 d_X12_route_123 rfl ?_
        exact q_to (xs_r (xs_r (xs_r (xs_r (xs_r (xs_r (xs_h xs_n))))))) (K56 _ _ _ _ _ _ _ hF)
      · have hF := x_f hF (not_not_intro c110)
        refine g_iload d_X12_route_113 rfl ?_
        obtain ⟨rfl, rfl⟩ := x_inj hF
        exact g_iret d_X12_route_115 rfl hq
    · have hF := x_f hF c98
      refine q_iinc (1) [.ref x0, .int x1, .int x2, .int x3, .int x4, .int x5, .int (x6 + 1)] d_X12_route_101 ic_1 rfl (by decide) rfl ?_
      refine g_goto 59 d_X12_route_104 rfl ?_
      exact q_to (xs_r (xs_r (xs_r (xs_r (xs_r (xs_r (xs_r xs_n))))))) (ih _ _ _ _ _ _ _ _ hF)
def F_X12_route_b56 : Nat → Nat → Int32 → Int32 → Int32 → Int32 → Int32 → xH → Option (Int32 × xH)
  | 0, _, _, _, _, _, _, _ => none
  | n + 1, x0, x1, x2, x3, x4, x5, h => F_X12_route_b59 (F_X12_route_b56 n) FU x0 x1 x2 x3 x4 x5 0 h
theorem R_X12_route_b56 {Γ : xG} {l : Launch} {d : Nat} {Q : Option Value → xH → Prop} {r : Int32} {h' : xH} (hdp : 5 ≤ d) (hq : Q (some (.int r)) h') : ∀ (n : Nat) (x0 : Nat) (x1 : Int32) (x2 : Int32) (x3 : Int32) (x4 : Int32) (x5 : Int32) (h : xH), F_X12_route_b56 n x0 x1 x2 x3 x4 x5 h = some (r, h') → Gd Γ l d m_X12_route 56 [.ref x0, .int x1, .int x2, .int x3, .int x4, .int x5, xhole] [] h 0 0 Q := by
  intro n
  induction n with
  | zero => intro x0 x1 x2 x3 x4 x5 h hF; cases hF
  | succ n ih =>
  intro x0 x1 x2 x3 x4 x5 h hF
  rw [F_X12_route_b56] at hF
  refine g_ic (0) d_X12_route_56 ic_0 ?_
  refine q_istore [.ref x0, .int x1, .int x2, .int x3, .int x4, .int x5, .int 0] d_X12_route_57 (by decide) rfl ?_
  exact q_to (xs_r (xs_r (xs_r (xs_r (xs_r (xs_r (xs_r xs_n))))))) (R_X12_route_b59 ih hdp hq FU _ _ _ _ _ _ _ _ hF)
def F_X12_route (x0 : Nat) (x1 : Int32) (x2 : Int32) (h : xH) : Option (Int32 × xH) := (wI h x0 11 0 0).bind fun h2 => (rc h2 x0 11).bind fun _ => (F_X12_isPerson x0 x1.toInt64 h2).bind fun z8 => if ¬ z8.1 = 0 then if 0 ≤ x2 then (rc z8.2 x0 11).bind fun _ => (F_X12_findsOf x0 x1 z8.2).bind fun z26 => if z26.1 = (((-1) : Int32)) then some ((-1), z26.2) else if x2 < z26.1 then (fR z26.2 x0 11 1).bind fun v43 => (aI z26.2 v43 (((109 : Int32)) + x1)).bind fun v50 => F_X12_route_b56 FU x0 x1 x2 z26.1 v50 0 z26.2 else some ((-1), z26.2) else some ((-3), z8.2) else some ((-2), z8.2)
theorem R_X12_route {Γ : xG} {l : Launch} {d : Nat} {r : Int32} {h' : xH} (x0 : Nat) (x1 : Int32) (x2 : Int32) (h : xH) (hdp : 5 ≤ d) (hF : F_X12_route x0 x1 x2 h = some (r, h')) : Gm Γ l d 0 0 m_X12_route [.ref x0, .int x1, .int x2] h (fun a u => a = some (.int r) ∧ u = h') := by
  refine Gm.of pn_X12 (Nat.le_of_ble_eq_true rfl) ?_
  show Gd Γ l d m_X12_route 0 [.ref x0, .int x1, .int x2, xhole, xhole, xhole, xhole] [] h 0 0 _
  generalize hQ : (fun (a : Option Value) (u : xH) => a = some (.int r) ∧ u = h') = Q
  have hq : Q (some (.int r)) h' := by rw [← hQ]; exact ⟨rfl, rfl⟩
  clear hQ
  unfold F_X12_route at hF
  refine g_aloadn d_X12_route_0 rfl ?_
  refine g_ic (0) d_X12_route_1 ic_0 ?_
  obtain ⟨h2, e2, hF⟩ := Option.bind_eq_some_iff.mp hF
  refine q_wI d_X12_route_2 (w_X12_1 _) e2 ?_
  refine g_aloadn d_X12_route_5 rfl ?_
  refine g_iloadn d_X12_route_6 rfl ?_
  refine g_i2l d_X12_route_7 ?_
  obtain ⟨_, g8, hF⟩ := Option.bind_eq_some_iff.mp hF
  obtain ⟨⟨r8, h8⟩, e8, hF⟩ := Option.bind_eq_some_iff.mp hF
  try dsimp only at hF
  refine q_callV [.long (x1.toInt64)] [] rfl d_X12_route_8 v_X12_246 (by omega) rfl (Nat.le_of_ble_eq_true rfl) (rc_rc g8 (by decide) rfl) (R_X12_isPerson _ _ _ (by omega) e8) ?_
  refine g_if_ne 17 d_X12_route_11 rfl (fun c11 => ?_) (fun c11 => ?_)
  · have hF := x_t hF c11
    refine g_iloadn d_X12_route_17 rfl ?_
    refine g_if_ge 24 d_X12_route_18 rfl (fun c18 => ?_) (fun c18 => ?_)
    · have hF := x_t hF c18
      refine g_aloadn d_X12_route_24 rfl ?_
      refine g_iloadn d_X12_route_25 rfl ?_
      obtain ⟨_, g26, hF⟩ := Option.bind_eq_some_iff.mp hF
      obtain ⟨⟨r26, h26⟩, e26, hF⟩ := Option.bind_eq_some_iff.mp hF
      try dsimp only at hF
      refine q_callV [.int x1] [] rfl d_X12_route_26 v_X12_445 (by omega) rfl (Nat.le_of_ble_eq_true rfl) (rc_rc g26 (by decide) rfl) (R_X12_findsOf _ _ _ (by omega) e26) ?_
      refine q_istoren [.ref x0, .int x1, .int x2, .int (r26), xhole, xhole, xhole] d_X12_route_29 (by decide) rfl ?_
      refine g_iloadn d_X12_route_30 rfl ?_
      refine g_ic (-1) d_X12_route_31 ic_m1 ?_
      refine g_icmp_eq 40 d_X12_route_32 rfl (fun c32 => ?_) (fun c32 => ?_)
      · have hF := x_t hF c32
        refine g_ic (-1) d_X12_route_40 ic_m1 ?_
        obtain ⟨rfl, rfl⟩ := x_inj hF
        exact g_iret d_X12_route_41 rfl hq
      · have hF := x_f hF c32
        refine g_iloadn d_X12_route_35 rfl ?_
        refine g_iloadn d_X12_route_36 rfl ?_
        refine g_icmp_lt 42 d_X12_route_37 rfl (fun c37 => ?_) (fun c37 => ?_)
        · have hF := x_t hF c37
          refine g_aloadn d_X12_route_42 rfl ?_
          obtain ⟨v43, e43, hF⟩ := Option.bind_eq_some_iff.mp hF
          refine q_fR d_X12_route_43 f_X12_13 e43 ?_
          refine g_bi (109) d_X12_route_46 bi_109 ?_
          refine g_iloadn d_X12_route_48 rfl ?_
          refine g_iadd d_X12_route_49 ?_
          obtain ⟨v50, e50, hF⟩ := Option.bind_eq_some_iff.mp hF
          refine q_aI d_X12_route_50 e50 ?_
          refine q_istore [.ref x0, .int x1, .int x2, .int (r26), .int v50, xhole, xhole] d_X12_route_51 (by decide) rfl ?_
          refine g_ic (0) d_X12_route_53 ic_0 ?_
          refine q_istore [.ref x0, .int x1, .int x2, .int (r26), .int v50, .int 0, xhole] d_X12_route_54 (by decide) rfl ?_
          exact q_to (xs_r (xs_r (xs_r (xs_r (xs_r (xs_r (xs_h xs_n))))))) (R_X12_route_b56 hdp hq FU _ _ _ _ _ _ _ hF)
        · have hF := x_f hF c37
          refine g_ic (-1) d_X12_route_40 ic_m1 ?_
          obtain ⟨rfl, rfl⟩ := x_inj hF
          exact g_iret d_X12_route_41 rfl hq
    · have hF := x_f hF c18
      refine g_bi (-3) d_X12_route_21 bi_m3 ?_
      obtain ⟨rfl, rfl⟩ := x_inj hF
      exact g_iret d_X12_route_23 rfl hq
  · have hF := x_f hF (not_not_intro c11)
    refine g_bi (-2) d_X12_route_14 bi_m2 ?_
    obtain ⟨rfl, rfl⟩ := x_inj hF
    exact g_iret d_X12_route_16 rfl hq
theorem d_X12_all_0 : decode cX12_all 0 = .ok (.aload_n 0, 1) := by decide +kernel
theorem d_X12_all_1 : decode cX12_all 1 = .ok (.iconst 0, 1) := by decide +kernel
theorem d_X12_all_2 : decode cX12_all 2 = .ok (.putfield 1, 3) := by decide +kernel
theorem d_X12_all_5 : decode cX12_all 5 = .ok (.iconst 0, 1) := by decide +kernel
theorem d_X12_all_6 : decode cX12_all 6 = .ok (.istore_n 1, 1) := by decide +kernel
theorem d_X12_all_7 : decode cX12_all 7 = .ok (.iconst 0, 1) := by decide +kernel
theorem d_X12_all_8 : decode cX12_all 8 = .ok (.istore_n 2, 1) := by decide +kernel
theorem d_X12_all_9 : decode cX12_all 9 = .ok (.iload_n 2, 1) := by decide +kernel
theorem d_X12_all_10 : decode cX12_all 10 = .ok (.aload_n 0, 1) := by decide +kernel
theorem d_X12_all_11 : decode cX12_all 11 = .ok (.getfield 13, 3) := by decide +kernel
theorem d_X12_all_14 : decode cX12_all 14 = .ok (.iconst 4, 1) := by decide +kernel
theorem d_X12_all_15 : decode cX12_all 15 = .ok (.iaload, 1) := by decide +kernel
theorem d_X12_all_16 : decode cX12_all 16 = .ok (.if_icmp .ge 28, 3) := by decide +kernel
theorem d_X12_all_19 : decode cX12_all 19 = .ok (.aload_n 0, 1) := by decide +kernel
theorem d_X12_all_20 : decode cX12_all 20 = .ok (.iload_n 2, 1) := by decide +kernel
theorem d_X12_all_21 : decode cX12_all 21 = .ok (.invokevirtual 445, 3) := by decide +kernel
theorem d_X12_all_24 : decode cX12_all 24 = .ok (.iload_n 1, 1) := by decide +kernel
theorem d_X12_all_25 : decode cX12_all 25 = .ok (.if_icmp .le 11, 3) := by decide +kernel
theorem d_X12_all_28 : decode cX12_all 28 = .ok (.aload_n 0, 1) := by decide +kernel
theorem d_X12_all_29 : decode cX12_all 29 = .ok (.iload_n 2, 1) := by decide +kernel
theorem d_X12_all_30 : decode cX12_all 30 = .ok (.invokevirtual 445, 3) := by decide +kernel
theorem d_X12_all_33 : decode cX12_all 33 = .ok (.goto 4, 3) := by decide +kernel
theorem d_X12_all_36 : decode cX12_all 36 = .ok (.iload_n 1, 1) := by decide +kernel
theorem d_X12_all_37 : decode cX12_all 37 = .ok (.istore_n 1, 1) := by decide +kernel
theorem d_X12_all_38 : decode cX12_all 38 = .ok (.iinc 2 1, 3) := by decide +kernel
theorem d_X12_all_41 : decode cX12_all 41 = .ok (.goto (-32), 3) := by decide +kernel
theorem d_X12_all_44 : decode cX12_all 44 = .ok (.iload_n 1, 1) := by decide +kernel
theorem d_X12_all_45 : decode cX12_all 45 = .ok (.ireturn, 1) := by decide +kernel
def F_X12_all_b9 : Nat → Nat → Int32 → Int32 → xH → Option (Int32 × xH)
  | 0, _, _, _, _ => none
  | n + 1, x0, x1, x2, h => (fR h x0 11 1).bind fun v11 => (aI h v11 4).bind fun v15 => if v15 ≤ x2 then some (x1, h) else (rc h x0 11).bind fun _ => (F_X12_findsOf x0 x2 h).bind fun z21 => if z21.1 ≤ x1 then F_X12_all_b9 n x0 x1 (x2 + 1) z21.2 else (rc z21.2 x0 11).bind fun _ => (F_X12_findsOf x0 x2 z21.2).bind fun z30 => F_X12_all_b9 n x0 z30.1 (x2 + 1) z30.2
theorem R_X12_all_b9 {Γ : xG} {l : Launch} {d : Nat} {Q : Option Value → xH → Prop} {r : Int32} {h' : xH} (hdp : 5 ≤ d) (hq : Q (some (.int r)) h') : ∀ (n : Nat) (x0 : Nat) (x1 : Int32) (x2 : Int32) (h : xH), F_X12_all_b9 n x0 x1 x2 h = some (r, h') → Gd Γ l d m_X12_all 9 [.ref x0, .int x1, .int x2] [] h 0 0 Q := by
  intro n
  induction n with
  | zero => intro x0 x1 x2 h hF; cases hF
  | succ n ih =>
  intro x0 x1 x2 h hF
  rw [F_X12_all_b9] at hF
  refine g_iloadn d_X12_all_9 rfl ?_
  refine g_aloadn d_X12_all_10 rfl ?_
  obtain ⟨v11, e11, hF⟩ := Option.bind_eq_some_iff.mp hF
  refine q_fR d_X12_all_11 f_X12_13 e11 ?_
  refine g_ic (4) d_X12_all_14 ic_4 ?_
  obtain ⟨v15, e15, hF⟩ := Option.bind_eq_some_iff.mp hF
  refine q_aI d_X12_all_15 e15 ?_
  refine g_icmp_ge 44 d_X12_all_16 rfl (fun c16 => ?_) (fun c16 => ?_)
  · have hF := x_t hF c16
    refine g_iloadn d_X12_all_44 rfl ?_
    obtain ⟨rfl, rfl⟩ := x_inj hF
    exact g_iret d_X12_all_45 rfl hq
  · have hF := x_f hF c16
    refine g_aloadn d_X12_all_19 rfl ?_
    refine g_iloadn d_X12_all_20 rfl ?_
    obtain ⟨_, g21, hF⟩ := Option.bind_eq_some_iff.mp hF
    obtain ⟨⟨r21, h21⟩, e21, hF⟩ := Option.bind_eq_some_iff.mp hF
    try dsimp only at hF
    refine q_callV [.int x2] [] rfl d_X12_all_21 v_X12_445 (by omega) rfl (Nat.le_of_ble_eq_true rfl) (rc_rc g21 (by decide) rfl) (R_X12_findsOf _ _ _ (by omega) e21) ?_
    refine g_iloadn d_X12_all_24 rfl ?_
    refine g_icmp_le 36 d_X12_all_25 rfl (fun c25 => ?_) (fun c25 => ?_)
    · have hF := x_t hF c25
      refine g_iloadn d_X12_all_36 rfl ?_
      refine q_istoren [.ref x0, .int x1, .int x2] d_X12_all_37 (by decide) rfl ?_
      refine q_iinc (1) [.ref x0, .int x1, .int (x2 + 1)] d_X12_all_38 ic_1 rfl (by decide) rfl ?_
      refine g_goto 9 d_X12_all_41 rfl ?_
      exact q_to (xs_r (xs_r (xs_r xs_n))) (ih _ _ _ _ hF)
    · have hF := x_f hF c25
      refine g_aloadn d_X12_all_28 rfl ?_
      refine g_iloadn d_X12_all_29 rfl ?_
      obtain ⟨_, g30, hF⟩ := Option.bind_eq_some_iff.mp hF
      obtain ⟨⟨r30, h30⟩, e30, hF⟩ := Option.bind_eq_some_iff.mp hF
      try dsimp only at hF
      refine q_callV [.int x2] [] rfl d_X12_all_30 v_X12_445 (by omega) rfl (Nat.le_of_ble_eq_true rfl) (rc_rc g30 (by decide) rfl) (R_X12_findsOf _ _ _ (by omega) e30) ?_
      refine g_goto 37 d_X12_all_33 rfl ?_
      refine q_istoren [.ref x0, .int (r30), .int x2] d_X12_all_37 (by decide) rfl ?_
      refine q_iinc (1) [.ref x0, .int (r30), .int (x2 + 1)] d_X12_all_38 ic_1 rfl (by decide) rfl ?_
      refine g_goto 9 d_X12_all_41 rfl ?_
      exact q_to (xs_r (xs_r (xs_r xs_n))) (ih _ _ _ _ hF)
def F_X12_all (x0 : Nat) (h : xH) : Option (Int32 × xH) := (wI h x0 11 0 0).bind fun h2 => F_X12_all_b9 FU x0 0 0 h2
theorem R_X12_all {Γ : xG} {l : Launch} {d : Nat} {r : Int32} {h' : xH} (x0 : Nat) (h : xH) (hdp : 5 ≤ d) (hF : F_X12_all x0 h = some (r, h')) : Gm Γ l d 0 0 m_X12_all [.ref x0] h (fun a u => a = some (.int r) ∧ u = h') := by
  refine Gm.of pn_X12 (Nat.le_of_ble_eq_true rfl) ?_
  show Gd Γ l d m_X12_all 0 [.ref x0, xhole, xhole] [] h 0 0 _
  generalize hQ : (fun (a : Option Value) (u : xH) => a = some (.int r) ∧ u = h') = Q
  have hq : Q (some (.int r)) h' := by rw [← hQ]; exact ⟨rfl, rfl⟩
  clear hQ
  unfold F_X12_all at hF
  refine g_aloadn d_X12_all_0 rfl ?_
  refine g_ic (0) d_X12_all_1 ic_0 ?_
  obtain ⟨h2, e2, hF⟩ := Option.bind_eq_some_iff.mp hF
  refine q_wI d_X12_all_2 (w_X12_1 _) e2 ?_
  refine g_ic (0) d_X12_all_5 ic_0 ?_
  refine q_istoren [.ref x0, .int 0, xhole] d_X12_all_6 (by decide) rfl ?_
  refine g_ic (0) d_X12_all_7 ic_0 ?_
  refine q_istoren [.ref x0, .int 0, .int 0] d_X12_all_8 (by decide) rfl ?_
  exact q_to (xs_r (xs_r (xs_r xs_n))) (R_X12_all_b9 hdp hq FU _ _ _ _ hF)
theorem d_X12_near_0 : decode cX12_near 0 = .ok (.aload_n 0, 1) := by decide +kernel
theorem d_X12_near_1 : decode cX12_near 1 = .ok (.iconst 0, 1) := by decide +kernel
theorem d_X12_near_2 : decode cX12_near 2 = .ok (.putfield 1, 3) := by decide +kernel
theorem d_X12_near_5 : decode cX12_near 5 = .ok (.aload_n 0, 1) := by decide +kernel
theorem d_X12_near_6 : decode cX12_near 6 = .ok (.iload_n 1, 1) := by decide +kernel
theorem d_X12_near_7 : decode cX12_near 7 = .ok (.i2l, 1) := by decide +kernel
theorem d_X12_near_8 : decode cX12_near 8 = .ok (.invokevirtual 246, 3) := by decide +kernel
theorem d_X12_near_11 : decode cX12_near 11 = .ok (.ifCond .ne 6, 3) := by decide +kernel
theorem d_X12_near_14 : decode cX12_near 14 = .ok (.bipush (-2), 2) := by decide +kernel
theorem d_X12_near_16 : decode cX12_near 16 = .ok (.ireturn, 1) := by decide +kernel
theorem d_X12_near_17 : decode cX12_near 17 = .ok (.iload_n 2, 1) := by decide +kernel
theorem d_X12_near_18 : decode cX12_near 18 = .ok (.i2l, 1) := by decide +kernel
theorem d_X12_near_19 : decode cX12_near 19 = .ok (.lconst 1, 1) := by decide +kernel
theorem d_X12_near_20 : decode cX12_near 20 = .ok (.ldc2_w 284, 3) := by decide +kernel
theorem d_X12_near_23 : decode cX12_near 23 = .ok (.invokestatic 148, 3) := by decide +kernel
theorem d_X12_near_26 : decode cX12_near 26 = .ok (.ifCond .ne 6, 3) := by decide +kernel
theorem d_X12_near_29 : decode cX12_near 29 = .ok (.bipush (-3), 2) := by decide +kernel
theorem d_X12_near_31 : decode cX12_near 31 = .ok (.ireturn, 1) := by decide +kernel
theorem d_X12_near_32 : decode cX12_near 32 = .ok (.aload_n 0, 1) := by decide +kernel
theorem d_X12_near_33 : decode cX12_near 33 = .ok (.iload_n 1, 1) := by decide +kernel
theorem d_X12_near_34 : decode cX12_near 34 = .ok (.invokevirtual 442, 3) := by decide +kernel
theorem d_X12_near_37 : decode cX12_near 37 = .ok (.iconst 0, 1) := by decide +kernel
theorem d_X12_near_38 : decode cX12_near 38 = .ok (.istore_n 3, 1) := by decide +kernel
theorem d_X12_near_39 : decode cX12_near 39 = .ok (.iconst 0, 1) := by decide +kernel
theorem d_X12_near_40 : decode cX12_near 40 = .ok (.istore 4, 2) := by decide +kernel
theorem d_X12_near_42 : decode cX12_near 42 = .ok (.iload 4, 2) := by decide +kernel
theorem d_X12_near_44 : decode cX12_near 44 = .ok (.aload_n 0, 1) := by decide +kernel
theorem d_X12_near_45 : decode cX12_near 45 = .ok (.getfield 13, 3) := by decide +kernel
theorem d_X12_near_48 : decode cX12_near 48 = .ok (.iconst 3, 1) := by decide +kernel
theorem d_X12_near_49 : decode cX12_near 49 = .ok (.iaload, 1) := by decide +kernel
theorem d_X12_near_50 : decode cX12_near 50 = .ok (.if_icmp .ge 53, 3) := by decide +kernel
theorem d_X12_near_53 : decode cX12_near 53 = .ok (.iload_n 3, 1) := by decide +kernel
theorem d_X12_near_54 : decode cX12_near 54 = .ok (.aload_n 0, 1) := by decide +kernel
theorem d_X12_near_55 : decode cX12_near 55 = .ok (.iload_n 1, 1) := by decide +kernel
theorem d_X12_near_56 : decode cX12_near 56 = .ok (.invokevirtual 232, 3) := by decide +kernel
theorem d_X12_near_59 : decode cX12_near 59 = .ok (.ifCond .ne 28, 3) := by decide +kernel
theorem d_X12_near_62 : decode cX12_near 62 = .ok (.aload_n 0, 1) := by decide +kernel
theorem d_X12_near_63 : decode cX12_near 63 = .ok (.getfield 70, 3) := by decide +kernel
theorem d_X12_near_66 : decode cX12_near 66 = .ok (.bipush 6, 2) := by decide +kernel
theorem d_X12_near_68 : decode cX12_near 68 = .ok (.aload_n 0, 1) := by decide +kernel
theorem d_X12_near_69 : decode cX12_near 69 = .ok (.getfield 13, 3) := by decide +kernel
theorem d_X12_near_72 : decode cX12_near 72 = .ok (.bipush 107, 2) := by decide +kernel
theorem d_X12_near_74 : decode cX12_near 74 = .ok (.iaload, 1) := by decide +kernel
theorem d_X12_near_75 : decode cX12_near 75 = .ok (.bipush 12, 2) := by decide +kernel
theorem d_X12_near_77 : decode cX12_near 77 = .ok (.irem, 1) := by decide +kernel
theorem d_X12_near_78 : decode cX12_near 78 = .ok (.imul, 1) := by decide +kernel
theorem d_X12_near_79 : decode cX12_near 79 = .ok (.iload 4, 2) := by decide +kernel
theorem d_X12_near_81 : decode cX12_near 81 = .ok (.iadd, 1) := by decide +kernel
theorem d_X12_near_82 : decode cX12_near 82 = .ok (.iaload, 1) := by decide +kernel
theorem d_X12_near_83 : decode cX12_near 83 = .ok (.iload_n 2, 1) := by decide +kernel
theorem d_X12_near_84 : decode cX12_near 84 = .ok (.if_icmp .gt 10, 3) := by decide +kernel
theorem d_X12_near_87 : decode cX12_near 87 = .ok (.iconst 1, 1) := by decide +kernel
theorem d_X12_near_88 : decode cX12_near 88 = .ok (.iload 4, 2) := by decide +kernel
theorem d_X12_near_90 : decode cX12_near 90 = .ok (.ishl, 1) := by decide +kernel
theorem d_X12_near_91 : decode cX12_near 91 = .ok (.goto 4, 3) := by decide +kernel
theorem d_X12_near_94 : decode cX12_near 94 = .ok (.iconst 0, 1) := by decide +kernel
theorem d_X12_near_95 : decode cX12_near 95 = .ok (.ior, 1) := by decide +kernel
theorem d_X12_near_96 : decode cX12_near 96 = .ok (.istore_n 3, 1) := by decide +kernel
theorem d_X12_near_97 : decode cX12_near 97 = .ok (.iinc 4 1, 3) := by decide +kernel
theorem d_X12_near_100 : decode cX12_near 100 = .ok (.goto (-58), 3) := by decide +kernel
theorem d_X12_near_103 : decode cX12_near 103 = .ok (.iload_n 3, 1) := by decide +kernel
theorem d_X12_near_104 : decode cX12_near 104 = .ok (.ireturn, 1) := by decide +kernel
def F_X12_near_b95 (k42 : Nat → Int32 → Int32 → Int32 → Int32 → xH → Option (Int32 × xH)) (x0 : Nat) (x1 : Int32) (x2 : Int32) (x4 : Int32) (s0 : Int32) (s1 : Int32) (h : xH) : Option (Int32 × xH) := k42 x0 x1 x2 (s0 ||| s1) (x4 + 1) h
theorem R_X12_near_b95 {Γ : xG} {l : Launch} {d : Nat} {Q : Option Value → xH → Prop} {r : Int32} {h' : xH} {k42 : Nat → Int32 → Int32 → Int32 → Int32 → xH → Option (Int32 × xH)} (K42 : ∀ (x0 : Nat) (x1 : Int32) (x2 : Int32) (x3 : Int32) (x4 : Int32)  (h : xH), k42 x0 x1 x2 x3 x4 h = some (r, h') → Gd Γ l d m_X12_near 42 [.ref x0, .int x1, .int x2, .int x3, .int x4] [] h 0 0 Q) (hdp : 4 ≤ d) (hq : Q (some (.int r)) h') : ∀ (x0 : Nat) (x1 : Int32) (x2 : Int32) (x4 : Int32) (s0 : Int32) (s1 : Int32) (h : xH), F_X12_near_b95 k42 x0 x1 x2 x4 s0 s1 h = some (r, h') → Gd Γ l d m_X12_near 95 [.ref x0, .int x1, .int x2, xhole, .int x4] [.int s1, .int s0] h 0 0 Q := by
  intro x0 x1 x2 x4 s0 s1 h hF
  unfold F_X12_near_b95 at hF
  refine g_ior d_X12_near_95 ?_
  refine q_istoren [.ref x0, .int x1, .int x2, .int (s0 ||| s1), .int x4] d_X12_near_96 (by decide) rfl ?_
  refine q_iinc (1) [.ref x0, .int x1, .int x2, .int (s0 ||| s1), .int (x4 + 1)] d_X12_near_97 ic_1 rfl (by decide) rfl ?_
  refine g_goto 42 d_X12_near_100 rfl ?_
  exact q_to (xs_r (xs_r (xs_r (xs_r (xs_r xs_n))))) (K42 _ _ _ _ _ _ hF)
def F_X12_near_b87 (k42 : Nat → Int32 → Int32 → Int32 → Int32 → xH → Option (Int32 × xH)) (x0 : Nat) (x1 : Int32) (x2 : Int32) (x4 : Int32) (s0 : Int32) (h : xH) : Option (Int32 × xH) := F_X12_near_b95 k42 x0 x1 x2 x4 s0 (((1 : Int32)) <<< (x4 &&& 31)) h
theorem R_X12_near_b87 {Γ : xG} {l : Launch} {d : Nat} {Q : Option Value → xH → Prop} {r : Int32} {h' : xH} {k42 : Nat → Int32 → Int32 → Int32 → Int32 → xH → Option (Int32 × xH)} (K42 : ∀ (x0 : Nat) (x1 : Int32) (x2 : Int32) (x3 : Int32) (x4 : Int32)  (h : xH), k42 x0 x1 x2 x3 x4 h = some (r, h') → Gd Γ l d m_X12_near 42 [.ref x0, .int x1, .int x2, .int x3, .int x4] [] h 0 0 Q) (hdp : 4 ≤ d) (hq : Q (some (.int r)) h') : ∀ (x0 : Nat) (x1 : Int32) (x2 : Int32) (x4 : Int32) (s0 : Int32) (h : xH), F_X12_near_b87 k42 x0 x1 x2 x4 s0 h = some (r, h') → Gd Γ l d m_X12_near 87 [.ref x0, .int x1, .int x2, xhole, .int x4] [.int s0] h 0 0 Q := by
  intro x0 x1 x2 x4 s0 h hF
  unfold F_X12_near_b87 at hF
  refine g_ic (1) d_X12_near_87 ic_1 ?_
  refine g_iload d_X12_near_88 rfl ?_
  refine g_ishl d_X12_near_90 ?_
  refine g_goto 95 d_X12_near_91 rfl ?_
  exact q_to (xs_r (xs_r (xs_r (xs_h (xs_r xs_n))))) (R_X12_near_b95 K42 hdp hq _ _ _ _ _ _ _ hF)
def F_X12_near_b42 : Nat → Nat → Int32 → Int32 → Int32 → Int32 → xH → Option (Int32 × xH)
  | 0, _, _, _, _, _, _ => none
  | n + 1, x0, x1, x2, x3, x4, h => (fR h x0 11 1).bind fun v45 => (aI h v45 3).bind fun v49 => if v49 ≤ x4 then some (x3, h) else (rc h x0 11).bind fun _ => (F_X12_hasFound x0 x1 h).bind fun z56 => if ¬ z56.1 = 0 then F_X12_near_b87 (F_X12_near_b42 n) x0 x1 x2 x4 x3 z56.2 else (fR z56.2 x0 11 33).bind fun v63 => (fR z56.2 x0 11 1).bind fun v69 => (aI z56.2 v69 107).bind fun v74 => (aI z56.2 v63 ((((6 : Int32)) * (irm v74 12)) + x4)).bind fun v82 => if x2 < v82 then F_X12_near_b95 (F_X12_near_b42 n) x0 x1 x2 x4 x3 0 z56.2 else F_X12_near_b87 (F_X12_near_b42 n) x0 x1 x2 x4 x3 z56.2
theorem R_X12_near_b42 {Γ : xG} {l : Launch} {d : Nat} {Q : Option Value → xH → Prop} {r : Int32} {h' : xH} (hdp : 4 ≤ d) (hq : Q (some (.int r)) h') : ∀ (n : Nat) (x0 : Nat) (x1 : Int32) (x2 : Int32) (x3 : Int32) (x4 : Int32) (h : xH), F_X12_near_b42 n x0 x1 x2 x3 x4 h = some (r, h') → Gd Γ l d m_X12_near 42 [.ref x0, .int x1, .int x2, .int x3, .int x4] [] h 0 0 Q := by
  intro n
  induction n with
  | zero => intro x0 x1 x2 x3 x4 h hF; cases hF
  | succ n ih =>
  intro x0 x1 x2 x3 x4 h hF
  rw [F_X12_near_b42] at hF
  refine g_iload d_X12_near_42 rfl ?_
  refine g_aloadn d_X12_near_44 rfl ?_
  obtain ⟨v45, e45, hF⟩ := Option.bind_eq_some_iff.mp hF
  refine q_fR d_X12_near_45 f_X12_13 e45 ?_
  refine g_ic (3) d_X12_near_48 ic_3 ?_
  obtain ⟨v49, e49, hF⟩ := Option.bind_eq_some_iff.mp hF
  refine q_aI d_X12_near_49 e49 ?_
  refine g_icmp_ge 103 d_X12_near_50 rfl (fun c50 => ?_) (fun c50 => ?_)
  · have hF := x_t hF c50
    refine g_iloadn d_X12_near_103 rfl ?_
    obtain ⟨rfl, rfl⟩ := x_inj hF
    exact g_iret d_X12_near_104 rfl hq
  · have hF := x_f hF c50
    refine g_iloadn d_X12_near_53 rfl ?_
    refine g_aloadn d_X12_near_54 rfl ?_
    refine g_iloadn d_X12_near_55 rfl ?_
    obtain ⟨_, g56, hF⟩ := Option.bind_eq_some_iff.mp hF
    obtain ⟨⟨r56, h56⟩, e56, hF⟩ := Option.bind_eq_some_iff.mp hF
    try dsimp only at hF
    refine q_callV [.int x1] [.int x3] rfl d_X12_near_56 v_X12_232 (by omega) rfl (Nat.le_of_ble_eq_true rfl) (rc_rc g56 (by decide) rfl) (R_X12_hasFound _ _ _ (by omega) e56) ?_
    refine g_if_ne 87 d_X12_near_59 rfl (fun c59 => ?_) (fun c59 => ?_)
    · have hF := x_t hF c59
      exact q_to (xs_r (xs_r (xs_r (xs_h (xs_r xs_n))))) (R_X12_near_b87 ih hdp hq _ _ _ _ _ _ hF)
    · have hF := x_f hF (not_not_intro c59)
      refine g_aloadn d_X12_near_62 rfl ?_
      obtain ⟨v63, e63, hF⟩ := Option.bind_eq_some_iff.mp hF
      refine q_fR d_X12_near_63 f_X12_70 e63 ?_
      refine g_bi (6) d_X12_near_66 bi_6 ?_
      refine g_aloadn d_X12_near_68 rfl ?_
      obtain ⟨v69, e69, hF⟩ := Option.bind_eq_some_iff.mp hF
      refine q_fR d_X12_near_69 f_X12_13 e69 ?_
      refine g_bi (107) d_X12_near_72 bi_107 ?_
      obtain ⟨v74, e74, hF⟩ := Option.bind_eq_some_iff.mp hF
      refine q_aI d_X12_near_74 e74 ?_
      refine g_bi (12) d_X12_near_75 bi_12 ?_
      refine q_irem d_X12_near_77 (by decide) ?_
      refine g_imul d_X12_near_78 ?_
      refine g_iload d_X12_near_79 rfl ?_
      refine g_iadd d_X12_near_81 ?_
      obtain ⟨v82, e82, hF⟩ := Option.bind_eq_some_iff.mp hF
      refine q_aI d_X12_near_82 e82 ?_
      refine g_iloadn d_X12_near_83 rfl ?_
      refine g_icmp_gt 94 d_X12_near_84 rfl (fun c84 => ?_) (fun c84 => ?_)
      · have hF := x_t hF c84
        refine g_ic (0) d_X12_near_94 ic_0 ?_
        exact q_to (xs_r (xs_r (xs_r (xs_h (xs_r xs_n))))) (R_X12_near_b95 ih hdp hq _ _ _ _ _ _ _ hF)
      · have hF := x_f hF c84
        exact q_to (xs_r (xs_r (xs_r (xs_h (xs_r xs_n))))) (R_X12_near_b87 ih hdp hq _ _ _ _ _ _ hF)
def F_X12_near (x0 : Nat) (x1 : Int32) (x2 : Int32) (h : xH) : Option (Int32 × xH) := (wI h x0 11 0 0).bind fun h2 => (rc h2 x0 11).bind fun _ => (F_X12_isPerson x0 x1.toInt64 h2).bind fun z8 => if ¬ z8.1 = 0 then (F_X12_within x2.toInt64 1 99 z8.2).bind fun z23 => if ¬ z23.1 = 0 then (rc z23.2 x0 11).bind fun _ => (F_X12_laysSoon x0 x1 z23.2).bind fun z34 => F_X12_near_b42 FU x0 x1 x2 0 0 z34.2 else some ((-3), z23.2) else some ((-2), z8.2)
theorem R_X12_near {Γ : xG} {l : Launch} {d : Nat} {r : Int32} {h' : xH} (x0 : Nat) (x1 : Int32) (x2 : Int32) (h : xH) (hdp : 4 ≤ d) (hF : F_X12_near x0 x1 x2 h = some (r, h')) : Gm Γ l d 0 0 m_X12_near [.ref x0, .int x1, .int x2] h (fun a u => a = some (.int r) ∧ u = h') := by
  refine Gm.of pn_X12 (Nat.le_of_ble_eq_true rfl) ?_
  show Gd Γ l d m_X12_near 0 [.ref x0, .int x1, .int x2, xhole, xhole] [] h 0 0 _
  generalize hQ : (fun (a : Option Value) (u : xH) => a = some (.int r) ∧ u = h') = Q
  have hq : Q (some (.int r)) h' := by rw [← hQ]; exact ⟨rfl, rfl⟩
  clear hQ
  unfold F_X12_near at hF
  refine g_aloadn d_X12_near_0 rfl ?_
  refine g_ic (0) d_X12_near_1 ic_0 ?_
  obtain ⟨h2, e2, hF⟩ := Option.bind_eq_some_iff.mp hF
  refine q_wI d_X12_near_2 (w_X12_1 _) e2 ?_
  refine g_aloadn d_X12_near_5 rfl ?_
  refine g_iloadn d_X12_near_6 rfl ?_
  refine g_i2l d_X12_near_7 ?_
  obtain ⟨_, g8, hF⟩ := Option.bind_eq_some_iff.mp hF
  obtain ⟨⟨r8, h8⟩, e8, hF⟩ := Option.bind_eq_some_iff.mp hF
  try dsimp only at hF
  refine q_callV [.long (x1.toInt64)] [] rfl d_X12_near_8 v_X12_246 (by omega) rfl (Nat.le_of_ble_eq_true rfl) (rc_rc g8 (by decide) rfl) (R_X12_isPerson _ _ _ (by omega) e8) ?_
  refine g_if_ne 17 d_X12_near_11 rfl (fun c11 => ?_) (fun c11 => ?_)
  · have hF := x_t hF c11
    refine g_iloadn d_X12_near_17 rfl ?_
    refine g_i2l d_X12_near_18 ?_
    refine g_lc 1 d_X12_near_19 rfl ?_
    refine g_ldc2 d_X12_near_20 k_X12_284 ?_
    obtain ⟨⟨r23, h23⟩, e23, hF⟩ := Option.bind_eq_some_iff.mp hF
    try dsimp only at hF
    refine q_callS [.long (x2.toInt64), .long 1, .long 99] [] rfl d_X12_near_23 s_X12_148 (by omega) rfl (Nat.le_of_ble_eq_true rfl) (R_X12_within _ _ _ _ (by omega) e23) ?_
    refine g_if_ne 32 d_X12_near_26 rfl (fun c26 => ?_) (fun c26 => ?_)
    · have hF := x_t hF c26
      refine g_aloadn d_X12_near_32 rfl ?_
      refine g_iloadn d_X12_near_33 rfl ?_
      obtain ⟨_, g34, hF⟩ := Option.bind_eq_some_iff.mp hF
      obtain ⟨⟨r34, h34⟩, e34, hF⟩ := Option.bind_eq_some_iff.mp hF
      try dsimp only at hF
      refine q_callV [.int x1] [] rfl d_X12_near_34 v_X12_442 (by omega) rfl (Nat.le_of_ble_eq_true rfl) (rc_rc g34 (by decide) rfl) (R_X12_laysSoon _ _ _ (by omega) e34) ?_
      refine g_ic (0) d_X12_near_37 ic_0 ?_
      refine q_istoren [.ref x0, .int x1, .int x2, .int 0, xhole] d_X12_near_38 (by decide) rfl ?_
      refine g_ic (0) d_X12_near_39 ic_0 ?_
      refine q_istore [.ref x0, .int x1, .int x2, .int 0, .int 0] d_X12_near_40 (by decide) rfl ?_
      exact q_to (xs_r (xs_r (xs_r (xs_r (xs_r xs_n))))) (R_X12_near_b42 hdp hq FU _ _ _ _ _ _ hF)
    · have hF := x_f hF (not_not_intro c26)
      refine g_bi (-3) d_X12_near_29 bi_m3 ?_
      obtain ⟨rfl, rfl⟩ := x_inj hF
      exact g_iret d_X12_near_31 rfl hq
  · have hF := x_f hF (not_not_intro c11)
    refine g_bi (-2) d_X12_near_14 bi_m2 ?_
    obtain ⟨rfl, rfl⟩ := x_inj hF
    exact g_iret d_X12_near_16 rfl hq
theorem d_X12_wholeOf_0 : decode cX12_wholeOf 0 = .ok (.lconst 1, 1) := by decide +kernel
theorem d_X12_wholeOf_1 : decode cX12_wholeOf 1 = .ok (.lstore_n 1, 1) := by decide +kernel
theorem d_X12_wholeOf_2 : decode cX12_wholeOf 2 = .ok (.iconst 0, 1) := by decide +kernel
theorem d_X12_wholeOf_3 : decode cX12_wholeOf 3 = .ok (.istore_n 3, 1) := by decide +kernel
theorem d_X12_wholeOf_4 : decode cX12_wholeOf 4 = .ok (.iload_n 3, 1) := by decide +kernel
theorem d_X12_wholeOf_5 : decode cX12_wholeOf 5 = .ok (.iload_n 0, 1) := by decide +kernel
theorem d_X12_wholeOf_6 : decode cX12_wholeOf 6 = .ok (.if_icmp .ge 15, 3) := by decide +kernel
theorem d_X12_wholeOf_9 : decode cX12_wholeOf 9 = .ok (.lload_n 1, 1) := by decide +kernel
theorem d_X12_wholeOf_10 : decode cX12_wholeOf 10 = .ok (.ldc2_w 448, 3) := by decide +kernel
theorem d_X12_wholeOf_13 : decode cX12_wholeOf 13 = .ok (.lmul, 1) := by decide +kernel
theorem d_X12_wholeOf_14 : decode cX12_wholeOf 14 = .ok (.lstore_n 1, 1) := by decide +kernel
theorem d_X12_wholeOf_15 : decode cX12_wholeOf 15 = .ok (.iinc 3 1, 3) := by decide +kernel
theorem d_X12_wholeOf_18 : decode cX12_wholeOf 18 = .ok (.goto (-14), 3) := by decide +kernel
theorem d_X12_wholeOf_21 : decode cX12_wholeOf 21 = .ok (.lload_n 1, 1) := by decide +kernel
theorem d_X12_wholeOf_22 : decode cX12_wholeOf 22 = .ok (.lreturn, 1) := by decide +kernel
def F_X12_wholeOf_b4 : Nat → Int32 → Int64 → Int32 → xH → Option (Int64 × xH)
  | 0, _, _, _, _ => none
  | n + 1, x0, x1, x3, h => if x0 ≤ x3 then some (x1, h) else F_X12_wholeOf_b4 n x0 (x1 * 60) (x3 + 1) h
theorem R_X12_wholeOf_b4 {Γ : xG} {l : Launch} {d : Nat} {Q : Option Value → xH → Prop} {r : Int64} {h' : xH} (hdp : 0 ≤ d) (hq : Q (some (.long r)) h') : ∀ (n : Nat) (x0 : Int32) (x1 : Int64) (x3 : Int32) (h : xH), F_X12_wholeOf_b4 n x0 x1 x3 h = some (r, h') → Gd Γ l d m_X12_wholeOf 4 [.int x0, .long x1, xhole, .int x3] [] h 0 0 Q := by
  intro n
  induction n with
  | zero => intro x0 x1 x3 h hF; cases hF
  | succ n ih =>
  intro x0 x1 x3 h hF
  rw [F_X12_wholeOf_b4] at hF
  refine g_iloadn d_X12_wholeOf_4 rfl ?_
  refine g_iloadn d_X12_wholeOf_5 rfl ?_
  refine g_icmp_ge 21 d_X12_wholeOf_6 rfl (fun c6 => ?_) (fun c6 => ?_)
  · have hF := x_t hF c6
    refine g_lloadn d_X12_wholeOf_21 rfl ?_
    obtain ⟨rfl, rfl⟩ := x_inj hF
    exact g_lret d_X12_wholeOf_22 rfl hq
  · have hF := x_f hF c6
    refine g_lloadn d_X12_wholeOf_9 rfl ?_
    refine g_ldc2 d_X12_wholeOf_10 k_X12_448 ?_
    refine g_lmul d_X12_wholeOf_13 ?_
    refine q_lstoren [.int x0, .long (x1 * 60), xhole, .int x3] d_X12_wholeOf_14 (by decide) rfl ?_
    refine q_iinc (1) [.int x0, .long (x1 * 60), xhole, .int (x3 + 1)] d_X12_wholeOf_15 ic_1 rfl (by decide) rfl ?_
    refine g_goto 4 d_X12_wholeOf_18 rfl ?_
    exact q_to (xs_r (xs_r (xs_h (xs_r xs_n)))) (ih _ _ _ _ hF)
def F_X12_wholeOf (x0 : Int32) (h : xH) : Option (Int64 × xH) := F_X12_wholeOf_b4 FU x0 1 0 h
theorem R_X12_wholeOf {Γ : xG} {l : Launch} {d : Nat} {r : Int64} {h' : xH} (x0 : Int32) (h : xH) (hdp : 0 ≤ d) (hF : F_X12_wholeOf x0 h = some (r, h')) : Gm Γ l d 0 0 m_X12_wholeOf [.int x0] h (fun a u => a = some (.long r) ∧ u = h') := by
  refine Gm.of pn_X12 (Nat.le_of_ble_eq_true rfl) ?_
  show Gd Γ l d m_X12_wholeOf 0 [.int x0, xhole, xhole, xhole] [] h 0 0 _
  generalize hQ : (fun (a : Option Value) (u : xH) => a = some (.long r) ∧ u = h') = Q
  have hq : Q (some (.long r)) h' := by rw [← hQ]; exact ⟨rfl, rfl⟩
  clear hQ
  unfold F_X12_wholeOf at hF
  refine g_lc 1 d_X12_wholeOf_0 rfl ?_
  refine q_lstoren [.int x0, .long 1, xhole, xhole] d_X12_wholeOf_1 (by decide) rfl ?_
  refine g_ic (0) d_X12_wholeOf_2 ic_0 ?_
  refine q_istoren [.int x0, .long 1, xhole, .int 0] d_X12_wholeOf_3 (by decide) rfl ?_
  exact q_to (xs_r (xs_r (xs_h (xs_r xs_n)))) (R_X12_wholeOf_b4 hdp hq FU _ _ _ _ hF)
theorem d_X12_chanceOf_0 : decode cX12_chanceOf 0 = .ok (.iload 4, 2) := by decide +kernel
theorem d_X12_chanceOf_2 : decode cX12_chanceOf 2 = .ok (.ifCond .ne 5, 3) := by decide +kernel
theorem d_X12_chanceOf_5 : decode cX12_chanceOf 5 = .ok (.lconst 0, 1) := by decide +kernel
theorem d_X12_chanceOf_6 : decode cX12_chanceOf 6 = .ok (.lreturn, 1) := by decide +kernel
theorem d_X12_chanceOf_7 : decode cX12_chanceOf 7 = .ok (.aload_n 0, 1) := by decide +kernel
theorem d_X12_chanceOf_8 : decode cX12_chanceOf 8 = .ok (.iload_n 2, 1) := by decide +kernel
theorem d_X12_chanceOf_9 : decode cX12_chanceOf 9 = .ok (.invokevirtual 436, 3) := by decide +kernel
theorem d_X12_chanceOf_12 : decode cX12_chanceOf 12 = .ok (.istore 5, 2) := by decide +kernel
theorem d_X12_chanceOf_14 : decode cX12_chanceOf 14 = .ok (.lconst 0, 1) := by decide +kernel
theorem d_X12_chanceOf_15 : decode cX12_chanceOf 15 = .ok (.lstore 6, 2) := by decide +kernel
theorem d_X12_chanceOf_17 : decode cX12_chanceOf 17 = .ok (.iconst 0, 1) := by decide +kernel
theorem d_X12_chanceOf_18 : decode cX12_chanceOf 18 = .ok (.istore 8, 2) := by decide +kernel
theorem d_X12_chanceOf_20 : decode cX12_chanceOf 20 = .ok (.iload 8, 2) := by decide +kernel
theorem d_X12_chanceOf_22 : decode cX12_chanceOf 22 = .ok (.aload_n 0, 1) := by decide +kernel
theorem d_X12_chanceOf_23 : decode cX12_chanceOf 23 = .ok (.getfield 13, 3) := by decide +kernel
theorem d_X12_chanceOf_26 : decode cX12_chanceOf 26 = .ok (.iconst 3, 1) := by decide +kernel
theorem d_X12_chanceOf_27 : decode cX12_chanceOf 27 = .ok (.iaload, 1) := by decide +kernel
theorem d_X12_chanceOf_28 : decode cX12_chanceOf 28 = .ok (.if_icmp .ge 74, 3) := by decide +kernel
theorem d_X12_chanceOf_31 : decode cX12_chanceOf 31 = .ok (.iload 5, 2) := by decide +kernel
theorem d_X12_chanceOf_33 : decode cX12_chanceOf 33 = .ok (.i2l, 1) := by decide +kernel
theorem d_X12_chanceOf_34 : decode cX12_chanceOf 34 = .ok (.iload 8, 2) := by decide +kernel
theorem d_X12_chanceOf_36 : decode cX12_chanceOf 36 = .ok (.invokestatic 228, 3) := by decide +kernel
theorem d_X12_chanceOf_39 : decode cX12_chanceOf 39 = .ok (.ifCond .ne 6, 3) := by decide +kernel
theorem d_X12_chanceOf_42 : decode cX12_chanceOf 42 = .ok (.goto 54, 3) := by decide +kernel
theorem d_X12_chanceOf_45 : decode cX12_chanceOf 45 = .ok (.lload 6, 2) := by decide +kernel
theorem d_X12_chanceOf_47 : decode cX12_chanceOf 47 = .ok (.ldc2_w 448, 3) := by decide +kernel
theorem d_X12_chanceOf_50 : decode cX12_chanceOf 50 = .ok (.iload 5, 2) := by decide +kernel
theorem d_X12_chanceOf_52 : decode cX12_chanceOf 52 = .ok (.invokestatic 354, 3) := by decide +kernel
theorem d_X12_chanceOf_55 : decode cX12_chanceOf 55 = .ok (.i2l, 1) := by decide +kernel
theorem d_X12_chanceOf_56 : decode cX12_chanceOf 56 = .ok (.ldiv, 1) := by decide +kernel
theorem d_X12_chanceOf_57 : decode cX12_chanceOf 57 = .ok (.aload_n 0, 1) := by decide +kernel
theorem d_X12_chanceOf_58 : decode cX12_chanceOf 58 = .ok (.iload_n 1, 1) := by decide +kernel
theorem d_X12_chanceOf_59 : decode cX12_chanceOf 59 = .ok (.iload 8, 2) := by decide +kernel
theorem d_X12_chanceOf_61 : decode cX12_chanceOf 61 = .ok (.iload_n 3, 1) := by decide +kernel
theorem d_X12_chanceOf_62 : decode cX12_chanceOf 62 = .ok (.invokevirtual 433, 3) := by decide +kernel
theorem d_X12_chanceOf_65 : decode cX12_chanceOf 65 = .ok (.ifCond .eq 13, 3) := by decide +kernel
theorem d_X12_chanceOf_68 : decode cX12_chanceOf 68 = .ok (.iload 4, 2) := by decide +kernel
theorem d_X12_chanceOf_70 : decode cX12_chanceOf 70 = .ok (.iconst 1, 1) := by decide +kernel
theorem d_X12_chanceOf_71 : decode cX12_chanceOf 71 = .ok (.isub, 1) := by decide +kernel
theorem d_X12_chanceOf_72 : decode cX12_chanceOf 72 = .ok (.invokestatic 450, 3) := by decide +kernel
theorem d_X12_chanceOf_75 : decode cX12_chanceOf 75 = .ok (.goto 17, 3) := by decide +kernel
theorem d_X12_chanceOf_78 : decode cX12_chanceOf 78 = .ok (.aload_n 0, 1) := by decide +kernel
theorem d_X12_chanceOf_79 : decode cX12_chanceOf 79 = .ok (.iload_n 1, 1) := by decide +kernel
theorem d_X12_chanceOf_80 : decode cX12_chanceOf 80 = .ok (.iload 8, 2) := by decide +kernel
theorem d_X12_chanceOf_82 : decode cX12_chanceOf 82 = .ok (.iload_n 3, 1) := by decide +kernel
theorem d_X12_chanceOf_83 : decode cX12_chanceOf 83 = .ok (.iconst 1, 1) := by decide +kernel
theorem d_X12_chanceOf_84 : decode cX12_chanceOf 84 = .ok (.iadd, 1) := by decide +kernel
theorem d_X12_chanceOf_85 : decode cX12_chanceOf 85 = .ok (.iload 4, 2) := by decide +kernel
theorem d_X12_chanceOf_87 : decode cX12_chanceOf 87 = .ok (.iconst 1, 1) := by decide +kernel
theorem d_X12_chanceOf_88 : decode cX12_chanceOf 88 = .ok (.isub, 1) := by decide +kernel
theorem d_X12_chanceOf_89 : decode cX12_chanceOf 89 = .ok (.invokevirtual 454, 3) := by decide +kernel
theorem d_X12_chanceOf_92 : decode cX12_chanceOf 92 = .ok (.lmul, 1) := by decide +kernel
theorem d_X12_chanceOf_93 : decode cX12_chanceOf 93 = .ok (.ladd, 1) := by decide +kernel
theorem d_X12_chanceOf_94 : decode cX12_chanceOf 94 = .ok (.lstore 6, 2) := by decide +kernel
theorem d_X12_chanceOf_96 : decode cX12_chanceOf 96 = .ok (.iinc 8 1, 3) := by decide +kernel
theorem d_X12_chanceOf_99 : decode cX12_chanceOf 99 = .ok (.goto (-79), 3) := by decide +kernel
theorem d_X12_chanceOf_102 : decode cX12_chanceOf 102 = .ok (.lload 6, 2) := by decide +kernel
theorem d_X12_chanceOf_104 : decode cX12_chanceOf 104 = .ok (.lreturn, 1) := by decide +kernel
def F_X12_chanceOf_b92 (f_X12_chanceOf : Nat → Int32 → Int32 → Int32 → Int32 → xH → Option (Int64 × xH)) (k20 : Nat → Int32 → Int32 → Int32 → Int32 → Int64 → Int32 → xH → Option (Int64 × xH)) (x0 : Nat) (x1 : Int32) (x3 : Int32) (x4 : Int32) (x5 : Int32) (x8 : Int32) (s0 : Int64) (s1 : Int64) (s2 : Int64) (h : xH) : Option (Int64 × xH) := k20 x0 x1 x3 x4 x5 (s0 + (s1 * s2)) (x8 + 1) h
theorem R_X12_chanceOf_b92 {Γ : xG} {l : Launch} {d : Nat} {Q : Option Value → xH → Prop} {r : Int64} {h' : xH} {f_X12_chanceOf : Nat → Int32 → Int32 → Int32 → Int32 → xH → Option (Int64 × xH)} {k20 : Nat → Int32 → Int32 → Int32 → Int32 → Int64 → Int32 → xH → Option (Int64 × xH)} (K_X12_chanceOf : ∀ (y0 : Nat) (y1 : Int32) (y2 : Int32) (y3 : Int32) (y4 : Int32) (u : xH) (q : Int64) (u' : xH), f_X12_chanceOf y0 y1 y2 y3 y4 u = some (q, u') → Gm Γ l (d - 1) 0 0 m_X12_chanceOf [.ref y0, .int y1, .int y2, .int y3, .int y4] u (fun a w => a = some (.long q) ∧ w = u')) (K20 : ∀ (x0 : Nat) (x1 : Int32) (x3 : Int32) (x4 : Int32) (x5 : Int32) (x6 : Int64) (x8 : Int32)  (h : xH), k20 x0 x1 x3 x4 x5 x6 x8 h = some (r, h') → Gd Γ l d m_X12_chanceOf 20 [.ref x0, .int x1, xhole, .int x3, .int x4, .int x5, .long x6, xhole, .int x8] [] h 0 0 Q) (hdp : 2 ≤ d) (hq : Q (some (.long r)) h') : ∀ (x0 : Nat) (x1 : Int32) (x3 : Int32) (x4 : Int32) (x5 : Int32) (x8 : Int32) (s0 : Int64) (s1 : Int64) (s2 : Int64) (h : xH), F_X12_chanceOf_b92 f_X12_chanceOf k20 x0 x1 x3 x4 x5 x8 s0 s1 s2 h = some (r, h') → Gd Γ l d m_X12_chanceOf 92 [.ref x0, .int x1, xhole, .int x3, .int x4, .int x5, xhole, xhole, .int x8] [.long s2, .long s1, .long s0] h 0 0 Q := by
  intro x0 x1 x3 x4 x5 x8 s0 s1 s2 h hF
  unfold F_X12_chanceOf_b92 at hF
  refine g_lmul d_X12_chanceOf_92 ?_
  refine g_ladd d_X12_chanceOf_93 ?_
  refine q_lstore [.ref x0, .int x1, xhole, .int x3, .int x4, .int x5, .long (s0 + (s1 * s2)), xhole, .int x8] d_X12_chanceOf_94 (by decide) rfl ?_
  refine q_iinc (1) [.ref x0, .int x1, xhole, .int x3, .int x4, .int x5, .long (s0 + (s1 * s2)), xhole, .int (x8 + 1)] d_X12_chanceOf_96 ic_1 rfl (by decide) rfl ?_
  refine g_goto 20 d_X12_chanceOf_99 rfl ?_
  exact q_to (xs_r (xs_r (xs_h (xs_r (xs_r (xs_r (xs_r (xs_h (xs_r xs_n))))))))) (K20 _ _ _ _ _ _ _ _ hF)
def F_X12_chanceOf_b20 (f_X12_chanceOf : Nat → Int32 → Int32 → Int32 → Int32 → xH → Option (Int64 × xH)) : Nat → Nat → Int32 → Int32 → Int32 → Int32 → Int64 → Int32 → xH → Option (Int64 × xH)
  | 0, _, _, _, _, _, _, _, _ => none
  | n + 1, x0, x1, x3, x4, x5, x6, x8, h => (fR h x0 11 1).bind fun v23 => (aI h v23 3).bind fun v27 => if v27 ≤ x8 then some (x6, h) else (F_X12_isIn x5.toInt64 x8 h).bind fun z36 => if ¬ z36.1 = 0 then (F_X12_bitsOf x5 z36.2).bind fun z52 => if z52.1.toInt64 = 0 then none else (rc z52.2 x0 11).bind fun _ => (F_X12_isFoundAt x0 x1 x8 x3 z52.2).bind fun z62 => if z62.1 = 0 then (rc z62.2 x0 11).bind fun _ => (f_X12_chanceOf x0 x1 x8 (x3 + 1) (x4 - 1) z62.2).bind fun z89 => F_X12_chanceOf_b92 f_X12_chanceOf (F_X12_chanceOf_b20 f_X12_chanceOf n) x0 x1 x3 x4 x5 x8 x6 (ldv 60 z52.1.toInt64) z89.1 z89.2 else (F_X12_wholeOf (x4 - 1) z62.2).bind fun z72 => F_X12_chanceOf_b92 f_X12_chanceOf (F_X12_chanceOf_b20 f_X12_chanceOf n) x0 x1 x3 x4 x5 x8 x6 (ldv 60 z52.1.toInt64) z72.1 z72.2 else F_X12_chanceOf_b20 f_X12_chanceOf n x0 x1 x3 x4 x5 x6 (x8 + 1) z36.2
theorem R_X12_chanceOf_b20 {Γ : xG} {l : Launch} {d : Nat} {Q : Option Value → xH → Prop} {r : Int64} {h' : xH} {f_X12_chanceOf : Nat → Int32 → Int32 → Int32 → Int32 → xH → Option (Int64 × xH)} (K_X12_chanceOf : ∀ (y0 : Nat) (y1 : Int32) (y2 : Int32) (y3 : Int32) (y4 : Int32) (u : xH) (q : Int64) (u' : xH), f_X12_chanceOf y0 y1 y2 y3 y4 u = some (q, u') → Gm Γ l (d - 1) 0 0 m_X12_chanceOf [.ref y0, .int y1, .int y2, .int y3, .int y4] u (fun a w => a = some (.long q) ∧ w = u')) (hdp : 2 ≤ d) (hq : Q (some (.long r)) h') : ∀ (n : Nat) (x0 : Nat) (x1 : Int32) (x3 : Int32) (x4 : Int32) (x5 : Int32) (x6 : Int64) (x8 : Int32) (h : xH), F_X12_chanceOf_b20 f_X12_chanceOf n x0 x1 x3 x4 x5 x6 x8 h = some (r, h') → Gd Γ l d m_X12_chanceOf 20 [.ref x0, .int x1, xhole, .int x3, .int x4, .int x5, .long x6, xhole, .int x8] [] h 0 0 Q := by
  intro n
  induction n with
  | zero => intro x0 x1 x3 x4 x5 x6 x8 h hF; cases hF
  | succ n ih =>
  intro x0 x1 x3 x4 x5 x6 x8 h hF
  rw [F_X12_chanceOf_b20] at hF
  refine g_iload d_X12_chanceOf_20 rfl ?_
  refine g_aloadn d_X12_chanceOf_22 rfl ?_
  obtain ⟨v23, e23, hF⟩ := Option.bind_eq_some_iff.mp hF
  refine q_fR d_X12_chanceOf_23 f_X12_13 e23 ?_
  refine g_ic (3) d_X12_chanceOf_26 ic_3 ?_
  obtain ⟨v27, e27, hF⟩ := Option.bind_eq_some_iff.mp hF
  refine q_aI d_X12_chanceOf_27 e27 ?_
  refine g_icmp_ge 102 d_X12_chanceOf_28 rfl (fun c28 => ?_) (fun c28 => ?_)
  · have hF := x_t hF c28
    refine g_lload d_X12_chanceOf_102 rfl ?_
    obtain ⟨rfl, rfl⟩ := x_inj hF
    exact g_lret d_X12_chanceOf_104 rfl hq
  · have hF := x_f hF c28
    refine g_iload d_X12_chanceOf_31 rfl ?_
    refine g_i2l d_X12_chanceOf_33 ?_
    refine g_iload d_X12_chanceOf_34 rfl ?_
    obtain ⟨⟨r36, h36⟩, e36, hF⟩ := Option.bind_eq_some_iff.mp hF
    try dsimp only at hF
    refine q_callS [.long (x5.toInt64), .int x8] [] rfl d_X12_chanceOf_36 s_X12_228 (by omega) rfl (Nat.le_of_ble_eq_true rfl) (R_X12_isIn _ _ _ (by omega) e36) ?_
    refine g_if_ne 45 d_X12_chanceOf_39 rfl (fun c39 => ?_) (fun c39 => ?_)
    · have hF := x_t hF c39
      refine g_lload d_X12_chanceOf_45 rfl ?_
      refine g_ldc2 d_X12_chanceOf_47 k_X12_448 ?_
      refine g_iload d_X12_chanceOf_50 rfl ?_
      obtain ⟨⟨r52, h52⟩, e52, hF⟩ := Option.bind_eq_some_iff.mp hF
      try dsimp only at hF
      refine q_callS [.int x5] [.long 60, .long x6] rfl d_X12_chanceOf_52 s_X12_354 (by omega) rfl (Nat.le_of_ble_eq_true rfl) (R_X12_bitsOf _ _ (by omega) e52) ?_
      refine g_i2l d_X12_chanceOf_55 ?_
      rcases x_nz hF with ⟨z56, hF⟩
      refine q_ldiv d_X12_chanceOf_56 z56 ?_
      refine g_aloadn d_X12_chanceOf_57 rfl ?_
      refine g_iloadn d_X12_chanceOf_58 rfl ?_
      refine g_iload d_X12_chanceOf_59 rfl ?_
      refine g_iloadn d_X12_chanceOf_61 rfl ?_
      obtain ⟨_, g62, hF⟩ := Option.bind_eq_some_iff.mp hF
      obtain ⟨⟨r62, h62⟩, e62, hF⟩ := Option.bind_eq_some_iff.mp hF
      try dsimp only at hF
      refine q_callV [.int x1, .int x8, .int x3] [.long (ldv 60 r52.toInt64), .long x6] rfl d_X12_chanceOf_62 v_X12_433 (by omega) rfl (Nat.le_of_ble_eq_true rfl) (rc_rc g62 (by decide) rfl) (R_X12_isFoundAt _ _ _ _ _ (by omega) e62) ?_
      refine g_if_eq 78 d_X12_chanceOf_65 rfl (fun c65 => ?_) (fun c65 => ?_)
      · have hF := x_t hF c65
        refine g_aloadn d_X12_chanceOf_78 rfl ?_
        refine g_iloadn d_X12_chanceOf_79 rfl ?_
        refine g_iload d_X12_chanceOf_80 rfl ?_
        refine g_iloadn d_X12_chanceOf_82 rfl ?_
        refine g_ic (1) d_X12_chanceOf_83 ic_1 ?_
        refine g_iadd d_X12_chanceOf_84 ?_
        refine g_iload d_X12_chanceOf_85 rfl ?_
        refine g_ic (1) d_X12_chanceOf_87 ic_1 ?_
        refine g_isub d_X12_chanceOf_88 ?_
        obtain ⟨_, g89, hF⟩ := Option.bind_eq_some_iff.mp hF
        obtain ⟨⟨r89, h89⟩, e89, hF⟩ := Option.bind_eq_some_iff.mp hF
        try dsimp only at hF
        refine q_callV [.int x1, .int x8, .int (x3 + 1), .int (x4 - 1)] [.long (ldv 60 r52.toInt64), .long x6] rfl d_X12_chanceOf_89 v_X12_454 (by omega) rfl (Nat.le_of_ble_eq_true rfl) (rc_rc g89 (by decide) rfl) (K_X12_chanceOf _ _ _ _ _ _ _ _ e89) ?_
        exact q_to (xs_r (xs_r (xs_h (xs_r (xs_r (xs_r (xs_h (xs_h (xs_r xs_n))))))))) (R_X12_chanceOf_b92 K_X12_chanceOf ih hdp hq _ _ _ _ _ _ _ _ _ _ hF)
      · have hF := x_f hF c65
        refine g_iload d_X12_chanceOf_68 rfl ?_
        refine g_ic (1) d_X12_chanceOf_70 ic_1 ?_
        refine g_isub d_X12_chanceOf_71 ?_
        obtain ⟨⟨r72, h72⟩, e72, hF⟩ := Option.bind_eq_some_iff.mp hF
        try dsimp only at hF
        refine q_callS [.int (x4 - 1)] [.long (ldv 60 r52.toInt64), .long x6] rfl d_X12_chanceOf_72 s_X12_450 (by omega) rfl (Nat.le_of_ble_eq_true rfl) (R_X12_wholeOf _ _ (by omega) e72) ?_
        refine g_goto 92 d_X12_chanceOf_75 rfl ?_
        exact q_to (xs_r (xs_r (xs_h (xs_r (xs_r (xs_r (xs_h (xs_h (xs_r xs_n))))))))) (R_X12_chanceOf_b92 K_X12_chanceOf ih hdp hq _ _ _ _ _ _ _ _ _ _ hF)
    · have hF := x_f hF (not_not_intro c39)
      refine g_goto 96 d_X12_chanceOf_42 rfl ?_
      refine q_iinc (1) [.ref x0, .int x1, xhole, .int x3, .int x4, .int x5, .long x6, xhole, .int (x8 + 1)] d_X12_chanceOf_96 ic_1 rfl (by decide) rfl ?_
      refine g_goto 20 d_X12_chanceOf_99 rfl ?_
      exact q_to (xs_r (xs_r (xs_h (xs_r (xs_r (xs_r (xs_r (xs_h (xs_r xs_n))))))))) (ih _ _ _ _ _ _ _ _ hF)
def F_X12_chanceOf (f_X12_chanceOf : Nat → Int32 → Int32 → Int32 → Int32 → xH → Option (Int64 × xH)) (x0 : Nat) (x1 : Int32) (x2 : Int32) (x3 : Int32) (x4 : Int32) (h : xH) : Option (Int64 × xH) := if ¬ x4 = 0 then (rc h x0 11).bind fun _ => (F_X12_steppedTo x0 x2 h).bind fun z9 => F_X12_chanceOf_b20 f_X12_chanceOf FU x0 x1 x3 x4 z9.1 0 0 z9.2 else some (0, h)
theorem R_X12_chanceOf {Γ : xG} {l : Launch} {d : Nat} {r : Int64} {h' : xH} {f_X12_chanceOf : Nat → Int32 → Int32 → Int32 → Int32 → xH → Option (Int64 × xH)} (K_X12_chanceOf : ∀ (y0 : Nat) (y1 : Int32) (y2 : Int32) (y3 : Int32) (y4 : Int32) (u : xH) (q : Int64) (u' : xH), f_X12_chanceOf y0 y1 y2 y3 y4 u = some (q, u') → Gm Γ l (d - 1) 0 0 m_X12_chanceOf [.ref y0, .int y1, .int y2, .int y3, .int y4] u (fun a w => a = some (.long q) ∧ w = u')) (x0 : Nat) (x1 : Int32) (x2 : Int32) (x3 : Int32) (x4 : Int32) (h : xH) (hdp : 2 ≤ d) (hF : F_X12_chanceOf f_X12_chanceOf x0 x1 x2 x3 x4 h = some (r, h')) : Gm Γ l d 0 0 m_X12_chanceOf [.ref x0, .int x1, .int x2, .int x3, .int x4] h (fun a u => a = some (.long r) ∧ u = h') := by
  refine Gm.of pn_X12 (Nat.le_of_ble_eq_true rfl) ?_
  show Gd Γ l d m_X12_chanceOf 0 [.ref x0, .int x1, .int x2, .int x3, .int x4, xhole, xhole, xhole, xhole] [] h 0 0 _
  generalize hQ : (fun (a : Option Value) (u : xH) => a = some (.long r) ∧ u = h') = Q
  have hq : Q (some (.long r)) h' := by rw [← hQ]; exact ⟨rfl, rfl⟩
  clear hQ
  unfold F_X12_chanceOf at hF
  refine g_iload d_X12_chanceOf_0 rfl ?_
  refine g_if_ne 7 d_X12_chanceOf_2 rfl (fun c2 => ?_) (fun c2 => ?_)
  · have hF := x_t hF c2
    refine g_aloadn d_X12_chanceOf_7 rfl ?_
    refine g_iloadn d_X12_chanceOf_8 rfl ?_
    obtain ⟨_, g9, hF⟩ := Option.bind_eq_some_iff.mp hF
    obtain ⟨⟨r9, h9⟩, e9, hF⟩ := Option.bind_eq_some_iff.mp hF
    try dsimp only at hF
    refine q_callV [.int x2] [] rfl d_X12_chanceOf_9 v_X12_436 (by omega) rfl (Nat.le_of_ble_eq_true rfl) (rc_rc g9 (by decide) rfl) (R_X12_steppedTo _ _ _ (by omega) e9) ?_
    refine q_istore [.ref x0, .int x1, .int x2, .int x3, .int x4, .int (r9), xhole, xhole, xhole] d_X12_chanceOf_12 (by decide) rfl ?_
    refine g_lc 0 d_X12_chanceOf_14 rfl ?_
    refine q_lstore [.ref x0, .int x1, .int x2, .int x3, .int x4, .int (r9), .long 0, xhole, xhole] d_X12_chanceOf_15 (by decide) rfl ?_
    refine g_ic (0) d_X12_chanceOf_17 ic_0 ?_
    refine q_istore [.ref x0, .int x1, .int x2, .int x3, .int x4, .int (r9), .long 0, xhole, .int 0] d_X12_chanceOf_18 (by decide) rfl ?_
    exact q_to (xs_r (xs_r (xs_h (xs_r (xs_r (xs_r (xs_r (xs_h (xs_r xs_n))))))))) (R_X12_chanceOf_b20 K_X12_chanceOf hdp hq FU _ _ _ _ _ _ _ _ hF)
  · have hF := x_f hF (not_not_intro c2)
    refine g_lc 0 d_X12_chanceOf_5 rfl ?_
    obtain ⟨rfl, rfl⟩ := x_inj hF
    exact g_lret d_X12_chanceOf_6 rfl hq
def G_X12_chanceOf : Nat → (Nat → Int32 → Int32 → Int32 → Int32 → xH → Option (Int64 × xH))
  | 0 => (fun _ _ _ _ _ _ => none)
  | n + 1 => (F_X12_chanceOf (G_X12_chanceOf n))
def C_X12_chanceOf (n : Nat) : Nat → Int32 → Int32 → Int32 → Int32 → xH → Option (Int64 × xH) := (G_X12_chanceOf n)
theorem RG_X12_chanceOf {Γ : xG} {l : Launch} : ∀ (n d : Nat), 2 + n ≤ d → (∀ (y0 : Nat) (y1 : Int32) (y2 : Int32) (y3 : Int32) (y4 : Int32) (u : xH) (q : Int64) (u' : xH), (G_X12_chanceOf n) y0 y1 y2 y3 y4 u = some (q, u') → Gm Γ l d 0 0 m_X12_chanceOf [.ref y0, .int y1, .int y2, .int y3, .int y4] u (fun a w => a = some (.long q) ∧ w = u')) := by
  intro n
  induction n with
  | zero => intro d hd; exact (fun _ _ _ _ _ _ _ _ hF => by cases (show (none : Option (Int64 × xH)) = some _ from hF))
  | succ n ih =>
  intro d hd
  have H := ih (d - 1) (by omega)
  exact (fun y0 y1 y2 y3 y4 u q u' hF => R_X12_chanceOf (H) y0 y1 y2 y3 y4 u (by omega) hF)
theorem RC_X12_chanceOf {Γ : xG} {l : Launch} {d : Nat} {q : Int64} {u' : xH} (n : Nat) (y0 : Nat) (y1 : Int32) (y2 : Int32) (y3 : Int32) (y4 : Int32) (u : xH) (hd : 2 + n ≤ d) (hF : C_X12_chanceOf n y0 y1 y2 y3 y4 u = some (q, u')) : Gm Γ l d 0 0 m_X12_chanceOf [.ref y0, .int y1, .int y2, .int y3, .int y4] u (fun a w => a = some (.long q) ∧ w = u') := (RG_X12_chanceOf n d hd) y0 y1 y2 y3 y4 u q u' hF
theorem d_X12_chanceNow_0 : decode cX12_chanceNow 0 = .ok (.aload_n 0, 1) := by decide +kernel
theorem d_X12_chanceNow_1 : decode cX12_chanceNow 1 = .ok (.iload_n 1, 1) := by decide +kernel
theorem d_X12_chanceNow_2 : decode cX12_chanceNow 2 = .ok (.invokevirtual 232, 3) := by decide +kernel
theorem d_X12_chanceNow_5 : decode cX12_chanceNow 5 = .ok (.ifCond .eq 10, 3) := by decide +kernel
theorem d_X12_chanceNow_8 : decode cX12_chanceNow 8 = .ok (.iload_n 2, 1) := by decide +kernel
theorem d_X12_chanceNow_9 : decode cX12_chanceNow 9 = .ok (.invokestatic 450, 3) := by decide +kernel
theorem d_X12_chanceNow_12 : decode cX12_chanceNow 12 = .ok (.goto 25, 3) := by decide +kernel
theorem d_X12_chanceNow_15 : decode cX12_chanceNow 15 = .ok (.aload_n 0, 1) := by decide +kernel
theorem d_X12_chanceNow_16 : decode cX12_chanceNow 16 = .ok (.iload_n 1, 1) := by decide +kernel
theorem d_X12_chanceNow_17 : decode cX12_chanceNow 17 = .ok (.aload_n 0, 1) := by decide +kernel
theorem d_X12_chanceNow_18 : decode cX12_chanceNow 18 = .ok (.getfield 13, 3) := by decide +kernel
theorem d_X12_chanceNow_21 : decode cX12_chanceNow 21 = .ok (.bipush 109, 2) := by decide +kernel
theorem d_X12_chanceNow_23 : decode cX12_chanceNow 23 = .ok (.iload_n 1, 1) := by decide +kernel
theorem d_X12_chanceNow_24 : decode cX12_chanceNow 24 = .ok (.iadd, 1) := by decide +kernel
theorem d_X12_chanceNow_25 : decode cX12_chanceNow 25 = .ok (.iaload, 1) := by decide +kernel
theorem d_X12_chanceNow_26 : decode cX12_chanceNow 26 = .ok (.aload_n 0, 1) := by decide +kernel
theorem d_X12_chanceNow_27 : decode cX12_chanceNow 27 = .ok (.getfield 13, 3) := by decide +kernel
theorem d_X12_chanceNow_30 : decode cX12_chanceNow 30 = .ok (.bipush 107, 2) := by decide +kernel
theorem d_X12_chanceNow_32 : decode cX12_chanceNow 32 = .ok (.iaload, 1) := by decide +kernel
theorem d_X12_chanceNow_33 : decode cX12_chanceNow 33 = .ok (.iload_n 2, 1) := by decide +kernel
theorem d_X12_chanceNow_34 : decode cX12_chanceNow 34 = .ok (.invokevirtual 454, 3) := by decide +kernel
theorem d_X12_chanceNow_37 : decode cX12_chanceNow 37 = .ok (.lreturn, 1) := by decide +kernel
def F_X12_chanceNow (x0 : Nat) (x1 : Int32) (x2 : Int32) (h : xH) : Option (Int64 × xH) := (rc h x0 11).bind fun _ => (F_X12_hasFound x0 x1 h).bind fun z2 => if z2.1 = 0 then (fR z2.2 x0 11 1).bind fun v18 => (aI z2.2 v18 (((109 : Int32)) + x1)).bind fun v25 => (fR z2.2 x0 11 1).bind fun v27 => (aI z2.2 v27 107).bind fun v32 => (rc z2.2 x0 11).bind fun _ => (C_X12_chanceOf 100 x0 x1 v25 v32 x2 z2.2).bind fun z34 => some (z34.1, z34.2) else (F_X12_wholeOf x2 z2.2).bind fun z9 => some (z9.1, z9.2)
theorem R_X12_chanceNow {Γ : xG} {l : Launch} {d : Nat} {r : Int64} {h' : xH} (x0 : Nat) (x1 : Int32) (x2 : Int32) (h : xH) (hdp : 103 ≤ d) (hF : F_X12_chanceNow x0 x1 x2 h = some (r, h')) : Gm Γ l d 0 0 m_X12_chanceNow [.ref x0, .int x1, .int x2] h (fun a u => a = some (.long r) ∧ u = h') := by
  refine Gm.of pn_X12 (Nat.le_of_ble_eq_true rfl) ?_
  show Gd Γ l d m_X12_chanceNow 0 [.ref x0, .int x1, .int x2] [] h 0 0 _
  generalize hQ : (fun (a : Option Value) (u : xH) => a = some (.long r) ∧ u = h') = Q
  have hq : Q (some (.long r)) h' := by rw [← hQ]; exact ⟨rfl, rfl⟩
  clear hQ
  unfold F_X12_chanceNow at hF
  refine g_aloadn d_X12_chanceNow_0 rfl ?_
  refine g_iloadn d_X12_chanceNow_1 rfl ?_
  obtain ⟨_, g2, hF⟩ := Option.bind_eq_some_iff.mp hF
  obtain ⟨⟨r2, h2⟩, e2, hF⟩ := Option.bind_eq_some_iff.mp hF
  try dsimp only at hF
  refine q_callV [.int x1] [] rfl d_X12_chanceNow_2 v_X12_232 (by omega) rfl (Nat.le_of_ble_eq_true rfl) (rc_rc g2 (by decide) rfl) (R_X12_hasFound _ _ _ (by omega) e2) ?_
  refine g_if_eq 15 d_X12_chanceNow_5 rfl (fun c5 => ?_) (fun c5 => ?_)
  · have hF := x_t hF c5
    refine g_aloadn d_X12_chanceNow_15 rfl ?_
    refine g_iloadn d_X12_chanceNow_16 rfl ?_
    refine g_aloadn d_X12_chanceNow_17 rfl ?_
    obtain ⟨v18, e18, hF⟩ := Option.bind_eq_some_iff.mp hF
    refine q_fR d_X12_chanceNow_18 f_X12_13 e18 ?_
    refine g_bi (109) d_X12_chanceNow_21 bi_109 ?_
    refine g_iloadn d_X12_chanceNow_23 rfl ?_
    refine g_iadd d_X12_chanceNow_24 ?_
    obtain ⟨v25, e25, hF⟩ := Option.bind_eq_some_iff.mp hF
    refine q_aI d_X12_chanceNow_25 e25 ?_
    refine g_aloadn d_X12_chanceNow_26 rfl ?_
    obtain ⟨v27, e27, hF⟩ := Option.bind_eq_some_iff.mp hF
    refine q_fR d_X12_chanceNow_27 f_X12_13 e27 ?_
    refine g_bi (107) d_X12_chanceNow_30 bi_107 ?_
    obtain ⟨v32, e32, hF⟩ := Option.bind_eq_some_iff.mp hF
    refine q_aI d_X12_chanceNow_32 e32 ?_
    refine g_iloadn d_X12_chanceNow_33 rfl ?_
    obtain ⟨_, g34, hF⟩ := Option.bind_eq_some_iff.mp hF
    obtain ⟨⟨r34, h34⟩, e34, hF⟩ := Option.bind_eq_some_iff.mp hF
    try dsimp only at hF
    refine q_callV [.int x1, .int v25, .int v32, .int x2] [] rfl d_X12_chanceNow_34 v_X12_454 (by omega) rfl (Nat.le_of_ble_eq_true rfl) (rc_rc g34 (by decide) rfl) (RC_X12_chanceOf 100 _ _ _ _ _ _ (by omega) e34) ?_
    obtain ⟨rfl, rfl⟩ := x_inj hF
    exact g_lret d_X12_chanceNow_37 rfl hq
  · have hF := x_f hF c5
    refine g_iloadn d_X12_chanceNow_8 rfl ?_
    obtain ⟨⟨r9, h9⟩, e9, hF⟩ := Option.bind_eq_some_iff.mp hF
    try dsimp only at hF
    refine q_callS [.int x2] [] rfl d_X12_chanceNow_9 s_X12_450 (by omega) rfl (Nat.le_of_ble_eq_true rfl) (R_X12_wholeOf _ _ (by omega) e9) ?_
    refine g_goto 37 d_X12_chanceNow_12 rfl ?_
    obtain ⟨rfl, rfl⟩ := x_inj hF
    exact g_lret d_X12_chanceNow_37 rfl hq
theorem d_X12_common_0 : decode cX12_common 0 = .ok (.lload_n 2, 1) := by decide +kernel
theorem d_X12_common_1 : decode cX12_common 1 = .ok (.lconst 0, 1) := by decide +kernel
theorem d_X12_common_2 : decode cX12_common 2 = .ok (.lcmp, 1) := by decide +kernel
theorem d_X12_common_3 : decode cX12_common 3 = .ok (.ifCond .ne 7, 3) := by decide +kernel
theorem d_X12_common_6 : decode cX12_common 6 = .ok (.lload_n 0, 1) := by decide +kernel
theorem d_X12_common_7 : decode cX12_common 7 = .ok (.goto 10, 3) := by decide +kernel
theorem d_X12_common_10 : decode cX12_common 10 = .ok (.lload_n 2, 1) := by decide +kernel
theorem d_X12_common_11 : decode cX12_common 11 = .ok (.lload_n 0, 1) := by decide +kernel
theorem d_X12_common_12 : decode cX12_common 12 = .ok (.lload_n 2, 1) := by decide +kernel
theorem d_X12_common_13 : decode cX12_common 13 = .ok (.lrem, 1) := by decide +kernel
theorem d_X12_common_14 : decode cX12_common 14 = .ok (.invokestatic 458, 3) := by decide +kernel
theorem d_X12_common_17 : decode cX12_common 17 = .ok (.lreturn, 1) := by decide +kernel
def F_X12_common (f_X12_common : Int64 → Int64 → xH → Option (Int64 × xH)) (x0 : Int64) (x2 : Int64) (h : xH) : Option (Int64 × xH) := if ¬ (lg_cmp x2 0) = 0 then if x2 = 0 then none else (f_X12_common x2 (lrm x0 x2) h).bind fun z14 => some (z14.1, z14.2) else some (x0, h)
theorem R_X12_common {Γ : xG} {l : Launch} {d : Nat} {r : Int64} {h' : xH} {f_X12_common : Int64 → Int64 → xH → Option (Int64 × xH)} (K_X12_common : ∀ (y0 : Int64) (y1 : Int64) (u : xH) (q : Int64) (u' : xH), f_X12_common y0 y1 u = some (q, u') → Gm Γ l (d - 1) 0 0 m_X12_common [.long y0, .long y1] u (fun a w => a = some (.long q) ∧ w = u')) (x0 : Int64) (x2 : Int64) (h : xH) (hdp : 1 ≤ d) (hF : F_X12_common f_X12_common x0 x2 h = some (r, h')) : Gm Γ l d 0 0 m_X12_common [.long x0, .long x2] h (fun a u => a = some (.long r) ∧ u = h') := by
  refine Gm.of pn_X12 (Nat.le_of_ble_eq_true rfl) ?_
  show Gd Γ l d m_X12_common 0 [.long x0, xhole, .long x2, xhole] [] h 0 0 _
  generalize hQ : (fun (a : Option Value) (u : xH) => a = some (.long r) ∧ u = h') = Q
  have hq : Q (some (.long r)) h' := by rw [← hQ]; exact ⟨rfl, rfl⟩
  clear hQ
  unfold F_X12_common at hF
  refine g_lloadn d_X12_common_0 rfl ?_
  refine g_lc 0 d_X12_common_1 rfl ?_
  refine g_lcmp d_X12_common_2 ?_
  refine g_if_ne 10 d_X12_common_3 rfl (fun c3 => ?_) (fun c3 => ?_)
  · have hF := x_t hF c3
    refine g_lloadn d_X12_common_10 rfl ?_
    refine g_lloadn d_X12_common_11 rfl ?_
    refine g_lloadn d_X12_common_12 rfl ?_
    rcases x_nz hF with ⟨z13, hF⟩
    refine q_lrem d_X12_common_13 z13 ?_
    obtain ⟨⟨r14, h14⟩, e14, hF⟩ := Option.bind_eq_some_iff.mp hF
    try dsimp only at hF
    refine q_callS [.long x2, .long (lrm x0 x2)] [] rfl d_X12_common_14 s_X12_458 (by omega) rfl (Nat.le_of_ble_eq_true rfl) (K_X12_common _ _ _ _ _ e14) ?_
    obtain ⟨rfl, rfl⟩ := x_inj hF
    exact g_lret d_X12_common_17 rfl hq
  · have hF := x_f hF (not_not_intro c3)
    refine g_lloadn d_X12_common_6 rfl ?_
    refine g_goto 17 d_X12_common_7 rfl ?_
    obtain ⟨rfl, rfl⟩ := x_inj hF
    exact g_lret d_X12_common_17 rfl hq
def G_X12_common : Nat → (Int64 → Int64 → xH → Option (Int64 × xH))
  | 0 => (fun _ _ _ => none)
  | n + 1 => (F_X12_common (G_X12_common n))
def C_X12_common (n : Nat) : Int64 → Int64 → xH → Option (Int64 × xH) := (G_X12_common n)
theorem RG_X12_common {Γ : xG} {l : Launch} : ∀ (n d : Nat), 1 + n ≤ d → (∀ (y0 : Int64) (y1 : Int64) (u : xH) (q : Int64) (u' : xH), (G_X12_common n) y0 y1 u = some (q, u') → Gm Γ l d 0 0 m_X12_common [.long y0, .long y1] u (fun a w => a = some (.long q) ∧ w = u')) := by
  intro n
  induction n with
  | zero => intro d hd; exact (fun _ _ _ _ _ hF => by cases (show (none : Option (Int64 × xH)) = some _ from hF))
  | succ n ih =>
  intro d hd
  have H := ih (d - 1) (by omega)
  exact (fun y0 y1 u q u' hF => R_X12_common (H) y0 y1 u (by omega) hF)
theorem RC_X12_common {Γ : xG} {l : Launch} {d : Nat} {q : Int64} {u' : xH} (n : Nat) (y0 : Int64) (y1 : Int64) (u : xH) (hd : 1 + n ≤ d) (hF : C_X12_common n y0 y1 u = some (q, u')) : Gm Γ l d 0 0 m_X12_common [.long y0, .long y1] u (fun a w => a = some (.long q) ∧ w = u') := (RG_X12_common n d hd) y0 y1 u q u' hF
theorem d_X12_chance_0 : decode cX12_chance 0 = .ok (.aload_n 0, 1) := by decide +kernel
theorem d_X12_chance_1 : decode cX12_chance 1 = .ok (.iconst 0, 1) := by decide +kernel
theorem d_X12_chance_2 : decode cX12_chance 2 = .ok (.putfield 1, 3) := by decide +kernel
theorem d_X12_chance_5 : decode cX12_chance 5 = .ok (.aload_n 0, 1) := by decide +kernel
theorem d_X12_chance_6 : decode cX12_chance 6 = .ok (.iload_n 1, 1) := by decide +kernel
theorem d_X12_chance_7 : decode cX12_chance 7 = .ok (.i2l, 1) := by decide +kernel
theorem d_X12_chance_8 : decode cX12_chance 8 = .ok (.invokevirtual 246, 3) := by decide +kernel
theorem d_X12_chance_11 : decode cX12_chance 11 = .ok (.ifCond .eq 13, 3) := by decide +kernel
theorem d_X12_chance_14 : decode cX12_chance 14 = .ok (.iload_n 3, 1) := by decide +kernel
theorem d_X12_chance_15 : decode cX12_chance 15 = .ok (.i2l, 1) := by decide +kernel
theorem d_X12_chance_16 : decode cX12_chance 16 = .ok (.lconst 0, 1) := by decide +kernel
theorem d_X12_chance_17 : decode cX12_chance 17 = .ok (.lconst 1, 1) := by decide +kernel
theorem d_X12_chance_18 : decode cX12_chance 18 = .ok (.invokestatic 148, 3) := by decide +kernel
theorem d_X12_chance_21 : decode cX12_chance 21 = .ok (.ifCond .ne 7, 3) := by decide +kernel
theorem d_X12_chance_24 : decode cX12_chance 24 = .ok (.ldc2_w 462, 3) := by decide +kernel
theorem d_X12_chance_27 : decode cX12_chance 27 = .ok (.lreturn, 1) := by decide +kernel
theorem d_X12_chance_28 : decode cX12_chance 28 = .ok (.iload_n 2, 1) := by decide +kernel
theorem d_X12_chance_29 : decode cX12_chance 29 = .ok (.i2l, 1) := by decide +kernel
theorem d_X12_chance_30 : decode cX12_chance 30 = .ok (.lconst 0, 1) := by decide +kernel
theorem d_X12_chance_31 : decode cX12_chance 31 = .ok (.ldc2_w 373, 3) := by decide +kernel
theorem d_X12_chance_34 : decode cX12_chance 34 = .ok (.invokestatic 148, 3) := by decide +kernel
theorem d_X12_chance_37 : decode cX12_chance 37 = .ok (.ifCond .ne 7, 3) := by decide +kernel
theorem d_X12_chance_40 : decode cX12_chance 40 = .ok (.ldc2_w 431, 3) := by decide +kernel
theorem d_X12_chance_43 : decode cX12_chance 43 = .ok (.lreturn, 1) := by decide +kernel
theorem d_X12_chance_44 : decode cX12_chance 44 = .ok (.aload_n 0, 1) := by decide +kernel
theorem d_X12_chance_45 : decode cX12_chance 45 = .ok (.iload_n 1, 1) := by decide +kernel
theorem d_X12_chance_46 : decode cX12_chance 46 = .ok (.iload_n 2, 1) := by decide +kernel
theorem d_X12_chance_47 : decode cX12_chance 47 = .ok (.invokevirtual 464, 3) := by decide +kernel
theorem d_X12_chance_50 : decode cX12_chance 50 = .ok (.lstore 4, 2) := by decide +kernel
theorem d_X12_chance_52 : decode cX12_chance 52 = .ok (.iload_n 3, 1) := by decide +kernel
theorem d_X12_chance_53 : decode cX12_chance 53 = .ok (.ifCond .ne 8, 3) := by decide +kernel
theorem d_X12_chance_56 : decode cX12_chance 56 = .ok (.lload 4, 2) := by decide +kernel
theorem d_X12_chance_58 : decode cX12_chance 58 = .ok (.goto 7, 3) := by decide +kernel
theorem d_X12_chance_61 : decode cX12_chance 61 = .ok (.iload_n 2, 1) := by decide +kernel
theorem d_X12_chance_62 : decode cX12_chance 62 = .ok (.invokestatic 450, 3) := by decide +kernel
theorem d_X12_chance_65 : decode cX12_chance 65 = .ok (.lload 4, 2) := by decide +kernel
theorem d_X12_chance_67 : decode cX12_chance 67 = .ok (.iload_n 2, 1) := by decide +kernel
theorem d_X12_chance_68 : decode cX12_chance 68 = .ok (.invokestatic 450, 3) := by decide +kernel
theorem d_X12_chance_71 : decode cX12_chance 71 = .ok (.invokestatic 458, 3) := by decide +kernel
theorem d_X12_chance_74 : decode cX12_chance 74 = .ok (.ldiv, 1) := by decide +kernel
theorem d_X12_chance_75 : decode cX12_chance 75 = .ok (.lreturn, 1) := by decide +kernel
def F_X12_chance_b65 (x2 : Int32) (x4 : Int64) (s0 : Int64) (h : xH) : Option (Int64 × xH) := (F_X12_wholeOf x2 h).bind fun z68 => (C_X12_common 100 x4 z68.1 z68.2).bind fun z71 => if z71.1 = 0 then none else some (ldv s0 z71.1, z71.2)
theorem R_X12_chance_b65 {Γ : xG} {l : Launch} {d : Nat} {Q : Option Value → xH → Prop} {r : Int64} {h' : xH} (hdp : 104 ≤ d) (hq : Q (some (.long r)) h') : ∀ (x2 : Int32) (x4 : Int64) (s0 : Int64) (h : xH), F_X12_chance_b65 x2 x4 s0 h = some (r, h') → Gd Γ l d m_X12_chance 65 [xhole, xhole, .int x2, xhole, .long x4, xhole] [.long s0] h 0 0 Q := by
  intro x2 x4 s0 h hF
  unfold F_X12_chance_b65 at hF
  refine g_lload d_X12_chance_65 rfl ?_
  refine g_iloadn d_X12_chance_67 rfl ?_
  obtain ⟨⟨r68, h68⟩, e68, hF⟩ := Option.bind_eq_some_iff.mp hF
  try dsimp only at hF
  refine q_callS [.int x2] [.long x4, .long s0] rfl d_X12_chance_68 s_X12_450 (by omega) rfl (Nat.le_of_ble_eq_true rfl) (R_X12_wholeOf _ _ (by omega) e68) ?_
  obtain ⟨⟨r71, h71⟩, e71, hF⟩ := Option.bind_eq_some_iff.mp hF
  try dsimp only at hF
  refine q_callS [.long x4, .long (r68)] [.long s0] rfl d_X12_chance_71 s_X12_458 (by omega) rfl (Nat.le_of_ble_eq_true rfl) (RC_X12_common 100 _ _ _ (by omega) e71) ?_
  rcases x_nz hF with ⟨z74, hF⟩
  refine q_ldiv d_X12_chance_74 z74 ?_
  obtain ⟨rfl, rfl⟩ := x_inj hF
  exact g_lret d_X12_chance_75 rfl hq
def F_X12_chance (x0 : Nat) (x1 : Int32) (x2 : Int32) (x3 : Int32) (h : xH) : Option (Int64 × xH) := (wI h x0 11 0 0).bind fun h2 => (rc h2 x0 11).bind fun _ => (F_X12_isPerson x0 x1.toInt64 h2).bind fun z8 => if z8.1 = 0 then some ((-2), z8.2) else (F_X12_within x3.toInt64 0 1 z8.2).bind fun z18 => if ¬ z18.1 = 0 then (F_X12_within x2.toInt64 0 6 z18.2).bind fun z34 => if ¬ z34.1 = 0 then (rc z34.2 x0 11).bind fun _ => (F_X12_chanceNow x0 x1 x2 z34.2).bind fun z47 => if ¬ x3 = 0 then (F_X12_wholeOf x2 z47.2).bind fun z62 => F_X12_chance_b65 x2 z47.1 z62.1 z62.2 else F_X12_chance_b65 x2 z47.1 z47.1 z47.2 else some ((-3), z34.2) else some ((-2), z18.2)
theorem R_X12_chance {Γ : xG} {l : Launch} {d : Nat} {r : Int64} {h' : xH} (x0 : Nat) (x1 : Int32) (x2 : Int32) (x3 : Int32) (h : xH) (hdp : 104 ≤ d) (hF : F_X12_chance x0 x1 x2 x3 h = some (r, h')) : Gm Γ l d 0 0 m_X12_chance [.ref x0, .int x1, .int x2, .int x3] h (fun a u => a = some (.long r) ∧ u = h') := by
  refine Gm.of pn_X12 (Nat.le_of_ble_eq_true rfl) ?_
  show Gd Γ l d m_X12_chance 0 [.ref x0, .int x1, .int x2, .int x3, xhole, xhole] [] h 0 0 _
  generalize hQ : (fun (a : Option Value) (u : xH) => a = some (.long r) ∧ u = h') = Q
  have hq : Q (some (.long r)) h' := by rw [← hQ]; exact ⟨rfl, rfl⟩
  clear hQ
  unfold F_X12_chance at hF
  refine g_aloadn d_X12_chance_0 rfl ?_
  refine g_ic (0) d_X12_chance_1 ic_0 ?_
  obtain ⟨h2, e2, hF⟩ := Option.bind_eq_some_iff.mp hF
  refine q_wI d_X12_chance_2 (w_X12_1 _) e2 ?_
  refine g_aloadn d_X12_chance_5 rfl ?_
  refine g_iloadn d_X12_chance_6 rfl ?_
  refine g_i2l d_X12_chance_7 ?_
  obtain ⟨_, g8, hF⟩ := Option.bind_eq_some_iff.mp hF
  obtain ⟨⟨r8, h8⟩, e8, hF⟩ := Option.bind_eq_some_iff.mp hF
  try dsimp only at hF
  refine q_callV [.long (x1.toInt64)] [] rfl d_X12_chance_8 v_X12_246 (by omega) rfl (Nat.le_of_ble_eq_true rfl) (rc_rc g8 (by decide) rfl) (R_X12_isPerson _ _ _ (by omega) e8) ?_
  refine g_if_eq 24 d_X12_chance_11 rfl (fun c11 => ?_) (fun c11 => ?_)
  · have hF := x_t hF c11
    refine g_ldc2 d_X12_chance_24 k_X12_462 ?_
    obtain ⟨rfl, rfl⟩ := x_inj hF
    exact g_lret d_X12_chance_27 rfl hq
  · have hF := x_f hF c11
    refine g_iloadn d_X12_chance_14 rfl ?_
    refine g_i2l d_X12_chance_15 ?_
    refine g_lc 0 d_X12_chance_16 rfl ?_
    refine g_lc 1 d_X12_chance_17 rfl ?_
    obtain ⟨⟨r18, h18⟩, e18, hF⟩ := Option.bind_eq_some_iff.mp hF
    try dsimp only at hF
    refine q_callS [.long (x3.toInt64), .long 0, .long 1] [] rfl d_X12_chance_18 s_X12_148 (by omega) rfl (Nat.le_of_ble_eq_true rfl) (R_X12_within _ _ _ _ (by omega) e18) ?_
    refine g_if_ne 28 d_X12_chance_21 rfl (fun c21 => ?_) (fun c21 => ?_)
    · have hF := x_t hF c21
      refine g_iloadn d_X12_chance_28 rfl ?_
      refine g_i2l d_X12_chance_29 ?_
      refine g_lc 0 d_X12_chance_30 rfl ?_
      refine g_ldc2 d_X12_chance_31 k_X12_373 ?_
      obtain ⟨⟨r34, h34⟩, e34, hF⟩ := Option.bind_eq_some_iff.mp hF
      try dsimp only at hF
      refine q_callS [.long (x2.toInt64), .long 0, .long 6] [] rfl d_X12_chance_34 s_X12_148 (by omega) rfl (Nat.le_of_ble_eq_true rfl) (R_X12_within _ _ _ _ (by omega) e34) ?_
      refine g_if_ne 44 d_X12_chance_37 rfl (fun c37 => ?_) (fun c37 => ?_)
      · have hF := x_t hF c37
        refine g_aloadn d_X12_chance_44 rfl ?_
        refine g_iloadn d_X12_chance_45 rfl ?_
        refine g_iloadn d_X12_chance_46 rfl ?_
        obtain ⟨_, g47, hF⟩ := Option.bind_eq_some_iff.mp hF
        obtain ⟨⟨r47, h47⟩, e47, hF⟩ := Option.bind_eq_some_iff.mp hF
        try dsimp only at hF
        refine q_callV [.int x1, .int x2] [] rfl d_X12_chance_47 v_X12_464 (by omega) rfl (Nat.le_of_ble_eq_true rfl) (rc_rc g47 (by decide) rfl) (R_X12_chanceNow _ _ _ _ (by omega) e47) ?_
        refine q_lstore [.ref x0, .int x1, .int x2, .int x3, .long (r47), xhole] d_X12_chance_50 (by decide) rfl ?_
        refine g_iloadn d_X12_chance_52 rfl ?_
        refine g_if_ne 61 d_X12_chance_53 rfl (fun c53 => ?_) (fun c53 => ?_)
        · have hF := x_t hF c53
          refine g_iloadn d_X12_chance_61 rfl ?_
          obtain ⟨⟨r62, h62⟩, e62, hF⟩ := Option.bind_eq_some_iff.mp hF
          try dsimp only at hF
          refine q_callS [.int x2] [] rfl d_X12_chance_62 s_X12_450 (by omega) rfl (Nat.le_of_ble_eq_true rfl) (R_X12_wholeOf _ _ (by omega) e62) ?_
          exact q_to (xs_h (xs_h (xs_r (xs_h (xs_r (xs_h xs_n)))))) (R_X12_chance_b65 hdp hq _ _ _ _ hF)
        · have hF := x_f hF (not_not_intro c53)
          refine g_lload d_X12_chance_56 rfl ?_
          refine g_goto 65 d_X12_chance_58 rfl ?_
          exact q_to (xs_h (xs_h (xs_r (xs_h (xs_r (xs_h xs_n)))))) (R_X12_chance_b65 hdp hq _ _ _ _ hF)
      · have hF := x_f hF (not_not_intro c37)
        refine g_ldc2 d_X12_chance_40 k_X12_431 ?_
        obtain ⟨rfl, rfl⟩ := x_inj hF
        exact g_lret d_X12_chance_43 rfl hq
    · have hF := x_f hF (not_not_intro c21)
      refine g_ldc2 d_X12_chance_24 k_X12_462 ?_
      obtain ⟨rfl, rfl⟩ := x_inj hF
      exact g_lret d_X12_chance_27 rfl hq
theorem d_X12_likeliest_0 : decode cX12_likeliest 0 = .ok (.aload_n 0, 1) := by decide +kernel
theorem d_X12_likeliest_1 : decode cX12_likeliest 1 = .ok (.iconst 0, 1) := by decide +kernel
theorem d_X12_likeliest_2 : decode cX12_likeliest 2 = .ok (.putfield 1, 3) := by decide +kernel
theorem d_X12_likeliest_5 : decode cX12_likeliest 5 = .ok (.iload_n 1, 1) := by decide +kernel
theorem d_X12_likeliest_6 : decode cX12_likeliest 6 = .ok (.i2l, 1) := by decide +kernel
theorem d_X12_likeliest_7 : decode cX12_likeliest 7 = .ok (.lconst 0, 1) := by decide +kernel
theorem d_X12_likeliest_8 : decode cX12_likeliest 8 = .ok (.ldc2_w 373, 3) := by decide +kernel
theorem d_X12_likeliest_11 : decode cX12_likeliest 11 = .ok (.invokestatic 148, 3) := by decide +kernel
theorem d_X12_likeliest_14 : decode cX12_likeliest 14 = .ok (.ifCond .ne 6, 3) := by decide +kernel
theorem d_X12_likeliest_17 : decode cX12_likeliest 17 = .ok (.bipush (-3), 2) := by decide +kernel
theorem d_X12_likeliest_19 : decode cX12_likeliest 19 = .ok (.ireturn, 1) := by decide +kernel
theorem d_X12_likeliest_20 : decode cX12_likeliest 20 = .ok (.iconst (-1), 1) := by decide +kernel
theorem d_X12_likeliest_21 : decode cX12_likeliest 21 = .ok (.istore_n 2, 1) := by decide +kernel
theorem d_X12_likeliest_22 : decode cX12_likeliest 22 = .ok (.iconst 0, 1) := by decide +kernel
theorem d_X12_likeliest_23 : decode cX12_likeliest 23 = .ok (.istore_n 3, 1) := by decide +kernel
theorem d_X12_likeliest_24 : decode cX12_likeliest 24 = .ok (.iload_n 3, 1) := by decide +kernel
theorem d_X12_likeliest_25 : decode cX12_likeliest 25 = .ok (.aload_n 0, 1) := by decide +kernel
theorem d_X12_likeliest_26 : decode cX12_likeliest 26 = .ok (.getfield 13, 3) := by decide +kernel
theorem d_X12_likeliest_29 : decode cX12_likeliest 29 = .ok (.iconst 4, 1) := by decide +kernel
theorem d_X12_likeliest_30 : decode cX12_likeliest 30 = .ok (.iaload, 1) := by decide +kernel
theorem d_X12_likeliest_31 : decode cX12_likeliest 31 = .ok (.if_icmp .ge 40, 3) := by decide +kernel
theorem d_X12_likeliest_34 : decode cX12_likeliest 34 = .ok (.aload_n 0, 1) := by decide +kernel
theorem d_X12_likeliest_35 : decode cX12_likeliest 35 = .ok (.iload_n 3, 1) := by decide +kernel
theorem d_X12_likeliest_36 : decode cX12_likeliest 36 = .ok (.invokevirtual 232, 3) := by decide +kernel
theorem d_X12_likeliest_39 : decode cX12_likeliest 39 = .ok (.ifCond .ne 26, 3) := by decide +kernel
theorem d_X12_likeliest_42 : decode cX12_likeliest 42 = .ok (.iload_n 2, 1) := by decide +kernel
theorem d_X12_likeliest_43 : decode cX12_likeliest 43 = .ok (.iconst (-1), 1) := by decide +kernel
theorem d_X12_likeliest_44 : decode cX12_likeliest 44 = .ok (.if_icmp .eq 19, 3) := by decide +kernel
theorem d_X12_likeliest_47 : decode cX12_likeliest 47 = .ok (.aload_n 0, 1) := by decide +kernel
theorem d_X12_likeliest_48 : decode cX12_likeliest 48 = .ok (.iload_n 3, 1) := by decide +kernel
theorem d_X12_likeliest_49 : decode cX12_likeliest 49 = .ok (.iload_n 1, 1) := by decide +kernel
theorem d_X12_likeliest_50 : decode cX12_likeliest 50 = .ok (.invokevirtual 464, 3) := by decide +kernel
theorem d_X12_likeliest_53 : decode cX12_likeliest 53 = .ok (.aload_n 0, 1) := by decide +kernel
theorem d_X12_likeliest_54 : decode cX12_likeliest 54 = .ok (.iload_n 2, 1) := by decide +kernel
theorem d_X12_likeliest_55 : decode cX12_likeliest 55 = .ok (.iload_n 1, 1) := by decide +kernel
theorem d_X12_likeliest_56 : decode cX12_likeliest 56 = .ok (.invokevirtual 464, 3) := by decide +kernel
theorem d_X12_likeliest_59 : decode cX12_likeliest 59 = .ok (.lcmp, 1) := by decide +kernel
theorem d_X12_likeliest_60 : decode cX12_likeliest 60 = .ok (.ifCond .le 5, 3) := by decide +kernel
theorem d_X12_likeliest_63 : decode cX12_likeliest 63 = .ok (.iload_n 3, 1) := by decide +kernel
theorem d_X12_likeliest_64 : decode cX12_likeliest 64 = .ok (.istore_n 2, 1) := by decide +kernel
theorem d_X12_likeliest_65 : decode cX12_likeliest 65 = .ok (.iinc 3 1, 3) := by decide +kernel
theorem d_X12_likeliest_68 : decode cX12_likeliest 68 = .ok (.goto (-44), 3) := by decide +kernel
theorem d_X12_likeliest_71 : decode cX12_likeliest 71 = .ok (.iload_n 2, 1) := by decide +kernel
theorem d_X12_likeliest_72 : decode cX12_likeliest 72 = .ok (.ireturn, 1) := by decide +kernel
def F_X12_likeliest_b63 (k24 : Nat → Int32 → Int32 → Int32 → xH → Option (Int32 × xH)) (x0 : Nat) (x1 : Int32) (x3 : Int32) (h : xH) : Option (Int32 × xH) := k24 x0 x1 x3 (x3 + 1) h
theorem R_X12_likeliest_b63 {Γ : xG} {l : Launch} {d : Nat} {Q : Option Value → xH → Prop} {r : Int32} {h' : xH} {k24 : Nat → Int32 → Int32 → Int32 → xH → Option (Int32 × xH)} (K24 : ∀ (x0 : Nat) (x1 : Int32) (x2 : Int32) (x3 : Int32)  (h : xH), k24 x0 x1 x2 x3 h = some (r, h') → Gd Γ l d m_X12_likeliest 24 [.ref x0, .int x1, .int x2, .int x3] [] h 0 0 Q) (hdp : 104 ≤ d) (hq : Q (some (.int r)) h') : ∀ (x0 : Nat) (x1 : Int32) (x3 : Int32) (h : xH), F_X12_likeliest_b63 k24 x0 x1 x3 h = some (r, h') → Gd Γ l d m_X12_likeliest 63 [.ref x0, .int x1, xhole, .int x3] [] h 0 0 Q := by
  intro x0 x1 x3 h hF
  unfold F_X12_likeliest_b63 at hF
  refine g_iloadn d_X12_likeliest_63 rfl ?_
  refine q_istoren [.ref x0, .int x1, .int x3, .int x3] d_X12_likeliest_64 (by decide) rfl ?_
  refine q_iinc (1) [.ref x0, .int x1, .int x3, .int (x3 + 1)] d_X12_likeliest_65 ic_1 rfl (by decide) rfl ?_
  refine g_goto 24 d_X12_likeliest_68 rfl ?_
  exact q_to (xs_r (xs_r (xs_r (xs_r xs_n)))) (K24 _ _ _ _ _ hF)
def F_X12_likeliest_b24 : Nat → Nat → Int32 → Int32 → Int32 → xH → Option (Int32 × xH)
  | 0, _, _, _, _, _ => none
  | n + 1, x0, x1, x2, x3, h => (fR h x0 11 1).bind fun v26 => (aI h v26 4).bind fun v30 => if v30 ≤ x3 then some (x2, h) else (rc h x0 11).bind fun _ => (F_X12_hasFound x0 x3 h).bind fun z36 => if ¬ z36.1 = 0 then F_X12_likeliest_b24 n x0 x1 x2 (x3 + 1) z36.2 else if x2 = (((-1) : Int32)) then F_X12_likeliest_b63 (F_X12_likeliest_b24 n) x0 x1 x3 z36.2 else (rc z36.2 x0 11).bind fun _ => (F_X12_chanceNow x0 x3 x1 z36.2).bind fun z50 => (rc z50.2 x0 11).bind fun _ => (F_X12_chanceNow x0 x2 x1 z50.2).bind fun z56 => if (lg_cmp z50.1 z56.1) ≤ 0 then F_X12_likeliest_b24 n x0 x1 x2 (x3 + 1) z56.2 else F_X12_likeliest_b63 (F_X12_likeliest_b24 n) x0 x1 x3 z56.2
theorem R_X12_likeliest_b24 {Γ : xG} {l : Launch} {d : Nat} {Q : Option Value → xH → Prop} {r : Int32} {h' : xH} (hdp : 104 ≤ d) (hq : Q (some (.int r)) h') : ∀ (n : Nat) (x0 : Nat) (x1 : Int32) (x2 : Int32) (x3 : Int32) (h : xH), F_X12_likeliest_b24 n x0 x1 x2 x3 h = some (r, h') → Gd Γ l d m_X12_likeliest 24 [.ref x0, .int x1, .int x2, .int x3] [] h 0 0 Q := by
  intro n
  induction n with
  | zero => intro x0 x1 x2 x3 h hF; cases hF
  | succ n ih =>
  intro x0 x1 x2 x3 h hF
  rw [F_X12_likeliest_b24] at hF
  refine g_iloadn d_X12_likeliest_24 rfl ?_
  refine g_aloadn d_X12_likeliest_25 rfl ?_
  obtain ⟨v26, e26, hF⟩ := Option.bind_eq_some_iff.mp hF
  refine q_fR d_X12_likeliest_26 f_X12_13 e26 ?_
  refine g_ic (4) d_X12_likeliest_29 ic_4 ?_
  obtain ⟨v30, e30, hF⟩ := Option.bind_eq_some_iff.mp hF
  refine q_aI d_X12_likeliest_30 e30 ?_
  refine g_icmp_ge 71 d_X12_likeliest_31 rfl (fun c31 => ?_) (fun c31 => ?_)
  · have hF := x_t hF c31
    refine g_iloadn d_X12_likeliest_71 rfl ?_
    obtain ⟨rfl, rfl⟩ := x_inj hF
    exact g_iret d_X12_likeliest_72 rfl hq
  · have hF := x_f hF c31
    refine g_aloadn d_X12_likeliest_34 rfl ?_
    refine g_iloadn d_X12_likeliest_35 rfl ?_
    obtain ⟨_, g36, hF⟩ := Option.bind_eq_some_iff.mp hF
    obtain ⟨⟨r36, h36⟩, e36, hF⟩ := Option.bind_eq_some_iff.mp hF
    try dsimp only at hF
    refine q_callV [.int x3] [] rfl d_X12_likeliest_36 v_X12_232 (by omega) rfl (Nat.le_of_ble_eq_true rfl) (rc_rc g36 (by decide) rfl) (R_X12_hasFound _ _ _ (by omega) e36) ?_
    refine g_if_ne 65 d_X12_likeliest_39 rfl (fun c39 => ?_) (fun c39 => ?_)
    · have hF := x_t hF c39
      refine q_iinc (1) [.ref x0, .int x1, .int x2, .int (x3 + 1)] d_X12_likeliest_65 ic_1 rfl (by decide) rfl ?_
      refine g_goto 24 d_X12_likeliest_68 rfl ?_
      exact q_to (xs_r (xs_r (xs_r (xs_r xs_n)))) (ih _ _ _ _ _ hF)
    · have hF := x_f hF (not_not_intro c39)
      refine g_iloadn d_X12_likeliest_42 rfl ?_
      refine g_ic (-1) d_X12_likeliest_43 ic_m1 ?_
      refine g_icmp_eq 63 d_X12_likeliest_44 rfl (fun c44 => ?_) (fun c44 => ?_)
      · have hF := x_t hF c44
        exact q_to (xs_r (xs_r (xs_h (xs_r xs_n)))) (R_X12_likeliest_b63 ih hdp hq _ _ _ _ hF)
      · have hF := x_f hF c44
        refine g_aloadn d_X12_likeliest_47 rfl ?_
        refine g_iloadn d_X12_likeliest_48 rfl ?_
        refine g_iloadn d_X12_likeliest_49 rfl ?_
        obtain ⟨_, g50, hF⟩ := Option.bind_eq_some_iff.mp hF
        obtain ⟨⟨r50, h50⟩, e50, hF⟩ := Option.bind_eq_some_iff.mp hF
        try dsimp only at hF
        refine q_callV [.int x3, .int x1] [] rfl d_X12_likeliest_50 v_X12_464 (by omega) rfl (Nat.le_of_ble_eq_true rfl) (rc_rc g50 (by decide) rfl) (R_X12_chanceNow _ _ _ _ (by omega) e50) ?_
        refine g_aloadn d_X12_likeliest_53 rfl ?_
        refine g_iloadn d_X12_likeliest_54 rfl ?_
        refine g_iloadn d_X12_likeliest_55 rfl ?_
        obtain ⟨_, g56, hF⟩ := Option.bind_eq_some_iff.mp hF
        obtain ⟨⟨r56, h56⟩, e56, hF⟩ := Option.bind_eq_some_iff.mp hF
        try dsimp only at hF
        refine q_callV [.int x2, .int x1] [.long (r50)] rfl d_X12_likeliest_56 v_X12_464 (by omega) rfl (Nat.le_of_ble_eq_true rfl) (rc_rc g56 (by decide) rfl) (R_X12_chanceNow _ _ _ _ (by omega) e56) ?_
        refine g_lcmp d_X12_likeliest_59 ?_
        refine g_if_le 65 d_X12_likeliest_60 rfl (fun c60 => ?_) (fun c60 => ?_)
        · have hF := x_t hF c60
          refine q_iinc (1) [.ref x0, .int x1, .int x2, .int (x3 + 1)] d_X12_likeliest_65 ic_1 rfl (by decide) rfl ?_
          refine g_goto 24 d_X12_likeliest_68 rfl ?_
          exact q_to (xs_r (xs_r (xs_r (xs_r xs_n)))) (ih _ _ _ _ _ hF)
        · have hF := x_f hF c60
          exact q_to (xs_r (xs_r (xs_h (xs_r xs_n)))) (R_X12_likeliest_b63 ih hdp hq _ _ _ _ hF)
def F_X12_likeliest (x0 : Nat) (x1 : Int32) (h : xH) : Option (Int32 × xH) := (wI h x0 11 0 0).bind fun h2 => (F_X12_within x1.toInt64 0 6 h2).bind fun z11 => if ¬ z11.1 = 0 then F_X12_likeliest_b24 FU x0 x1 ((-1)) 0 z11.2 else some ((-3), z11.2)
theorem R_X12_likeliest {Γ : xG} {l : Launch} {d : Nat} {r : Int32} {h' : xH} (x0 : Nat) (x1 : Int32) (h : xH) (hdp : 104 ≤ d) (hF : F_X12_likeliest x0 x1 h = some (r, h')) : Gm Γ l d 0 0 m_X12_likeliest [.ref x0, .int x1] h (fun a u => a = some (.int r) ∧ u = h') := by
  refine Gm.of pn_X12 (Nat.le_of_ble_eq_true rfl) ?_
  show Gd Γ l d m_X12_likeliest 0 [.ref x0, .int x1, xhole, xhole] [] h 0 0 _
  generalize hQ : (fun (a : Option Value) (u : xH) => a = some (.int r) ∧ u = h') = Q
  have hq : Q (some (.int r)) h' := by rw [← hQ]; exact ⟨rfl, rfl⟩
  clear hQ
  unfold F_X12_likeliest at hF
  refine g_aloadn d_X12_likeliest_0 rfl ?_
  refine g_ic (0) d_X12_likeliest_1 ic_0 ?_
  obtain ⟨h2, e2, hF⟩ := Option.bind_eq_some_iff.mp hF
  refine q_wI d_X12_likeliest_2 (w_X12_1 _) e2 ?_
  refine g_iloadn d_X12_likeliest_5 rfl ?_
  refine g_i2l d_X12_likeliest_6 ?_
  refine g_lc 0 d_X12_likeliest_7 rfl ?_
  refine g_ldc2 d_X12_likeliest_8 k_X12_373 ?_
  obtain ⟨⟨r11, h11⟩, e11, hF⟩ := Option.bind_eq_some_iff.mp hF
  try dsimp only at hF
  refine q_callS [.long (x1.toInt64), .long 0, .long 6] [] rfl d_X12_likeliest_11 s_X12_148 (by omega) rfl (Nat.le_of_ble_eq_true rfl) (R_X12_within _ _ _ _ (by omega) e11) ?_
  refine g_if_ne 20 d_X12_likeliest_14 rfl (fun c14 => ?_) (fun c14 => ?_)
  · have hF := x_t hF c14
    refine g_ic (-1) d_X12_likeliest_20 ic_m1 ?_
    refine q_istoren [.ref x0, .int x1, .int ((-1)), xhole] d_X12_likeliest_21 (by decide) rfl ?_
    refine g_ic (0) d_X12_likeliest_22 ic_0 ?_
    refine q_istoren [.ref x0, .int x1, .int ((-1)), .int 0] d_X12_likeliest_23 (by decide) rfl ?_
    exact q_to (xs_r (xs_r (xs_r (xs_r xs_n)))) (R_X12_likeliest_b24 hdp hq FU _ _ _ _ _ hF)
  · have hF := x_f hF (not_not_intro c14)
    refine g_bi (-3) d_X12_likeliest_17 bi_m3 ?_
    obtain ⟨rfl, rfl⟩ := x_inj hF
    exact g_iret d_X12_likeliest_19 rfl hq
theorem d_X12_cut_0 : decode cX12_cut 0 = .ok (.iload_n 2, 1) := by decide +kernel
theorem d_X12_cut_1 : decode cX12_cut 1 = .ok (.ifCond .ne 10, 3) := by decide +kernel
theorem d_X12_cut_4 : decode cX12_cut 4 = .ok (.lload_n 0, 1) := by decide +kernel
theorem d_X12_cut_5 : decode cX12_cut 5 = .ok (.l2i, 1) := by decide +kernel
theorem d_X12_cut_6 : decode cX12_cut 6 = .ok (.i2b, 1) := by decide +kernel
theorem d_X12_cut_7 : decode cX12_cut 7 = .ok (.i2l, 1) := by decide +kernel
theorem d_X12_cut_8 : decode cX12_cut 8 = .ok (.goto 27, 3) := by decide +kernel
theorem d_X12_cut_11 : decode cX12_cut 11 = .ok (.iload_n 2, 1) := by decide +kernel
theorem d_X12_cut_12 : decode cX12_cut 12 = .ok (.iconst 1, 1) := by decide +kernel
theorem d_X12_cut_13 : decode cX12_cut 13 = .ok (.if_icmp .ne 10, 3) := by decide +kernel
theorem d_X12_cut_16 : decode cX12_cut 16 = .ok (.lload_n 0, 1) := by decide +kernel
theorem d_X12_cut_17 : decode cX12_cut 17 = .ok (.l2i, 1) := by decide +kernel
theorem d_X12_cut_18 : decode cX12_cut 18 = .ok (.i2s, 1) := by decide +kernel
theorem d_X12_cut_19 : decode cX12_cut 19 = .ok (.i2l, 1) := by decide +kernel
theorem d_X12_cut_20 : decode cX12_cut 20 = .ok (.goto 15, 3) := by decide +kernel
theorem d_X12_cut_23 : decode cX12_cut 23 = .ok (.iload_n 2, 1) := by decide +kernel
theorem d_X12_cut_24 : decode cX12_cut 24 = .ok (.iconst 2, 1) := by decide +kernel
theorem d_X12_cut_25 : decode cX12_cut 25 = .ok (.if_icmp .ne 9, 3) := by decide +kernel
theorem d_X12_cut_28 : decode cX12_cut 28 = .ok (.lload_n 0, 1) := by decide +kernel
theorem d_X12_cut_29 : decode cX12_cut 29 = .ok (.l2i, 1) := by decide +kernel
theorem d_X12_cut_30 : decode cX12_cut 30 = .ok (.i2l, 1) := by decide +kernel
theorem d_X12_cut_31 : decode cX12_cut 31 = .ok (.goto 4, 3) := by decide +kernel
theorem d_X12_cut_34 : decode cX12_cut 34 = .ok (.lload_n 0, 1) := by decide +kernel
theorem d_X12_cut_35 : decode cX12_cut 35 = .ok (.lreturn, 1) := by decide +kernel
def F_X12_cut (x0 : Int64) (x2 : Int32) (h : xH) : Option (Int64 × xH) := if ¬ x2 = 0 then if ¬ x2 = ((1 : Int32)) then if ¬ x2 = ((2 : Int32)) then some (x0, h) else some (x0.toInt32.toInt64, h) else some (x0.toInt32.toInt16.toInt32.toInt64, h) else some (x0.toInt32.toInt8.toInt32.toInt64, h)
theorem R_X12_cut {Γ : xG} {l : Launch} {d : Nat} {r : Int64} {h' : xH} (x0 : Int64) (x2 : Int32) (h : xH) (hdp : 0 ≤ d) (hF : F_X12_cut x0 x2 h = some (r, h')) : Gm Γ l d 0 0 m_X12_cut [.long x0, .int x2] h (fun a u => a = some (.long r) ∧ u = h') := by
  refine Gm.of pn_X12 (Nat.le_of_ble_eq_true rfl) ?_
  show Gd Γ l d m_X12_cut 0 [.long x0, xhole, .int x2] [] h 0 0 _
  generalize hQ : (fun (a : Option Value) (u : xH) => a = some (.long r) ∧ u = h') = Q
  have hq : Q (some (.long r)) h' := by rw [← hQ]; exact ⟨rfl, rfl⟩
  clear hQ
  unfold F_X12_cut at hF
  refine g_iloadn d_X12_cut_0 rfl ?_
  refine g_if_ne 11 d_X12_cut_1 rfl (fun c1 => ?_) (fun c1 => ?_)
  · have hF := x_t hF c1
    refine g_iloadn d_X12_cut_11 rfl ?_
    refine g_ic (1) d_X12_cut_12 ic_1 ?_
    refine g_icmp_ne 23 d_X12_cut_13 rfl (fun c13 => ?_) (fun c13 => ?_)
    · have hF := x_t hF c13
      refine g_iloadn d_X12_cut_23 rfl ?_
      refine g_ic (2) d_X12_cut_24 ic_2 ?_
      refine g_icmp_ne 34 d_X12_cut_25 rfl (fun c25 => ?_) (fun c25 => ?_)
      · have hF := x_t hF c25
        refine g_lloadn d_X12_cut_34 rfl ?_
        obtain ⟨rfl, rfl⟩ := x_inj hF
        exact g_lret d_X12_cut_35 rfl hq
      · have hF := x_f hF (not_not_intro c25)
        refine g_lloadn d_X12_cut_28 rfl ?_
        refine g_l2i d_X12_cut_29 ?_
        refine g_i2l d_X12_cut_30 ?_
        refine g_goto 35 d_X12_cut_31 rfl ?_
        obtain ⟨rfl, rfl⟩ := x_inj hF
        exact g_lret d_X12_cut_35 rfl hq
    · have hF := x_f hF (not_not_intro c13)
      refine g_lloadn d_X12_cut_16 rfl ?_
      refine g_l2i d_X12_cut_17 ?_
      refine g_i2s d_X12_cut_18 ?_
      refine g_i2l d_X12_cut_19 ?_
      refine g_goto 35 d_X12_cut_20 rfl ?_
      obtain ⟨rfl, rfl⟩ := x_inj hF
      exact g_lret d_X12_cut_35 rfl hq
  · have hF := x_f hF (not_not_intro c1)
    refine g_lloadn d_X12_cut_4 rfl ?_
    refine g_l2i d_X12_cut_5 ?_
    refine g_i2b d_X12_cut_6 ?_
    refine g_i2l d_X12_cut_7 ?_
    refine g_goto 35 d_X12_cut_8 rfl ?_
    obtain ⟨rfl, rfl⟩ := x_inj hF
    exact g_lret d_X12_cut_35 rfl hq
theorem d_X12_numbers_0 : decode cX12_numbers 0 = .ok (.aload_n 0, 1) := by decide +kernel
theorem d_X12_numbers_1 : decode cX12_numbers 1 = .ok (.iconst 0, 1) := by decide +kernel
theorem d_X12_numbers_2 : decode cX12_numbers 2 = .ok (.putfield 1, 3) := by decide +kernel
theorem d_X12_numbers_5 : decode cX12_numbers 5 = .ok (.iload_n 1, 1) := by decide +kernel
theorem d_X12_numbers_6 : decode cX12_numbers 6 = .ok (.i2l, 1) := by decide +kernel
theorem d_X12_numbers_7 : decode cX12_numbers 7 = .ok (.lconst 0, 1) := by decide +kernel
theorem d_X12_numbers_8 : decode cX12_numbers 8 = .ok (.ldc2_w 317, 3) := by decide +kernel
theorem d_X12_numbers_11 : decode cX12_numbers 11 = .ok (.invokestatic 148, 3) := by decide +kernel
theorem d_X12_numbers_14 : decode cX12_numbers 14 = .ok (.ifCond .eq 15, 3) := by decide +kernel
theorem d_X12_numbers_17 : decode cX12_numbers 17 = .ok (.iload_n 2, 1) := by decide +kernel
theorem d_X12_numbers_18 : decode cX12_numbers 18 = .ok (.i2l, 1) := by decide +kernel
theorem d_X12_numbers_19 : decode cX12_numbers 19 = .ok (.lconst 0, 1) := by decide +kernel
theorem d_X12_numbers_20 : decode cX12_numbers 20 = .ok (.ldc2_w 317, 3) := by decide +kernel
theorem d_X12_numbers_23 : decode cX12_numbers 23 = .ok (.invokestatic 148, 3) := by decide +kernel
theorem d_X12_numbers_26 : decode cX12_numbers 26 = .ok (.ifCond .ne 6, 3) := by decide +kernel
theorem d_X12_numbers_29 : decode cX12_numbers 29 = .ok (.bipush (-2), 2) := by decide +kernel
theorem d_X12_numbers_31 : decode cX12_numbers 31 = .ok (.ireturn, 1) := by decide +kernel
theorem d_X12_numbers_32 : decode cX12_numbers 32 = .ok (.iload_n 3, 1) := by decide +kernel
theorem d_X12_numbers_33 : decode cX12_numbers 33 = .ok (.i2l, 1) := by decide +kernel
theorem d_X12_numbers_34 : decode cX12_numbers 34 = .ok (.lconst 0, 1) := by decide +kernel
theorem d_X12_numbers_35 : decode cX12_numbers 35 = .ok (.ldc2_w 335, 3) := by decide +kernel
theorem d_X12_numbers_38 : decode cX12_numbers 38 = .ok (.invokestatic 148, 3) := by decide +kernel
theorem d_X12_numbers_41 : decode cX12_numbers 41 = .ok (.ifCond .ne 6, 3) := by decide +kernel
theorem d_X12_numbers_44 : decode cX12_numbers 44 = .ok (.bipush (-3), 2) := by decide +kernel
theorem d_X12_numbers_46 : decode cX12_numbers 46 = .ok (.ireturn, 1) := by decide +kernel
theorem d_X12_numbers_47 : decode cX12_numbers 47 = .ok (.aload_n 0, 1) := by decide +kernel
theorem d_X12_numbers_48 : decode cX12_numbers 48 = .ok (.getfield 73, 3) := by decide +kernel
theorem d_X12_numbers_51 : decode cX12_numbers 51 = .ok (.iload_n 1, 1) := by decide +kernel
theorem d_X12_numbers_52 : decode cX12_numbers 52 = .ok (.iload_n 2, 1) := by decide +kernel
theorem d_X12_numbers_53 : decode cX12_numbers 53 = .ok (.iastore, 1) := by decide +kernel
theorem d_X12_numbers_54 : decode cX12_numbers 54 = .ok (.aload_n 0, 1) := by decide +kernel
theorem d_X12_numbers_55 : decode cX12_numbers 55 = .ok (.getfield 76, 3) := by decide +kernel
theorem d_X12_numbers_58 : decode cX12_numbers 58 = .ok (.iload_n 1, 1) := by decide +kernel
theorem d_X12_numbers_59 : decode cX12_numbers 59 = .ok (.iload_n 3, 1) := by decide +kernel
theorem d_X12_numbers_60 : decode cX12_numbers 60 = .ok (.iastore, 1) := by decide +kernel
theorem d_X12_numbers_61 : decode cX12_numbers 61 = .ok (.iconst 0, 1) := by decide +kernel
theorem d_X12_numbers_62 : decode cX12_numbers 62 = .ok (.istore 4, 2) := by decide +kernel
theorem d_X12_numbers_64 : decode cX12_numbers 64 = .ok (.iload 4, 2) := by decide +kernel
theorem d_X12_numbers_66 : decode cX12_numbers 66 = .ok (.iload_n 3, 1) := by decide +kernel
theorem d_X12_numbers_67 : decode cX12_numbers 67 = .ok (.if_icmp .ge 22, 3) := by decide +kernel
theorem d_X12_numbers_70 : decode cX12_numbers 70 = .ok (.aload_n 0, 1) := by decide +kernel
theorem d_X12_numbers_71 : decode cX12_numbers 71 = .ok (.getfield 79, 3) := by decide +kernel
theorem d_X12_numbers_74 : decode cX12_numbers 74 = .ok (.bipush 40, 2) := by decide +kernel
theorem d_X12_numbers_76 : decode cX12_numbers 76 = .ok (.iload_n 1, 1) := by decide +kernel
theorem d_X12_numbers_77 : decode cX12_numbers 77 = .ok (.imul, 1) := by decide +kernel
theorem d_X12_numbers_78 : decode cX12_numbers 78 = .ok (.iload 4, 2) := by decide +kernel
theorem d_X12_numbers_80 : decode cX12_numbers 80 = .ok (.iadd, 1) := by decide +kernel
theorem d_X12_numbers_81 : decode cX12_numbers 81 = .ok (.lconst 0, 1) := by decide +kernel
theorem d_X12_numbers_82 : decode cX12_numbers 82 = .ok (.lastore, 1) := by decide +kernel
theorem d_X12_numbers_83 : decode cX12_numbers 83 = .ok (.iinc 4 1, 3) := by decide +kernel
theorem d_X12_numbers_86 : decode cX12_numbers 86 = .ok (.goto (-22), 3) := by decide +kernel
theorem d_X12_numbers_89 : decode cX12_numbers 89 = .ok (.iconst 0, 1) := by decide +kernel
theorem d_X12_numbers_90 : decode cX12_numbers 90 = .ok (.ireturn, 1) := by decide +kernel
def F_X12_numbers_b64 : Nat → Nat → Int32 → Int32 → Int32 → xH → Option (Int32 × xH)
  | 0, _, _, _, _, _ => none
  | n + 1, x0, x1, x3, x4, h => if x3 ≤ x4 then some (0, h) else (fR h x0 11 36).bind fun v71 => (sJ h v71 ((((40 : Int32)) * x1) + x4) 0).bind fun h82 => F_X12_numbers_b64 n x0 x1 x3 (x4 + 1) h82
theorem R_X12_numbers_b64 {Γ : xG} {l : Launch} {d : Nat} {Q : Option Value → xH → Prop} {r : Int32} {h' : xH} (hdp : 1 ≤ d) (hq : Q (some (.int r)) h') : ∀ (n : Nat) (x0 : Nat) (x1 : Int32) (x3 : Int32) (x4 : Int32) (h : xH), F_X12_numbers_b64 n x0 x1 x3 x4 h = some (r, h') → Gd Γ l d m_X12_numbers 64 [.ref x0, .int x1, xhole, .int x3, .int x4] [] h 0 0 Q := by
  intro n
  induction n with
  | zero => intro x0 x1 x3 x4 h hF; cases hF
  | succ n ih =>
  intro x0 x1 x3 x4 h hF
  rw [F_X12_numbers_b64] at hF
  refine g_iload d_X12_numbers_64 rfl ?_
  refine g_iloadn d_X12_numbers_66 rfl ?_
  refine g_icmp_ge 89 d_X12_numbers_67 rfl (fun c67 => ?_) (fun c67 => ?_)
  · have hF := x_t hF c67
    refine g_ic (0) d_X12_numbers_89 ic_0 ?_
    obtain ⟨rfl, rfl⟩ := x_inj hF
    exact g_iret d_X12_numbers_90 rfl hq
  · have hF := x_f hF c67
    refine g_aloadn d_X12_numbers_70 rfl ?_
    obtain ⟨v71, e71, hF⟩ := Option.bind_eq_some_iff.mp hF
    refine q_fR d_X12_numbers_71 f_X12_79 e71 ?_
    refine g_bi (40) d_X12_numbers_74 bi_40 ?_
    refine g_iloadn d_X12_numbers_76 rfl ?_
    refine g_imul d_X12_numbers_77 ?_
    refine g_iload d_X12_numbers_78 rfl ?_
    refine g_iadd d_X12_numbers_80 ?_
    refine g_lc 0 d_X12_numbers_81 rfl ?_
    obtain ⟨h82, e82, hF⟩ := Option.bind_eq_some_iff.mp hF
    refine q_sJ d_X12_numbers_82 e82 ?_
    refine q_iinc (1) [.ref x0, .int x1, xhole, .int x3, .int (x4 + 1)] d_X12_numbers_83 ic_1 rfl (by decide) rfl ?_
    refine g_goto 64 d_X12_numbers_86 rfl ?_
    exact q_to (xs_r (xs_r (xs_h (xs_r (xs_r xs_n))))) (ih _ _ _ _ _ hF)
def F_X12_numbers (x0 : Nat) (x1 : Int32) (x2 : Int32) (x3 : Int32) (h : xH) : Option (Int32 × xH) := (wI h x0 11 0 0).bind fun h2 => (F_X12_within x1.toInt64 0 3 h2).bind fun z11 => if z11.1 = 0 then some ((-2), z11.2) else (F_X12_within x2.toInt64 0 3 z11.2).bind fun z23 => if ¬ z23.1 = 0 then (F_X12_within x3.toInt64 0 40 z23.2).bind fun z38 => if ¬ z38.1 = 0 then (fR z38.2 x0 11 34).bind fun v48 => (sI z38.2 v48 x1 x2).bind fun h53 => (fR h53 x0 11 35).bind fun v55 => (sI h53 v55 x1 x3).bind fun h60 => F_X12_numbers_b64 FU x0 x1 x3 0 h60 else some ((-3), z38.2) else some ((-2), z23.2)
theorem R_X12_numbers {Γ : xG} {l : Launch} {d : Nat} {r : Int32} {h' : xH} (x0 : Nat) (x1 : Int32) (x2 : Int32) (x3 : Int32) (h : xH) (hdp : 1 ≤ d) (hF : F_X12_numbers x0 x1 x2 x3 h = some (r, h')) : Gm Γ l d 0 0 m_X12_numbers [.ref x0, .int x1, .int x2, .int x3] h (fun a u => a = some (.int r) ∧ u = h') := by
  refine Gm.of pn_X12 (Nat.le_of_ble_eq_true rfl) ?_
  show Gd Γ l d m_X12_numbers 0 [.ref x0, .int x1, .int x2, .int x3, xhole] [] h 0 0 _
  generalize hQ : (fun (a : Option Value) (u : xH) => a = some (.int r) ∧ u = h') = Q
  have hq : Q (some (.int r)) h' := by rw [← hQ]; exact ⟨rfl, rfl⟩
  clear hQ
  unfold F_X12_numbers at hF
  refine g_aloadn d_X12_numbers_0 rfl ?_
  refine g_ic (0) d_X12_numbers_1 ic_0 ?_
  obtain ⟨h2, e2, hF⟩ := Option.bind_eq_some_iff.mp hF
  refine q_wI d_X12_numbers_2 (w_X12_1 _) e2 ?_
  refine g_iloadn d_X12_numbers_5 rfl ?_
  refine g_i2l d_X12_numbers_6 ?_
  refine g_lc 0 d_X12_numbers_7 rfl ?_
  refine g_ldc2 d_X12_numbers_8 k_X12_317 ?_
  obtain ⟨⟨r11, h11⟩, e11, hF⟩ := Option.bind_eq_some_iff.mp hF
  try dsimp only at hF
  refine q_callS [.long (x1.toInt64), .long 0, .long 3] [] rfl d_X12_numbers_11 s_X12_148 (by omega) rfl (Nat.le_of_ble_eq_true rfl) (R_X12_within _ _ _ _ (by omega) e11) ?_
  refine g_if_eq 29 d_X12_numbers_14 rfl (fun c14 => ?_) (fun c14 => ?_)
  · have hF := x_t hF c14
    refine g_bi (-2) d_X12_numbers_29 bi_m2 ?_
    obtain ⟨rfl, rfl⟩ := x_inj hF
    exact g_iret d_X12_numbers_31 rfl hq
  · have hF := x_f hF c14
    refine g_iloadn d_X12_numbers_17 rfl ?_
    refine g_i2l d_X12_numbers_18 ?_
    refine g_lc 0 d_X12_numbers_19 rfl ?_
    refine g_ldc2 d_X12_numbers_20 k_X12_317 ?_
    obtain ⟨⟨r23, h23⟩, e23, hF⟩ := Option.bind_eq_some_iff.mp hF
    try dsimp only at hF
    refine q_callS [.long (x2.toInt64), .long 0, .long 3] [] rfl d_X12_numbers_23 s_X12_148 (by omega) rfl (Nat.le_of_ble_eq_true rfl) (R_X12_within _ _ _ _ (by omega) e23) ?_
    refine g_if_ne 32 d_X12_numbers_26 rfl (fun c26 => ?_) (fun c26 => ?_)
    · have hF := x_t hF c26
      refine g_iloadn d_X12_numbers_32 rfl ?_
      refine g_i2l d_X12_numbers_33 ?_
      refine g_lc 0 d_X12_numbers_34 rfl ?_
      refine g_ldc2 d_X12_numbers_35 k_X12_335 ?_
      obtain ⟨⟨r38, h38⟩, e38, hF⟩ := Option.bind_eq_some_iff.mp hF
      try dsimp only at hF
      refine q_callS [.long (x3.toInt64), .long 0, .long 40] [] rfl d_X12_numbers_38 s_X12_148 (by omega) rfl (Nat.le_of_ble_eq_true rfl) (R_X12_within _ _ _ _ (by omega) e38) ?_
      refine g_if_ne 47 d_X12_numbers_41 rfl (fun c41 => ?_) (fun c41 => ?_)
      · have hF := x_t hF c41
        refine g_aloadn d_X12_numbers_47 rfl ?_
        obtain ⟨v48, e48, hF⟩ := Option.bind_eq_some_iff.mp hF
        refine q_fR d_X12_numbers_48 f_X12_73 e48 ?_
        refine g_iloadn d_X12_numbers_51 rfl ?_
        refine g_iloadn d_X12_numbers_52 rfl ?_
        obtain ⟨h53, e53, hF⟩ := Option.bind_eq_some_iff.mp hF
        refine q_sI d_X12_numbers_53 e53 ?_
        refine g_aloadn d_X12_numbers_54 rfl ?_
        obtain ⟨v55, e55, hF⟩ := Option.bind_eq_some_iff.mp hF
        refine q_fR d_X12_numbers_55 f_X12_76 e55 ?_
        refine g_iloadn d_X12_numbers_58 rfl ?_
        refine g_iloadn d_X12_numbers_59 rfl ?_
        obtain ⟨h60, e60, hF⟩ := Option.bind_eq_some_iff.mp hF
        refine q_sI d_X12_numbers_60 e60 ?_
        refine g_ic (0) d_X12_numbers_61 ic_0 ?_
        refine q_istore [.ref x0, .int x1, .int x2, .int x3, .int 0] d_X12_numbers_62 (by decide) rfl ?_
        exact q_to (xs_r (xs_r (xs_h (xs_r (xs_r xs_n))))) (R_X12_numbers_b64 hdp hq FU _ _ _ _ _ hF)
      · have hF := x_f hF (not_not_intro c41)
        refine g_bi (-3) d_X12_numbers_44 bi_m3 ?_
        obtain ⟨rfl, rfl⟩ := x_inj hF
        exact g_iret d_X12_numbers_46 rfl hq
    · have hF := x_f hF (not_not_intro c26)
      refine g_bi (-2) d_X12_numbers_29 bi_m2 ?_
      obtain ⟨rfl, rfl⟩ := x_inj hF
      exact g_iret d_X12_numbers_31 rfl hq
theorem d_X12_write_0 : decode cX12_write 0 = .ok (.aload_n 0, 1) := by decide +kernel
theorem d_X12_write_1 : decode cX12_write 1 = .ok (.iconst 0, 1) := by decide +kernel
theorem d_X12_write_2 : decode cX12_write 2 = .ok (.putfield 1, 3) := by decide +kernel
theorem d_X12_write_5 : decode cX12_write 5 = .ok (.aload_n 0, 1) := by decide +kernel
theorem d_X12_write_6 : decode cX12_write 6 = .ok (.iload_n 1, 1) := by decide +kernel
theorem d_X12_write_7 : decode cX12_write 7 = .ok (.invokevirtual 319, 3) := by decide +kernel
theorem d_X12_write_10 : decode cX12_write 10 = .ok (.istore 5, 2) := by decide +kernel
theorem d_X12_write_12 : decode cX12_write 12 = .ok (.iload 5, 2) := by decide +kernel
theorem d_X12_write_14 : decode cX12_write 14 = .ok (.ifCond .eq 7, 3) := by decide +kernel
theorem d_X12_write_17 : decode cX12_write 17 = .ok (.iload 5, 2) := by decide +kernel
theorem d_X12_write_19 : decode cX12_write 19 = .ok (.i2l, 1) := by decide +kernel
theorem d_X12_write_20 : decode cX12_write 20 = .ok (.lreturn, 1) := by decide +kernel
theorem d_X12_write_21 : decode cX12_write 21 = .ok (.iload_n 2, 1) := by decide +kernel
theorem d_X12_write_22 : decode cX12_write 22 = .ok (.i2l, 1) := by decide +kernel
theorem d_X12_write_23 : decode cX12_write 23 = .ok (.lconst 0, 1) := by decide +kernel
theorem d_X12_write_24 : decode cX12_write 24 = .ok (.aload_n 0, 1) := by decide +kernel
theorem d_X12_write_25 : decode cX12_write 25 = .ok (.getfield 76, 3) := by decide +kernel
theorem d_X12_write_28 : decode cX12_write 28 = .ok (.iload_n 1, 1) := by decide +kernel
theorem d_X12_write_29 : decode cX12_write 29 = .ok (.iaload, 1) := by decide +kernel
theorem d_X12_write_30 : decode cX12_write 30 = .ok (.iconst 1, 1) := by decide +kernel
theorem d_X12_write_31 : decode cX12_write 31 = .ok (.isub, 1) := by decide +kernel
theorem d_X12_write_32 : decode cX12_write 32 = .ok (.i2l, 1) := by decide +kernel
theorem d_X12_write_33 : decode cX12_write 33 = .ok (.invokestatic 148, 3) := by decide +kernel
theorem d_X12_write_36 : decode cX12_write 36 = .ok (.ifCond .ne 7, 3) := by decide +kernel
theorem d_X12_write_39 : decode cX12_write 39 = .ok (.ldc2_w 468, 3) := by decide +kernel
theorem d_X12_write_42 : decode cX12_write 42 = .ok (.lreturn, 1) := by decide +kernel
theorem d_X12_write_43 : decode cX12_write 43 = .ok (.aload_n 0, 1) := by decide +kernel
theorem d_X12_write_44 : decode cX12_write 44 = .ok (.getfield 79, 3) := by decide +kernel
theorem d_X12_write_47 : decode cX12_write 47 = .ok (.bipush 40, 2) := by decide +kernel
theorem d_X12_write_49 : decode cX12_write 49 = .ok (.iload_n 1, 1) := by decide +kernel
theorem d_X12_write_50 : decode cX12_write 50 = .ok (.imul, 1) := by decide +kernel
theorem d_X12_write_51 : decode cX12_write 51 = .ok (.iload_n 2, 1) := by decide +kernel
theorem d_X12_write_52 : decode cX12_write 52 = .ok (.iadd, 1) := by decide +kernel
theorem d_X12_write_53 : decode cX12_write 53 = .ok (.lload_n 3, 1) := by decide +kernel
theorem d_X12_write_54 : decode cX12_write 54 = .ok (.aload_n 0, 1) := by decide +kernel
theorem d_X12_write_55 : decode cX12_write 55 = .ok (.getfield 73, 3) := by decide +kernel
theorem d_X12_write_58 : decode cX12_write 58 = .ok (.iload_n 1, 1) := by decide +kernel
theorem d_X12_write_59 : decode cX12_write 59 = .ok (.iaload, 1) := by decide +kernel
theorem d_X12_write_60 : decode cX12_write 60 = .ok (.invokestatic 470, 3) := by decide +kernel
theorem d_X12_write_63 : decode cX12_write 63 = .ok (.lastore, 1) := by decide +kernel
theorem d_X12_write_64 : decode cX12_write 64 = .ok (.aload_n 0, 1) := by decide +kernel
theorem d_X12_write_65 : decode cX12_write 65 = .ok (.getfield 79, 3) := by decide +kernel
theorem d_X12_write_68 : decode cX12_write 68 = .ok (.bipush 40, 2) := by decide +kernel
theorem d_X12_write_70 : decode cX12_write 70 = .ok (.iload_n 1, 1) := by decide +kernel
theorem d_X12_write_71 : decode cX12_write 71 = .ok (.imul, 1) := by decide +kernel
theorem d_X12_write_72 : decode cX12_write 72 = .ok (.iload_n 2, 1) := by decide +kernel
theorem d_X12_write_73 : decode cX12_write 73 = .ok (.iadd, 1) := by decide +kernel
theorem d_X12_write_74 : decode cX12_write 74 = .ok (.laload, 1) := by decide +kernel
theorem d_X12_write_75 : decode cX12_write 75 = .ok (.lreturn, 1) := by decide +kernel
def F_X12_write (x0 : Nat) (x1 : Int32) (x2 : Int32) (x3 : Int64) (h : xH) : Option (Int64 × xH) := (wI h x0 11 0 0).bind fun h2 => (rc h2 x0 11).bind fun _ => (F_X12_noTray x0 x1 h2).bind fun z7 => if z7.1 = 0 then (fR z7.2 x0 11 35).bind fun v25 => (aI z7.2 v25 x1).bind fun v29 => (F_X12_within x2.toInt64 0 ((v29 - 1).toInt64) z7.2).bind fun z33 => if ¬ z33.1 = 0 then (fR z33.2 x0 11 36).bind fun v44 => (fR z33.2 x0 11 34).bind fun v55 => (aI z33.2 v55 x1).bind fun v59 => (F_X12_cut x3 v59 z33.2).bind fun z60 => (sJ z60.2 v44 ((((40 : Int32)) * x1) + x2) z60.1).bind fun h63 => (fR h63 x0 11 36).bind fun v65 => (aJ h63 v65 ((((40 : Int32)) * x1) + x2)).bind fun v74 => some (v74, h63) else some ((-7), z33.2) else some (z7.1.toInt64, z7.2)
theorem R_X12_write {Γ : xG} {l : Launch} {d : Nat} {r : Int64} {h' : xH} (x0 : Nat) (x1 : Int32) (x2 : Int32) (x3 : Int64) (h : xH) (hdp : 2 ≤ d) (hF : F_X12_write x0 x1 x2 x3 h = some (r, h')) : Gm Γ l d 0 0 m_X12_write [.ref x0, .int x1, .int x2, .long x3] h (fun a u => a = some (.long r) ∧ u = h') := by
  refine Gm.of pn_X12 (Nat.le_of_ble_eq_true rfl) ?_
  show Gd Γ l d m_X12_write 0 [.ref x0, .int x1, .int x2, .long x3, xhole, xhole] [] h 0 0 _
  generalize hQ : (fun (a : Option Value) (u : xH) => a = some (.long r) ∧ u = h') = Q
  have hq : Q (some (.long r)) h' := by rw [← hQ]; exact ⟨rfl, rfl⟩
  clear hQ
  unfold F_X12_write at hF
  refine g_aloadn d_X12_write_0 rfl ?_
  refine g_ic (0) d_X12_write_1 ic_0 ?_
  obtain ⟨h2, e2, hF⟩ := Option.bind_eq_some_iff.mp hF
  refine q_wI d_X12_write_2 (w_X12_1 _) e2 ?_
  refine g_aloadn d_X12_write_5 rfl ?_
  refine g_iloadn d_X12_write_6 rfl ?_
  obtain ⟨_, g7, hF⟩ := Option.bind_eq_some_iff.mp hF
  obtain ⟨⟨r7, h7⟩, e7, hF⟩ := Option.bind_eq_some_iff.mp hF
  try dsimp only at hF
  refine q_callV [.int x1] [] rfl d_X12_write_7 v_X12_319 (by omega) rfl (Nat.le_of_ble_eq_true rfl) (rc_rc g7 (by decide) rfl) (R_X12_noTray _ _ _ (by omega) e7) ?_
  refine q_istore [.ref x0, .int x1, .int x2, .long x3, xhole, .int (r7)] d_X12_write_10 (by decide) rfl ?_
  refine g_iload d_X12_write_12 rfl ?_
  refine g_if_eq 21 d_X12_write_14 rfl (fun c14 => ?_) (fun c14 => ?_)
  · have hF := x_t hF c14
    refine g_iloadn d_X12_write_21 rfl ?_
    refine g_i2l d_X12_write_22 ?_
    refine g_lc 0 d_X12_write_23 rfl ?_
    refine g_aloadn d_X12_write_24 rfl ?_
    obtain ⟨v25, e25, hF⟩ := Option.bind_eq_some_iff.mp hF
    refine q_fR d_X12_write_25 f_X12_76 e25 ?_
    refine g_iloadn d_X12_write_28 rfl ?_
    obtain ⟨v29, e29, hF⟩ := Option.bind_eq_some_iff.mp hF
    refine q_aI d_X12_write_29 e29 ?_
    refine g_ic (1) d_X12_write_30 ic_1 ?_
    refine g_isub d_X12_write_31 ?_
    refine g_i2l d_X12_write_32 ?_
    obtain ⟨⟨r33, h33⟩, e33, hF⟩ := Option.bind_eq_some_iff.mp hF
    try dsimp only at hF
    refine q_callS [.long (x2.toInt64), .long 0, .long ((v29 - 1).toInt64)] [] rfl d_X12_write_33 s_X12_148 (by omega) rfl (Nat.le_of_ble_eq_true rfl) (R_X12_within _ _ _ _ (by omega) e33) ?_
    refine g_if_ne 43 d_X12_write_36 rfl (fun c36 => ?_) (fun c36 => ?_)
    · have hF := x_t hF c36
      refine g_aloadn d_X12_write_43 rfl ?_
      obtain ⟨v44, e44, hF⟩ := Option.bind_eq_some_iff.mp hF
      refine q_fR d_X12_write_44 f_X12_79 e44 ?_
      refine g_bi (40) d_X12_write_47 bi_40 ?_
      refine g_iloadn d_X12_write_49 rfl ?_
      refine g_imul d_X12_write_50 ?_
      refine g_iloadn d_X12_write_51 rfl ?_
      refine g_iadd d_X12_write_52 ?_
      refine g_lloadn d_X12_write_53 rfl ?_
      refine g_aloadn d_X12_write_54 rfl ?_
      obtain ⟨v55, e55, hF⟩ := Option.bind_eq_some_iff.mp hF
      refine q_fR d_X12_write_55 f_X12_73 e55 ?_
      refine g_iloadn d_X12_write_58 rfl ?_
      obtain ⟨v59, e59, hF⟩ := Option.bind_eq_some_iff.mp hF
      refine q_aI d_X12_write_59 e59 ?_
      obtain ⟨⟨r60, h60⟩, e60, hF⟩ := Option.bind_eq_some_iff.mp hF
      try dsimp only at hF
      refine q_callS [.long x3, .int v59] [.int ((((40 : Int32)) * x1) + x2), .ref v44] rfl d_X12_write_60 s_X12_470 (by omega) rfl (Nat.le_of_ble_eq_true rfl) (R_X12_cut _ _ _ (by omega) e60) ?_
      obtain ⟨h63, e63, hF⟩ := Option.bind_eq_some_iff.mp hF
      refine q_sJ d_X12_write_63 e63 ?_
      refine g_aloadn d_X12_write_64 rfl ?_
      obtain ⟨v65, e65, hF⟩ := Option.bind_eq_some_iff.mp hF
      refine q_fR d_X12_write_65 f_X12_79 e65 ?_
      refine g_bi (40) d_X12_write_68 bi_40 ?_
      refine g_iloadn d_X12_write_70 rfl ?_
      refine g_imul d_X12_write_71 ?_
      refine g_iloadn d_X12_write_72 rfl ?_
      refine g_iadd d_X12_write_73 ?_
      obtain ⟨v74, e74, hF⟩ := Option.bind_eq_some_iff.mp hF
      refine q_aJ d_X12_write_74 e74 ?_
      obtain ⟨rfl, rfl⟩ := x_inj hF
      exact g_lret d_X12_write_75 rfl hq
    · have hF := x_f hF (not_not_intro c36)
      refine g_ldc2 d_X12_write_39 k_X12_468 ?_
      obtain ⟨rfl, rfl⟩ := x_inj hF
      exact g_lret d_X12_write_42 rfl hq
  · have hF := x_f hF c14
    refine g_iload d_X12_write_17 rfl ?_
    refine g_i2l d_X12_write_19 ?_
    obtain ⟨rfl, rfl⟩ := x_inj hF
    exact g_lret d_X12_write_20 rfl hq
theorem d_X12_lists_0 : decode cX12_lists 0 = .ok (.aload_n 0, 1) := by decide +kernel
theorem d_X12_lists_1 : decode cX12_lists 1 = .ok (.iconst 0, 1) := by decide +kernel
theorem d_X12_lists_2 : decode cX12_lists 2 = .ok (.putfield 1, 3) := by decide +kernel
theorem d_X12_lists_5 : decode cX12_lists 5 = .ok (.aload_n 0, 1) := by decide +kernel
theorem d_X12_lists_6 : decode cX12_lists 6 = .ok (.iload_n 1, 1) := by decide +kernel
theorem d_X12_lists_7 : decode cX12_lists 7 = .ok (.invokevirtual 319, 3) := by decide +kernel
theorem d_X12_lists_10 : decode cX12_lists 10 = .ok (.istore_n 3, 1) := by decide +kernel
theorem d_X12_lists_11 : decode cX12_lists 11 = .ok (.iload_n 3, 1) := by decide +kernel
theorem d_X12_lists_12 : decode cX12_lists 12 = .ok (.ifCond .eq 5, 3) := by decide +kernel
theorem d_X12_lists_15 : decode cX12_lists 15 = .ok (.iload_n 3, 1) := by decide +kernel
theorem d_X12_lists_16 : decode cX12_lists 16 = .ok (.ireturn, 1) := by decide +kernel
theorem d_X12_lists_17 : decode cX12_lists 17 = .ok (.aload_n 0, 1) := by decide +kernel
theorem d_X12_lists_18 : decode cX12_lists 18 = .ok (.iload_n 2, 1) := by decide +kernel
theorem d_X12_lists_19 : decode cX12_lists 19 = .ok (.invokevirtual 268, 3) := by decide +kernel
theorem d_X12_lists_22 : decode cX12_lists 22 = .ok (.ifCond .ne 6, 3) := by decide +kernel
theorem d_X12_lists_25 : decode cX12_lists 25 = .ok (.bipush (-3), 2) := by decide +kernel
theorem d_X12_lists_27 : decode cX12_lists 27 = .ok (.ireturn, 1) := by decide +kernel
theorem d_X12_lists_28 : decode cX12_lists 28 = .ok (.aload_n 0, 1) := by decide +kernel
theorem d_X12_lists_29 : decode cX12_lists 29 = .ok (.iload_n 2, 1) := by decide +kernel
theorem d_X12_lists_30 : decode cX12_lists 30 = .ok (.invokevirtual 421, 3) := by decide +kernel
theorem d_X12_lists_33 : decode cX12_lists 33 = .ok (.istore 4, 2) := by decide +kernel
theorem d_X12_lists_35 : decode cX12_lists 35 = .ok (.iload 4, 2) := by decide +kernel
theorem d_X12_lists_37 : decode cX12_lists 37 = .ok (.aload_n 0, 1) := by decide +kernel
theorem d_X12_lists_38 : decode cX12_lists 38 = .ok (.getfield 76, 3) := by decide +kernel
theorem d_X12_lists_41 : decode cX12_lists 41 = .ok (.iload_n 1, 1) := by decide +kernel
theorem d_X12_lists_42 : decode cX12_lists 42 = .ok (.iaload, 1) := by decide +kernel
theorem d_X12_lists_43 : decode cX12_lists 43 = .ok (.if_icmp .ge 8, 3) := by decide +kernel
theorem d_X12_lists_46 : decode cX12_lists 46 = .ok (.iload 4, 2) := by decide +kernel
theorem d_X12_lists_48 : decode cX12_lists 48 = .ok (.goto 9, 3) := by decide +kernel
theorem d_X12_lists_51 : decode cX12_lists 51 = .ok (.aload_n 0, 1) := by decide +kernel
theorem d_X12_lists_52 : decode cX12_lists 52 = .ok (.getfield 76, 3) := by decide +kernel
theorem d_X12_lists_55 : decode cX12_lists 55 = .ok (.iload_n 1, 1) := by decide +kernel
theorem d_X12_lists_56 : decode cX12_lists 56 = .ok (.iaload, 1) := by decide +kernel
theorem d_X12_lists_57 : decode cX12_lists 57 = .ok (.istore 4, 2) := by decide +kernel
theorem d_X12_lists_59 : decode cX12_lists 59 = .ok (.iconst 0, 1) := by decide +kernel
theorem d_X12_lists_60 : decode cX12_lists 60 = .ok (.istore 5, 2) := by decide +kernel
theorem d_X12_lists_62 : decode cX12_lists 62 = .ok (.iload 5, 2) := by decide +kernel
theorem d_X12_lists_64 : decode cX12_lists 64 = .ok (.iload 4, 2) := by decide +kernel
theorem d_X12_lists_66 : decode cX12_lists 66 = .ok (.if_icmp .ge 29, 3) := by decide +kernel
theorem d_X12_lists_69 : decode cX12_lists 69 = .ok (.aload_n 0, 1) := by decide +kernel
theorem d_X12_lists_70 : decode cX12_lists 70 = .ok (.getfield 79, 3) := by decide +kernel
theorem d_X12_lists_73 : decode cX12_lists 73 = .ok (.bipush 40, 2) := by decide +kernel
theorem d_X12_lists_75 : decode cX12_lists 75 = .ok (.iload_n 1, 1) := by decide +kernel
theorem d_X12_lists_76 : decode cX12_lists 76 = .ok (.imul, 1) := by decide +kernel
theorem d_X12_lists_77 : decode cX12_lists 77 = .ok (.iload 5, 2) := by decide +kernel
theorem d_X12_lists_79 : decode cX12_lists 79 = .ok (.iadd, 1) := by decide +kernel
theorem d_X12_lists_80 : decode cX12_lists 80 = .ok (.aload_n 0, 1) := by decide +kernel
theorem d_X12_lists_81 : decode cX12_lists 81 = .ok (.getfield 60, 3) := by decide +kernel
theorem d_X12_lists_84 : decode cX12_lists 84 = .ok (.iload 5, 2) := by decide +kernel
theorem d_X12_lists_86 : decode cX12_lists 86 = .ok (.iaload, 1) := by decide +kernel
theorem d_X12_lists_87 : decode cX12_lists 87 = .ok (.i2l, 1) := by decide +kernel
theorem d_X12_lists_88 : decode cX12_lists 88 = .ok (.lastore, 1) := by decide +kernel
theorem d_X12_lists_89 : decode cX12_lists 89 = .ok (.iinc 5 1, 3) := by decide +kernel
theorem d_X12_lists_92 : decode cX12_lists 92 = .ok (.goto (-30), 3) := by decide +kernel
theorem d_X12_lists_95 : decode cX12_lists 95 = .ok (.iload 4, 2) := by decide +kernel
theorem d_X12_lists_97 : decode cX12_lists 97 = .ok (.ireturn, 1) := by decide +kernel
def F_X12_lists_b62 : Nat → Nat → Int32 → Int32 → Int32 → xH → Option (Int32 × xH)
  | 0, _, _, _, _, _ => none
  | n + 1, x0, x1, x4, x5, h => if x4 ≤ x5 then some (x4, h) else (fR h x0 11 36).bind fun v70 => (fR h x0 11 29).bind fun v81 => (aI h v81 x5).bind fun v86 => (sJ h v70 ((((40 : Int32)) * x1) + x5) v86.toInt64).bind fun h88 => F_X12_lists_b62 n x0 x1 x4 (x5 + 1) h88
theorem R_X12_lists_b62 {Γ : xG} {l : Launch} {d : Nat} {Q : Option Value → xH → Prop} {r : Int32} {h' : xH} (hdp : 7 ≤ d) (hq : Q (some (.int r)) h') : ∀ (n : Nat) (x0 : Nat) (x1 : Int32) (x4 : Int32) (x5 : Int32) (h : xH), F_X12_lists_b62 n x0 x1 x4 x5 h = some (r, h') → Gd Γ l d m_X12_lists 62 [.ref x0, .int x1, xhole, xhole, .int x4, .int x5] [] h 0 0 Q := by
  intro n
  induction n with
  | zero => intro x0 x1 x4 x5 h hF; cases hF
  | succ n ih =>
  intro x0 x1 x4 x5 h hF
  rw [F_X12_lists_b62] at hF
  refine g_iload d_X12_lists_62 rfl ?_
  refine g_iload d_X12_lists_64 rfl ?_
  refine g_icmp_ge 95 d_X12_lists_66 rfl (fun c66 => ?_) (fun c66 => ?_)
  · have hF := x_t hF c66
    refine g_iload d_X12_lists_95 rfl ?_
    obtain ⟨rfl, rfl⟩ := x_inj hF
    exact g_iret d_X12_lists_97 rfl hq
  · have hF := x_f hF c66
    refine g_aloadn d_X12_lists_69 rfl ?_
    obtain ⟨v70, e70, hF⟩ := Option.bind_eq_some_iff.mp hF
    refine q_fR d_X12_lists_70 f_X12_79 e70 ?_
    refine g_bi (40) d_X12_lists_73 bi_40 ?_
    refine g_iloadn d_X12_lists_75 rfl ?_
    refine g_imul d_X12_lists_76 ?_
    refine g_iload d_X12_lists_77 rfl ?_
    refine g_iadd d_X12_lists_79 ?_
    refine g_aloadn d_X12_lists_80 rfl ?_
    obtain ⟨v81, e81, hF⟩ := Option.bind_eq_some_iff.mp hF
    refine q_fR d_X12_lists_81 f_X12_60 e81 ?_
    refine g_iload d_X12_lists_84 rfl ?_
    obtain ⟨v86, e86, hF⟩ := Option.bind_eq_some_iff.mp hF
    refine q_aI d_X12_lists_86 e86 ?_
    refine g_i2l d_X12_lists_87 ?_
    obtain ⟨h88, e88, hF⟩ := Option.bind_eq_some_iff.mp hF
    refine q_sJ d_X12_lists_88 e88 ?_
    refine q_iinc (1) [.ref x0, .int x1, xhole, xhole, .int x4, .int (x5 + 1)] d_X12_lists_89 ic_1 rfl (by decide) rfl ?_
    refine g_goto 62 d_X12_lists_92 rfl ?_
    exact q_to (xs_r (xs_r (xs_h (xs_h (xs_r (xs_r xs_n)))))) (ih _ _ _ _ _ hF)
def F_X12_lists_b57 (x0 : Nat) (x1 : Int32) (s0 : Int32) (h : xH) : Option (Int32 × xH) := F_X12_lists_b62 FU x0 x1 s0 0 h
theorem R_X12_lists_b57 {Γ : xG} {l : Launch} {d : Nat} {Q : Option Value → xH → Prop} {r : Int32} {h' : xH} (hdp : 7 ≤ d) (hq : Q (some (.int r)) h') : ∀ (x0 : Nat) (x1 : Int32) (s0 : Int32) (h : xH), F_X12_lists_b57 x0 x1 s0 h = some (r, h') → Gd Γ l d m_X12_lists 57 [.ref x0, .int x1, xhole, xhole, xhole, xhole] [.int s0] h 0 0 Q := by
  intro x0 x1 s0 h hF
  unfold F_X12_lists_b57 at hF
  refine q_istore [.ref x0, .int x1, xhole, xhole, .int s0, xhole] d_X12_lists_57 (by decide) rfl ?_
  refine g_ic (0) d_X12_lists_59 ic_0 ?_
  refine q_istore [.ref x0, .int x1, xhole, xhole, .int s0, .int 0] d_X12_lists_60 (by decide) rfl ?_
  exact q_to (xs_r (xs_r (xs_h (xs_h (xs_r (xs_r xs_n)))))) (R_X12_lists_b62 hdp hq FU _ _ _ _ _ hF)
def F_X12_lists (x0 : Nat) (x1 : Int32) (x2 : Int32) (h : xH) : Option (Int32 × xH) := (wI h x0 11 0 0).bind fun h2 => (rc h2 x0 11).bind fun _ => (F_X12_noTray x0 x1 h2).bind fun z7 => if z7.1 = 0 then (rc z7.2 x0 11).bind fun _ => (F_X12_isPeople x0 x2 z7.2).bind fun z19 => if ¬ z19.1 = 0 then (rc z19.2 x0 11).bind fun _ => (F_X12_laysLongest x0 x2 z19.2).bind fun z30 => (fR z30.2 x0 11 35).bind fun v38 => (aI z30.2 v38 x1).bind fun v42 => if v42 ≤ z30.1 then (fR z30.2 x0 11 35).bind fun v52 => (aI z30.2 v52 x1).bind fun v56 => F_X12_lists_b57 x0 x1 v56 z30.2 else F_X12_lists_b57 x0 x1 z30.1 z30.2 else some ((-3), z19.2) else some (z7.1, z7.2)
theorem R_X12_lists {Γ : xG} {l : Launch} {d : Nat} {r : Int32} {h' : xH} (x0 : Nat) (x1 : Int32) (x2 : Int32) (h : xH) (hdp : 7 ≤ d) (hF : F_X12_lists x0 x1 x2 h = some (r, h')) : Gm Γ l d 0 0 m_X12_lists [.ref x0, .int x1, .int x2] h (fun a u => a = some (.int r) ∧ u = h') := by
  refine Gm.of pn_X12 (Nat.le_of_ble_eq_true rfl) ?_
  show Gd Γ l d m_X12_lists 0 [.ref x0, .int x1, .int x2, xhole, xhole, xhole] [] h 0 0 _
  generalize hQ : (fun (a : Option Value) (u : xH) => a = some (.int r) ∧ u = h') = Q
  have hq : Q (some (.int r)) h' := by rw [← hQ]; exact ⟨rfl, rfl⟩
  clear hQ
  unfold F_X12_lists at hF
  refine g_aloadn d_X12_lists_0 rfl ?_
  refine g_ic (0) d_X12_lists_1 ic_0 ?_
  obtain ⟨h2, e2, hF⟩ := Option.bind_eq_some_iff.mp hF
  refine q_wI d_X12_lists_2 (w_X12_1 _) e2 ?_
  refine g_aloadn d_X12_lists_5 rfl ?_
  refine g_iloadn d_X12_lists_6 rfl ?_
  obtain ⟨_, g7, hF⟩ := Option.bind_eq_some_iff.mp hF
  obtain ⟨⟨r7, h7⟩, e7, hF⟩ := Option.bind_eq_some_iff.mp hF
  try dsimp only at hF
  refine q_callV [.int x1] [] rfl d_X12_lists_7 v_X12_319 (by omega) rfl (Nat.le_of_ble_eq_true rfl) (rc_rc g7 (by decide) rfl) (R_X12_noTray _ _ _ (by omega) e7) ?_
  refine q_istoren [.ref x0, .int x1, .int x2, .int (r7), xhole, xhole] d_X12_lists_10 (by decide) rfl ?_
  refine g_iloadn d_X12_lists_11 rfl ?_
  refine g_if_eq 17 d_X12_lists_12 rfl (fun c12 => ?_) (fun c12 => ?_)
  · have hF := x_t hF c12
    refine g_aloadn d_X12_lists_17 rfl ?_
    refine g_iloadn d_X12_lists_18 rfl ?_
    obtain ⟨_, g19, hF⟩ := Option.bind_eq_some_iff.mp hF
    obtain ⟨⟨r19, h19⟩, e19, hF⟩ := Option.bind_eq_some_iff.mp hF
    try dsimp only at hF
    refine q_callV [.int x2] [] rfl d_X12_lists_19 v_X12_268 (by omega) rfl (Nat.le_of_ble_eq_true rfl) (rc_rc g19 (by decide) rfl) (R_X12_isPeople _ _ _ (by omega) e19) ?_
    refine g_if_ne 28 d_X12_lists_22 rfl (fun c22 => ?_) (fun c22 => ?_)
    · have hF := x_t hF c22
      refine g_aloadn d_X12_lists_28 rfl ?_
      refine g_iloadn d_X12_lists_29 rfl ?_
      obtain ⟨_, g30, hF⟩ := Option.bind_eq_some_iff.mp hF
      obtain ⟨⟨r30, h30⟩, e30, hF⟩ := Option.bind_eq_some_iff.mp hF
      try dsimp only at hF
      refine q_callV [.int x2] [] rfl d_X12_lists_30 v_X12_421 (by omega) rfl (Nat.le_of_ble_eq_true rfl) (rc_rc g30 (by decide) rfl) (R_X12_laysLongest _ _ _ (by omega) e30) ?_
      refine q_istore [.ref x0, .int x1, .int x2, .int (r7), .int (r30), xhole] d_X12_lists_33 (by decide) rfl ?_
      refine g_iload d_X12_lists_35 rfl ?_
      refine g_aloadn d_X12_lists_37 rfl ?_
      obtain ⟨v38, e38, hF⟩ := Option.bind_eq_some_iff.mp hF
      refine q_fR d_X12_lists_38 f_X12_76 e38 ?_
      refine g_iloadn d_X12_lists_41 rfl ?_
      obtain ⟨v42, e42, hF⟩ := Option.bind_eq_some_iff.mp hF
      refine q_aI d_X12_lists_42 e42 ?_
      refine g_icmp_ge 51 d_X12_lists_43 rfl (fun c43 => ?_) (fun c43 => ?_)
      · have hF := x_t hF c43
        refine g_aloadn d_X12_lists_51 rfl ?_
        obtain ⟨v52, e52, hF⟩ := Option.bind_eq_some_iff.mp hF
        refine q_fR d_X12_lists_52 f_X12_76 e52 ?_
        refine g_iloadn d_X12_lists_55 rfl ?_
        obtain ⟨v56, e56, hF⟩ := Option.bind_eq_some_iff.mp hF
        refine q_aI d_X12_lists_56 e56 ?_
        exact q_to (xs_r (xs_r (xs_h (xs_h (xs_h (xs_h xs_n)))))) (R_X12_lists_b57 hdp hq _ _ _ _ hF)
      · have hF := x_f hF c43
        refine g_iload d_X12_lists_46 rfl ?_
        refine g_goto 57 d_X12_lists_48 rfl ?_
        exact q_to (xs_r (xs_r (xs_h (xs_h (xs_h (xs_h xs_n)))))) (R_X12_lists_b57 hdp hq _ _ _ _ hF)
    · have hF := x_f hF (not_not_intro c22)
      refine g_bi (-3) d_X12_lists_25 bi_m3 ?_
      obtain ⟨rfl, rfl⟩ := x_inj hF
      exact g_iret d_X12_lists_27 rfl hq
  · have hF := x_f hF c12
    refine g_iloadn d_X12_lists_15 rfl ?_
    obtain ⟨rfl, rfl⟩ := x_inj hF
    exact g_iret d_X12_lists_16 rfl hq
theorem d_X12_image_0 : decode cX12_image 0 = .ok (.aload_n 0, 1) := by decide +kernel
theorem d_X12_image_1 : decode cX12_image 1 = .ok (.iconst 0, 1) := by decide +kernel
theorem d_X12_image_2 : decode cX12_image 2 = .ok (.putfield 1, 3) := by decide +kernel
theorem d_X12_image_5 : decode cX12_image 5 = .ok (.iload_n 1, 1) := by decide +kernel
theorem d_X12_image_6 : decode cX12_image 6 = .ok (.i2l, 1) := by decide +kernel
theorem d_X12_image_7 : decode cX12_image 7 = .ok (.lconst 0, 1) := by decide +kernel
theorem d_X12_image_8 : decode cX12_image 8 = .ok (.lconst 1, 1) := by decide +kernel
theorem d_X12_image_9 : decode cX12_image 9 = .ok (.invokestatic 148, 3) := by decide +kernel
theorem d_X12_image_12 : decode cX12_image 12 = .ok (.ifCond .ne 6, 3) := by decide +kernel
theorem d_X12_image_15 : decode cX12_image 15 = .ok (.bipush (-2), 2) := by decide +kernel
theorem d_X12_image_17 : decode cX12_image 17 = .ok (.ireturn, 1) := by decide +kernel
theorem d_X12_image_18 : decode cX12_image 18 = .ok (.iconst 0, 1) := by decide +kernel
theorem d_X12_image_19 : decode cX12_image 19 = .ok (.istore_n 2, 1) := by decide +kernel
theorem d_X12_image_20 : decode cX12_image 20 = .ok (.iload_n 2, 1) := by decide +kernel
theorem d_X12_image_21 : decode cX12_image 21 = .ok (.sipush 1229, 3) := by decide +kernel
theorem d_X12_image_24 : decode cX12_image 24 = .ok (.if_icmp .ge 29, 3) := by decide +kernel
theorem d_X12_image_27 : decode cX12_image 27 = .ok (.aload_n 0, 1) := by decide +kernel
theorem d_X12_image_28 : decode cX12_image 28 = .ok (.getfield 13, 3) := by decide +kernel
theorem d_X12_image_31 : decode cX12_image 31 = .ok (.sipush 1229, 3) := by decide +kernel
theorem d_X12_image_34 : decode cX12_image 34 = .ok (.iload_n 1, 1) := by decide +kernel
theorem d_X12_image_35 : decode cX12_image 35 = .ok (.iconst 1, 1) := by decide +kernel
theorem d_X12_image_36 : decode cX12_image 36 = .ok (.iadd, 1) := by decide +kernel
theorem d_X12_image_37 : decode cX12_image 37 = .ok (.imul, 1) := by decide +kernel
theorem d_X12_image_38 : decode cX12_image 38 = .ok (.iload_n 2, 1) := by decide +kernel
theorem d_X12_image_39 : decode cX12_image 39 = .ok (.iadd, 1) := by decide +kernel
theorem d_X12_image_40 : decode cX12_image 40 = .ok (.aload_n 0, 1) := by decide +kernel
theorem d_X12_image_41 : decode cX12_image 41 = .ok (.getfield 13, 3) := by decide +kernel
theorem d_X12_image_44 : decode cX12_image 44 = .ok (.iload_n 2, 1) := by decide +kernel
theorem d_X12_image_45 : decode cX12_image 45 = .ok (.iaload, 1) := by decide +kernel
theorem d_X12_image_46 : decode cX12_image 46 = .ok (.iastore, 1) := by decide +kernel
theorem d_X12_image_47 : decode cX12_image 47 = .ok (.iinc 2 1, 3) := by decide +kernel
theorem d_X12_image_50 : decode cX12_image 50 = .ok (.goto (-30), 3) := by decide +kernel
theorem d_X12_image_53 : decode cX12_image 53 = .ok (.aload_n 0, 1) := by decide +kernel
theorem d_X12_image_54 : decode cX12_image 54 = .ok (.getfield 17, 3) := by decide +kernel
theorem d_X12_image_57 : decode cX12_image 57 = .ok (.iload_n 1, 1) := by decide +kernel
theorem d_X12_image_58 : decode cX12_image 58 = .ok (.iconst 1, 1) := by decide +kernel
theorem d_X12_image_59 : decode cX12_image 59 = .ok (.bastore, 1) := by decide +kernel
theorem d_X12_image_60 : decode cX12_image 60 = .ok (.iconst 0, 1) := by decide +kernel
theorem d_X12_image_61 : decode cX12_image 61 = .ok (.ireturn, 1) := by decide +kernel
def F_X12_image_b20 : Nat → Nat → Int32 → Int32 → xH → Option (Int32 × xH)
  | 0, _, _, _, _ => none
  | n + 1, x0, x1, x2, h => if ((1229 : Int32)) ≤ x2 then (fR h x0 11 2).bind fun v54 => (sB h v54 x1 1).bind fun h59 => some (0, h59) else (fR h x0 11 1).bind fun v28 => (fR h x0 11 1).bind fun v41 => (aI h v41 x2).bind fun v45 => (sI h v28 ((((1229 : Int32)) * (x1 + 1)) + x2) v45).bind fun h46 => F_X12_image_b20 n x0 x1 (x2 + 1) h46
theorem R_X12_image_b20 {Γ : xG} {l : Launch} {d : Nat} {Q : Option Value → xH → Prop} {r : Int32} {h' : xH} (hdp : 1 ≤ d) (hq : Q (some (.int r)) h') : ∀ (n : Nat) (x0 : Nat) (x1 : Int32) (x2 : Int32) (h : xH), F_X12_image_b20 n x0 x1 x2 h = some (r, h') → Gd Γ l d m_X12_image 20 [.ref x0, .int x1, .int x2] [] h 0 0 Q := by
  intro n
  induction n with
  | zero => intro x0 x1 x2 h hF; cases hF
  | succ n ih =>
  intro x0 x1 x2 h hF
  rw [F_X12_image_b20] at hF
  refine g_iloadn d_X12_image_20 rfl ?_
  refine g_si (1229) d_X12_image_21 si_1229 ?_
  refine g_icmp_ge 53 d_X12_image_24 rfl (fun c24 => ?_) (fun c24 => ?_)
  · have hF := x_t hF c24
    refine g_aloadn d_X12_image_53 rfl ?_
    obtain ⟨v54, e54, hF⟩ := Option.bind_eq_some_iff.mp hF
    refine q_fR d_X12_image_54 f_X12_17 e54 ?_
    refine g_iloadn d_X12_image_57 rfl ?_
    refine g_ic (1) d_X12_image_58 ic_1 ?_
    obtain ⟨h59, e59, hF⟩ := Option.bind_eq_some_iff.mp hF
    refine q_sB d_X12_image_59 e59 ?_
    refine g_ic (0) d_X12_image_60 ic_0 ?_
    obtain ⟨rfl, rfl⟩ := x_inj hF
    exact g_iret d_X12_image_61 rfl hq
  · have hF := x_f hF c24
    refine g_aloadn d_X12_image_27 rfl ?_
    obtain ⟨v28, e28, hF⟩ := Option.bind_eq_some_iff.mp hF
    refine q_fR d_X12_image_28 f_X12_13 e28 ?_
    refine g_si (1229) d_X12_image_31 si_1229 ?_
    refine g_iloadn d_X12_image_34 rfl ?_
    refine g_ic (1) d_X12_image_35 ic_1 ?_
    refine g_iadd d_X12_image_36 ?_
    refine g_imul d_X12_image_37 ?_
    refine g_iloadn d_X12_image_38 rfl ?_
    refine g_iadd d_X12_image_39 ?_
    refine g_aloadn d_X12_image_40 rfl ?_
    obtain ⟨v41, e41, hF⟩ := Option.bind_eq_some_iff.mp hF
    refine q_fR d_X12_image_41 f_X12_13 e41 ?_
    refine g_iloadn d_X12_image_44 rfl ?_
    obtain ⟨v45, e45, hF⟩ := Option.bind_eq_some_iff.mp hF
    refine q_aI d_X12_image_45 e45 ?_
    obtain ⟨h46, e46, hF⟩ := Option.bind_eq_some_iff.mp hF
    refine q_sI d_X12_image_46 e46 ?_
    refine q_iinc (1) [.ref x0, .int x1, .int (x2 + 1)] d_X12_image_47 ic_1 rfl (by decide) rfl ?_
    refine g_goto 20 d_X12_image_50 rfl ?_
    exact q_to (xs_r (xs_r (xs_r xs_n))) (ih _ _ _ _ hF)
def F_X12_image (x0 : Nat) (x1 : Int32) (h : xH) : Option (Int32 × xH) := (wI h x0 11 0 0).bind fun h2 => (F_X12_within x1.toInt64 0 1 h2).bind fun z9 => if ¬ z9.1 = 0 then F_X12_image_b20 FU x0 x1 0 z9.2 else some ((-2), z9.2)
theorem R_X12_image {Γ : xG} {l : Launch} {d : Nat} {r : Int32} {h' : xH} (x0 : Nat) (x1 : Int32) (h : xH) (hdp : 1 ≤ d) (hF : F_X12_image x0 x1 h = some (r, h')) : Gm Γ l d 0 0 m_X12_image [.ref x0, .int x1] h (fun a u => a = some (.int r) ∧ u = h') := by
  refine Gm.of pn_X12 (Nat.le_of_ble_eq_true rfl) ?_
  show Gd Γ l d m_X12_image 0 [.ref x0, .int x1, xhole] [] h 0 0 _
  generalize hQ : (fun (a : Option Value) (u : xH) => a = some (.int r) ∧ u = h') = Q
  have hq : Q (some (.int r)) h' := by rw [← hQ]; exact ⟨rfl, rfl⟩
  clear hQ
  unfold F_X12_image at hF
  refine g_aloadn d_X12_image_0 rfl ?_
  refine g_ic (0) d_X12_image_1 ic_0 ?_
  obtain ⟨h2, e2, hF⟩ := Option.bind_eq_some_iff.mp hF
  refine q_wI d_X12_image_2 (w_X12_1 _) e2 ?_
  refine g_iloadn d_X12_image_5 rfl ?_
  refine g_i2l d_X12_image_6 ?_
  refine g_lc 0 d_X12_image_7 rfl ?_
  refine g_lc 1 d_X12_image_8 rfl ?_
  obtain ⟨⟨r9, h9⟩, e9, hF⟩ := Option.bind_eq_some_iff.mp hF
  try dsimp only at hF
  refine q_callS [.long (x1.toInt64), .long 0, .long 1] [] rfl d_X12_image_9 s_X12_148 (by omega) rfl (Nat.le_of_ble_eq_true rfl) (R_X12_within _ _ _ _ (by omega) e9) ?_
  refine g_if_ne 18 d_X12_image_12 rfl (fun c12 => ?_) (fun c12 => ?_)
  · have hF := x_t hF c12
    refine g_ic (0) d_X12_image_18 ic_0 ?_
    refine q_istoren [.ref x0, .int x1, .int 0] d_X12_image_19 (by decide) rfl ?_
    exact q_to (xs_r (xs_r (xs_r xs_n))) (R_X12_image_b20 hdp hq FU _ _ _ _ hF)
  · have hF := x_f hF (not_not_intro c12)
    refine g_bi (-2) d_X12_image_15 bi_m2 ?_
    obtain ⟨rfl, rfl⟩ := x_inj hF
    exact g_iret d_X12_image_17 rfl hq
theorem d_X12_restore_0 : decode cX12_restore 0 = .ok (.aload_n 0, 1) := by decide +kernel
theorem d_X12_restore_1 : decode cX12_restore 1 = .ok (.iconst 0, 1) := by decide +kernel
theorem d_X12_restore_2 : decode cX12_restore 2 = .ok (.putfield 1, 3) := by decide +kernel
theorem d_X12_restore_5 : decode cX12_restore 5 = .ok (.iload_n 1, 1) := by decide +kernel
theorem d_X12_restore_6 : decode cX12_restore 6 = .ok (.i2l, 1) := by decide +kernel
theorem d_X12_restore_7 : decode cX12_restore 7 = .ok (.lconst 0, 1) := by decide +kernel
theorem d_X12_restore_8 : decode cX12_restore 8 = .ok (.lconst 1, 1) := by decide +kernel
theorem d_X12_restore_9 : decode cX12_restore 9 = .ok (.invokestatic 148, 3) := by decide +kernel
theorem d_X12_restore_12 : decode cX12_restore 12 = .ok (.ifCond .ne 6, 3) := by decide +kernel
theorem d_X12_restore_15 : decode cX12_restore 15 = .ok (.bipush (-2), 2) := by decide +kernel
theorem d_X12_restore_17 : decode cX12_restore 17 = .ok (.ireturn, 1) := by decide +kernel
theorem d_X12_restore_18 : decode cX12_restore 18 = .ok (.aload_n 0, 1) := by decide +kernel
theorem d_X12_restore_19 : decode cX12_restore 19 = .ok (.getfield 17, 3) := by decide +kernel
theorem d_X12_restore_22 : decode cX12_restore 22 = .ok (.iload_n 1, 1) := by decide +kernel
theorem d_X12_restore_23 : decode cX12_restore 23 = .ok (.baload, 1) := by decide +kernel
theorem d_X12_restore_24 : decode cX12_restore 24 = .ok (.ifCond .ne 6, 3) := by decide +kernel
theorem d_X12_restore_27 : decode cX12_restore 27 = .ok (.bipush (-5), 2) := by decide +kernel
theorem d_X12_restore_29 : decode cX12_restore 29 = .ok (.ireturn, 1) := by decide +kernel
theorem d_X12_restore_30 : decode cX12_restore 30 = .ok (.iconst 0, 1) := by decide +kernel
theorem d_X12_restore_31 : decode cX12_restore 31 = .ok (.istore_n 2, 1) := by decide +kernel
theorem d_X12_restore_32 : decode cX12_restore 32 = .ok (.iload_n 2, 1) := by decide +kernel
theorem d_X12_restore_33 : decode cX12_restore 33 = .ok (.sipush 1229, 3) := by decide +kernel
theorem d_X12_restore_36 : decode cX12_restore 36 = .ok (.if_icmp .ge 29, 3) := by decide +kernel
theorem d_X12_restore_39 : decode cX12_restore 39 = .ok (.aload_n 0, 1) := by decide +kernel
theorem d_X12_restore_40 : decode cX12_restore 40 = .ok (.getfield 13, 3) := by decide +kernel
theorem d_X12_restore_43 : decode cX12_restore 43 = .ok (.iload_n 2, 1) := by decide +kernel
theorem d_X12_restore_44 : decode cX12_restore 44 = .ok (.aload_n 0, 1) := by decide +kernel
theorem d_X12_restore_45 : decode cX12_restore 45 = .ok (.getfield 13, 3) := by decide +kernel
theorem d_X12_restore_48 : decode cX12_restore 48 = .ok (.sipush 1229, 3) := by decide +kernel
theorem d_X12_restore_51 : decode cX12_restore 51 = .ok (.iload_n 1, 1) := by decide +kernel
theorem d_X12_restore_52 : decode cX12_restore 52 = .ok (.iconst 1, 1) := by decide +kernel
theorem d_X12_restore_53 : decode cX12_restore 53 = .ok (.iadd, 1) := by decide +kernel
theorem d_X12_restore_54 : decode cX12_restore 54 = .ok (.imul, 1) := by decide +kernel
theorem d_X12_restore_55 : decode cX12_restore 55 = .ok (.iload_n 2, 1) := by decide +kernel
theorem d_X12_restore_56 : decode cX12_restore 56 = .ok (.iadd, 1) := by decide +kernel
theorem d_X12_restore_57 : decode cX12_restore 57 = .ok (.iaload, 1) := by decide +kernel
theorem d_X12_restore_58 : decode cX12_restore 58 = .ok (.iastore, 1) := by decide +kernel
theorem d_X12_restore_59 : decode cX12_restore 59 = .ok (.iinc 2 1, 3) := by decide +kernel
theorem d_X12_restore_62 : decode cX12_restore 62 = .ok (.goto (-30), 3) := by decide +kernel
theorem d_X12_restore_65 : decode cX12_restore 65 = .ok (.aload_n 0, 1) := by decide +kernel
theorem d_X12_restore_66 : decode cX12_restore 66 = .ok (.getfield 13, 3) := by decide +kernel
theorem d_X12_restore_69 : decode cX12_restore 69 = .ok (.bipush 127, 2) := by decide +kernel
theorem d_X12_restore_71 : decode cX12_restore 71 = .ok (.iconst 0, 1) := by decide +kernel
theorem d_X12_restore_72 : decode cX12_restore 72 = .ok (.iastore, 1) := by decide +kernel
theorem d_X12_restore_73 : decode cX12_restore 73 = .ok (.iconst 0, 1) := by decide +kernel
theorem d_X12_restore_74 : decode cX12_restore 74 = .ok (.ireturn, 1) := by decide +kernel
def F_X12_restore_b32 : Nat → Nat → Int32 → Int32 → xH → Option (Int32 × xH)
  | 0, _, _, _, _ => none
  | n + 1, x0, x1, x2, h => if ((1229 : Int32)) ≤ x2 then (fR h x0 11 1).bind fun v66 => (sI h v66 127 0).bind fun h72 => some (0, h72) else (fR h x0 11 1).bind fun v40 => (fR h x0 11 1).bind fun v45 => (aI h v45 ((((1229 : Int32)) * (x1 + 1)) + x2)).bind fun v57 => (sI h v40 x2 v57).bind fun h58 => F_X12_restore_b32 n x0 x1 (x2 + 1) h58
theorem R_X12_restore_b32 {Γ : xG} {l : Launch} {d : Nat} {Q : Option Value → xH → Prop} {r : Int32} {h' : xH} (hdp : 1 ≤ d) (hq : Q (some (.int r)) h') : ∀ (n : Nat) (x0 : Nat) (x1 : Int32) (x2 : Int32) (h : xH), F_X12_restore_b32 n x0 x1 x2 h = some (r, h') → Gd Γ l d m_X12_restore 32 [.ref x0, .int x1, .int x2] [] h 0 0 Q := by
  intro n
  induction n with
  | zero => intro x0 x1 x2 h hF; cases hF
  | succ n ih =>
  intro x0 x1 x2 h hF
  rw [F_X12_restore_b32] at hF
  refine g_iloadn d_X12_restore_32 rfl ?_
  refine g_si (1229) d_X12_restore_33 si_1229 ?_
  refine g_icmp_ge 65 d_X12_restore_36 rfl (fun c36 => ?_) (fun c36 => ?_)
  · have hF := x_t hF c36
    refine g_aloadn d_X12_restore_65 rfl ?_
    obtain ⟨v66, e66, hF⟩ := Option.bind_eq_some_iff.mp hF
    refine q_fR d_X12_restore_66 f_X12_13 e66 ?_
    refine g_bi (127) d_X12_restore_69 bi_127 ?_
    refine g_ic (0) d_X12_restore_71 ic_0 ?_
    obtain ⟨h72, e72, hF⟩ := Option.bind_eq_some_iff.mp hF
    refine q_sI d_X12_restore_72 e72 ?_
    refine g_ic (0) d_X12_restore_73 ic_0 ?_
    obtain ⟨rfl, rfl⟩ := x_inj hF
    exact g_iret d_X12_restore_74 rfl hq
  · have hF := x_f hF c36
    refine g_aloadn d_X12_restore_39 rfl ?_
    obtain ⟨v40, e40, hF⟩ := Option.bind_eq_some_iff.mp hF
    refine q_fR d_X12_restore_40 f_X12_13 e40 ?_
    refine g_iloadn d_X12_restore_43 rfl ?_
    refine g_aloadn d_X12_restore_44 rfl ?_
    obtain ⟨v45, e45, hF⟩ := Option.bind_eq_some_iff.mp hF
    refine q_fR d_X12_restore_45 f_X12_13 e45 ?_
    refine g_si (1229) d_X12_restore_48 si_1229 ?_
    refine g_iloadn d_X12_restore_51 rfl ?_
    refine g_ic (1) d_X12_restore_52 ic_1 ?_
    refine g_iadd d_X12_restore_53 ?_
    refine g_imul d_X12_restore_54 ?_
    refine g_iloadn d_X12_restore_55 rfl ?_
    refine g_iadd d_X12_restore_56 ?_
    obtain ⟨v57, e57, hF⟩ := Option.bind_eq_some_iff.mp hF
    refine q_aI d_X12_restore_57 e57 ?_
    obtain ⟨h58, e58, hF⟩ := Option.bind_eq_some_iff.mp hF
    refine q_sI d_X12_restore_58 e58 ?_
    refine q_iinc (1) [.ref x0, .int x1, .int (x2 + 1)] d_X12_restore_59 ic_1 rfl (by decide) rfl ?_
    refine g_goto 32 d_X12_restore_62 rfl ?_
    exact q_to (xs_r (xs_r (xs_r xs_n))) (ih _ _ _ _ hF)
def F_X12_restore (x0 : Nat) (x1 : Int32) (h : xH) : Option (Int32 × xH) := (wI h x0 11 0 0).bind fun h2 => (F_X12_within x1.toInt64 0 1 h2).bind fun z9 => if ¬ z9.1 = 0 then (fR z9.2 x0 11 2).bind fun v19 => (aB z9.2 v19 x1).bind fun v23 => if ¬ v23 = 0 then F_X12_restore_b32 FU x0 x1 0 z9.2 else some ((-5), z9.2) else some ((-2), z9.2)
theorem R_X12_restore {Γ : xG} {l : Launch} {d : Nat} {r : Int32} {h' : xH} (x0 : Nat) (x1 : Int32) (h : xH) (hdp : 1 ≤ d) (hF : F_X12_restore x0 x1 h = some (r, h')) : Gm Γ l d 0 0 m_X12_restore [.ref x0, .int x1] h (fun a u => a = some (.int r) ∧ u = h') := by
  refine Gm.of pn_X12 (Nat.le_of_ble_eq_true rfl) ?_
  show Gd Γ l d m_X12_restore 0 [.ref x0, .int x1, xhole] [] h 0 0 _
  generalize hQ : (fun (a : Option Value) (u : xH) => a = some (.int r) ∧ u = h') = Q
  have hq : Q (some (.int r)) h' := by rw [← hQ]; exact ⟨rfl, rfl⟩
  clear hQ
  unfold F_X12_restore at hF
  refine g_aloadn d_X12_restore_0 rfl ?_
  refine g_ic (0) d_X12_restore_1 ic_0 ?_
  obtain ⟨h2, e2, hF⟩ := Option.bind_eq_some_iff.mp hF
  refine q_wI d_X12_restore_2 (w_X12_1 _) e2 ?_
  refine g_iloadn d_X12_restore_5 rfl ?_
  refine g_i2l d_X12_restore_6 ?_
  refine g_lc 0 d_X12_restore_7 rfl ?_
  refine g_lc 1 d_X12_restore_8 rfl ?_
  obtain ⟨⟨r9, h9⟩, e9, hF⟩ := Option.bind_eq_some_iff.mp hF
  try dsimp only at hF
  refine q_callS [.long (x1.toInt64), .long 0, .long 1] [] rfl d_X12_restore_9 s_X12_148 (by omega) rfl (Nat.le_of_ble_eq_true rfl) (R_X12_within _ _ _ _ (by omega) e9) ?_
  refine g_if_ne 18 d_X12_restore_12 rfl (fun c12 => ?_) (fun c12 => ?_)
  · have hF := x_t hF c12
    refine g_aloadn d_X12_restore_18 rfl ?_
    obtain ⟨v19, e19, hF⟩ := Option.bind_eq_some_iff.mp hF
    refine q_fR d_X12_restore_19 f_X12_17 e19 ?_
    refine g_iloadn d_X12_restore_22 rfl ?_
    obtain ⟨v23, e23, hF⟩ := Option.bind_eq_some_iff.mp hF
    refine q_aB d_X12_restore_23 e23 ?_
    refine g_if_ne 30 d_X12_restore_24 rfl (fun c24 => ?_) (fun c24 => ?_)
    · have hF := x_t hF c24
      refine g_ic (0) d_X12_restore_30 ic_0 ?_
      refine q_istoren [.ref x0, .int x1, .int 0] d_X12_restore_31 (by decide) rfl ?_
      exact q_to (xs_r (xs_r (xs_r xs_n))) (R_X12_restore_b32 hdp hq FU _ _ _ _ hF)
    · have hF := x_f hF (not_not_intro c24)
      refine g_bi (-5) d_X12_restore_27 bi_m5 ?_
      obtain ⟨rfl, rfl⟩ := x_inj hF
      exact g_iret d_X12_restore_29 rfl hq
  · have hF := x_f hF (not_not_intro c12)
    refine g_bi (-2) d_X12_restore_15 bi_m2 ?_
    obtain ⟨rfl, rfl⟩ := x_inj hF
    exact g_iret d_X12_restore_17 rfl hq
theorem d_X12_waysAll_0 : decode cX12_waysAll 0 = .ok (.iconst 0, 1) := by decide +kernel
theorem d_X12_waysAll_1 : decode cX12_waysAll 1 = .ok (.istore_n 1, 1) := by decide +kernel
theorem d_X12_waysAll_2 : decode cX12_waysAll 2 = .ok (.iconst 0, 1) := by decide +kernel
theorem d_X12_waysAll_3 : decode cX12_waysAll 3 = .ok (.istore_n 2, 1) := by decide +kernel
theorem d_X12_waysAll_4 : decode cX12_waysAll 4 = .ok (.iload_n 2, 1) := by decide +kernel
theorem d_X12_waysAll_5 : decode cX12_waysAll 5 = .ok (.aload_n 0, 1) := by decide +kernel
theorem d_X12_waysAll_6 : decode cX12_waysAll 6 = .ok (.getfield 13, 3) := by decide +kernel
theorem d_X12_waysAll_9 : decode cX12_waysAll 9 = .ok (.iconst 3, 1) := by decide +kernel
theorem d_X12_waysAll_10 : decode cX12_waysAll 10 = .ok (.iaload, 1) := by decide +kernel
theorem d_X12_waysAll_11 : decode cX12_waysAll 11 = .ok (.if_icmp .ge 24, 3) := by decide +kernel
theorem d_X12_waysAll_14 : decode cX12_waysAll 14 = .ok (.iload_n 1, 1) := by decide +kernel
theorem d_X12_waysAll_15 : decode cX12_waysAll 15 = .ok (.aload_n 0, 1) := by decide +kernel
theorem d_X12_waysAll_16 : decode cX12_waysAll 16 = .ok (.getfield 13, 3) := by decide +kernel
theorem d_X12_waysAll_19 : decode cX12_waysAll 19 = .ok (.bipush 77, 2) := by decide +kernel
theorem d_X12_waysAll_21 : decode cX12_waysAll 21 = .ok (.iload_n 2, 1) := by decide +kernel
theorem d_X12_waysAll_22 : decode cX12_waysAll 22 = .ok (.iadd, 1) := by decide +kernel
theorem d_X12_waysAll_23 : decode cX12_waysAll 23 = .ok (.iaload, 1) := by decide +kernel
theorem d_X12_waysAll_24 : decode cX12_waysAll 24 = .ok (.invokestatic 354, 3) := by decide +kernel
theorem d_X12_waysAll_27 : decode cX12_waysAll 27 = .ok (.iadd, 1) := by decide +kernel
theorem d_X12_waysAll_28 : decode cX12_waysAll 28 = .ok (.istore_n 1, 1) := by decide +kernel
theorem d_X12_waysAll_29 : decode cX12_waysAll 29 = .ok (.iinc 2 1, 3) := by decide +kernel
theorem d_X12_waysAll_32 : decode cX12_waysAll 32 = .ok (.goto (-28), 3) := by decide +kernel
theorem d_X12_waysAll_35 : decode cX12_waysAll 35 = .ok (.iload_n 1, 1) := by decide +kernel
theorem d_X12_waysAll_36 : decode cX12_waysAll 36 = .ok (.iconst 2, 1) := by decide +kernel
theorem d_X12_waysAll_37 : decode cX12_waysAll 37 = .ok (.idiv, 1) := by decide +kernel
theorem d_X12_waysAll_38 : decode cX12_waysAll 38 = .ok (.ireturn, 1) := by decide +kernel
def F_X12_waysAll_b4 : Nat → Nat → Int32 → Int32 → xH → Option (Int32 × xH)
  | 0, _, _, _, _ => none
  | n + 1, x0, x1, x2, h => (fR h x0 11 1).bind fun v6 => (aI h v6 3).bind fun v10 => if v10 ≤ x2 then some (idv x1 2, h) else (fR h x0 11 1).bind fun v16 => (aI h v16 (((77 : Int32)) + x2)).bind fun v23 => (F_X12_bitsOf v23 h).bind fun z24 => F_X12_waysAll_b4 n x0 (x1 + z24.1) (x2 + 1) z24.2
theorem R_X12_waysAll_b4 {Γ : xG} {l : Launch} {d : Nat} {Q : Option Value → xH → Prop} {r : Int32} {h' : xH} (hdp : 1 ≤ d) (hq : Q (some (.int r)) h') : ∀ (n : Nat) (x0 : Nat) (x1 : Int32) (x2 : Int32) (h : xH), F_X12_waysAll_b4 n x0 x1 x2 h = some (r, h') → Gd Γ l d m_X12_waysAll 4 [.ref x0, .int x1, .int x2] [] h 0 0 Q := by
  intro n
  induction n with
  | zero => intro x0 x1 x2 h hF; cases hF
  | succ n ih =>
  intro x0 x1 x2 h hF
  rw [F_X12_waysAll_b4] at hF
  refine g_iloadn d_X12_waysAll_4 rfl ?_
  refine g_aloadn d_X12_waysAll_5 rfl ?_
  obtain ⟨v6, e6, hF⟩ := Option.bind_eq_some_iff.mp hF
  refine q_fR d_X12_waysAll_6 f_X12_13 e6 ?_
  refine g_ic (3) d_X12_waysAll_9 ic_3 ?_
  obtain ⟨v10, e10, hF⟩ := Option.bind_eq_some_iff.mp hF
  refine q_aI d_X12_waysAll_10 e10 ?_
  refine g_icmp_ge 35 d_X12_waysAll_11 rfl (fun c11 => ?_) (fun c11 => ?_)
  · have hF := x_t hF c11
    refine g_iloadn d_X12_waysAll_35 rfl ?_
    refine g_ic (2) d_X12_waysAll_36 ic_2 ?_
    refine q_idiv d_X12_waysAll_37 (by decide) ?_
    obtain ⟨rfl, rfl⟩ := x_inj hF
    exact g_iret d_X12_waysAll_38 rfl hq
  · have hF := x_f hF c11
    refine g_iloadn d_X12_waysAll_14 rfl ?_
    refine g_aloadn d_X12_waysAll_15 rfl ?_
    obtain ⟨v16, e16, hF⟩ := Option.bind_eq_some_iff.mp hF
    refine q_fR d_X12_waysAll_16 f_X12_13 e16 ?_
    refine g_bi (77) d_X12_waysAll_19 bi_77 ?_
    refine g_iloadn d_X12_waysAll_21 rfl ?_
    refine g_iadd d_X12_waysAll_22 ?_
    obtain ⟨v23, e23, hF⟩ := Option.bind_eq_some_iff.mp hF
    refine q_aI d_X12_waysAll_23 e23 ?_
    obtain ⟨⟨r24, h24⟩, e24, hF⟩ := Option.bind_eq_some_iff.mp hF
    try dsimp only at hF
    refine q_callS [.int v23] [.int x1] rfl d_X12_waysAll_24 s_X12_354 (by omega) rfl (Nat.le_of_ble_eq_true rfl) (R_X12_bitsOf _ _ (by omega) e24) ?_
    refine g_iadd d_X12_waysAll_27 ?_
    refine q_istoren [.ref x0, .int (x1 + r24), .int x2] d_X12_waysAll_28 (by decide) rfl ?_
    refine q_iinc (1) [.ref x0, .int (x1 + r24), .int (x2 + 1)] d_X12_waysAll_29 ic_1 rfl (by decide) rfl ?_
    refine g_goto 4 d_X12_waysAll_32 rfl ?_
    exact q_to (xs_r (xs_r (xs_r xs_n))) (ih _ _ _ _ hF)
def F_X12_waysAll (x0 : Nat) (h : xH) : Option (Int32 × xH) := F_X12_waysAll_b4 FU x0 0 0 h
theorem R_X12_waysAll {Γ : xG} {l : Launch} {d : Nat} {r : Int32} {h' : xH} (x0 : Nat) (h : xH) (hdp : 1 ≤ d) (hF : F_X12_waysAll x0 h = some (r, h')) : Gm Γ l d 0 0 m_X12_waysAll [.ref x0] h (fun a u => a = some (.int r) ∧ u = h') := by
  refine Gm.of pn_X12 (Nat.le_of_ble_eq_true rfl) ?_
  show Gd Γ l d m_X12_waysAll 0 [.ref x0, xhole, xhole] [] h 0 0 _
  generalize hQ : (fun (a : Option Value) (u : xH) => a = some (.int r) ∧ u = h') = Q
  have hq : Q (some (.int r)) h' := by rw [← hQ]; exact ⟨rfl, rfl⟩
  clear hQ
  unfold F_X12_waysAll at hF
  refine g_ic (0) d_X12_waysAll_0 ic_0 ?_
  refine q_istoren [.ref x0, .int 0, xhole] d_X12_waysAll_1 (by decide) rfl ?_
  refine g_ic (0) d_X12_waysAll_2 ic_0 ?_
  refine q_istoren [.ref x0, .int 0, .int 0] d_X12_waysAll_3 (by decide) rfl ?_
  exact q_to (xs_r (xs_r (xs_r xs_n))) (R_X12_waysAll_b4 hdp hq FU _ _ _ _ hF)
theorem d_X12_count_0 : decode cX12_count 0 = .ok (.aload_n 0, 1) := by decide +kernel
theorem d_X12_count_1 : decode cX12_count 1 = .ok (.iconst 0, 1) := by decide +kernel
theorem d_X12_count_2 : decode cX12_count 2 = .ok (.putfield 1, 3) := by decide +kernel
theorem d_X12_count_5 : decode cX12_count 5 = .ok (.iload_n 1, 1) := by decide +kernel
theorem d_X12_count_6 : decode cX12_count 6 = .ok (.tableswitch 123 0 9 #[54, 61, 68, 75, 82, 90, 98, 103, 111, 116], 54) := by decide +kernel
theorem d_X12_count_60 : decode cX12_count 60 = .ok (.aload_n 0, 1) := by decide +kernel
theorem d_X12_count_61 : decode cX12_count 61 = .ok (.getfield 13, 3) := by decide +kernel
theorem d_X12_count_64 : decode cX12_count 64 = .ok (.iconst 1, 1) := by decide +kernel
theorem d_X12_count_65 : decode cX12_count 65 = .ok (.iaload, 1) := by decide +kernel
theorem d_X12_count_66 : decode cX12_count 66 = .ok (.ireturn, 1) := by decide +kernel
theorem d_X12_count_67 : decode cX12_count 67 = .ok (.aload_n 0, 1) := by decide +kernel
theorem d_X12_count_68 : decode cX12_count 68 = .ok (.getfield 13, 3) := by decide +kernel
theorem d_X12_count_71 : decode cX12_count 71 = .ok (.iconst 2, 1) := by decide +kernel
theorem d_X12_count_72 : decode cX12_count 72 = .ok (.iaload, 1) := by decide +kernel
theorem d_X12_count_73 : decode cX12_count 73 = .ok (.ireturn, 1) := by decide +kernel
theorem d_X12_count_74 : decode cX12_count 74 = .ok (.aload_n 0, 1) := by decide +kernel
theorem d_X12_count_75 : decode cX12_count 75 = .ok (.getfield 13, 3) := by decide +kernel
theorem d_X12_count_78 : decode cX12_count 78 = .ok (.iconst 3, 1) := by decide +kernel
theorem d_X12_count_79 : decode cX12_count 79 = .ok (.iaload, 1) := by decide +kernel
theorem d_X12_count_80 : decode cX12_count 80 = .ok (.ireturn, 1) := by decide +kernel
theorem d_X12_count_81 : decode cX12_count 81 = .ok (.aload_n 0, 1) := by decide +kernel
theorem d_X12_count_82 : decode cX12_count 82 = .ok (.getfield 13, 3) := by decide +kernel
theorem d_X12_count_85 : decode cX12_count 85 = .ok (.iconst 4, 1) := by decide +kernel
theorem d_X12_count_86 : decode cX12_count 86 = .ok (.iaload, 1) := by decide +kernel
theorem d_X12_count_87 : decode cX12_count 87 = .ok (.ireturn, 1) := by decide +kernel
theorem d_X12_count_88 : decode cX12_count 88 = .ok (.aload_n 0, 1) := by decide +kernel
theorem d_X12_count_89 : decode cX12_count 89 = .ok (.getfield 13, 3) := by decide +kernel
theorem d_X12_count_92 : decode cX12_count 92 = .ok (.bipush 108, 2) := by decide +kernel
theorem d_X12_count_94 : decode cX12_count 94 = .ok (.iaload, 1) := by decide +kernel
theorem d_X12_count_95 : decode cX12_count 95 = .ok (.ireturn, 1) := by decide +kernel
theorem d_X12_count_96 : decode cX12_count 96 = .ok (.aload_n 0, 1) := by decide +kernel
theorem d_X12_count_97 : decode cX12_count 97 = .ok (.getfield 13, 3) := by decide +kernel
theorem d_X12_count_100 : decode cX12_count 100 = .ok (.bipush 107, 2) := by decide +kernel
theorem d_X12_count_102 : decode cX12_count 102 = .ok (.iaload, 1) := by decide +kernel
theorem d_X12_count_103 : decode cX12_count 103 = .ok (.ireturn, 1) := by decide +kernel
theorem d_X12_count_104 : decode cX12_count 104 = .ok (.aload_n 0, 1) := by decide +kernel
theorem d_X12_count_105 : decode cX12_count 105 = .ok (.invokevirtual 474, 3) := by decide +kernel
theorem d_X12_count_108 : decode cX12_count 108 = .ok (.ireturn, 1) := by decide +kernel
theorem d_X12_count_109 : decode cX12_count 109 = .ok (.aload_n 0, 1) := by decide +kernel
theorem d_X12_count_110 : decode cX12_count 110 = .ok (.getfield 13, 3) := by decide +kernel
theorem d_X12_count_113 : decode cX12_count 113 = .ok (.bipush 127, 2) := by decide +kernel
theorem d_X12_count_115 : decode cX12_count 115 = .ok (.iaload, 1) := by decide +kernel
theorem d_X12_count_116 : decode cX12_count 116 = .ok (.ireturn, 1) := by decide +kernel
theorem d_X12_count_117 : decode cX12_count 117 = .ok (.aload_n 0, 1) := by decide +kernel
theorem d_X12_count_118 : decode cX12_count 118 = .ok (.getfield 86, 3) := by decide +kernel
theorem d_X12_count_121 : decode cX12_count 121 = .ok (.ireturn, 1) := by decide +kernel
theorem d_X12_count_122 : decode cX12_count 122 = .ok (.aload_n 0, 1) := by decide +kernel
theorem d_X12_count_123 : decode cX12_count 123 = .ok (.getfield 13, 3) := by decide +kernel
theorem d_X12_count_126 : decode cX12_count 126 = .ok (.iconst 0, 1) := by decide +kernel
theorem d_X12_count_127 : decode cX12_count 127 = .ok (.iaload, 1) := by decide +kernel
theorem d_X12_count_128 : decode cX12_count 128 = .ok (.ireturn, 1) := by decide +kernel
theorem d_X12_count_129 : decode cX12_count 129 = .ok (.iconst (-1), 1) := by decide +kernel
theorem d_X12_count_130 : decode cX12_count 130 = .ok (.ireturn, 1) := by decide +kernel
def F_X12_count (x0 : Nat) (x1 : Int32) (h : xH) : Option (Int32 × xH) := (wI h x0 11 0 0).bind fun h2 => if x1 = 0 then (fR h2 x0 11 1).bind fun v61 => (aI h2 v61 1).bind fun v65 => some (v65, h2) else if x1 = 1 then (fR h2 x0 11 1).bind fun v68 => (aI h2 v68 2).bind fun v72 => some (v72, h2) else if x1 = 2 then (fR h2 x0 11 1).bind fun v75 => (aI h2 v75 3).bind fun v79 => some (v79, h2) else if x1 = 3 then (fR h2 x0 11 1).bind fun v82 => (aI h2 v82 4).bind fun v86 => some (v86, h2) else if x1 = 4 then (fR h2 x0 11 1).bind fun v89 => (aI h2 v89 108).bind fun v94 => some (v94, h2) else if x1 = 5 then (fR h2 x0 11 1).bind fun v97 => (aI h2 v97 107).bind fun v102 => some (v102, h2) else if x1 = 6 then (rc h2 x0 11).bind fun _ => (F_X12_waysAll x0 h2).bind fun z105 => some (z105.1, z105.2) else if x1 = 7 then (fR h2 x0 11 1).bind fun v110 => (aI h2 v110 127).bind fun v115 => some (v115, h2) else if x1 = 8 then (fI h2 x0 11 5).bind fun v118 => some (v118, h2) else if x1 = 9 then (fR h2 x0 11 1).bind fun v123 => (aI h2 v123 0).bind fun v127 => some (v127, h2) else some ((-1), h2)
theorem R_X12_count {Γ : xG} {l : Launch} {d : Nat} {r : Int32} {h' : xH} (x0 : Nat) (x1 : Int32) (h : xH) (hdp : 2 ≤ d) (hF : F_X12_count x0 x1 h = some (r, h')) : Gm Γ l d 0 0 m_X12_count [.ref x0, .int x1] h (fun a u => a = some (.int r) ∧ u = h') := by
  refine Gm.of pn_X12 (Nat.le_of_ble_eq_true rfl) ?_
  show Gd Γ l d m_X12_count 0 [.ref x0, .int x1] [] h 0 0 _
  generalize hQ : (fun (a : Option Value) (u : xH) => a = some (.int r) ∧ u = h') = Q
  have hq : Q (some (.int r)) h' := by rw [← hQ]; exact ⟨rfl, rfl⟩
  clear hQ
  unfold F_X12_count at hF
  refine g_aloadn d_X12_count_0 rfl ?_
  refine g_ic (0) d_X12_count_1 ic_0 ?_
  obtain ⟨h2, e2, hF⟩ := Option.bind_eq_some_iff.mp hF
  refine q_wI d_X12_count_2 (w_X12_1 _) e2 ?_
  refine g_iloadn d_X12_count_5 rfl ?_
  rcases Classical.em (x1 = 0) with c6_0 | c6_0
  · have hF := x_t hF c6_0
    refine q_tabIn 60 d_X12_count_6 c6_0 (by decide) (by decide) rfl rfl ?_
    refine g_aloadn d_X12_count_60 rfl ?_
    obtain ⟨v61, e61, hF⟩ := Option.bind_eq_some_iff.mp hF
    refine q_fR d_X12_count_61 f_X12_13 e61 ?_
    refine g_ic (1) d_X12_count_64 ic_1 ?_
    obtain ⟨v65, e65, hF⟩ := Option.bind_eq_some_iff.mp hF
    refine q_aI d_X12_count_65 e65 ?_
    obtain ⟨rfl, rfl⟩ := x_inj hF
    exact g_iret d_X12_count_66 rfl hq
  have hF := x_f hF c6_0
  rcases Classical.em (x1 = 1) with c6_1 | c6_1
  · have hF := x_t hF c6_1
    refine q_tabIn 67 d_X12_count_6 c6_1 (by decide) (by decide) rfl rfl ?_
    refine g_aloadn d_X12_count_67 rfl ?_
    obtain ⟨v68, e68, hF⟩ := Option.bind_eq_some_iff.mp hF
    refine q_fR d_X12_count_68 f_X12_13 e68 ?_
    refine g_ic (2) d_X12_count_71 ic_2 ?_
    obtain ⟨v72, e72, hF⟩ := Option.bind_eq_some_iff.mp hF
    refine q_aI d_X12_count_72 e72 ?_
    obtain ⟨rfl, rfl⟩ := x_inj hF
    exact g_iret d_X12_count_73 rfl hq
  have hF := x_f hF c6_1
  rcases Classical.em (x1 = 2) with c6_2 | c6_2
  · have hF := x_t hF c6_2
    refine q_tabIn 74 d_X12_count_6 c6_2 (by decide) (by decide) rfl rfl ?_
    refine g_aloadn d_X12_count_74 rfl ?_
    obtain ⟨v75, e75, hF⟩ := Option.bind_eq_some_iff.mp hF
    refine q_fR d_X12_count_75 f_X12_13 e75 ?_
    refine g_ic (3) d_X12_count_78 ic_3 ?_
    obtain ⟨v79, e79, hF⟩ := Option.bind_eq_some_iff.mp hF
    refine q_aI d_X12_count_79 e79 ?_
    obtain ⟨rfl, rfl⟩ := x_inj hF
    exact g_iret d_X12_count_80 rfl hq
  have hF := x_f hF c6_2
  rcases Classical.em (x1 = 3) with c6_3 | c6_3
  · have hF := x_t hF c6_3
    refine q_tabIn 81 d_X12_count_6 c6_3 (by decide) (by decide) rfl rfl ?_
    refine g_aloadn d_X12_count_81 rfl ?_
    obtain ⟨v82, e82, hF⟩ := Option.bind_eq_some_iff.mp hF
    refine q_fR d_X12_count_82 f_X12_13 e82 ?_
    refine g_ic (4) d_X12_count_85 ic_4 ?_
    obtain ⟨v86, e86, hF⟩ := Option.bind_eq_some_iff.mp hF
    refine q_aI d_X12_count_86 e86 ?_
    obtain ⟨rfl, rfl⟩ := x_inj hF
    exact g_iret d_X12_count_87 rfl hq
  have hF := x_f hF c6_3
  rcases Classical.em (x1 = 4) with c6_4 | c6_4
  · have hF := x_t hF c6_4
    refine q_tabIn 88 d_X12_count_6 c6_4 (by decide) (by decide) rfl rfl ?_
    refine g_aloadn d_X12_count_88 rfl ?_
    obtain ⟨v89, e89, hF⟩ := Option.bind_eq_some_iff.mp hF
    refine q_fR d_X12_count_89 f_X12_13 e89 ?_
    refine g_bi (108) d_X12_count_92 bi_108 ?_
    obtain ⟨v94, e94, hF⟩ := Option.bind_eq_some_iff.mp hF
    refine q_aI d_X12_count_94 e94 ?_
    obtain ⟨rfl, rfl⟩ := x_inj hF
    exact g_iret d_X12_count_95 rfl hq
  have hF := x_f hF c6_4
  rcases Classical.em (x1 = 5) with c6_5 | c6_5
  · have hF := x_t hF c6_5
    refine q_tabIn 96 d_X12_count_6 c6_5 (by decide) (by decide) rfl rfl ?_
    refine g_aloadn d_X12_count_96 rfl ?_
    obtain ⟨v97, e97, hF⟩ := Option.bind_eq_some_iff.mp hF
    refine q_fR d_X12_count_97 f_X12_13 e97 ?_
    refine g_bi (107) d_X12_count_100 bi_107 ?_
    obtain ⟨v102, e102, hF⟩ := Option.bind_eq_some_iff.mp hF
    refine q_aI d_X12_count_102 e102 ?_
    obtain ⟨rfl, rfl⟩ := x_inj hF
    exact g_iret d_X12_count_103 rfl hq
  have hF := x_f hF c6_5
  rcases Classical.em (x1 = 6) with c6_6 | c6_6
  · have hF := x_t hF c6_6
    refine q_tabIn 104 d_X12_count_6 c6_6 (by decide) (by decide) rfl rfl ?_
    refine g_aloadn d_X12_count_104 rfl ?_
    obtain ⟨_, g105, hF⟩ := Option.bind_eq_some_iff.mp hF
    obtain ⟨⟨r105, h105⟩, e105, hF⟩ := Option.bind_eq_some_iff.mp hF
    try dsimp only at hF
    refine q_callV [] [] rfl d_X12_count_105 v_X12_474 (by omega) rfl (Nat.le_of_ble_eq_true rfl) (rc_rc g105 (by decide) rfl) (R_X12_waysAll _ _ (by omega) e105) ?_
    obtain ⟨rfl, rfl⟩ := x_inj hF
    exact g_iret d_X12_count_108 rfl hq
  have hF := x_f hF c6_6
  rcases Classical.em (x1 = 7) with c6_7 | c6_7
  · have hF := x_t hF c6_7
    refine q_tabIn 109 d_X12_count_6 c6_7 (by decide) (by decide) rfl rfl ?_
    refine g_aloadn d_X12_count_109 rfl ?_
    obtain ⟨v110, e110, hF⟩ := Option.bind_eq_some_iff.mp hF
    refine q_fR d_X12_count_110 f_X12_13 e110 ?_
    refine g_bi (127) d_X12_count_113 bi_127 ?_
    obtain ⟨v115, e115, hF⟩ := Option.bind_eq_some_iff.mp hF
    refine q_aI d_X12_count_115 e115 ?_
    obtain ⟨rfl, rfl⟩ := x_inj hF
    exact g_iret d_X12_count_116 rfl hq
  have hF := x_f hF c6_7
  rcases Classical.em (x1 = 8) with c6_8 | c6_8
  · have hF := x_t hF c6_8
    refine q_tabIn 117 d_X12_count_6 c6_8 (by decide) (by decide) rfl rfl ?_
    refine g_aloadn d_X12_count_117 rfl ?_
    obtain ⟨v118, e118, hF⟩ := Option.bind_eq_some_iff.mp hF
    refine q_fI d_X12_count_118 f_X12_86 e118 ?_
    obtain ⟨rfl, rfl⟩ := x_inj hF
    exact g_iret d_X12_count_121 rfl hq
  have hF := x_f hF c6_8
  rcases Classical.em (x1 = 9) with c6_9 | c6_9
  · have hF := x_t hF c6_9
    refine q_tabIn 122 d_X12_count_6 c6_9 (by decide) (by decide) rfl rfl ?_
    refine g_aloadn d_X12_count_122 rfl ?_
    obtain ⟨v123, e123, hF⟩ := Option.bind_eq_some_iff.mp hF
    refine q_fR d_X12_count_123 f_X12_13 e123 ?_
    refine g_ic (0) d_X12_count_126 ic_0 ?_
    obtain ⟨v127, e127, hF⟩ := Option.bind_eq_some_iff.mp hF
    refine q_aI d_X12_count_127 e127 ?_
    obtain ⟨rfl, rfl⟩ := x_inj hF
    exact g_iret d_X12_count_128 rfl hq
  have hF := x_f hF c6_9
  refine g_tabOut 129 d_X12_count_6 (by have a0 := sw_ne c6_0 (k := 0) (by decide); have a1 := sw_ne c6_1 (k := 1) (by decide); have a2 := sw_ne c6_2 (k := 2) (by decide); have a3 := sw_ne c6_3 (k := 3) (by decide); have a4 := sw_ne c6_4 (k := 4) (by decide); have a5 := sw_ne c6_5 (k := 5) (by decide); have a6 := sw_ne c6_6 (k := 6) (by decide); have a7 := sw_ne c6_7 (k := 7) (by decide); have a8 := sw_ne c6_8 (k := 8) (by decide); have a9 := sw_ne c6_9 (k := 9) (by decide); omega) rfl ?_
  refine g_ic (-1) d_X12_count_129 ic_m1 ?_
  obtain ⟨rfl, rfl⟩ := x_inj hF
  exact g_iret d_X12_count_130 rfl hq
