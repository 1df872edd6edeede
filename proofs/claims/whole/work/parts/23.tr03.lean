/-! ===== methods as functions, 3: written by a program out of the listings ===== -/
theorem d_X5_measureWays_0 : decode cX5_measureWays 0 = .ok (.aload_n 1, 1) := by decide +kernel
theorem d_X5_measureWays_1 : decode cX5_measureWays 1 = .ok (.getfield 35, 3) := by decide +kernel
theorem d_X5_measureWays_4 : decode cX5_measureWays 4 = .ok (.istore_n 3, 1) := by decide +kernel
theorem d_X5_measureWays_5 : decode cX5_measureWays 5 = .ok (.iconst 0, 1) := by decide +kernel
theorem d_X5_measureWays_6 : decode cX5_measureWays 6 = .ok (.istore 4, 2) := by decide +kernel
theorem d_X5_measureWays_8 : decode cX5_measureWays 8 = .ok (.iload 4, 2) := by decide +kernel
theorem d_X5_measureWays_10 : decode cX5_measureWays 10 = .ok (.iload_n 3, 1) := by decide +kernel
theorem d_X5_measureWays_11 : decode cX5_measureWays 11 = .ok (.if_icmp .ge 93, 3) := by decide +kernel
theorem d_X5_measureWays_14 : decode cX5_measureWays 14 = .ok (.iconst 0, 1) := by decide +kernel
theorem d_X5_measureWays_15 : decode cX5_measureWays 15 = .ok (.istore 5, 2) := by decide +kernel
theorem d_X5_measureWays_17 : decode cX5_measureWays 17 = .ok (.iload 5, 2) := by decide +kernel
theorem d_X5_measureWays_19 : decode cX5_measureWays 19 = .ok (.iload_n 3, 1) := by decide +kernel
theorem d_X5_measureWays_20 : decode cX5_measureWays 20 = .ok (.if_icmp .ge 78, 3) := by decide +kernel
theorem d_X5_measureWays_23 : decode cX5_measureWays 23 = .ok (.aload_n 1, 1) := by decide +kernel
theorem d_X5_measureWays_24 : decode cX5_measureWays 24 = .ok (.getfield 63, 3) := by decide +kernel
theorem d_X5_measureWays_27 : decode cX5_measureWays 27 = .ok (.iload 4, 2) := by decide +kernel
theorem d_X5_measureWays_29 : decode cX5_measureWays 29 = .ok (.iaload, 1) := by decide +kernel
theorem d_X5_measureWays_30 : decode cX5_measureWays 30 = .ok (.iload 5, 2) := by decide +kernel
theorem d_X5_measureWays_32 : decode cX5_measureWays 32 = .ok (.ishr, 1) := by decide +kernel
theorem d_X5_measureWays_33 : decode cX5_measureWays 33 = .ok (.iload_n 2, 1) := by decide +kernel
theorem d_X5_measureWays_34 : decode cX5_measureWays 34 = .ok (.iload 4, 2) := by decide +kernel
theorem d_X5_measureWays_36 : decode cX5_measureWays 36 = .ok (.ishr, 1) := by decide +kernel
theorem d_X5_measureWays_37 : decode cX5_measureWays 37 = .ok (.iand, 1) := by decide +kernel
theorem d_X5_measureWays_38 : decode cX5_measureWays 38 = .ok (.iload_n 2, 1) := by decide +kernel
theorem d_X5_measureWays_39 : decode cX5_measureWays 39 = .ok (.iload 5, 2) := by decide +kernel
theorem d_X5_measureWays_41 : decode cX5_measureWays 41 = .ok (.ishr, 1) := by decide +kernel
theorem d_X5_measureWays_42 : decode cX5_measureWays 42 = .ok (.iand, 1) := by decide +kernel
theorem d_X5_measureWays_43 : decode cX5_measureWays 43 = .ok (.iconst 1, 1) := by decide +kernel
theorem d_X5_measureWays_44 : decode cX5_measureWays 44 = .ok (.iand, 1) := by decide +kernel
theorem d_X5_measureWays_45 : decode cX5_measureWays 45 = .ok (.iconst 1, 1) := by decide +kernel
theorem d_X5_measureWays_46 : decode cX5_measureWays 46 = .ok (.if_icmp .ne 7, 3) := by decide +kernel
theorem d_X5_measureWays_49 : decode cX5_measureWays 49 = .ok (.iconst 1, 1) := by decide +kernel
theorem d_X5_measureWays_50 : decode cX5_measureWays 50 = .ok (.goto 4, 3) := by decide +kernel
theorem d_X5_measureWays_53 : decode cX5_measureWays 53 = .ok (.iconst 0, 1) := by decide +kernel
theorem d_X5_measureWays_54 : decode cX5_measureWays 54 = .ok (.istore 6, 2) := by decide +kernel
theorem d_X5_measureWays_56 : decode cX5_measureWays 56 = .ok (.aload_n 0, 1) := by decide +kernel
theorem d_X5_measureWays_57 : decode cX5_measureWays 57 = .ok (.getfield 22, 3) := by decide +kernel
theorem d_X5_measureWays_60 : decode cX5_measureWays 60 = .ok (.iload 4, 2) := by decide +kernel
theorem d_X5_measureWays_62 : decode cX5_measureWays 62 = .ok (.bipush 10, 2) := by decide +kernel
theorem d_X5_measureWays_64 : decode cX5_measureWays 64 = .ok (.imul, 1) := by decide +kernel
theorem d_X5_measureWays_65 : decode cX5_measureWays 65 = .ok (.iload 5, 2) := by decide +kernel
theorem d_X5_measureWays_67 : decode cX5_measureWays 67 = .ok (.iadd, 1) := by decide +kernel
theorem d_X5_measureWays_68 : decode cX5_measureWays 68 = .ok (.iload 4, 2) := by decide +kernel
theorem d_X5_measureWays_70 : decode cX5_measureWays 70 = .ok (.iload 5, 2) := by decide +kernel
theorem d_X5_measureWays_72 : decode cX5_measureWays 72 = .ok (.if_icmp .ne 7, 3) := by decide +kernel
theorem d_X5_measureWays_75 : decode cX5_measureWays 75 = .ok (.iconst 0, 1) := by decide +kernel
theorem d_X5_measureWays_76 : decode cX5_measureWays 76 = .ok (.goto 15, 3) := by decide +kernel
theorem d_X5_measureWays_79 : decode cX5_measureWays 79 = .ok (.iload 6, 2) := by decide +kernel
theorem d_X5_measureWays_81 : decode cX5_measureWays 81 = .ok (.ifCond .eq 7, 3) := by decide +kernel
theorem d_X5_measureWays_84 : decode cX5_measureWays 84 = .ok (.iconst 1, 1) := by decide +kernel
theorem d_X5_measureWays_85 : decode cX5_measureWays 85 = .ok (.goto 6, 3) := by decide +kernel
theorem d_X5_measureWays_88 : decode cX5_measureWays 88 = .ok (.sipush 1000, 3) := by decide +kernel
theorem d_X5_measureWays_91 : decode cX5_measureWays 91 = .ok (.iastore, 1) := by decide +kernel
theorem d_X5_measureWays_92 : decode cX5_measureWays 92 = .ok (.iinc 5 1, 3) := by decide +kernel
theorem d_X5_measureWays_95 : decode cX5_measureWays 95 = .ok (.goto (-78), 3) := by decide +kernel
theorem d_X5_measureWays_98 : decode cX5_measureWays 98 = .ok (.iinc 4 1, 3) := by decide +kernel
theorem d_X5_measureWays_101 : decode cX5_measureWays 101 = .ok (.goto (-93), 3) := by decide +kernel
theorem d_X5_measureWays_104 : decode cX5_measureWays 104 = .ok (.iconst 0, 1) := by decide +kernel
theorem d_X5_measureWays_105 : decode cX5_measureWays 105 = .ok (.istore 4, 2) := by decide +kernel
theorem d_X5_measureWays_107 : decode cX5_measureWays 107 = .ok (.iload 4, 2) := by decide +kernel
theorem d_X5_measureWays_109 : decode cX5_measureWays 109 = .ok (.iload_n 3, 1) := by decide +kernel
theorem d_X5_measureWays_110 : decode cX5_measureWays 110 = .ok (.if_icmp .ge 99, 3) := by decide +kernel
theorem d_X5_measureWays_113 : decode cX5_measureWays 113 = .ok (.iconst 0, 1) := by decide +kernel
theorem d_X5_measureWays_114 : decode cX5_measureWays 114 = .ok (.istore 5, 2) := by decide +kernel
theorem d_X5_measureWays_116 : decode cX5_measureWays 116 = .ok (.iload 5, 2) := by decide +kernel
theorem d_X5_measureWays_118 : decode cX5_measureWays 118 = .ok (.iload_n 3, 1) := by decide +kernel
theorem d_X5_measureWays_119 : decode cX5_measureWays 119 = .ok (.if_icmp .ge 84, 3) := by decide +kernel
theorem d_X5_measureWays_122 : decode cX5_measureWays 122 = .ok (.iconst 0, 1) := by decide +kernel
theorem d_X5_measureWays_123 : decode cX5_measureWays 123 = .ok (.istore 6, 2) := by decide +kernel
theorem d_X5_measureWays_125 : decode cX5_measureWays 125 = .ok (.iload 6, 2) := by decide +kernel
theorem d_X5_measureWays_127 : decode cX5_measureWays 127 = .ok (.iload_n 3, 1) := by decide +kernel
theorem d_X5_measureWays_128 : decode cX5_measureWays 128 = .ok (.if_icmp .ge 69, 3) := by decide +kernel
theorem d_X5_measureWays_131 : decode cX5_measureWays 131 = .ok (.aload_n 0, 1) := by decide +kernel
theorem d_X5_measureWays_132 : decode cX5_measureWays 132 = .ok (.getfield 22, 3) := by decide +kernel
theorem d_X5_measureWays_135 : decode cX5_measureWays 135 = .ok (.iload 5, 2) := by decide +kernel
theorem d_X5_measureWays_137 : decode cX5_measureWays 137 = .ok (.bipush 10, 2) := by decide +kernel
theorem d_X5_measureWays_139 : decode cX5_measureWays 139 = .ok (.imul, 1) := by decide +kernel
theorem d_X5_measureWays_140 : decode cX5_measureWays 140 = .ok (.iload 4, 2) := by decide +kernel
theorem d_X5_measureWays_142 : decode cX5_measureWays 142 = .ok (.iadd, 1) := by decide +kernel
theorem d_X5_measureWays_143 : decode cX5_measureWays 143 = .ok (.iaload, 1) := by decide +kernel
theorem d_X5_measureWays_144 : decode cX5_measureWays 144 = .ok (.aload_n 0, 1) := by decide +kernel
theorem d_X5_measureWays_145 : decode cX5_measureWays 145 = .ok (.getfield 22, 3) := by decide +kernel
theorem d_X5_measureWays_148 : decode cX5_measureWays 148 = .ok (.iload 4, 2) := by decide +kernel
theorem d_X5_measureWays_150 : decode cX5_measureWays 150 = .ok (.bipush 10, 2) := by decide +kernel
theorem d_X5_measureWays_152 : decode cX5_measureWays 152 = .ok (.imul, 1) := by decide +kernel
theorem d_X5_measureWays_153 : decode cX5_measureWays 153 = .ok (.iload 6, 2) := by decide +kernel
theorem d_X5_measureWays_155 : decode cX5_measureWays 155 = .ok (.iadd, 1) := by decide +kernel
theorem d_X5_measureWays_156 : decode cX5_measureWays 156 = .ok (.iaload, 1) := by decide +kernel
theorem d_X5_measureWays_157 : decode cX5_measureWays 157 = .ok (.iadd, 1) := by decide +kernel
theorem d_X5_measureWays_158 : decode cX5_measureWays 158 = .ok (.istore 7, 2) := by decide +kernel
theorem d_X5_measureWays_160 : decode cX5_measureWays 160 = .ok (.aload_n 0, 1) := by decide +kernel
theorem d_X5_measureWays_161 : decode cX5_measureWays 161 = .ok (.getfield 22, 3) := by decide +kernel
theorem d_X5_measureWays_164 : decode cX5_measureWays 164 = .ok (.iload 5, 2) := by decide +kernel
theorem d_X5_measureWays_166 : decode cX5_measureWays 166 = .ok (.bipush 10, 2) := by decide +kernel
theorem d_X5_measureWays_168 : decode cX5_measureWays 168 = .ok (.imul, 1) := by decide +kernel
theorem d_X5_measureWays_169 : decode cX5_measureWays 169 = .ok (.iload 6, 2) := by decide +kernel
theorem d_X5_measureWays_171 : decode cX5_measureWays 171 = .ok (.iadd, 1) := by decide +kernel
theorem d_X5_measureWays_172 : decode cX5_measureWays 172 = .ok (.aload_n 0, 1) := by decide +kernel
theorem d_X5_measureWays_173 : decode cX5_measureWays 173 = .ok (.getfield 22, 3) := by decide +kernel
theorem d_X5_measureWays_176 : decode cX5_measureWays 176 = .ok (.iload 5, 2) := by decide +kernel
theorem d_X5_measureWays_178 : decode cX5_measureWays 178 = .ok (.bipush 10, 2) := by decide +kernel
theorem d_X5_measureWays_180 : decode cX5_measureWays 180 = .ok (.imul, 1) := by decide +kernel
theorem d_X5_measureWays_181 : decode cX5_measureWays 181 = .ok (.iload 6, 2) := by decide +kernel
theorem d_X5_measureWays_183 : decode cX5_measureWays 183 = .ok (.iadd, 1) := by decide +kernel
theorem d_X5_measureWays_184 : decode cX5_measureWays 184 = .ok (.iaload, 1) := by decide +kernel
theorem d_X5_measureWays_185 : decode cX5_measureWays 185 = .ok (.iload 7, 2) := by decide +kernel
theorem d_X5_measureWays_187 : decode cX5_measureWays 187 = .ok (.invokestatic 77, 3) := by decide +kernel
theorem d_X5_measureWays_190 : decode cX5_measureWays 190 = .ok (.iastore, 1) := by decide +kernel
theorem d_X5_measureWays_191 : decode cX5_measureWays 191 = .ok (.iinc 6 1, 3) := by decide +kernel
theorem d_X5_measureWays_194 : decode cX5_measureWays 194 = .ok (.goto (-69), 3) := by decide +kernel
theorem d_X5_measureWays_197 : decode cX5_measureWays 197 = .ok (.iinc 5 1, 3) := by decide +kernel
theorem d_X5_measureWays_200 : decode cX5_measureWays 200 = .ok (.goto (-84), 3) := by decide +kernel
theorem d_X5_measureWays_203 : decode cX5_measureWays 203 = .ok (.iinc 4 1, 3) := by decide +kernel
theorem d_X5_measureWays_206 : decode cX5_measureWays 206 = .ok (.goto (-99), 3) := by decide +kernel
theorem d_X5_measureWays_209 : decode cX5_measureWays 209 = .ok (.return_, 1) := by decide +kernel
def F_X5_measureWays_b54 (k8 : Nat → Nat → Int32 → Int32 → Int32 → xH → Option (Unit × xH)) (k17 : Nat → Nat → Int32 → Int32 → Int32 → Int32 → xH → Option (Unit × xH)) (x0 : Nat) (x1 : Nat) (x2 : Int32) (x3 : Int32) (x4 : Int32) (x5 : Int32) (s0 : Int32) (h : xH) : Option (Unit × xH) := (fR h x0 4 3).bind fun v57 => if ¬ x4 = x5 then if s0 = 0 then (sI h v57 ((x4 * 10) + x5) 1000).bind fun h91 => k17 x0 x1 x2 x3 x4 (x5 + 1) h91 else (sI h v57 ((x4 * 10) + x5) 1).bind fun h91 => k17 x0 x1 x2 x3 x4 (x5 + 1) h91 else (sI h v57 ((x4 * 10) + x5) 0).bind fun h91 => k17 x0 x1 x2 x3 x4 (x5 + 1) h91
theorem R_X5_measureWays_b54 {Γ : xG} {l : Launch} {d : Nat} {Q : Option Value → xH → Prop} {r : Unit} {h' : xH} {k8 : Nat → Nat → Int32 → Int32 → Int32 → xH → Option (Unit × xH)} {k17 : Nat → Nat → Int32 → Int32 → Int32 → Int32 → xH → Option (Unit × xH)} (K8 : ∀ (x0 : Nat) (x1 : Nat) (x2 : Int32) (x3 : Int32) (x4 : Int32)  (h : xH), k8 x0 x1 x2 x3 x4 h = some (r, h') → Gd Γ l d m_X5_measureWays 8 [.ref x0, .ref x1, .int x2, .int x3, .int x4, xhole, xhole, xhole] [] h 0 0 Q) (K17 : ∀ (x0 : Nat) (x1 : Nat) (x2 : Int32) (x3 : Int32) (x4 : Int32) (x5 : Int32)  (h : xH), k17 x0 x1 x2 x3 x4 x5 h = some (r, h') → Gd Γ l d m_X5_measureWays 17 [.ref x0, .ref x1, .int x2, .int x3, .int x4, .int x5, xhole, xhole] [] h 0 0 Q) (hdp : 1 ≤ d) (hq : Q (none) h') : ∀ (x0 : Nat) (x1 : Nat) (x2 : Int32) (x3 : Int32) (x4 : Int32) (x5 : Int32) (s0 : Int32) (h : xH), F_X5_measureWays_b54 k8 k17 x0 x1 x2 x3 x4 x5 s0 h = some (r, h') → Gd Γ l d m_X5_measureWays 54 [.ref x0, .ref x1, .int x2, .int x3, .int x4, .int x5, xhole, xhole] [.int s0] h 0 0 Q := by
  intro x0 x1 x2 x3 x4 x5 s0 h hF
  unfold F_X5_measureWays_b54 at hF
  refine q_istore [.ref x0, .ref x1, .int x2, .int x3, .int x4, .int x5, .int s0, xhole] d_X5_measureWays_54 (by decide) rfl ?_
  refine g_aloadn d_X5_measureWays_56 rfl ?_
  obtain ⟨v57, e57, hF⟩ := Option.bind_eq_some_iff.mp hF
  refine q_fR d_X5_measureWays_57 f_X5_22 e57 ?_
  refine g_iload d_X5_measureWays_60 rfl ?_
  refine g_bi (10) d_X5_measureWays_62 bi_10 ?_
  refine g_imul d_X5_measureWays_64 ?_
  refine g_iload d_X5_measureWays_65 rfl ?_
  refine g_iadd d_X5_measureWays_67 ?_
  refine g_iload d_X5_measureWays_68 rfl ?_
  refine g_iload d_X5_measureWays_70 rfl ?_
  refine g_icmp_ne 79 d_X5_measureWays_72 rfl (fun c72 => ?_) (fun c72 => ?_)
  · have hF := x_t hF c72
    refine g_iload d_X5_measureWays_79 rfl ?_
    refine g_if_eq 88 d_X5_measureWays_81 rfl (fun c81 => ?_) (fun c81 => ?_)
    · have hF := x_t hF c81
      refine g_si (1000) d_X5_measureWays_88 si_1000 ?_
      obtain ⟨h91, e91, hF⟩ := Option.bind_eq_some_iff.mp hF
      refine q_sI d_X5_measureWays_91 e91 ?_
      refine q_iinc (1) [.ref x0, .ref x1, .int x2, .int x3, .int x4, .int (x5 + 1), .int s0, xhole] d_X5_measureWays_92 ic_1 rfl (by decide) rfl ?_
      refine g_goto 17 d_X5_measureWays_95 rfl ?_
      exact q_to (xs_r (xs_r (xs_r (xs_r (xs_r (xs_r (xs_h (xs_h xs_n)))))))) (K17 _ _ _ _ _ _ _ hF)
    · have hF := x_f hF c81
      refine g_ic (1) d_X5_measureWays_84 ic_1 ?_
      refine g_goto 91 d_X5_measureWays_85 rfl ?_
      obtain ⟨h91, e91, hF⟩ := Option.bind_eq_some_iff.mp hF
      refine q_sI d_X5_measureWays_91 e91 ?_
      refine q_iinc (1) [.ref x0, .ref x1, .int x2, .int x3, .int x4, .int (x5 + 1), .int s0, xhole] d_X5_measureWays_92 ic_1 rfl (by decide) rfl ?_
      refine g_goto 17 d_X5_measureWays_95 rfl ?_
      exact q_to (xs_r (xs_r (xs_r (xs_r (xs_r (xs_r (xs_h (xs_h xs_n)))))))) (K17 _ _ _ _ _ _ _ hF)
  · have hF := x_f hF (not_not_intro c72)
    refine g_ic (0) d_X5_measureWays_75 ic_0 ?_
    refine g_goto 91 d_X5_measureWays_76 rfl ?_
    obtain ⟨h91, e91, hF⟩ := Option.bind_eq_some_iff.mp hF
    refine q_sI d_X5_measureWays_91 e91 ?_
    refine q_iinc (1) [.ref x0, .ref x1, .int x2, .int x3, .int x4, .int (x5 + 1), .int s0, xhole] d_X5_measureWays_92 ic_1 rfl (by decide) rfl ?_
    refine g_goto 17 d_X5_measureWays_95 rfl ?_
    exact q_to (xs_r (xs_r (xs_r (xs_r (xs_r (xs_r (xs_h (xs_h xs_n)))))))) (K17 _ _ _ _ _ _ _ hF)
def F_X5_measureWays_b17 (k8 : Nat → Nat → Int32 → Int32 → Int32 → xH → Option (Unit × xH)) : Nat → Nat → Nat → Int32 → Int32 → Int32 → Int32 → xH → Option (Unit × xH)
  | 0, _, _, _, _, _, _, _ => none
  | n + 1, x0, x1, x2, x3, x4, x5, h => if x3 ≤ x5 then k8 x0 x1 x2 x3 (x4 + 1) h else (fR h x1 9 10).bind fun v24 => (aI h v24 x4).bind fun v29 => if ¬ ((((v29 >>> (x5 &&& 31)) &&& (x2 >>> (x4 &&& 31))) &&& (x2 >>> (x5 &&& 31))) &&& 1) = ((1 : Int32)) then F_X5_measureWays_b54 k8 (F_X5_measureWays_b17 k8 n) x0 x1 x2 x3 x4 x5 0 h else F_X5_measureWays_b54 k8 (F_X5_measureWays_b17 k8 n) x0 x1 x2 x3 x4 x5 1 h
theorem R_X5_measureWays_b17 {Γ : xG} {l : Launch} {d : Nat} {Q : Option Value → xH → Prop} {r : Unit} {h' : xH} {k8 : Nat → Nat → Int32 → Int32 → Int32 → xH → Option (Unit × xH)} (K8 : ∀ (x0 : Nat) (x1 : Nat) (x2 : Int32) (x3 : Int32) (x4 : Int32)  (h : xH), k8 x0 x1 x2 x3 x4 h = some (r, h') → Gd Γ l d m_X5_measureWays 8 [.ref x0, .ref x1, .int x2, .int x3, .int x4, xhole, xhole, xhole] [] h 0 0 Q) (hdp : 1 ≤ d) (hq : Q (none) h') : ∀ (n : Nat) (x0 : Nat) (x1 : Nat) (x2 : Int32) (x3 : Int32) (x4 : Int32) (x5 : Int32) (h : xH), F_X5_measureWays_b17 k8 n x0 x1 x2 x3 x4 x5 h = some (r, h') → Gd Γ l d m_X5_measureWays 17 [.ref x0, .ref x1, .int x2, .int x3, .int x4, .int x5, xhole, xhole] [] h 0 0 Q := by
  intro n
  induction n with
  | zero => intro x0 x1 x2 x3 x4 x5 h hF; cases hF
  | succ n ih =>
  intro x0 x1 x2 x3 x4 x5 h hF
  rw [F_X5_measureWays_b17] at hF
  refine g_iload d_X5_measureWays_17 rfl ?_
  refine g_iloadn d_X5_measureWays_19 rfl ?_
  refine g_icmp_ge 98 d_X5_measureWays_20 rfl (fun c20 => ?_) (fun c20 => ?_)
  · have hF := x_t hF c20
    refine q_iinc (1) [.ref x0, .ref x1, .int x2, .int x3, .int (x4 + 1), .int x5, xhole, xhole] d_X5_measureWays_98 ic_1 rfl (by decide) rfl ?_
    refine g_goto 8 d_X5_measureWays_101 rfl ?_
    exact q_to (xs_r (xs_r (xs_r (xs_r (xs_r (xs_h (xs_h (xs_h xs_n)))))))) (K8 _ _ _ _ _ _ hF)
  · have hF := x_f hF c20
    refine g_aloadn d_X5_measureWays_23 rfl ?_
    obtain ⟨v24, e24, hF⟩ := Option.bind_eq_some_iff.mp hF
    refine q_fR d_X5_measureWays_24 f_X5_63 e24 ?_
    refine g_iload d_X5_measureWays_27 rfl ?_
    obtain ⟨v29, e29, hF⟩ := Option.bind_eq_some_iff.mp hF
    refine q_aI d_X5_measureWays_29 e29 ?_
    refine g_iload d_X5_measureWays_30 rfl ?_
    refine g_ishr d_X5_measureWays_32 ?_
    refine g_iloadn d_X5_measureWays_33 rfl ?_
    refine g_iload d_X5_measureWays_34 rfl ?_
    refine g_ishr d_X5_measureWays_36 ?_
    refine g_iand d_X5_measureWays_37 ?_
    refine g_iloadn d_X5_measureWays_38 rfl ?_
    refine g_iload d_X5_measureWays_39 rfl ?_
    refine g_ishr d_X5_measureWays_41 ?_
    refine g_iand d_X5_measureWays_42 ?_
    refine g_ic (1) d_X5_measureWays_43 ic_1 ?_
    refine g_iand d_X5_measureWays_44 ?_
    refine g_ic (1) d_X5_measureWays_45 ic_1 ?_
    refine g_icmp_ne 53 d_X5_measureWays_46 rfl (fun c46 => ?_) (fun c46 => ?_)
    · have hF := x_t hF c46
      refine g_ic (0) d_X5_measureWays_53 ic_0 ?_
      exact q_to (xs_r (xs_r (xs_r (xs_r (xs_r (xs_r (xs_h (xs_h xs_n)))))))) (R_X5_measureWays_b54 K8 ih hdp hq _ _ _ _ _ _ _ _ hF)
    · have hF := x_f hF (not_not_intro c46)
      refine g_ic (1) d_X5_measureWays_49 ic_1 ?_
      refine g_goto 54 d_X5_measureWays_50 rfl ?_
      exact q_to (xs_r (xs_r (xs_r (xs_r (xs_r (xs_r (xs_h (xs_h xs_n)))))))) (R_X5_measureWays_b54 K8 ih hdp hq _ _ _ _ _ _ _ _ hF)
def F_X5_measureWays_b125 (k107 : Nat → Int32 → Int32 → xH → Option (Unit × xH)) (k116 : Nat → Int32 → Int32 → Int32 → xH → Option (Unit × xH)) : Nat → Nat → Int32 → Int32 → Int32 → Int32 → xH → Option (Unit × xH)
  | 0, _, _, _, _, _, _ => none
  | n + 1, x0, x3, x4, x5, x6, h => if x3 ≤ x6 then k116 x0 x3 x4 (x5 + 1) h else (fR h x0 4 3).bind fun v132 => (aI h v132 ((x5 * 10) + x4)).bind fun v143 => (fR h x0 4 3).bind fun v145 => (aI h v145 ((x4 * 10) + x6)).bind fun v156 => (fR h x0 4 3).bind fun v161 => (fR h x0 4 3).bind fun v173 => (aI h v173 ((x5 * 10) + x6)).bind fun v184 => (F_J9_min_7cf53 v184 (v143 + v156) h).bind fun z187 => (sI z187.2 v161 ((x5 * 10) + x6) z187.1).bind fun h190 => F_X5_measureWays_b125 k107 k116 n x0 x3 x4 x5 (x6 + 1) h190
theorem R_X5_measureWays_b125 {Γ : xG} {l : Launch} {d : Nat} {Q : Option Value → xH → Prop} {r : Unit} {h' : xH} {k107 : Nat → Int32 → Int32 → xH → Option (Unit × xH)} {k116 : Nat → Int32 → Int32 → Int32 → xH → Option (Unit × xH)} (K107 : ∀ (x0 : Nat) (x3 : Int32) (x4 : Int32)  (h : xH), k107 x0 x3 x4 h = some (r, h') → Gd Γ l d m_X5_measureWays 107 [.ref x0, xhole, xhole, .int x3, .int x4, xhole, xhole, xhole] [] h 0 0 Q) (K116 : ∀ (x0 : Nat) (x3 : Int32) (x4 : Int32) (x5 : Int32)  (h : xH), k116 x0 x3 x4 x5 h = some (r, h') → Gd Γ l d m_X5_measureWays 116 [.ref x0, xhole, xhole, .int x3, .int x4, .int x5, xhole, xhole] [] h 0 0 Q) (hdp : 1 ≤ d) (hq : Q (none) h') : ∀ (n : Nat) (x0 : Nat) (x3 : Int32) (x4 : Int32) (x5 : Int32) (x6 : Int32) (h : xH), F_X5_measureWays_b125 k107 k116 n x0 x3 x4 x5 x6 h = some (r, h') → Gd Γ l d m_X5_measureWays 125 [.ref x0, xhole, xhole, .int x3, .int x4, .int x5, .int x6, xhole] [] h 0 0 Q := by
  intro n
  induction n with
  | zero => intro x0 x3 x4 x5 x6 h hF; cases hF
  | succ n ih =>
  intro x0 x3 x4 x5 x6 h hF
  rw [F_X5_measureWays_b125] at hF
  refine g_iload d_X5_measureWays_125 rfl ?_
  refine g_iloadn d_X5_measureWays_127 rfl ?_
  refine g_icmp_ge 197 d_X5_measureWays_128 rfl (fun c128 => ?_) (fun c128 => ?_)
  · have hF := x_t hF c128
    refine q_iinc (1) [.ref x0, xhole, xhole, .int x3, .int x4, .int (x5 + 1), .int x6, xhole] d_X5_measureWays_197 ic_1 rfl (by decide) rfl ?_
    refine g_goto 116 d_X5_measureWays_200 rfl ?_
    exact q_to (xs_r (xs_h (xs_h (xs_r (xs_r (xs_r (xs_h (xs_h xs_n)))))))) (K116 _ _ _ _ _ hF)
  · have hF := x_f hF c128
    refine g_aloadn d_X5_measureWays_131 rfl ?_
    obtain ⟨v132, e132, hF⟩ := Option.bind_eq_some_iff.mp hF
    refine q_fR d_X5_measureWays_132 f_X5_22 e132 ?_
    refine g_iload d_X5_measureWays_135 rfl ?_
    refine g_bi (10) d_X5_measureWays_137 bi_10 ?_
    refine g_imul d_X5_measureWays_139 ?_
    refine g_iload d_X5_measureWays_140 rfl ?_
    refine g_iadd d_X5_measureWays_142 ?_
    obtain ⟨v143, e143, hF⟩ := Option.bind_eq_some_iff.mp hF
    refine q_aI d_X5_measureWays_143 e143 ?_
    refine g_aloadn d_X5_measureWays_144 rfl ?_
    obtain ⟨v145, e145, hF⟩ := Option.bind_eq_some_iff.mp hF
    refine q_fR d_X5_measureWays_145 f_X5_22 e145 ?_
    refine g_iload d_X5_measureWays_148 rfl ?_
    refine g_bi (10) d_X5_measureWays_150 bi_10 ?_
    refine g_imul d_X5_measureWays_152 ?_
    refine g_iload d_X5_measureWays_153 rfl ?_
    refine g_iadd d_X5_measureWays_155 ?_
    obtain ⟨v156, e156, hF⟩ := Option.bind_eq_some_iff.mp hF
    refine q_aI d_X5_measureWays_156 e156 ?_
    refine g_iadd d_X5_measureWays_157 ?_
    refine q_istore [.ref x0, xhole, xhole, .int x3, .int x4, .int x5, .int x6, .int (v143 + v156)] d_X5_measureWays_158 (by decide) rfl ?_
    refine g_aloadn d_X5_measureWays_160 rfl ?_
    obtain ⟨v161, e161, hF⟩ := Option.bind_eq_some_iff.mp hF
    refine q_fR d_X5_measureWays_161 f_X5_22 e161 ?_
    refine g_iload d_X5_measureWays_164 rfl ?_
    refine g_bi (10) d_X5_measureWays_166 bi_10 ?_
    refine g_imul d_X5_measureWays_168 ?_
    refine g_iload d_X5_measureWays_169 rfl ?_
    refine g_iadd d_X5_measureWays_171 ?_
    refine g_aloadn d_X5_measureWays_172 rfl ?_
    obtain ⟨v173, e173, hF⟩ := Option.bind_eq_some_iff.mp hF
    refine q_fR d_X5_measureWays_173 f_X5_22 e173 ?_
    refine g_iload d_X5_measureWays_176 rfl ?_
    refine g_bi (10) d_X5_measureWays_178 bi_10 ?_
    refine g_imul d_X5_measureWays_180 ?_
    refine g_iload d_X5_measureWays_181 rfl ?_
    refine g_iadd d_X5_measureWays_183 ?_
    obtain ⟨v184, e184, hF⟩ := Option.bind_eq_some_iff.mp hF
    refine q_aI d_X5_measureWays_184 e184 ?_
    refine g_iload d_X5_measureWays_185 rfl ?_
    obtain ⟨⟨r187, h187⟩, e187, hF⟩ := Option.bind_eq_some_iff.mp hF
    try dsimp only at hF
    refine q_callS [.int v184, .int (v143 + v156)] [.int ((x5 * 10) + x6), .ref v161] rfl d_X5_measureWays_187 s_X5_77 (by omega) rfl (Nat.le_of_ble_eq_true rfl) (R_J9_min_7cf53 _ _ _ (by omega) e187) ?_
    obtain ⟨h190, e190, hF⟩ := Option.bind_eq_some_iff.mp hF
    refine q_sI d_X5_measureWays_190 e190 ?_
    refine q_iinc (1) [.ref x0, xhole, xhole, .int x3, .int x4, .int x5, .int (x6 + 1), .int (v143 + v156)] d_X5_measureWays_191 ic_1 rfl (by decide) rfl ?_
    refine g_goto 125 d_X5_measureWays_194 rfl ?_
    exact q_to (xs_r (xs_h (xs_h (xs_r (xs_r (xs_r (xs_r (xs_h xs_n)))))))) (ih _ _ _ _ _ _ hF)
def F_X5_measureWays_b116 (k107 : Nat → Int32 → Int32 → xH → Option (Unit × xH)) : Nat → Nat → Int32 → Int32 → Int32 → xH → Option (Unit × xH)
  | 0, _, _, _, _, _ => none
  | n + 1, x0, x3, x4, x5, h => if x3 ≤ x5 then k107 x0 x3 (x4 + 1) h else F_X5_measureWays_b125 k107 (F_X5_measureWays_b116 k107 n) FU x0 x3 x4 x5 0 h
theorem R_X5_measureWays_b116 {Γ : xG} {l : Launch} {d : Nat} {Q : Option Value → xH → Prop} {r : Unit} {h' : xH} {k107 : Nat → Int32 → Int32 → xH → Option (Unit × xH)} (K107 : ∀ (x0 : Nat) (x3 : Int32) (x4 : Int32)  (h : xH), k107 x0 x3 x4 h = some (r, h') → Gd Γ l d m_X5_measureWays 107 [.ref x0, xhole, xhole, .int x3, .int x4, xhole, xhole, xhole] [] h 0 0 Q) (hdp : 1 ≤ d) (hq : Q (none) h') : ∀ (n : Nat) (x0 : Nat) (x3 : Int32) (x4 : Int32) (x5 : Int32) (h : xH), F_X5_measureWays_b116 k107 n x0 x3 x4 x5 h = some (r, h') → Gd Γ l d m_X5_measureWays 116 [.ref x0, xhole, xhole, .int x3, .int x4, .int x5, xhole, xhole] [] h 0 0 Q := by
  intro n
  induction n with
  | zero => intro x0 x3 x4 x5 h hF; cases hF
  | succ n ih =>
  intro x0 x3 x4 x5 h hF
  rw [F_X5_measureWays_b116] at hF
  refine g_iload d_X5_measureWays_116 rfl ?_
  refine g_iloadn d_X5_measureWays_118 rfl ?_
  refine g_icmp_ge 203 d_X5_measureWays_119 rfl (fun c119 => ?_) (fun c119 => ?_)
  · have hF := x_t hF c119
    refine q_iinc (1) [.ref x0, xhole, xhole, .int x3, .int (x4 + 1), .int x5, xhole, xhole] d_X5_measureWays_203 ic_1 rfl (by decide) rfl ?_
    refine g_goto 107 d_X5_measureWays_206 rfl ?_
    exact q_to (xs_r (xs_h (xs_h (xs_r (xs_r (xs_h (xs_h (xs_h xs_n)))))))) (K107 _ _ _ _ hF)
  · have hF := x_f hF c119
    refine g_ic (0) d_X5_measureWays_122 ic_0 ?_
    refine q_istore [.ref x0, xhole, xhole, .int x3, .int x4, .int x5, .int 0, xhole] d_X5_measureWays_123 (by decide) rfl ?_
    exact q_to (xs_r (xs_h (xs_h (xs_r (xs_r (xs_r (xs_r (xs_h xs_n)))))))) (R_X5_measureWays_b125 K107 ih hdp hq FU _ _ _ _ _ _ hF)
def F_X5_measureWays_b107 : Nat → Nat → Int32 → Int32 → xH → Option (Unit × xH)
  | 0, _, _, _, _ => none
  | n + 1, x0, x3, x4, h => if x3 ≤ x4 then some ((), h) else F_X5_measureWays_b116 (F_X5_measureWays_b107 n) FU x0 x3 x4 0 h
theorem R_X5_measureWays_b107 {Γ : xG} {l : Launch} {d : Nat} {Q : Option Value → xH → Prop} {r : Unit} {h' : xH} (hdp : 1 ≤ d) (hq : Q (none) h') : ∀ (n : Nat) (x0 : Nat) (x3 : Int32) (x4 : Int32) (h : xH), F_X5_measureWays_b107 n x0 x3 x4 h = some (r, h') → Gd Γ l d m_X5_measureWays 107 [.ref x0, xhole, xhole, .int x3, .int x4, xhole, xhole, xhole] [] h 0 0 Q := by
  intro n
  induction n with
  | zero => intro x0 x3 x4 h hF; cases hF
  | succ n ih =>
  intro x0 x3 x4 h hF
  rw [F_X5_measureWays_b107] at hF
  refine g_iload d_X5_measureWays_107 rfl ?_
  refine g_iloadn d_X5_measureWays_109 rfl ?_
  refine g_icmp_ge 209 d_X5_measureWays_110 rfl (fun c110 => ?_) (fun c110 => ?_)
  · have hF := x_t hF c110
    obtain ⟨rfl, rfl⟩ := x_inj hF
    exact g_vret d_X5_measureWays_209 rfl hq
  · have hF := x_f hF c110
    refine g_ic (0) d_X5_measureWays_113 ic_0 ?_
    refine q_istore [.ref x0, xhole, xhole, .int x3, .int x4, .int 0, xhole, xhole] d_X5_measureWays_114 (by decide) rfl ?_
    exact q_to (xs_r (xs_h (xs_h (xs_r (xs_r (xs_r (xs_h (xs_h xs_n)))))))) (R_X5_measureWays_b116 ih hdp hq FU _ _ _ _ _ hF)
def F_X5_measureWays_b8 : Nat → Nat → Nat → Int32 → Int32 → Int32 → xH → Option (Unit × xH)
  | 0, _, _, _, _, _, _ => none
  | n + 1, x0, x1, x2, x3, x4, h => if x3 ≤ x4 then F_X5_measureWays_b107 FU x0 x3 0 h else F_X5_measureWays_b17 (F_X5_measureWays_b8 n) FU x0 x1 x2 x3 x4 0 h
theorem R_X5_measureWays_b8 {Γ : xG} {l : Launch} {d : Nat} {Q : Option Value → xH → Prop} {r : Unit} {h' : xH} (hdp : 1 ≤ d) (hq : Q (none) h') : ∀ (n : Nat) (x0 : Nat) (x1 : Nat) (x2 : Int32) (x3 : Int32) (x4 : Int32) (h : xH), F_X5_measureWays_b8 n x0 x1 x2 x3 x4 h = some (r, h') → Gd Γ l d m_X5_measureWays 8 [.ref x0, .ref x1, .int x2, .int x3, .int x4, xhole, xhole, xhole] [] h 0 0 Q := by
  intro n
  induction n with
  | zero => intro x0 x1 x2 x3 x4 h hF; cases hF
  | succ n ih =>
  intro x0 x1 x2 x3 x4 h hF
  rw [F_X5_measureWays_b8] at hF
  refine g_iload d_X5_measureWays_8 rfl ?_
  refine g_iloadn d_X5_measureWays_10 rfl ?_
  refine g_icmp_ge 104 d_X5_measureWays_11 rfl (fun c11 => ?_) (fun c11 => ?_)
  · have hF := x_t hF c11
    refine g_ic (0) d_X5_measureWays_104 ic_0 ?_
    refine q_istore [.ref x0, .ref x1, .int x2, .int x3, .int 0, xhole, xhole, xhole] d_X5_measureWays_105 (by decide) rfl ?_
    exact q_to (xs_r (xs_h (xs_h (xs_r (xs_r (xs_h (xs_h (xs_h xs_n)))))))) (R_X5_measureWays_b107 hdp hq FU _ _ _ _ hF)
  · have hF := x_f hF c11
    refine g_ic (0) d_X5_measureWays_14 ic_0 ?_
    refine q_istore [.ref x0, .ref x1, .int x2, .int x3, .int x4, .int 0, xhole, xhole] d_X5_measureWays_15 (by decide) rfl ?_
    exact q_to (xs_r (xs_r (xs_r (xs_r (xs_r (xs_r (xs_h (xs_h xs_n)))))))) (R_X5_measureWays_b17 ih hdp hq FU _ _ _ _ _ _ _ hF)
def F_X5_measureWays (x0 : Nat) (x1 : Nat) (x2 : Int32) (h : xH) : Option (Unit × xH) := (fI h x1 9 0).bind fun v1 => F_X5_measureWays_b8 FU x0 x1 x2 v1 0 h
theorem R_X5_measureWays {Γ : xG} {l : Launch} {d : Nat} {r : Unit} {h' : xH} (x0 : Nat) (x1 : Nat) (x2 : Int32) (h : xH) (hdp : 1 ≤ d) (hF : F_X5_measureWays x0 x1 x2 h = some (r, h')) : Gm Γ l d 0 0 m_X5_measureWays [.ref x0, .ref x1, .int x2] h (fun a u => a = none ∧ u = h') := by
  refine Gm.of pn_X5 (Nat.le_of_ble_eq_true rfl) ?_
  show Gd Γ l d m_X5_measureWays 0 [.ref x0, .ref x1, .int x2, xhole, xhole, xhole, xhole, xhole] [] h 0 0 _
  generalize hQ : (fun (a : Option Value) (u : xH) => a = none ∧ u = h') = Q
  have hq : Q (none) h' := by rw [← hQ]; exact ⟨rfl, rfl⟩
  clear hQ
  unfold F_X5_measureWays at hF
  refine g_aloadn d_X5_measureWays_0 rfl ?_
  obtain ⟨v1, e1, hF⟩ := Option.bind_eq_some_iff.mp hF
  refine q_fI d_X5_measureWays_1 f_X5_35 e1 ?_
  refine q_istoren [.ref x0, .ref x1, .int x2, .int v1, xhole, xhole, xhole, xhole] d_X5_measureWays_4 (by decide) rfl ?_
  refine g_ic (0) d_X5_measureWays_5 ic_0 ?_
  refine q_istore [.ref x0, .ref x1, .int x2, .int v1, .int 0, xhole, xhole, xhole] d_X5_measureWays_6 (by decide) rfl ?_
  exact q_to (xs_r (xs_r (xs_r (xs_r (xs_r (xs_h (xs_h (xs_h xs_n)))))))) (R_X5_measureWays_b8 hdp hq FU _ _ _ _ _ _ hF)
theorem d_X5_fewestMore_0 : decode cX5_fewestMore 0 = .ok (.iload_n 2, 1) := by decide +kernel
theorem d_X5_fewestMore_1 : decode cX5_fewestMore 1 = .ok (.ifCond .ne 7, 3) := by decide +kernel
theorem d_X5_fewestMore_4 : decode cX5_fewestMore 4 = .ok (.iconst 0, 1) := by decide +kernel
theorem d_X5_fewestMore_5 : decode cX5_fewestMore 5 = .ok (.goto 6, 3) := by decide +kernel
theorem d_X5_fewestMore_8 : decode cX5_fewestMore 8 = .ok (.sipush 1000, 3) := by decide +kernel
theorem d_X5_fewestMore_11 : decode cX5_fewestMore 11 = .ok (.istore 4, 2) := by decide +kernel
theorem d_X5_fewestMore_13 : decode cX5_fewestMore 13 = .ok (.iconst 0, 1) := by decide +kernel
theorem d_X5_fewestMore_14 : decode cX5_fewestMore 14 = .ok (.istore 5, 2) := by decide +kernel
theorem d_X5_fewestMore_16 : decode cX5_fewestMore 16 = .ok (.iload 5, 2) := by decide +kernel
theorem d_X5_fewestMore_18 : decode cX5_fewestMore 18 = .ok (.iload_n 1, 1) := by decide +kernel
theorem d_X5_fewestMore_19 : decode cX5_fewestMore 19 = .ok (.if_icmp .ge 60, 3) := by decide +kernel
theorem d_X5_fewestMore_22 : decode cX5_fewestMore 22 = .ok (.iload_n 2, 1) := by decide +kernel
theorem d_X5_fewestMore_23 : decode cX5_fewestMore 23 = .ok (.ifCond .eq 56, 3) := by decide +kernel
theorem d_X5_fewestMore_26 : decode cX5_fewestMore 26 = .ok (.iload_n 2, 1) := by decide +kernel
theorem d_X5_fewestMore_27 : decode cX5_fewestMore 27 = .ok (.iload 5, 2) := by decide +kernel
theorem d_X5_fewestMore_29 : decode cX5_fewestMore 29 = .ok (.ishr, 1) := by decide +kernel
theorem d_X5_fewestMore_30 : decode cX5_fewestMore 30 = .ok (.iconst 1, 1) := by decide +kernel
theorem d_X5_fewestMore_31 : decode cX5_fewestMore 31 = .ok (.iand, 1) := by decide +kernel
theorem d_X5_fewestMore_32 : decode cX5_fewestMore 32 = .ok (.iconst 1, 1) := by decide +kernel
theorem d_X5_fewestMore_33 : decode cX5_fewestMore 33 = .ok (.if_icmp .ne 40, 3) := by decide +kernel
theorem d_X5_fewestMore_36 : decode cX5_fewestMore 36 = .ok (.iload 4, 2) := by decide +kernel
theorem d_X5_fewestMore_38 : decode cX5_fewestMore 38 = .ok (.aload_n 0, 1) := by decide +kernel
theorem d_X5_fewestMore_39 : decode cX5_fewestMore 39 = .ok (.getfield 22, 3) := by decide +kernel
theorem d_X5_fewestMore_42 : decode cX5_fewestMore 42 = .ok (.iload_n 3, 1) := by decide +kernel
theorem d_X5_fewestMore_43 : decode cX5_fewestMore 43 = .ok (.bipush 10, 2) := by decide +kernel
theorem d_X5_fewestMore_45 : decode cX5_fewestMore 45 = .ok (.imul, 1) := by decide +kernel
theorem d_X5_fewestMore_46 : decode cX5_fewestMore 46 = .ok (.iload 5, 2) := by decide +kernel
theorem d_X5_fewestMore_48 : decode cX5_fewestMore 48 = .ok (.iadd, 1) := by decide +kernel
theorem d_X5_fewestMore_49 : decode cX5_fewestMore 49 = .ok (.iaload, 1) := by decide +kernel
theorem d_X5_fewestMore_50 : decode cX5_fewestMore 50 = .ok (.aload_n 0, 1) := by decide +kernel
theorem d_X5_fewestMore_51 : decode cX5_fewestMore 51 = .ok (.getfield 25, 3) := by decide +kernel
theorem d_X5_fewestMore_54 : decode cX5_fewestMore 54 = .ok (.iload_n 2, 1) := by decide +kernel
theorem d_X5_fewestMore_55 : decode cX5_fewestMore 55 = .ok (.iload 5, 2) := by decide +kernel
theorem d_X5_fewestMore_57 : decode cX5_fewestMore 57 = .ok (.invokestatic 66, 3) := by decide +kernel
theorem d_X5_fewestMore_60 : decode cX5_fewestMore 60 = .ok (.bipush 10, 2) := by decide +kernel
theorem d_X5_fewestMore_62 : decode cX5_fewestMore 62 = .ok (.imul, 1) := by decide +kernel
theorem d_X5_fewestMore_63 : decode cX5_fewestMore 63 = .ok (.iload 5, 2) := by decide +kernel
theorem d_X5_fewestMore_65 : decode cX5_fewestMore 65 = .ok (.iadd, 1) := by decide +kernel
theorem d_X5_fewestMore_66 : decode cX5_fewestMore 66 = .ok (.iaload, 1) := by decide +kernel
theorem d_X5_fewestMore_67 : decode cX5_fewestMore 67 = .ok (.iadd, 1) := by decide +kernel
theorem d_X5_fewestMore_68 : decode cX5_fewestMore 68 = .ok (.invokestatic 77, 3) := by decide +kernel
theorem d_X5_fewestMore_71 : decode cX5_fewestMore 71 = .ok (.istore 4, 2) := by decide +kernel
theorem d_X5_fewestMore_73 : decode cX5_fewestMore 73 = .ok (.iinc 5 1, 3) := by decide +kernel
theorem d_X5_fewestMore_76 : decode cX5_fewestMore 76 = .ok (.goto (-60), 3) := by decide +kernel
theorem d_X5_fewestMore_79 : decode cX5_fewestMore 79 = .ok (.iload 4, 2) := by decide +kernel
theorem d_X5_fewestMore_81 : decode cX5_fewestMore 81 = .ok (.ireturn, 1) := by decide +kernel
def F_X5_fewestMore_b16 : Nat → Nat → Int32 → Int32 → Int32 → Int32 → Int32 → xH → Option (Int32 × xH)
  | 0, _, _, _, _, _, _, _ => none
  | n + 1, x0, x1, x2, x3, x4, x5, h => if x1 ≤ x5 then some (x4, h) else if x2 = 0 then some (x4, h) else if ¬ ((x2 >>> (x5 &&& 31)) &&& 1) = ((1 : Int32)) then F_X5_fewestMore_b16 n x0 x1 x2 x3 x4 (x5 + 1) h else (fR h x0 4 3).bind fun v39 => (aI h v39 ((x3 * 10) + x5)).bind fun v49 => (fR h x0 4 4).bind fun v51 => (F_X5_without x2 x5 h).bind fun z57 => (aI z57.2 v51 ((z57.1 * 10) + x5)).bind fun v66 => (F_J9_min_7cf53 x4 (v49 + v66) z57.2).bind fun z68 => F_X5_fewestMore_b16 n x0 x1 x2 x3 z68.1 (x5 + 1) z68.2
theorem R_X5_fewestMore_b16 {Γ : xG} {l : Launch} {d : Nat} {Q : Option Value → xH → Prop} {r : Int32} {h' : xH} (hdp : 1 ≤ d) (hq : Q (some (.int r)) h') : ∀ (n : Nat) (x0 : Nat) (x1 : Int32) (x2 : Int32) (x3 : Int32) (x4 : Int32) (x5 : Int32) (h : xH), F_X5_fewestMore_b16 n x0 x1 x2 x3 x4 x5 h = some (r, h') → Gd Γ l d m_X5_fewestMore 16 [.ref x0, .int x1, .int x2, .int x3, .int x4, .int x5] [] h 0 0 Q := by
  intro n
  induction n with
  | zero => intro x0 x1 x2 x3 x4 x5 h hF; cases hF
  | succ n ih =>
  intro x0 x1 x2 x3 x4 x5 h hF
  rw [F_X5_fewestMore_b16] at hF
  refine g_iload d_X5_fewestMore_16 rfl ?_
  refine g_iloadn d_X5_fewestMore_18 rfl ?_
  refine g_icmp_ge 79 d_X5_fewestMore_19 rfl (fun c19 => ?_) (fun c19 => ?_)
  · have hF := x_t hF c19
    refine g_iload d_X5_fewestMore_79 rfl ?_
    obtain ⟨rfl, rfl⟩ := x_inj hF
    exact g_iret d_X5_fewestMore_81 rfl hq
  · have hF := x_f hF c19
    refine g_iloadn d_X5_fewestMore_22 rfl ?_
    refine g_if_eq 79 d_X5_fewestMore_23 rfl (fun c23 => ?_) (fun c23 => ?_)
    · have hF := x_t hF c23
      refine g_iload d_X5_fewestMore_79 rfl ?_
      obtain ⟨rfl, rfl⟩ := x_inj hF
      exact g_iret d_X5_fewestMore_81 rfl hq
    · have hF := x_f hF c23
      refine g_iloadn d_X5_fewestMore_26 rfl ?_
      refine g_iload d_X5_fewestMore_27 rfl ?_
      refine g_ishr d_X5_fewestMore_29 ?_
      refine g_ic (1) d_X5_fewestMore_30 ic_1 ?_
      refine g_iand d_X5_fewestMore_31 ?_
      refine g_ic (1) d_X5_fewestMore_32 ic_1 ?_
      refine g_icmp_ne 73 d_X5_fewestMore_33 rfl (fun c33 => ?_) (fun c33 => ?_)
      · have hF := x_t hF c33
        refine q_iinc (1) [.ref x0, .int x1, .int x2, .int x3, .int x4, .int (x5 + 1)] d_X5_fewestMore_73 ic_1 rfl (by decide) rfl ?_
        refine g_goto 16 d_X5_fewestMore_76 rfl ?_
        exact q_to (xs_r (xs_r (xs_r (xs_r (xs_r (xs_r xs_n)))))) (ih _ _ _ _ _ _ _ hF)
      · have hF := x_f hF (not_not_intro c33)
        refine g_iload d_X5_fewestMore_36 rfl ?_
        refine g_aloadn d_X5_fewestMore_38 rfl ?_
        obtain ⟨v39, e39, hF⟩ := Option.bind_eq_some_iff.mp hF
        refine q_fR d_X5_fewestMore_39 f_X5_22 e39 ?_
        refine g_iloadn d_X5_fewestMore_42 rfl ?_
        refine g_bi (10) d_X5_fewestMore_43 bi_10 ?_
        refine g_imul d_X5_fewestMore_45 ?_
        refine g_iload d_X5_fewestMore_46 rfl ?_
        refine g_iadd d_X5_fewestMore_48 ?_
        obtain ⟨v49, e49, hF⟩ := Option.bind_eq_some_iff.mp hF
        refine q_aI d_X5_fewestMore_49 e49 ?_
        refine g_aloadn d_X5_fewestMore_50 rfl ?_
        obtain ⟨v51, e51, hF⟩ := Option.bind_eq_some_iff.mp hF
        refine q_fR d_X5_fewestMore_51 f_X5_25 e51 ?_
        refine g_iloadn d_X5_fewestMore_54 rfl ?_
        refine g_iload d_X5_fewestMore_55 rfl ?_
        obtain ⟨⟨r57, h57⟩, e57, hF⟩ := Option.bind_eq_some_iff.mp hF
        try dsimp only at hF
        refine q_callS [.int x2, .int x5] [.ref v51, .int v49, .int x4] rfl d_X5_fewestMore_57 s_X5_66 (by omega) rfl (Nat.le_of_ble_eq_true rfl) (R_X5_without _ _ _ (by omega) e57) ?_
        refine g_bi (10) d_X5_fewestMore_60 bi_10 ?_
        refine g_imul d_X5_fewestMore_62 ?_
        refine g_iload d_X5_fewestMore_63 rfl ?_
        refine g_iadd d_X5_fewestMore_65 ?_
        obtain ⟨v66, e66, hF⟩ := Option.bind_eq_some_iff.mp hF
        refine q_aI d_X5_fewestMore_66 e66 ?_
        refine g_iadd d_X5_fewestMore_67 ?_
        obtain ⟨⟨r68, h68⟩, e68, hF⟩ := Option.bind_eq_some_iff.mp hF
        try dsimp only at hF
        refine q_callS [.int x4, .int (v49 + v66)] [] rfl d_X5_fewestMore_68 s_X5_77 (by omega) rfl (Nat.le_of_ble_eq_true rfl) (R_J9_min_7cf53 _ _ _ (by omega) e68) ?_
        refine q_istore [.ref x0, .int x1, .int x2, .int x3, .int (r68), .int x5] d_X5_fewestMore_71 (by decide) rfl ?_
        refine q_iinc (1) [.ref x0, .int x1, .int x2, .int x3, .int (r68), .int (x5 + 1)] d_X5_fewestMore_73 ic_1 rfl (by decide) rfl ?_
        refine g_goto 16 d_X5_fewestMore_76 rfl ?_
        exact q_to (xs_r (xs_r (xs_r (xs_r (xs_r (xs_r xs_n)))))) (ih _ _ _ _ _ _ _ hF)
def F_X5_fewestMore_b11 (x0 : Nat) (x1 : Int32) (x2 : Int32) (x3 : Int32) (s0 : Int32) (h : xH) : Option (Int32 × xH) := F_X5_fewestMore_b16 FU x0 x1 x2 x3 s0 0 h
theorem R_X5_fewestMore_b11 {Γ : xG} {l : Launch} {d : Nat} {Q : Option Value → xH → Prop} {r : Int32} {h' : xH} (hdp : 1 ≤ d) (hq : Q (some (.int r)) h') : ∀ (x0 : Nat) (x1 : Int32) (x2 : Int32) (x3 : Int32) (s0 : Int32) (h : xH), F_X5_fewestMore_b11 x0 x1 x2 x3 s0 h = some (r, h') → Gd Γ l d m_X5_fewestMore 11 [.ref x0, .int x1, .int x2, .int x3, xhole, xhole] [.int s0] h 0 0 Q := by
  intro x0 x1 x2 x3 s0 h hF
  unfold F_X5_fewestMore_b11 at hF
  refine q_istore [.ref x0, .int x1, .int x2, .int x3, .int s0, xhole] d_X5_fewestMore_11 (by decide) rfl ?_
  refine g_ic (0) d_X5_fewestMore_13 ic_0 ?_
  refine q_istore [.ref x0, .int x1, .int x2, .int x3, .int s0, .int 0] d_X5_fewestMore_14 (by decide) rfl ?_
  exact q_to (xs_r (xs_r (xs_r (xs_r (xs_r (xs_r xs_n)))))) (R_X5_fewestMore_b16 hdp hq FU _ _ _ _ _ _ _ hF)
def F_X5_fewestMore (x0 : Nat) (x1 : Int32) (x2 : Int32) (x3 : Int32) (h : xH) : Option (Int32 × xH) := if ¬ x2 = 0 then F_X5_fewestMore_b11 x0 x1 x2 x3 1000 h else F_X5_fewestMore_b11 x0 x1 x2 x3 0 h
theorem R_X5_fewestMore {Γ : xG} {l : Launch} {d : Nat} {r : Int32} {h' : xH} (x0 : Nat) (x1 : Int32) (x2 : Int32) (x3 : Int32) (h : xH) (hdp : 1 ≤ d) (hF : F_X5_fewestMore x0 x1 x2 x3 h = some (r, h')) : Gm Γ l d 0 0 m_X5_fewestMore [.ref x0, .int x1, .int x2, .int x3] h (fun a u => a = some (.int r) ∧ u = h') := by
  refine Gm.of pn_X5 (Nat.le_of_ble_eq_true rfl) ?_
  show Gd Γ l d m_X5_fewestMore 0 [.ref x0, .int x1, .int x2, .int x3, xhole, xhole] [] h 0 0 _
  generalize hQ : (fun (a : Option Value) (u : xH) => a = some (.int r) ∧ u = h') = Q
  have hq : Q (some (.int r)) h' := by rw [← hQ]; exact ⟨rfl, rfl⟩
  clear hQ
  unfold F_X5_fewestMore at hF
  refine g_iloadn d_X5_fewestMore_0 rfl ?_
  refine g_if_ne 8 d_X5_fewestMore_1 rfl (fun c1 => ?_) (fun c1 => ?_)
  · have hF := x_t hF c1
    refine g_si (1000) d_X5_fewestMore_8 si_1000 ?_
    exact q_to (xs_r (xs_r (xs_r (xs_r (xs_h (xs_h xs_n)))))) (R_X5_fewestMore_b11 hdp hq _ _ _ _ _ _ hF)
  · have hF := x_f hF (not_not_intro c1)
    refine g_ic (0) d_X5_fewestMore_4 ic_0 ?_
    refine g_goto 11 d_X5_fewestMore_5 rfl ?_
    exact q_to (xs_r (xs_r (xs_r (xs_r (xs_h (xs_h xs_n)))))) (R_X5_fewestMore_b11 hdp hq _ _ _ _ _ _ hF)
theorem d_X5_measureMore_0 : decode cX5_measureMore 0 = .ok (.iconst 0, 1) := by decide +kernel
theorem d_X5_measureMore_1 : decode cX5_measureMore 1 = .ok (.istore 4, 2) := by decide +kernel
theorem d_X5_measureMore_3 : decode cX5_measureMore 3 = .ok (.iload 4, 2) := by decide +kernel
theorem d_X5_measureMore_5 : decode cX5_measureMore 5 = .ok (.iload_n 3, 1) := by decide +kernel
theorem d_X5_measureMore_6 : decode cX5_measureMore 6 = .ok (.if_icmp .gt 75, 3) := by decide +kernel
theorem d_X5_measureMore_9 : decode cX5_measureMore 9 = .ok (.iconst 0, 1) := by decide +kernel
theorem d_X5_measureMore_10 : decode cX5_measureMore 10 = .ok (.istore 5, 2) := by decide +kernel
theorem d_X5_measureMore_12 : decode cX5_measureMore 12 = .ok (.iload 5, 2) := by decide +kernel
theorem d_X5_measureMore_14 : decode cX5_measureMore 14 = .ok (.iload_n 1, 1) := by decide +kernel
theorem d_X5_measureMore_15 : decode cX5_measureMore 15 = .ok (.if_icmp .ge 60, 3) := by decide +kernel
theorem d_X5_measureMore_18 : decode cX5_measureMore 18 = .ok (.iload 4, 2) := by decide +kernel
theorem d_X5_measureMore_20 : decode cX5_measureMore 20 = .ok (.iload_n 3, 1) := by decide +kernel
theorem d_X5_measureMore_21 : decode cX5_measureMore 21 = .ok (.iconst (-1), 1) := by decide +kernel
theorem d_X5_measureMore_22 : decode cX5_measureMore 22 = .ok (.ixor, 1) := by decide +kernel
theorem d_X5_measureMore_23 : decode cX5_measureMore 23 = .ok (.iand, 1) := by decide +kernel
theorem d_X5_measureMore_24 : decode cX5_measureMore 24 = .ok (.ifCond .ne 51, 3) := by decide +kernel
theorem d_X5_measureMore_27 : decode cX5_measureMore 27 = .ok (.iload_n 2, 1) := by decide +kernel
theorem d_X5_measureMore_28 : decode cX5_measureMore 28 = .ok (.iload 5, 2) := by decide +kernel
theorem d_X5_measureMore_30 : decode cX5_measureMore 30 = .ok (.ishr, 1) := by decide +kernel
theorem d_X5_measureMore_31 : decode cX5_measureMore 31 = .ok (.iconst 1, 1) := by decide +kernel
theorem d_X5_measureMore_32 : decode cX5_measureMore 32 = .ok (.iand, 1) := by decide +kernel
theorem d_X5_measureMore_33 : decode cX5_measureMore 33 = .ok (.iconst 1, 1) := by decide +kernel
theorem d_X5_measureMore_34 : decode cX5_measureMore 34 = .ok (.if_icmp .ne 35, 3) := by decide +kernel
theorem d_X5_measureMore_37 : decode cX5_measureMore 37 = .ok (.iload 4, 2) := by decide +kernel
theorem d_X5_measureMore_39 : decode cX5_measureMore 39 = .ok (.iload 5, 2) := by decide +kernel
theorem d_X5_measureMore_41 : decode cX5_measureMore 41 = .ok (.ishr, 1) := by decide +kernel
theorem d_X5_measureMore_42 : decode cX5_measureMore 42 = .ok (.iconst 1, 1) := by decide +kernel
theorem d_X5_measureMore_43 : decode cX5_measureMore 43 = .ok (.iand, 1) := by decide +kernel
theorem d_X5_measureMore_44 : decode cX5_measureMore 44 = .ok (.ifCond .ne 25, 3) := by decide +kernel
theorem d_X5_measureMore_47 : decode cX5_measureMore 47 = .ok (.aload_n 0, 1) := by decide +kernel
theorem d_X5_measureMore_48 : decode cX5_measureMore 48 = .ok (.getfield 25, 3) := by decide +kernel
theorem d_X5_measureMore_51 : decode cX5_measureMore 51 = .ok (.iload 4, 2) := by decide +kernel
theorem d_X5_measureMore_53 : decode cX5_measureMore 53 = .ok (.bipush 10, 2) := by decide +kernel
theorem d_X5_measureMore_55 : decode cX5_measureMore 55 = .ok (.imul, 1) := by decide +kernel
theorem d_X5_measureMore_56 : decode cX5_measureMore 56 = .ok (.iload 5, 2) := by decide +kernel
theorem d_X5_measureMore_58 : decode cX5_measureMore 58 = .ok (.iadd, 1) := by decide +kernel
theorem d_X5_measureMore_59 : decode cX5_measureMore 59 = .ok (.aload_n 0, 1) := by decide +kernel
theorem d_X5_measureMore_60 : decode cX5_measureMore 60 = .ok (.iload_n 1, 1) := by decide +kernel
theorem d_X5_measureMore_61 : decode cX5_measureMore 61 = .ok (.iload 4, 2) := by decide +kernel
theorem d_X5_measureMore_63 : decode cX5_measureMore 63 = .ok (.iload 5, 2) := by decide +kernel
theorem d_X5_measureMore_65 : decode cX5_measureMore 65 = .ok (.invokevirtual 84, 3) := by decide +kernel
theorem d_X5_measureMore_68 : decode cX5_measureMore 68 = .ok (.iastore, 1) := by decide +kernel
theorem d_X5_measureMore_69 : decode cX5_measureMore 69 = .ok (.iinc 5 1, 3) := by decide +kernel
theorem d_X5_measureMore_72 : decode cX5_measureMore 72 = .ok (.goto (-60), 3) := by decide +kernel
theorem d_X5_measureMore_75 : decode cX5_measureMore 75 = .ok (.iinc 4 1, 3) := by decide +kernel
theorem d_X5_measureMore_78 : decode cX5_measureMore 78 = .ok (.goto (-75), 3) := by decide +kernel
theorem d_X5_measureMore_81 : decode cX5_measureMore 81 = .ok (.return_, 1) := by decide +kernel
def F_X5_measureMore_b12 (k3 : Nat → Int32 → Int32 → Int32 → Int32 → xH → Option (Unit × xH)) : Nat → Nat → Int32 → Int32 → Int32 → Int32 → Int32 → xH → Option (Unit × xH)
  | 0, _, _, _, _, _, _, _ => none
  | n + 1, x0, x1, x2, x3, x4, x5, h => if x1 ≤ x5 then k3 x0 x1 x2 x3 (x4 + 1) h else if ¬ (x4 &&& (x3 ^^^ ((-1)))) = 0 then k3 x0 x1 x2 x3 (x4 + 1) h else if ¬ ((x2 >>> (x5 &&& 31)) &&& 1) = ((1 : Int32)) then F_X5_measureMore_b12 k3 n x0 x1 x2 x3 x4 (x5 + 1) h else if ¬ ((x4 >>> (x5 &&& 31)) &&& 1) = 0 then F_X5_measureMore_b12 k3 n x0 x1 x2 x3 x4 (x5 + 1) h else (fR h x0 4 4).bind fun v48 => (rc h x0 4).bind fun _ => (F_X5_fewestMore x0 x1 x4 x5 h).bind fun z65 => (sI z65.2 v48 ((x4 * 10) + x5) z65.1).bind fun h68 => F_X5_measureMore_b12 k3 n x0 x1 x2 x3 x4 (x5 + 1) h68
theorem R_X5_measureMore_b12 {Γ : xG} {l : Launch} {d : Nat} {Q : Option Value → xH → Prop} {r : Unit} {h' : xH} {k3 : Nat → Int32 → Int32 → Int32 → Int32 → xH → Option (Unit × xH)} (K3 : ∀ (x0 : Nat) (x1 : Int32) (x2 : Int32) (x3 : Int32) (x4 : Int32)  (h : xH), k3 x0 x1 x2 x3 x4 h = some (r, h') → Gd Γ l d m_X5_measureMore 3 [.ref x0, .int x1, .int x2, .int x3, .int x4, xhole] [] h 0 0 Q) (hdp : 2 ≤ d) (hq : Q (none) h') : ∀ (n : Nat) (x0 : Nat) (x1 : Int32) (x2 : Int32) (x3 : Int32) (x4 : Int32) (x5 : Int32) (h : xH), F_X5_measureMore_b12 k3 n x0 x1 x2 x3 x4 x5 h = some (r, h') → Gd Γ l d m_X5_measureMore 12 [.ref x0, .int x1, .int x2, .int x3, .int x4, .int x5] [] h 0 0 Q := by
  intro n
  induction n with
  | zero => intro x0 x1 x2 x3 x4 x5 h hF; cases hF
  | succ n ih =>
  intro x0 x1 x2 x3 x4 x5 h hF
  rw [F_X5_measureMore_b12] at hF
  refine g_iload d_X5_measureMore_12 rfl ?_
  refine g_iloadn d_X5_measureMore_14 rfl ?_
  refine g_icmp_ge 75 d_X5_measureMore_15 rfl (fun c15 => ?_) (fun c15 => ?_)
  · have hF := x_t hF c15
    refine q_iinc (1) [.ref x0, .int x1, .int x2, .int x3, .int (x4 + 1), .int x5] d_X5_measureMore_75 ic_1 rfl (by decide) rfl ?_
    refine g_goto 3 d_X5_measureMore_78 rfl ?_
    exact q_to (xs_r (xs_r (xs_r (xs_r (xs_r (xs_h xs_n)))))) (K3 _ _ _ _ _ _ hF)
  · have hF := x_f hF c15
    refine g_iload d_X5_measureMore_18 rfl ?_
    refine g_iloadn d_X5_measureMore_20 rfl ?_
    refine g_ic (-1) d_X5_measureMore_21 ic_m1 ?_
    refine g_ixor d_X5_measureMore_22 ?_
    refine g_iand d_X5_measureMore_23 ?_
    refine g_if_ne 75 d_X5_measureMore_24 rfl (fun c24 => ?_) (fun c24 => ?_)
    · have hF := x_t hF c24
      refine q_iinc (1) [.ref x0, .int x1, .int x2, .int x3, .int (x4 + 1), .int x5] d_X5_measureMore_75 ic_1 rfl (by decide) rfl ?_
      refine g_goto 3 d_X5_measureMore_78 rfl ?_
      exact q_to (xs_r (xs_r (xs_r (xs_r (xs_r (xs_h xs_n)))))) (K3 _ _ _ _ _ _ hF)
    · have hF := x_f hF (not_not_intro c24)
      refine g_iloadn d_X5_measureMore_27 rfl ?_
      refine g_iload d_X5_measureMore_28 rfl ?_
      refine g_ishr d_X5_measureMore_30 ?_
      refine g_ic (1) d_X5_measureMore_31 ic_1 ?_
      refine g_iand d_X5_measureMore_32 ?_
      refine g_ic (1) d_X5_measureMore_33 ic_1 ?_
      refine g_icmp_ne 69 d_X5_measureMore_34 rfl (fun c34 => ?_) (fun c34 => ?_)
      · have hF := x_t hF c34
        refine q_iinc (1) [.ref x0, .int x1, .int x2, .int x3, .int x4, .int (x5 + 1)] d_X5_measureMore_69 ic_1 rfl (by decide) rfl ?_
        refine g_goto 12 d_X5_measureMore_72 rfl ?_
        exact q_to (xs_r (xs_r (xs_r (xs_r (xs_r (xs_r xs_n)))))) (ih _ _ _ _ _ _ _ hF)
      · have hF := x_f hF (not_not_intro c34)
        refine g_iload d_X5_measureMore_37 rfl ?_
        refine g_iload d_X5_measureMore_39 rfl ?_
        refine g_ishr d_X5_measureMore_41 ?_
        refine g_ic (1) d_X5_measureMore_42 ic_1 ?_
        refine g_iand d_X5_measureMore_43 ?_
        refine g_if_ne 69 d_X5_measureMore_44 rfl (fun c44 => ?_) (fun c44 => ?_)
        · have hF := x_t hF c44
          refine q_iinc (1) [.ref x0, .int x1, .int x2, .int x3, .int x4, .int (x5 + 1)] d_X5_measureMore_69 ic_1 rfl (by decide) rfl ?_
          refine g_goto 12 d_X5_measureMore_72 rfl ?_
          exact q_to (xs_r (xs_r (xs_r (xs_r (xs_r (xs_r xs_n)))))) (ih _ _ _ _ _ _ _ hF)
        · have hF := x_f hF (not_not_intro c44)
          refine g_aloadn d_X5_measureMore_47 rfl ?_
          obtain ⟨v48, e48, hF⟩ := Option.bind_eq_some_iff.mp hF
          refine q_fR d_X5_measureMore_48 f_X5_25 e48 ?_
          refine g_iload d_X5_measureMore_51 rfl ?_
          refine g_bi (10) d_X5_measureMore_53 bi_10 ?_
          refine g_imul d_X5_measureMore_55 ?_
          refine g_iload d_X5_measureMore_56 rfl ?_
          refine g_iadd d_X5_measureMore_58 ?_
          refine g_aloadn d_X5_measureMore_59 rfl ?_
          refine g_iloadn d_X5_measureMore_60 rfl ?_
          refine g_iload d_X5_measureMore_61 rfl ?_
          refine g_iload d_X5_measureMore_63 rfl ?_
          obtain ⟨_, g65, hF⟩ := Option.bind_eq_some_iff.mp hF
          obtain ⟨⟨r65, h65⟩, e65, hF⟩ := Option.bind_eq_some_iff.mp hF
          try dsimp only at hF
          refine q_callV [.int x1, .int x4, .int x5] [.int ((x4 * 10) + x5), .ref v48] rfl d_X5_measureMore_65 v_X5_84 (by omega) rfl (Nat.le_of_ble_eq_true rfl) (rc_rc g65 (by decide) rfl) (R_X5_fewestMore _ _ _ _ _ (by omega) e65) ?_
          obtain ⟨h68, e68, hF⟩ := Option.bind_eq_some_iff.mp hF
          refine q_sI d_X5_measureMore_68 e68 ?_
          refine q_iinc (1) [.ref x0, .int x1, .int x2, .int x3, .int x4, .int (x5 + 1)] d_X5_measureMore_69 ic_1 rfl (by decide) rfl ?_
          refine g_goto 12 d_X5_measureMore_72 rfl ?_
          exact q_to (xs_r (xs_r (xs_r (xs_r (xs_r (xs_r xs_n)))))) (ih _ _ _ _ _ _ _ hF)
def F_X5_measureMore_b3 : Nat → Nat → Int32 → Int32 → Int32 → Int32 → xH → Option (Unit × xH)
  | 0, _, _, _, _, _, _ => none
  | n + 1, x0, x1, x2, x3, x4, h => if x3 < x4 then some ((), h) else F_X5_measureMore_b12 (F_X5_measureMore_b3 n) FU x0 x1 x2 x3 x4 0 h
theorem R_X5_measureMore_b3 {Γ : xG} {l : Launch} {d : Nat} {Q : Option Value → xH → Prop} {r : Unit} {h' : xH} (hdp : 2 ≤ d) (hq : Q (none) h') : ∀ (n : Nat) (x0 : Nat) (x1 : Int32) (x2 : Int32) (x3 : Int32) (x4 : Int32) (h : xH), F_X5_measureMore_b3 n x0 x1 x2 x3 x4 h = some (r, h') → Gd Γ l d m_X5_measureMore 3 [.ref x0, .int x1, .int x2, .int x3, .int x4, xhole] [] h 0 0 Q := by
  intro n
  induction n with
  | zero => intro x0 x1 x2 x3 x4 h hF; cases hF
  | succ n ih =>
  intro x0 x1 x2 x3 x4 h hF
  rw [F_X5_measureMore_b3] at hF
  refine g_iload d_X5_measureMore_3 rfl ?_
  refine g_iloadn d_X5_measureMore_5 rfl ?_
  refine g_icmp_gt 81 d_X5_measureMore_6 rfl (fun c6 => ?_) (fun c6 => ?_)
  · have hF := x_t hF c6
    obtain ⟨rfl, rfl⟩ := x_inj hF
    exact g_vret d_X5_measureMore_81 rfl hq
  · have hF := x_f hF c6
    refine g_ic (0) d_X5_measureMore_9 ic_0 ?_
    refine q_istore [.ref x0, .int x1, .int x2, .int x3, .int x4, .int 0] d_X5_measureMore_10 (by decide) rfl ?_
    exact q_to (xs_r (xs_r (xs_r (xs_r (xs_r (xs_r xs_n)))))) (R_X5_measureMore_b12 ih hdp hq FU _ _ _ _ _ _ _ hF)
def F_X5_measureMore (x0 : Nat) (x1 : Int32) (x2 : Int32) (x3 : Int32) (h : xH) : Option (Unit × xH) := F_X5_measureMore_b3 FU x0 x1 x2 x3 0 h
theorem R_X5_measureMore {Γ : xG} {l : Launch} {d : Nat} {r : Unit} {h' : xH} (x0 : Nat) (x1 : Int32) (x2 : Int32) (x3 : Int32) (h : xH) (hdp : 2 ≤ d) (hF : F_X5_measureMore x0 x1 x2 x3 h = some (r, h')) : Gm Γ l d 0 0 m_X5_measureMore [.ref x0, .int x1, .int x2, .int x3] h (fun a u => a = none ∧ u = h') := by
  refine Gm.of pn_X5 (Nat.le_of_ble_eq_true rfl) ?_
  show Gd Γ l d m_X5_measureMore 0 [.ref x0, .int x1, .int x2, .int x3, xhole, xhole] [] h 0 0 _
  generalize hQ : (fun (a : Option Value) (u : xH) => a = none ∧ u = h') = Q
  have hq : Q (none) h' := by rw [← hQ]; exact ⟨rfl, rfl⟩
  clear hQ
  unfold F_X5_measureMore at hF
  refine g_ic (0) d_X5_measureMore_0 ic_0 ?_
  refine q_istore [.ref x0, .int x1, .int x2, .int x3, .int 0, xhole] d_X5_measureMore_1 (by decide) rfl ?_
  exact q_to (xs_r (xs_r (xs_r (xs_r (xs_r (xs_h xs_n)))))) (R_X5_measureMore_b3 hdp hq FU _ _ _ _ _ _ hF)
theorem d_X5_firstTowards_0 : decode cX5_firstTowards 0 = .ok (.iconst 0, 1) := by decide +kernel
theorem d_X5_firstTowards_1 : decode cX5_firstTowards 1 = .ok (.istore 5, 2) := by decide +kernel
theorem d_X5_firstTowards_3 : decode cX5_firstTowards 3 = .ok (.iload 5, 2) := by decide +kernel
theorem d_X5_firstTowards_5 : decode cX5_firstTowards 5 = .ok (.iload 4, 2) := by decide +kernel
theorem d_X5_firstTowards_7 : decode cX5_firstTowards 7 = .ok (.if_icmp .ge 43, 3) := by decide +kernel
theorem d_X5_firstTowards_10 : decode cX5_firstTowards 10 = .ok (.iload_n 1, 1) := by decide +kernel
theorem d_X5_firstTowards_11 : decode cX5_firstTowards 11 = .ok (.iload 5, 2) := by decide +kernel
theorem d_X5_firstTowards_13 : decode cX5_firstTowards 13 = .ok (.ishr, 1) := by decide +kernel
theorem d_X5_firstTowards_14 : decode cX5_firstTowards 14 = .ok (.iconst 1, 1) := by decide +kernel
theorem d_X5_firstTowards_15 : decode cX5_firstTowards 15 = .ok (.iand, 1) := by decide +kernel
theorem d_X5_firstTowards_16 : decode cX5_firstTowards 16 = .ok (.iconst 1, 1) := by decide +kernel
theorem d_X5_firstTowards_17 : decode cX5_firstTowards 17 = .ok (.if_icmp .ne 27, 3) := by decide +kernel
theorem d_X5_firstTowards_20 : decode cX5_firstTowards 20 = .ok (.aload_n 0, 1) := by decide +kernel
theorem d_X5_firstTowards_21 : decode cX5_firstTowards 21 = .ok (.getfield 25, 3) := by decide +kernel
theorem d_X5_firstTowards_24 : decode cX5_firstTowards 24 = .ok (.iload_n 2, 1) := by decide +kernel
theorem d_X5_firstTowards_25 : decode cX5_firstTowards 25 = .ok (.iload 5, 2) := by decide +kernel
theorem d_X5_firstTowards_27 : decode cX5_firstTowards 27 = .ok (.invokestatic 66, 3) := by decide +kernel
theorem d_X5_firstTowards_30 : decode cX5_firstTowards 30 = .ok (.bipush 10, 2) := by decide +kernel
theorem d_X5_firstTowards_32 : decode cX5_firstTowards 32 = .ok (.imul, 1) := by decide +kernel
theorem d_X5_firstTowards_33 : decode cX5_firstTowards 33 = .ok (.iload 5, 2) := by decide +kernel
theorem d_X5_firstTowards_35 : decode cX5_firstTowards 35 = .ok (.iadd, 1) := by decide +kernel
theorem d_X5_firstTowards_36 : decode cX5_firstTowards 36 = .ok (.iaload, 1) := by decide +kernel
theorem d_X5_firstTowards_37 : decode cX5_firstTowards 37 = .ok (.iload_n 3, 1) := by decide +kernel
theorem d_X5_firstTowards_38 : decode cX5_firstTowards 38 = .ok (.if_icmp .ne 6, 3) := by decide +kernel
theorem d_X5_firstTowards_41 : decode cX5_firstTowards 41 = .ok (.iload 5, 2) := by decide +kernel
theorem d_X5_firstTowards_43 : decode cX5_firstTowards 43 = .ok (.ireturn, 1) := by decide +kernel
theorem d_X5_firstTowards_44 : decode cX5_firstTowards 44 = .ok (.iinc 5 1, 3) := by decide +kernel
theorem d_X5_firstTowards_47 : decode cX5_firstTowards 47 = .ok (.goto (-44), 3) := by decide +kernel
theorem d_X5_firstTowards_50 : decode cX5_firstTowards 50 = .ok (.iconst (-1), 1) := by decide +kernel
theorem d_X5_firstTowards_51 : decode cX5_firstTowards 51 = .ok (.ireturn, 1) := by decide +kernel
def F_X5_firstTowards_b3 : Nat → Nat → Int32 → Int32 → Int32 → Int32 → Int32 → xH → Option (Int32 × xH)
  | 0, _, _, _, _, _, _, _ => none
  | n + 1, x0, x1, x2, x3, x4, x5, h => if x4 ≤ x5 then some ((-1), h) else if ¬ ((x1 >>> (x5 &&& 31)) &&& 1) = ((1 : Int32)) then F_X5_firstTowards_b3 n x0 x1 x2 x3 x4 (x5 + 1) h else (fR h x0 4 4).bind fun v21 => (F_X5_without x2 x5 h).bind fun z27 => (aI z27.2 v21 ((z27.1 * 10) + x5)).bind fun v36 => if ¬ v36 = x3 then F_X5_firstTowards_b3 n x0 x1 x2 x3 x4 (x5 + 1) z27.2 else some (x5, z27.2)
theorem R_X5_firstTowards_b3 {Γ : xG} {l : Launch} {d : Nat} {Q : Option Value → xH → Prop} {r : Int32} {h' : xH} (hdp : 1 ≤ d) (hq : Q (some (.int r)) h') : ∀ (n : Nat) (x0 : Nat) (x1 : Int32) (x2 : Int32) (x3 : Int32) (x4 : Int32) (x5 : Int32) (h : xH), F_X5_firstTowards_b3 n x0 x1 x2 x3 x4 x5 h = some (r, h') → Gd Γ l d m_X5_firstTowards 3 [.ref x0, .int x1, .int x2, .int x3, .int x4, .int x5] [] h 0 0 Q := by
  intro n
  induction n with
  | zero => intro x0 x1 x2 x3 x4 x5 h hF; cases hF
  | succ n ih =>
  intro x0 x1 x2 x3 x4 x5 h hF
  rw [F_X5_firstTowards_b3] at hF
  refine g_iload d_X5_firstTowards_3 rfl ?_
  refine g_iload d_X5_firstTowards_5 rfl ?_
  refine g_icmp_ge 50 d_X5_firstTowards_7 rfl (fun c7 => ?_) (fun c7 => ?_)
  · have hF := x_t hF c7
    refine g_ic (-1) d_X5_firstTowards_50 ic_m1 ?_
    obtain ⟨rfl, rfl⟩ := x_inj hF
    exact g_iret d_X5_firstTowards_51 rfl hq
  · have hF := x_f hF c7
    refine g_iloadn d_X5_firstTowards_10 rfl ?_
    refine g_iload d_X5_firstTowards_11 rfl ?_
    refine g_ishr d_X5_firstTowards_13 ?_
    refine g_ic (1) d_X5_firstTowards_14 ic_1 ?_
    refine g_iand d_X5_firstTowards_15 ?_
    refine g_ic (1) d_X5_firstTowards_16 ic_1 ?_
    refine g_icmp_ne 44 d_X5_firstTowards_17 rfl (fun c17 => ?_) (fun c17 => ?_)
    · have hF := x_t hF c17
      refine q_iinc (1) [.ref x0, .int x1, .int x2, .int x3, .int x4, .int (x5 + 1)] d_X5_firstTowards_44 ic_1 rfl (by decide) rfl ?_
      refine g_goto 3 d_X5_firstTowards_47 rfl ?_
      exact q_to (xs_r (xs_r (xs_r (xs_r (xs_r (xs_r xs_n)))))) (ih _ _ _ _ _ _ _ hF)
    · have hF := x_f hF (not_not_intro c17)
      refine g_aloadn d_X5_firstTowards_20 rfl ?_
      obtain ⟨v21, e21, hF⟩ := Option.bind_eq_some_iff.mp hF
      refine q_fR d_X5_firstTowards_21 f_X5_25 e21 ?_
      refine g_iloadn d_X5_firstTowards_24 rfl ?_
      refine g_iload d_X5_firstTowards_25 rfl ?_
      obtain ⟨⟨r27, h27⟩, e27, hF⟩ := Option.bind_eq_some_iff.mp hF
      try dsimp only at hF
      refine q_callS [.int x2, .int x5] [.ref v21] rfl d_X5_firstTowards_27 s_X5_66 (by omega) rfl (Nat.le_of_ble_eq_true rfl) (R_X5_without _ _ _ (by omega) e27) ?_
      refine g_bi (10) d_X5_firstTowards_30 bi_10 ?_
      refine g_imul d_X5_firstTowards_32 ?_
      refine g_iload d_X5_firstTowards_33 rfl ?_
      refine g_iadd d_X5_firstTowards_35 ?_
      obtain ⟨v36, e36, hF⟩ := Option.bind_eq_some_iff.mp hF
      refine q_aI d_X5_firstTowards_36 e36 ?_
      refine g_iloadn d_X5_firstTowards_37 rfl ?_
      refine g_icmp_ne 44 d_X5_firstTowards_38 rfl (fun c38 => ?_) (fun c38 => ?_)
      · have hF := x_t hF c38
        refine q_iinc (1) [.ref x0, .int x1, .int x2, .int x3, .int x4, .int (x5 + 1)] d_X5_firstTowards_44 ic_1 rfl (by decide) rfl ?_
        refine g_goto 3 d_X5_firstTowards_47 rfl ?_
        exact q_to (xs_r (xs_r (xs_r (xs_r (xs_r (xs_r xs_n)))))) (ih _ _ _ _ _ _ _ hF)
      · have hF := x_f hF (not_not_intro c38)
        refine g_iload d_X5_firstTowards_41 rfl ?_
        obtain ⟨rfl, rfl⟩ := x_inj hF
        exact g_iret d_X5_firstTowards_43 rfl hq
def F_X5_firstTowards (x0 : Nat) (x1 : Int32) (x2 : Int32) (x3 : Int32) (x4 : Int32) (h : xH) : Option (Int32 × xH) := F_X5_firstTowards_b3 FU x0 x1 x2 x3 x4 0 h
theorem R_X5_firstTowards {Γ : xG} {l : Launch} {d : Nat} {r : Int32} {h' : xH} (x0 : Nat) (x1 : Int32) (x2 : Int32) (x3 : Int32) (x4 : Int32) (h : xH) (hdp : 1 ≤ d) (hF : F_X5_firstTowards x0 x1 x2 x3 x4 h = some (r, h')) : Gm Γ l d 0 0 m_X5_firstTowards [.ref x0, .int x1, .int x2, .int x3, .int x4] h (fun a u => a = some (.int r) ∧ u = h') := by
  refine Gm.of pn_X5 (Nat.le_of_ble_eq_true rfl) ?_
  show Gd Γ l d m_X5_firstTowards 0 [.ref x0, .int x1, .int x2, .int x3, .int x4, xhole] [] h 0 0 _
  generalize hQ : (fun (a : Option Value) (u : xH) => a = some (.int r) ∧ u = h') = Q
  have hq : Q (some (.int r)) h' := by rw [← hQ]; exact ⟨rfl, rfl⟩
  clear hQ
  unfold F_X5_firstTowards at hF
  refine g_ic (0) d_X5_firstTowards_0 ic_0 ?_
  refine q_istore [.ref x0, .int x1, .int x2, .int x3, .int x4, .int 0] d_X5_firstTowards_1 (by decide) rfl ?_
  exact q_to (xs_r (xs_r (xs_r (xs_r (xs_r (xs_r xs_n)))))) (R_X5_firstTowards_b3 hdp hq FU _ _ _ _ _ _ _ hF)
theorem d_X5_layOutThrough_0 : decode cX5_layOutThrough 0 = .ok (.iload_n 2, 1) := by decide +kernel
theorem d_X5_layOutThrough_1 : decode cX5_layOutThrough 1 = .ok (.istore 5, 2) := by decide +kernel
theorem d_X5_layOutThrough_3 : decode cX5_layOutThrough 3 = .ok (.iload_n 3, 1) := by decide +kernel
theorem d_X5_layOutThrough_4 : decode cX5_layOutThrough 4 = .ok (.istore 6, 2) := by decide +kernel
theorem d_X5_layOutThrough_6 : decode cX5_layOutThrough 6 = .ok (.iload 4, 2) := by decide +kernel
theorem d_X5_layOutThrough_8 : decode cX5_layOutThrough 8 = .ok (.istore 7, 2) := by decide +kernel
theorem d_X5_layOutThrough_10 : decode cX5_layOutThrough 10 = .ok (.iload 7, 2) := by decide +kernel
theorem d_X5_layOutThrough_12 : decode cX5_layOutThrough 12 = .ok (.ifCond .le 75, 3) := by decide +kernel
theorem d_X5_layOutThrough_15 : decode cX5_layOutThrough 15 = .ok (.aload_n 0, 1) := by decide +kernel
theorem d_X5_layOutThrough_16 : decode cX5_layOutThrough 16 = .ok (.iload 5, 2) := by decide +kernel
theorem d_X5_layOutThrough_18 : decode cX5_layOutThrough 18 = .ok (.iload 6, 2) := by decide +kernel
theorem d_X5_layOutThrough_20 : decode cX5_layOutThrough 20 = .ok (.iload 7, 2) := by decide +kernel
theorem d_X5_layOutThrough_22 : decode cX5_layOutThrough 22 = .ok (.iconst 1, 1) := by decide +kernel
theorem d_X5_layOutThrough_23 : decode cX5_layOutThrough 23 = .ok (.isub, 1) := by decide +kernel
theorem d_X5_layOutThrough_24 : decode cX5_layOutThrough 24 = .ok (.aload_n 1, 1) := by decide +kernel
theorem d_X5_layOutThrough_25 : decode cX5_layOutThrough 25 = .ok (.getfield 35, 3) := by decide +kernel
theorem d_X5_layOutThrough_28 : decode cX5_layOutThrough 28 = .ok (.invokevirtual 87, 3) := by decide +kernel
theorem d_X5_layOutThrough_31 : decode cX5_layOutThrough 31 = .ok (.istore 8, 2) := by decide +kernel
theorem d_X5_layOutThrough_33 : decode cX5_layOutThrough 33 = .ok (.iload 8, 2) := by decide +kernel
theorem d_X5_layOutThrough_35 : decode cX5_layOutThrough 35 = .ok (.iconst (-1), 1) := by decide +kernel
theorem d_X5_layOutThrough_36 : decode cX5_layOutThrough 36 = .ok (.if_icmp .ne 4, 3) := by decide +kernel
theorem d_X5_layOutThrough_39 : decode cX5_layOutThrough 39 = .ok (.return_, 1) := by decide +kernel
theorem d_X5_layOutThrough_40 : decode cX5_layOutThrough 40 = .ok (.aload_n 0, 1) := by decide +kernel
theorem d_X5_layOutThrough_41 : decode cX5_layOutThrough 41 = .ok (.getfield 11, 3) := by decide +kernel
theorem d_X5_layOutThrough_44 : decode cX5_layOutThrough 44 = .ok (.aload_n 0, 1) := by decide +kernel
theorem d_X5_layOutThrough_45 : decode cX5_layOutThrough 45 = .ok (.getfield 15, 3) := by decide +kernel
theorem d_X5_layOutThrough_48 : decode cX5_layOutThrough 48 = .ok (.iload 8, 2) := by decide +kernel
theorem d_X5_layOutThrough_50 : decode cX5_layOutThrough 50 = .ok (.iastore, 1) := by decide +kernel
theorem d_X5_layOutThrough_51 : decode cX5_layOutThrough 51 = .ok (.aload_n 0, 1) := by decide +kernel
theorem d_X5_layOutThrough_52 : decode cX5_layOutThrough 52 = .ok (.dup, 1) := by decide +kernel
theorem d_X5_layOutThrough_53 : decode cX5_layOutThrough 53 = .ok (.getfield 15, 3) := by decide +kernel
theorem d_X5_layOutThrough_56 : decode cX5_layOutThrough 56 = .ok (.iconst 1, 1) := by decide +kernel
theorem d_X5_layOutThrough_57 : decode cX5_layOutThrough 57 = .ok (.iadd, 1) := by decide +kernel
theorem d_X5_layOutThrough_58 : decode cX5_layOutThrough 58 = .ok (.putfield 15, 3) := by decide +kernel
theorem d_X5_layOutThrough_61 : decode cX5_layOutThrough 61 = .ok (.iload 6, 2) := by decide +kernel
theorem d_X5_layOutThrough_63 : decode cX5_layOutThrough 63 = .ok (.iload 8, 2) := by decide +kernel
theorem d_X5_layOutThrough_65 : decode cX5_layOutThrough 65 = .ok (.invokestatic 66, 3) := by decide +kernel
theorem d_X5_layOutThrough_68 : decode cX5_layOutThrough 68 = .ok (.istore 6, 2) := by decide +kernel
theorem d_X5_layOutThrough_70 : decode cX5_layOutThrough 70 = .ok (.iload_n 2, 1) := by decide +kernel
theorem d_X5_layOutThrough_71 : decode cX5_layOutThrough 71 = .ok (.aload_n 1, 1) := by decide +kernel
theorem d_X5_layOutThrough_72 : decode cX5_layOutThrough 72 = .ok (.getfield 63, 3) := by decide +kernel
theorem d_X5_layOutThrough_75 : decode cX5_layOutThrough 75 = .ok (.iload 8, 2) := by decide +kernel
theorem d_X5_layOutThrough_77 : decode cX5_layOutThrough 77 = .ok (.iaload, 1) := by decide +kernel
theorem d_X5_layOutThrough_78 : decode cX5_layOutThrough 78 = .ok (.iand, 1) := by decide +kernel
theorem d_X5_layOutThrough_79 : decode cX5_layOutThrough 79 = .ok (.istore 5, 2) := by decide +kernel
theorem d_X5_layOutThrough_81 : decode cX5_layOutThrough 81 = .ok (.iinc 7 (-1), 3) := by decide +kernel
theorem d_X5_layOutThrough_84 : decode cX5_layOutThrough 84 = .ok (.goto (-74), 3) := by decide +kernel
theorem d_X5_layOutThrough_87 : decode cX5_layOutThrough 87 = .ok (.return_, 1) := by decide +kernel
def F_X5_layOutThrough_b10 : Nat → Nat → Nat → Int32 → Int32 → Int32 → Int32 → xH → Option (Unit × xH)
  | 0, _, _, _, _, _, _, _ => none
  | n + 1, x0, x1, x2, x5, x6, x7, h => if x7 ≤ 0 then some ((), h) else (fI h x1 9 0).bind fun v25 => (rc h x0 4).bind fun _ => (F_X5_firstTowards x0 x5 x6 (x7 - 1) v25 h).bind fun z28 => if ¬ z28.1 = (((-1) : Int32)) then (fR z28.2 x0 4 0).bind fun v41 => (fI z28.2 x0 4 1).bind fun v45 => (sI z28.2 v41 v45 z28.1).bind fun h50 => (fI h50 x0 4 1).bind fun v53 => (wI h50 x0 4 1 (v53 + 1)).bind fun h58 => (F_X5_without x6 z28.1 h58).bind fun z65 => (fR z65.2 x1 9 10).bind fun v72 => (aI z65.2 v72 z28.1).bind fun v77 => F_X5_layOutThrough_b10 n x0 x1 x2 (x2 &&& v77) z65.1 (x7 + (-1)) z65.2 else some ((), z28.2)
theorem R_X5_layOutThrough_b10 {Γ : xG} {l : Launch} {d : Nat} {Q : Option Value → xH → Prop} {r : Unit} {h' : xH} (hdp : 2 ≤ d) (hq : Q (none) h') : ∀ (n : Nat) (x0 : Nat) (x1 : Nat) (x2 : Int32) (x5 : Int32) (x6 : Int32) (x7 : Int32) (h : xH), F_X5_layOutThrough_b10 n x0 x1 x2 x5 x6 x7 h = some (r, h') → Gd Γ l d m_X5_layOutThrough 10 [.ref x0, .ref x1, .int x2, xhole, xhole, .int x5, .int x6, .int x7, xhole] [] h 0 0 Q := by
  intro n
  induction n with
  | zero => intro x0 x1 x2 x5 x6 x7 h hF; cases hF
  | succ n ih =>
  intro x0 x1 x2 x5 x6 x7 h hF
  rw [F_X5_layOutThrough_b10] at hF
  refine g_iload d_X5_layOutThrough_10 rfl ?_
  refine g_if_le 87 d_X5_layOutThrough_12 rfl (fun c12 => ?_) (fun c12 => ?_)
  · have hF := x_t hF c12
    obtain ⟨rfl, rfl⟩ := x_inj hF
    exact g_vret d_X5_layOutThrough_87 rfl hq
  · have hF := x_f hF c12
    refine g_aloadn d_X5_layOutThrough_15 rfl ?_
    refine g_iload d_X5_layOutThrough_16 rfl ?_
    refine g_iload d_X5_layOutThrough_18 rfl ?_
    refine g_iload d_X5_layOutThrough_20 rfl ?_
    refine g_ic (1) d_X5_layOutThrough_22 ic_1 ?_
    refine g_isub d_X5_layOutThrough_23 ?_
    refine g_aloadn d_X5_layOutThrough_24 rfl ?_
    obtain ⟨v25, e25, hF⟩ := Option.bind_eq_some_iff.mp hF
    refine q_fI d_X5_layOutThrough_25 f_X5_35 e25 ?_
    obtain ⟨_, g28, hF⟩ := Option.bind_eq_some_iff.mp hF
    obtain ⟨⟨r28, h28⟩, e28, hF⟩ := Option.bind_eq_some_iff.mp hF
    try dsimp only at hF
    refine q_callV [.int x5, .int x6, .int (x7 - 1), .int v25] [] rfl d_X5_layOutThrough_28 v_X5_87 (by omega) rfl (Nat.le_of_ble_eq_true rfl) (rc_rc g28 (by decide) rfl) (R_X5_firstTowards _ _ _ _ _ _ (by omega) e28) ?_
    refine q_istore [.ref x0, .ref x1, .int x2, xhole, xhole, .int x5, .int x6, .int x7, .int (r28)] d_X5_layOutThrough_31 (by decide) rfl ?_
    refine g_iload d_X5_layOutThrough_33 rfl ?_
    refine g_ic (-1) d_X5_layOutThrough_35 ic_m1 ?_
    refine g_icmp_ne 40 d_X5_layOutThrough_36 rfl (fun c36 => ?_) (fun c36 => ?_)
    · have hF := x_t hF c36
      refine g_aloadn d_X5_layOutThrough_40 rfl ?_
      obtain ⟨v41, e41, hF⟩ := Option.bind_eq_some_iff.mp hF
      refine q_fR d_X5_layOutThrough_41 f_X5_11 e41 ?_
      refine g_aloadn d_X5_layOutThrough_44 rfl ?_
      obtain ⟨v45, e45, hF⟩ := Option.bind_eq_some_iff.mp hF
      refine q_fI d_X5_layOutThrough_45 f_X5_15 e45 ?_
      refine g_iload d_X5_layOutThrough_48 rfl ?_
      obtain ⟨h50, e50, hF⟩ := Option.bind_eq_some_iff.mp hF
      refine q_sI d_X5_layOutThrough_50 e50 ?_
      refine g_aloadn d_X5_layOutThrough_51 rfl ?_
      refine g_dup d_X5_layOutThrough_52 rfl ?_
      obtain ⟨v53, e53, hF⟩ := Option.bind_eq_some_iff.mp hF
      refine q_fI d_X5_layOutThrough_53 f_X5_15 e53 ?_
      refine g_ic (1) d_X5_layOutThrough_56 ic_1 ?_
      refine g_iadd d_X5_layOutThrough_57 ?_
      obtain ⟨h58, e58, hF⟩ := Option.bind_eq_some_iff.mp hF
      refine q_wI d_X5_layOutThrough_58 (w_X5_15 _) e58 ?_
      refine g_iload d_X5_layOutThrough_61 rfl ?_
      refine g_iload d_X5_layOutThrough_63 rfl ?_
      obtain ⟨⟨r65, h65⟩, e65, hF⟩ := Option.bind_eq_some_iff.mp hF
      try dsimp only at hF
      refine q_callS [.int x6, .int (r28)] [] rfl d_X5_layOutThrough_65 s_X5_66 (by omega) rfl (Nat.le_of_ble_eq_true rfl) (R_X5_without _ _ _ (by omega) e65) ?_
      refine q_istore [.ref x0, .ref x1, .int x2, xhole, xhole, .int x5, .int (r65), .int x7, .int (r28)] d_X5_layOutThrough_68 (by decide) rfl ?_
      refine g_iloadn d_X5_layOutThrough_70 rfl ?_
      refine g_aloadn d_X5_layOutThrough_71 rfl ?_
      obtain ⟨v72, e72, hF⟩ := Option.bind_eq_some_iff.mp hF
      refine q_fR d_X5_layOutThrough_72 f_X5_63 e72 ?_
      refine g_iload d_X5_layOutThrough_75 rfl ?_
      obtain ⟨v77, e77, hF⟩ := Option.bind_eq_some_iff.mp hF
      refine q_aI d_X5_layOutThrough_77 e77 ?_
      refine g_iand d_X5_layOutThrough_78 ?_
      refine q_istore [.ref x0, .ref x1, .int x2, xhole, xhole, .int (x2 &&& v77), .int (r65), .int x7, .int (r28)] d_X5_layOutThrough_79 (by decide) rfl ?_
      refine q_iinc (-1) [.ref x0, .ref x1, .int x2, xhole, xhole, .int (x2 &&& v77), .int (r65), .int (x7 + (-1)), .int (r28)] d_X5_layOutThrough_81 ic_m1 rfl (by decide) rfl ?_
      refine g_goto 10 d_X5_layOutThrough_84 rfl ?_
      exact q_to (xs_r (xs_r (xs_r (xs_h (xs_h (xs_r (xs_r (xs_r (xs_h xs_n))))))))) (ih _ _ _ _ _ _ _ hF)
    · have hF := x_f hF (not_not_intro c36)
      obtain ⟨rfl, rfl⟩ := x_inj hF
      exact g_vret d_X5_layOutThrough_39 rfl hq
def F_X5_layOutThrough (x0 : Nat) (x1 : Nat) (x2 : Int32) (x3 : Int32) (x4 : Int32) (h : xH) : Option (Unit × xH) := F_X5_layOutThrough_b10 FU x0 x1 x2 x2 x3 x4 h
theorem R_X5_layOutThrough {Γ : xG} {l : Launch} {d : Nat} {r : Unit} {h' : xH} (x0 : Nat) (x1 : Nat) (x2 : Int32) (x3 : Int32) (x4 : Int32) (h : xH) (hdp : 2 ≤ d) (hF : F_X5_layOutThrough x0 x1 x2 x3 x4 h = some (r, h')) : Gm Γ l d 0 0 m_X5_layOutThrough [.ref x0, .ref x1, .int x2, .int x3, .int x4] h (fun a u => a = none ∧ u = h') := by
  refine Gm.of pn_X5 (Nat.le_of_ble_eq_true rfl) ?_
  show Gd Γ l d m_X5_layOutThrough 0 [.ref x0, .ref x1, .int x2, .int x3, .int x4, xhole, xhole, xhole, xhole] [] h 0 0 _
  generalize hQ : (fun (a : Option Value) (u : xH) => a = none ∧ u = h') = Q
  have hq : Q (none) h' := by rw [← hQ]; exact ⟨rfl, rfl⟩
  clear hQ
  unfold F_X5_layOutThrough at hF
  refine g_iloadn d_X5_layOutThrough_0 rfl ?_
  refine q_istore [.ref x0, .ref x1, .int x2, .int x3, .int x4, .int x2, xhole, xhole, xhole] d_X5_layOutThrough_1 (by decide) rfl ?_
  refine g_iloadn d_X5_layOutThrough_3 rfl ?_
  refine q_istore [.ref x0, .ref x1, .int x2, .int x3, .int x4, .int x2, .int x3, xhole, xhole] d_X5_layOutThrough_4 (by decide) rfl ?_
  refine g_iload d_X5_layOutThrough_6 rfl ?_
  refine q_istore [.ref x0, .ref x1, .int x2, .int x3, .int x4, .int x2, .int x3, .int x4, xhole] d_X5_layOutThrough_8 (by decide) rfl ?_
  exact q_to (xs_r (xs_r (xs_r (xs_h (xs_h (xs_r (xs_r (xs_r (xs_h xs_n))))))))) (R_X5_layOutThrough_b10 hdp hq FU _ _ _ _ _ _ _ hF)
theorem d_X5_comingTo_0 : decode cX5_comingTo 0 = .ok (.lconst 0, 1) := by decide +kernel
theorem d_X5_comingTo_1 : decode cX5_comingTo 1 = .ok (.lstore_n 3, 1) := by decide +kernel
theorem d_X5_comingTo_2 : decode cX5_comingTo 2 = .ok (.iconst 0, 1) := by decide +kernel
theorem d_X5_comingTo_3 : decode cX5_comingTo 3 = .ok (.istore 5, 2) := by decide +kernel
theorem d_X5_comingTo_5 : decode cX5_comingTo 5 = .ok (.iload 5, 2) := by decide +kernel
theorem d_X5_comingTo_7 : decode cX5_comingTo 7 = .ok (.aload_n 1, 1) := by decide +kernel
theorem d_X5_comingTo_8 : decode cX5_comingTo 8 = .ok (.getfield 35, 3) := by decide +kernel
theorem d_X5_comingTo_11 : decode cX5_comingTo 11 = .ok (.if_icmp .ge 34, 3) := by decide +kernel
theorem d_X5_comingTo_14 : decode cX5_comingTo 14 = .ok (.aload_n 1, 1) := by decide +kernel
theorem d_X5_comingTo_15 : decode cX5_comingTo 15 = .ok (.getfield 63, 3) := by decide +kernel
theorem d_X5_comingTo_18 : decode cX5_comingTo 18 = .ok (.iload 5, 2) := by decide +kernel
theorem d_X5_comingTo_20 : decode cX5_comingTo 20 = .ok (.iaload, 1) := by decide +kernel
theorem d_X5_comingTo_21 : decode cX5_comingTo 21 = .ok (.iload_n 2, 1) := by decide +kernel
theorem d_X5_comingTo_22 : decode cX5_comingTo 22 = .ok (.ishr, 1) := by decide +kernel
theorem d_X5_comingTo_23 : decode cX5_comingTo 23 = .ok (.iconst 1, 1) := by decide +kernel
theorem d_X5_comingTo_24 : decode cX5_comingTo 24 = .ok (.iand, 1) := by decide +kernel
theorem d_X5_comingTo_25 : decode cX5_comingTo 25 = .ok (.iconst 1, 1) := by decide +kernel
theorem d_X5_comingTo_26 : decode cX5_comingTo 26 = .ok (.if_icmp .ne 13, 3) := by decide +kernel
theorem d_X5_comingTo_29 : decode cX5_comingTo 29 = .ok (.lload_n 3, 1) := by decide +kernel
theorem d_X5_comingTo_30 : decode cX5_comingTo 30 = .ok (.aload_n 0, 1) := by decide +kernel
theorem d_X5_comingTo_31 : decode cX5_comingTo 31 = .ok (.getfield 28, 3) := by decide +kernel
theorem d_X5_comingTo_34 : decode cX5_comingTo 34 = .ok (.iload 5, 2) := by decide +kernel
theorem d_X5_comingTo_36 : decode cX5_comingTo 36 = .ok (.laload, 1) := by decide +kernel
theorem d_X5_comingTo_37 : decode cX5_comingTo 37 = .ok (.ladd, 1) := by decide +kernel
theorem d_X5_comingTo_38 : decode cX5_comingTo 38 = .ok (.lstore_n 3, 1) := by decide +kernel
theorem d_X5_comingTo_39 : decode cX5_comingTo 39 = .ok (.iinc 5 1, 3) := by decide +kernel
theorem d_X5_comingTo_42 : decode cX5_comingTo 42 = .ok (.goto (-37), 3) := by decide +kernel
theorem d_X5_comingTo_45 : decode cX5_comingTo 45 = .ok (.lload_n 3, 1) := by decide +kernel
theorem d_X5_comingTo_46 : decode cX5_comingTo 46 = .ok (.lreturn, 1) := by decide +kernel
def F_X5_comingTo_b5 : Nat → Nat → Nat → Int32 → Int64 → Int32 → xH → Option (Int64 × xH)
  | 0, _, _, _, _, _, _ => none
  | n + 1, x0, x1, x2, x3, x5, h => (fI h x1 9 0).bind fun v8 => if v8 ≤ x5 then some (x3, h) else (fR h x1 9 10).bind fun v15 => (aI h v15 x5).bind fun v20 => if ¬ ((v20 >>> (x2 &&& 31)) &&& 1) = ((1 : Int32)) then F_X5_comingTo_b5 n x0 x1 x2 x3 (x5 + 1) h else (fR h x0 4 5).bind fun v31 => (aJ h v31 x5).bind fun v36 => F_X5_comingTo_b5 n x0 x1 x2 (x3 + v36) (x5 + 1) h
theorem R_X5_comingTo_b5 {Γ : xG} {l : Launch} {d : Nat} {Q : Option Value → xH → Prop} {r : Int64} {h' : xH} (hdp : 0 ≤ d) (hq : Q (some (.long r)) h') : ∀ (n : Nat) (x0 : Nat) (x1 : Nat) (x2 : Int32) (x3 : Int64) (x5 : Int32) (h : xH), F_X5_comingTo_b5 n x0 x1 x2 x3 x5 h = some (r, h') → Gd Γ l d m_X5_comingTo 5 [.ref x0, .ref x1, .int x2, .long x3, xhole, .int x5] [] h 0 0 Q := by
  intro n
  induction n with
  | zero => intro x0 x1 x2 x3 x5 h hF; cases hF
  | succ n ih =>
  intro x0 x1 x2 x3 x5 h hF
  rw [F_X5_comingTo_b5] at hF
  refine g_iload d_X5_comingTo_5 rfl ?_
  refine g_aloadn d_X5_comingTo_7 rfl ?_
  obtain ⟨v8, e8, hF⟩ := Option.bind_eq_some_iff.mp hF
  refine q_fI d_X5_comingTo_8 f_X5_35 e8 ?_
  refine g_icmp_ge 45 d_X5_comingTo_11 rfl (fun c11 => ?_) (fun c11 => ?_)
  · have hF := x_t hF c11
    refine g_lloadn d_X5_comingTo_45 rfl ?_
    obtain ⟨rfl, rfl⟩ := x_inj hF
    exact g_lret d_X5_comingTo_46 rfl hq
  · have hF := x_f hF c11
    refine g_aloadn d_X5_comingTo_14 rfl ?_
    obtain ⟨v15, e15, hF⟩ := Option.bind_eq_some_iff.mp hF
    refine q_fR d_X5_comingTo_15 f_X5_63 e15 ?_
    refine g_iload d_X5_comingTo_18 rfl ?_
    obtain ⟨v20, e20, hF⟩ := Option.bind_eq_some_iff.mp hF
    refine q_aI d_X5_comingTo_20 e20 ?_
    refine g_iloadn d_X5_comingTo_21 rfl ?_
    refine g_ishr d_X5_comingTo_22 ?_
    refine g_ic (1) d_X5_comingTo_23 ic_1 ?_
    refine g_iand d_X5_comingTo_24 ?_
    refine g_ic (1) d_X5_comingTo_25 ic_1 ?_
    refine g_icmp_ne 39 d_X5_comingTo_26 rfl (fun c26 => ?_) (fun c26 => ?_)
    · have hF := x_t hF c26
      refine q_iinc (1) [.ref x0, .ref x1, .int x2, .long x3, xhole, .int (x5 + 1)] d_X5_comingTo_39 ic_1 rfl (by decide) rfl ?_
      refine g_goto 5 d_X5_comingTo_42 rfl ?_
      exact q_to (xs_r (xs_r (xs_r (xs_r (xs_h (xs_r xs_n)))))) (ih _ _ _ _ _ _ hF)
    · have hF := x_f hF (not_not_intro c26)
      refine g_lloadn d_X5_comingTo_29 rfl ?_
      refine g_aloadn d_X5_comingTo_30 rfl ?_
      obtain ⟨v31, e31, hF⟩ := Option.bind_eq_some_iff.mp hF
      refine q_fR d_X5_comingTo_31 f_X5_28 e31 ?_
      refine g_iload d_X5_comingTo_34 rfl ?_
      obtain ⟨v36, e36, hF⟩ := Option.bind_eq_some_iff.mp hF
      refine q_aJ d_X5_comingTo_36 e36 ?_
      refine g_ladd d_X5_comingTo_37 ?_
      refine q_lstoren [.ref x0, .ref x1, .int x2, .long (x3 + v36), xhole, .int x5] d_X5_comingTo_38 (by decide) rfl ?_
      refine q_iinc (1) [.ref x0, .ref x1, .int x2, .long (x3 + v36), xhole, .int (x5 + 1)] d_X5_comingTo_39 ic_1 rfl (by decide) rfl ?_
      refine g_goto 5 d_X5_comingTo_42 rfl ?_
      exact q_to (xs_r (xs_r (xs_r (xs_r (xs_h (xs_r xs_n)))))) (ih _ _ _ _ _ _ hF)
def F_X5_comingTo (x0 : Nat) (x1 : Nat) (x2 : Int32) (h : xH) : Option (Int64 × xH) := F_X5_comingTo_b5 FU x0 x1 x2 0 0 h
theorem R_X5_comingTo {Γ : xG} {l : Launch} {d : Nat} {r : Int64} {h' : xH} (x0 : Nat) (x1 : Nat) (x2 : Int32) (h : xH) (hdp : 0 ≤ d) (hF : F_X5_comingTo x0 x1 x2 h = some (r, h')) : Gm Γ l d 0 0 m_X5_comingTo [.ref x0, .ref x1, .int x2] h (fun a u => a = some (.long r) ∧ u = h') := by
  refine Gm.of pn_X5 (Nat.le_of_ble_eq_true rfl) ?_
  show Gd Γ l d m_X5_comingTo 0 [.ref x0, .ref x1, .int x2, xhole, xhole, xhole] [] h 0 0 _
  generalize hQ : (fun (a : Option Value) (u : xH) => a = some (.long r) ∧ u = h') = Q
  have hq : Q (some (.long r)) h' := by rw [← hQ]; exact ⟨rfl, rfl⟩
  clear hQ
  unfold F_X5_comingTo at hF
  refine g_lc 0 d_X5_comingTo_0 rfl ?_
  refine q_lstoren [.ref x0, .ref x1, .int x2, .long 0, xhole, xhole] d_X5_comingTo_1 (by decide) rfl ?_
  refine g_ic (0) d_X5_comingTo_2 ic_0 ?_
  refine q_istore [.ref x0, .ref x1, .int x2, .long 0, xhole, .int 0] d_X5_comingTo_3 (by decide) rfl ?_
  exact q_to (xs_r (xs_r (xs_r (xs_r (xs_h (xs_r xs_n)))))) (R_X5_comingTo_b5 hdp hq FU _ _ _ _ _ _ hF)
theorem d_X5_countOf_0 : decode cX5_countOf 0 = .ok (.iconst 0, 1) := by decide +kernel
theorem d_X5_countOf_1 : decode cX5_countOf 1 = .ok (.istore 4, 2) := by decide +kernel
theorem d_X5_countOf_3 : decode cX5_countOf 3 = .ok (.iload 4, 2) := by decide +kernel
theorem d_X5_countOf_5 : decode cX5_countOf 5 = .ok (.aload_n 1, 1) := by decide +kernel
theorem d_X5_countOf_6 : decode cX5_countOf 6 = .ok (.getfield 35, 3) := by decide +kernel
theorem d_X5_countOf_9 : decode cX5_countOf 9 = .ok (.if_icmp .ge 23, 3) := by decide +kernel
theorem d_X5_countOf_12 : decode cX5_countOf 12 = .ok (.aload_n 0, 1) := by decide +kernel
theorem d_X5_countOf_13 : decode cX5_countOf 13 = .ok (.getfield 28, 3) := by decide +kernel
theorem d_X5_countOf_16 : decode cX5_countOf 16 = .ok (.iload 4, 2) := by decide +kernel
theorem d_X5_countOf_18 : decode cX5_countOf 18 = .ok (.iload_n 2, 1) := by decide +kernel
theorem d_X5_countOf_19 : decode cX5_countOf 19 = .ok (.iload 4, 2) := by decide +kernel
theorem d_X5_countOf_21 : decode cX5_countOf 21 = .ok (.ishr, 1) := by decide +kernel
theorem d_X5_countOf_22 : decode cX5_countOf 22 = .ok (.iconst 1, 1) := by decide +kernel
theorem d_X5_countOf_23 : decode cX5_countOf 23 = .ok (.iand, 1) := by decide +kernel
theorem d_X5_countOf_24 : decode cX5_countOf 24 = .ok (.i2l, 1) := by decide +kernel
theorem d_X5_countOf_25 : decode cX5_countOf 25 = .ok (.lastore, 1) := by decide +kernel
theorem d_X5_countOf_26 : decode cX5_countOf 26 = .ok (.iinc 4 1, 3) := by decide +kernel
theorem d_X5_countOf_29 : decode cX5_countOf 29 = .ok (.goto (-26), 3) := by decide +kernel
theorem d_X5_countOf_32 : decode cX5_countOf 32 = .ok (.iconst 1, 1) := by decide +kernel
theorem d_X5_countOf_33 : decode cX5_countOf 33 = .ok (.istore 4, 2) := by decide +kernel
theorem d_X5_countOf_35 : decode cX5_countOf 35 = .ok (.iload 4, 2) := by decide +kernel
theorem d_X5_countOf_37 : decode cX5_countOf 37 = .ok (.iload_n 3, 1) := by decide +kernel
theorem d_X5_countOf_38 : decode cX5_countOf 38 = .ok (.if_icmp .ge 71, 3) := by decide +kernel
theorem d_X5_countOf_41 : decode cX5_countOf 41 = .ok (.iconst 0, 1) := by decide +kernel
theorem d_X5_countOf_42 : decode cX5_countOf 42 = .ok (.istore 5, 2) := by decide +kernel
theorem d_X5_countOf_44 : decode cX5_countOf 44 = .ok (.iload 5, 2) := by decide +kernel
theorem d_X5_countOf_46 : decode cX5_countOf 46 = .ok (.aload_n 1, 1) := by decide +kernel
theorem d_X5_countOf_47 : decode cX5_countOf 47 = .ok (.getfield 35, 3) := by decide +kernel
theorem d_X5_countOf_50 : decode cX5_countOf 50 = .ok (.if_icmp .ge 36, 3) := by decide +kernel
theorem d_X5_countOf_53 : decode cX5_countOf 53 = .ok (.aload_n 0, 1) := by decide +kernel
theorem d_X5_countOf_54 : decode cX5_countOf 54 = .ok (.getfield 32, 3) := by decide +kernel
theorem d_X5_countOf_57 : decode cX5_countOf 57 = .ok (.iload 5, 2) := by decide +kernel
theorem d_X5_countOf_59 : decode cX5_countOf 59 = .ok (.iload_n 2, 1) := by decide +kernel
theorem d_X5_countOf_60 : decode cX5_countOf 60 = .ok (.iload 5, 2) := by decide +kernel
theorem d_X5_countOf_62 : decode cX5_countOf 62 = .ok (.ishr, 1) := by decide +kernel
theorem d_X5_countOf_63 : decode cX5_countOf 63 = .ok (.iconst 1, 1) := by decide +kernel
theorem d_X5_countOf_64 : decode cX5_countOf 64 = .ok (.iand, 1) := by decide +kernel
theorem d_X5_countOf_65 : decode cX5_countOf 65 = .ok (.ifCond .ne 7, 3) := by decide +kernel
theorem d_X5_countOf_68 : decode cX5_countOf 68 = .ok (.lconst 0, 1) := by decide +kernel
theorem d_X5_countOf_69 : decode cX5_countOf 69 = .ok (.goto 10, 3) := by decide +kernel
theorem d_X5_countOf_72 : decode cX5_countOf 72 = .ok (.aload_n 0, 1) := by decide +kernel
theorem d_X5_countOf_73 : decode cX5_countOf 73 = .ok (.aload_n 1, 1) := by decide +kernel
theorem d_X5_countOf_74 : decode cX5_countOf 74 = .ok (.iload 5, 2) := by decide +kernel
theorem d_X5_countOf_76 : decode cX5_countOf 76 = .ok (.invokevirtual 91, 3) := by decide +kernel
theorem d_X5_countOf_79 : decode cX5_countOf 79 = .ok (.lastore, 1) := by decide +kernel
theorem d_X5_countOf_80 : decode cX5_countOf 80 = .ok (.iinc 5 1, 3) := by decide +kernel
theorem d_X5_countOf_83 : decode cX5_countOf 83 = .ok (.goto (-39), 3) := by decide +kernel
theorem d_X5_countOf_86 : decode cX5_countOf 86 = .ok (.aload_n 0, 1) := by decide +kernel
theorem d_X5_countOf_87 : decode cX5_countOf 87 = .ok (.getfield 32, 3) := by decide +kernel
theorem d_X5_countOf_90 : decode cX5_countOf 90 = .ok (.iconst 0, 1) := by decide +kernel
theorem d_X5_countOf_91 : decode cX5_countOf 91 = .ok (.aload_n 0, 1) := by decide +kernel
theorem d_X5_countOf_92 : decode cX5_countOf 92 = .ok (.getfield 28, 3) := by decide +kernel
theorem d_X5_countOf_95 : decode cX5_countOf 95 = .ok (.iconst 0, 1) := by decide +kernel
theorem d_X5_countOf_96 : decode cX5_countOf 96 = .ok (.aload_n 1, 1) := by decide +kernel
theorem d_X5_countOf_97 : decode cX5_countOf 97 = .ok (.getfield 35, 3) := by decide +kernel
theorem d_X5_countOf_100 : decode cX5_countOf 100 = .ok (.invokestatic 95, 3) := by decide +kernel
theorem d_X5_countOf_103 : decode cX5_countOf 103 = .ok (.iinc 4 1, 3) := by decide +kernel
theorem d_X5_countOf_106 : decode cX5_countOf 106 = .ok (.goto (-71), 3) := by decide +kernel
theorem d_X5_countOf_109 : decode cX5_countOf 109 = .ok (.lconst 0, 1) := by decide +kernel
theorem d_X5_countOf_110 : decode cX5_countOf 110 = .ok (.lstore 4, 2) := by decide +kernel
theorem d_X5_countOf_112 : decode cX5_countOf 112 = .ok (.iconst 0, 1) := by decide +kernel
theorem d_X5_countOf_113 : decode cX5_countOf 113 = .ok (.istore 6, 2) := by decide +kernel
theorem d_X5_countOf_115 : decode cX5_countOf 115 = .ok (.iload 6, 2) := by decide +kernel
theorem d_X5_countOf_117 : decode cX5_countOf 117 = .ok (.aload_n 1, 1) := by decide +kernel
theorem d_X5_countOf_118 : decode cX5_countOf 118 = .ok (.getfield 35, 3) := by decide +kernel
theorem d_X5_countOf_121 : decode cX5_countOf 121 = .ok (.if_icmp .ge 21, 3) := by decide +kernel
theorem d_X5_countOf_124 : decode cX5_countOf 124 = .ok (.lload 4, 2) := by decide +kernel
theorem d_X5_countOf_126 : decode cX5_countOf 126 = .ok (.aload_n 0, 1) := by decide +kernel
theorem d_X5_countOf_127 : decode cX5_countOf 127 = .ok (.getfield 28, 3) := by decide +kernel
theorem d_X5_countOf_130 : decode cX5_countOf 130 = .ok (.iload 6, 2) := by decide +kernel
theorem d_X5_countOf_132 : decode cX5_countOf 132 = .ok (.laload, 1) := by decide +kernel
theorem d_X5_countOf_133 : decode cX5_countOf 133 = .ok (.ladd, 1) := by decide +kernel
theorem d_X5_countOf_134 : decode cX5_countOf 134 = .ok (.lstore 4, 2) := by decide +kernel
theorem d_X5_countOf_136 : decode cX5_countOf 136 = .ok (.iinc 6 1, 3) := by decide +kernel
theorem d_X5_countOf_139 : decode cX5_countOf 139 = .ok (.goto (-24), 3) := by decide +kernel
theorem d_X5_countOf_142 : decode cX5_countOf 142 = .ok (.lload 4, 2) := by decide +kernel
theorem d_X5_countOf_144 : decode cX5_countOf 144 = .ok (.lreturn, 1) := by decide +kernel
def F_X5_countOf_b115 : Nat → Nat → Nat → Int64 → Int32 → xH → Option (Int64 × xH)
  | 0, _, _, _, _, _ => none
  | n + 1, x0, x1, x4, x6, h => (fI h x1 9 0).bind fun v118 => if v118 ≤ x6 then some (x4, h) else (fR h x0 4 5).bind fun v127 => (aJ h v127 x6).bind fun v132 => F_X5_countOf_b115 n x0 x1 (x4 + v132) (x6 + 1) h
theorem R_X5_countOf_b115 {Γ : xG} {l : Launch} {d : Nat} {Q : Option Value → xH → Prop} {r : Int64} {h' : xH} (hdp : 1 ≤ d) (hq : Q (some (.long r)) h') : ∀ (n : Nat) (x0 : Nat) (x1 : Nat) (x4 : Int64) (x6 : Int32) (h : xH), F_X5_countOf_b115 n x0 x1 x4 x6 h = some (r, h') → Gd Γ l d m_X5_countOf 115 [.ref x0, .ref x1, xhole, xhole, .long x4, xhole, .int x6] [] h 0 0 Q := by
  intro n
  induction n with
  | zero => intro x0 x1 x4 x6 h hF; cases hF
  | succ n ih =>
  intro x0 x1 x4 x6 h hF
  rw [F_X5_countOf_b115] at hF
  refine g_iload d_X5_countOf_115 rfl ?_
  refine g_aloadn d_X5_countOf_117 rfl ?_
  obtain ⟨v118, e118, hF⟩ := Option.bind_eq_some_iff.mp hF
  refine q_fI d_X5_countOf_118 f_X5_35 e118 ?_
  refine g_icmp_ge 142 d_X5_countOf_121 rfl (fun c121 => ?_) (fun c121 => ?_)
  · have hF := x_t hF c121
    refine g_lload d_X5_countOf_142 rfl ?_
    obtain ⟨rfl, rfl⟩ := x_inj hF
    exact g_lret d_X5_countOf_144 rfl hq
  · have hF := x_f hF c121
    refine g_lload d_X5_countOf_124 rfl ?_
    refine g_aloadn d_X5_countOf_126 rfl ?_
    obtain ⟨v127, e127, hF⟩ := Option.bind_eq_some_iff.mp hF
    refine q_fR d_X5_countOf_127 f_X5_28 e127 ?_
    refine g_iload d_X5_countOf_130 rfl ?_
    obtain ⟨v132, e132, hF⟩ := Option.bind_eq_some_iff.mp hF
    refine q_aJ d_X5_countOf_132 e132 ?_
    refine g_ladd d_X5_countOf_133 ?_
    refine q_lstore [.ref x0, .ref x1, xhole, xhole, .long (x4 + v132), xhole, .int x6] d_X5_countOf_134 (by decide) rfl ?_
    refine q_iinc (1) [.ref x0, .ref x1, xhole, xhole, .long (x4 + v132), xhole, .int (x6 + 1)] d_X5_countOf_136 ic_1 rfl (by decide) rfl ?_
    refine g_goto 115 d_X5_countOf_139 rfl ?_
    exact q_to (xs_r (xs_r (xs_h (xs_h (xs_r (xs_h (xs_r xs_n))))))) (ih _ _ _ _ _ hF)
def F_X5_countOf_b44 (k35 : Nat → Nat → Int32 → Int32 → Int32 → xH → Option (Int64 × xH)) : Nat → Nat → Nat → Int32 → Int32 → Int32 → Int32 → xH → Option (Int64 × xH)
  | 0, _, _, _, _, _, _, _ => none
  | n + 1, x0, x1, x2, x3, x4, x5, h => (fI h x1 9 0).bind fun v47 => if v47 ≤ x5 then (fR h x0 4 6).bind fun v87 => (fR h x0 4 5).bind fun v92 => (fI h x1 9 0).bind fun v97 => (cpI h v87 0 v92 0 v97).bind fun h100 => k35 x0 x1 x2 x3 (x4 + 1) h100 else (fR h x0 4 6).bind fun v54 => if ¬ ((x2 >>> (x5 &&& 31)) &&& 1) = 0 then (rc h x0 4).bind fun _ => (F_X5_comingTo x0 x1 x5 h).bind fun z76 => (sJ z76.2 v54 x5 z76.1).bind fun h79 => F_X5_countOf_b44 k35 n x0 x1 x2 x3 x4 (x5 + 1) h79 else (sJ h v54 x5 0).bind fun h79 => F_X5_countOf_b44 k35 n x0 x1 x2 x3 x4 (x5 + 1) h79
theorem R_X5_countOf_b44 {Γ : xG} {l : Launch} {d : Nat} {Q : Option Value → xH → Prop} {r : Int64} {h' : xH} {k35 : Nat → Nat → Int32 → Int32 → Int32 → xH → Option (Int64 × xH)} (K35 : ∀ (x0 : Nat) (x1 : Nat) (x2 : Int32) (x3 : Int32) (x4 : Int32)  (h : xH), k35 x0 x1 x2 x3 x4 h = some (r, h') → Gd Γ l d m_X5_countOf 35 [.ref x0, .ref x1, .int x2, .int x3, .int x4, xhole, xhole] [] h 0 0 Q) (hdp : 1 ≤ d) (hq : Q (some (.long r)) h') : ∀ (n : Nat) (x0 : Nat) (x1 : Nat) (x2 : Int32) (x3 : Int32) (x4 : Int32) (x5 : Int32) (h : xH), F_X5_countOf_b44 k35 n x0 x1 x2 x3 x4 x5 h = some (r, h') → Gd Γ l d m_X5_countOf 44 [.ref x0, .ref x1, .int x2, .int x3, .int x4, .int x5, xhole] [] h 0 0 Q := by
  intro n
  induction n with
  | zero => intro x0 x1 x2 x3 x4 x5 h hF; cases hF
  | succ n ih =>
  intro x0 x1 x2 x3 x4 x5 h hF
  rw [F_X5_countOf_b44] at hF
  refine g_iload d_X5_countOf_44 rfl ?_
  refine g_aloadn d_X5_countOf_46 rfl ?_
  obtain ⟨v47, e47, hF⟩ := Option.bind_eq_some_iff.mp hF
  refine q_fI d_X5_countOf_47 f_X5_35 e47 ?_
  refine g_icmp_ge 86 d_X5_countOf_50 rfl (fun c50 => ?_) (fun c50 => ?_)
  · have hF := x_t hF c50
    refine g_aloadn d_X5_countOf_86 rfl ?_
    obtain ⟨v87, e87, hF⟩ := Option.bind_eq_some_iff.mp hF
    refine q_fR d_X5_countOf_87 f_X5_32 e87 ?_
    refine g_ic (0) d_X5_countOf_90 ic_0 ?_
    refine g_aloadn d_X5_countOf_91 rfl ?_
    obtain ⟨v92, e92, hF⟩ := Option.bind_eq_some_iff.mp hF
    refine q_fR d_X5_countOf_92 f_X5_28 e92 ?_
    refine g_ic (0) d_X5_countOf_95 ic_0 ?_
    refine g_aloadn d_X5_countOf_96 rfl ?_
    obtain ⟨v97, e97, hF⟩ := Option.bind_eq_some_iff.mp hF
    refine q_fI d_X5_countOf_97 f_X5_35 e97 ?_
    obtain ⟨h100, e100, hF⟩ := Option.bind_eq_some_iff.mp hF
    refine q_cpI d_X5_countOf_100 ay_X5_95 (by omega) (Nat.le_of_ble_eq_true rfl) e100 ?_
    refine q_iinc (1) [.ref x0, .ref x1, .int x2, .int x3, .int (x4 + 1), .int x5, xhole] d_X5_countOf_103 ic_1 rfl (by decide) rfl ?_
    refine g_goto 35 d_X5_countOf_106 rfl ?_
    exact q_to (xs_r (xs_r (xs_r (xs_r (xs_r (xs_h (xs_h xs_n))))))) (K35 _ _ _ _ _ _ hF)
  · have hF := x_f hF c50
    refine g_aloadn d_X5_countOf_53 rfl ?_
    obtain ⟨v54, e54, hF⟩ := Option.bind_eq_some_iff.mp hF
    refine q_fR d_X5_countOf_54 f_X5_32 e54 ?_
    refine g_iload d_X5_countOf_57 rfl ?_
    refine g_iloadn d_X5_countOf_59 rfl ?_
    refine g_iload d_X5_countOf_60 rfl ?_
    refine g_ishr d_X5_countOf_62 ?_
    refine g_ic (1) d_X5_countOf_63 ic_1 ?_
    refine g_iand d_X5_countOf_64 ?_
    refine g_if_ne 72 d_X5_countOf_65 rfl (fun c65 => ?_) (fun c65 => ?_)
    · have hF := x_t hF c65
      refine g_aloadn d_X5_countOf_72 rfl ?_
      refine g_aloadn d_X5_countOf_73 rfl ?_
      refine g_iload d_X5_countOf_74 rfl ?_
      obtain ⟨_, g76, hF⟩ := Option.bind_eq_some_iff.mp hF
      obtain ⟨⟨r76, h76⟩, e76, hF⟩ := Option.bind_eq_some_iff.mp hF
      try dsimp only at hF
      refine q_callV [.ref x1, .int x5] [.int x5, .ref v54] rfl d_X5_countOf_76 v_X5_91 (by omega) rfl (Nat.le_of_ble_eq_true rfl) (rc_rc g76 (by decide) rfl) (R_X5_comingTo _ _ _ _ (by omega) e76) ?_
      obtain ⟨h79, e79, hF⟩ := Option.bind_eq_some_iff.mp hF
      refine q_sJ d_X5_countOf_79 e79 ?_
      refine q_iinc (1) [.ref x0, .ref x1, .int x2, .int x3, .int x4, .int (x5 + 1), xhole] d_X5_countOf_80 ic_1 rfl (by decide) rfl ?_
      refine g_goto 44 d_X5_countOf_83 rfl ?_
      exact q_to (xs_r (xs_r (xs_r (xs_r (xs_r (xs_r (xs_h xs_n))))))) (ih _ _ _ _ _ _ _ hF)
    · have hF := x_f hF (not_not_intro c65)
      refine g_lc 0 d_X5_countOf_68 rfl ?_
      refine g_goto 79 d_X5_countOf_69 rfl ?_
      obtain ⟨h79, e79, hF⟩ := Option.bind_eq_some_iff.mp hF
      refine q_sJ d_X5_countOf_79 e79 ?_
      refine q_iinc (1) [.ref x0, .ref x1, .int x2, .int x3, .int x4, .int (x5 + 1), xhole] d_X5_countOf_80 ic_1 rfl (by decide) rfl ?_
      refine g_goto 44 d_X5_countOf_83 rfl ?_
      exact q_to (xs_r (xs_r (xs_r (xs_r (xs_r (xs_r (xs_h xs_n))))))) (ih _ _ _ _ _ _ _ hF)
def F_X5_countOf_b35 : Nat → Nat → Nat → Int32 → Int32 → Int32 → xH → Option (Int64 × xH)
  | 0, _, _, _, _, _, _ => none
  | n + 1, x0, x1, x2, x3, x4, h => if x3 ≤ x4 then F_X5_countOf_b115 FU x0 x1 0 0 h else F_X5_countOf_b44 (F_X5_countOf_b35 n) FU x0 x1 x2 x3 x4 0 h
theorem R_X5_countOf_b35 {Γ : xG} {l : Launch} {d : Nat} {Q : Option Value → xH → Prop} {r : Int64} {h' : xH} (hdp : 1 ≤ d) (hq : Q (some (.long r)) h') : ∀ (n : Nat) (x0 : Nat) (x1 : Nat) (x2 : Int32) (x3 : Int32) (x4 : Int32) (h : xH), F_X5_countOf_b35 n x0 x1 x2 x3 x4 h = some (r, h') → Gd Γ l d m_X5_countOf 35 [.ref x0, .ref x1, .int x2, .int x3, .int x4, xhole, xhole] [] h 0 0 Q := by
  intro n
  induction n with
  | zero => intro x0 x1 x2 x3 x4 h hF; cases hF
  | succ n ih =>
  intro x0 x1 x2 x3 x4 h hF
  rw [F_X5_countOf_b35] at hF
  refine g_iload d_X5_countOf_35 rfl ?_
  refine g_iloadn d_X5_countOf_37 rfl ?_
  refine g_icmp_ge 109 d_X5_countOf_38 rfl (fun c38 => ?_) (fun c38 => ?_)
  · have hF := x_t hF c38
    refine g_lc 0 d_X5_countOf_109 rfl ?_
    refine q_lstore [.ref x0, .ref x1, .int x2, .int x3, .long 0, xhole, xhole] d_X5_countOf_110 (by decide) rfl ?_
    refine g_ic (0) d_X5_countOf_112 ic_0 ?_
    refine q_istore [.ref x0, .ref x1, .int x2, .int x3, .long 0, xhole, .int 0] d_X5_countOf_113 (by decide) rfl ?_
    exact q_to (xs_r (xs_r (xs_h (xs_h (xs_r (xs_h (xs_r xs_n))))))) (R_X5_countOf_b115 hdp hq FU _ _ _ _ _ hF)
  · have hF := x_f hF c38
    refine g_ic (0) d_X5_countOf_41 ic_0 ?_
    refine q_istore [.ref x0, .ref x1, .int x2, .int x3, .int x4, .int 0, xhole] d_X5_countOf_42 (by decide) rfl ?_
    exact q_to (xs_r (xs_r (xs_r (xs_r (xs_r (xs_r (xs_h xs_n))))))) (R_X5_countOf_b44 ih hdp hq FU _ _ _ _ _ _ _ hF)
def F_X5_countOf_b3 : Nat → Nat → Nat → Int32 → Int32 → Int32 → xH → Option (Int64 × xH)
  | 0, _, _, _, _, _, _ => none
  | n + 1, x0, x1, x2, x3, x4, h => (fI h x1 9 0).bind fun v6 => if v6 ≤ x4 then F_X5_countOf_b35 FU x0 x1 x2 x3 1 h else (fR h x0 4 5).bind fun v13 => (sJ h v13 x4 (((x2 >>> (x4 &&& 31)) &&& 1).toInt64)).bind fun h25 => F_X5_countOf_b3 n x0 x1 x2 x3 (x4 + 1) h25
theorem R_X5_countOf_b3 {Γ : xG} {l : Launch} {d : Nat} {Q : Option Value → xH → Prop} {r : Int64} {h' : xH} (hdp : 1 ≤ d) (hq : Q (some (.long r)) h') : ∀ (n : Nat) (x0 : Nat) (x1 : Nat) (x2 : Int32) (x3 : Int32) (x4 : Int32) (h : xH), F_X5_countOf_b3 n x0 x1 x2 x3 x4 h = some (r, h') → Gd Γ l d m_X5_countOf 3 [.ref x0, .ref x1, .int x2, .int x3, .int x4, xhole, xhole] [] h 0 0 Q := by
  intro n
  induction n with
  | zero => intro x0 x1 x2 x3 x4 h hF; cases hF
  | succ n ih =>
  intro x0 x1 x2 x3 x4 h hF
  rw [F_X5_countOf_b3] at hF
  refine g_iload d_X5_countOf_3 rfl ?_
  refine g_aloadn d_X5_countOf_5 rfl ?_
  obtain ⟨v6, e6, hF⟩ := Option.bind_eq_some_iff.mp hF
  refine q_fI d_X5_countOf_6 f_X5_35 e6 ?_
  refine g_icmp_ge 32 d_X5_countOf_9 rfl (fun c9 => ?_) (fun c9 => ?_)
  · have hF := x_t hF c9
    refine g_ic (1) d_X5_countOf_32 ic_1 ?_
    refine q_istore [.ref x0, .ref x1, .int x2, .int x3, .int 1, xhole, xhole] d_X5_countOf_33 (by decide) rfl ?_
    exact q_to (xs_r (xs_r (xs_r (xs_r (xs_r (xs_h (xs_h xs_n))))))) (R_X5_countOf_b35 hdp hq FU _ _ _ _ _ _ hF)
  · have hF := x_f hF c9
    refine g_aloadn d_X5_countOf_12 rfl ?_
    obtain ⟨v13, e13, hF⟩ := Option.bind_eq_some_iff.mp hF
    refine q_fR d_X5_countOf_13 f_X5_28 e13 ?_
    refine g_iload d_X5_countOf_16 rfl ?_
    refine g_iloadn d_X5_countOf_18 rfl ?_
    refine g_iload d_X5_countOf_19 rfl ?_
    refine g_ishr d_X5_countOf_21 ?_
    refine g_ic (1) d_X5_countOf_22 ic_1 ?_
    refine g_iand d_X5_countOf_23 ?_
    refine g_i2l d_X5_countOf_24 ?_
    obtain ⟨h25, e25, hF⟩ := Option.bind_eq_some_iff.mp hF
    refine q_sJ d_X5_countOf_25 e25 ?_
    refine q_iinc (1) [.ref x0, .ref x1, .int x2, .int x3, .int (x4 + 1), xhole, xhole] d_X5_countOf_26 ic_1 rfl (by decide) rfl ?_
    refine g_goto 3 d_X5_countOf_29 rfl ?_
    exact q_to (xs_r (xs_r (xs_r (xs_r (xs_r (xs_h (xs_h xs_n))))))) (ih _ _ _ _ _ _ hF)
def F_X5_countOf (x0 : Nat) (x1 : Nat) (x2 : Int32) (x3 : Int32) (h : xH) : Option (Int64 × xH) := F_X5_countOf_b3 FU x0 x1 x2 x3 0 h
theorem R_X5_countOf {Γ : xG} {l : Launch} {d : Nat} {r : Int64} {h' : xH} (x0 : Nat) (x1 : Nat) (x2 : Int32) (x3 : Int32) (h : xH) (hdp : 1 ≤ d) (hF : F_X5_countOf x0 x1 x2 x3 h = some (r, h')) : Gm Γ l d 0 0 m_X5_countOf [.ref x0, .ref x1, .int x2, .int x3] h (fun a u => a = some (.long r) ∧ u = h') := by
  refine Gm.of pn_X5 (Nat.le_of_ble_eq_true rfl) ?_
  show Gd Γ l d m_X5_countOf 0 [.ref x0, .ref x1, .int x2, .int x3, xhole, xhole, xhole] [] h 0 0 _
  generalize hQ : (fun (a : Option Value) (u : xH) => a = some (.long r) ∧ u = h') = Q
  have hq : Q (some (.long r)) h' := by rw [← hQ]; exact ⟨rfl, rfl⟩
  clear hQ
  unfold F_X5_countOf at hF
  refine g_ic (0) d_X5_countOf_0 ic_0 ?_
  refine q_istore [.ref x0, .ref x1, .int x2, .int x3, .int 0, xhole, xhole] d_X5_countOf_1 (by decide) rfl ?_
  exact q_to (xs_r (xs_r (xs_r (xs_r (xs_r (xs_h (xs_h xs_n))))))) (R_X5_countOf_b3 hdp hq FU _ _ _ _ _ _ hF)
theorem d_X6_peopleAt_0 : decode cX6_peopleAt 0 = .ok (.iconst 0, 1) := by decide +kernel
theorem d_X6_peopleAt_1 : decode cX6_peopleAt 1 = .ok (.istore_n 3, 1) := by decide +kernel
theorem d_X6_peopleAt_2 : decode cX6_peopleAt 2 = .ok (.iconst 0, 1) := by decide +kernel
theorem d_X6_peopleAt_3 : decode cX6_peopleAt 3 = .ok (.istore 4, 2) := by decide +kernel
theorem d_X6_peopleAt_5 : decode cX6_peopleAt 5 = .ok (.iload 4, 2) := by decide +kernel
theorem d_X6_peopleAt_7 : decode cX6_peopleAt 7 = .ok (.iload_n 2, 1) := by decide +kernel
theorem d_X6_peopleAt_8 : decode cX6_peopleAt 8 = .ok (.if_icmp .ge 27, 3) := by decide +kernel
theorem d_X6_peopleAt_11 : decode cX6_peopleAt 11 = .ok (.aload_n 0, 1) := by decide +kernel
theorem d_X6_peopleAt_12 : decode cX6_peopleAt 12 = .ok (.getfield 9, 3) := by decide +kernel
theorem d_X6_peopleAt_15 : decode cX6_peopleAt 15 = .ok (.iload 4, 2) := by decide +kernel
theorem d_X6_peopleAt_17 : decode cX6_peopleAt 17 = .ok (.iaload, 1) := by decide +kernel
theorem d_X6_peopleAt_18 : decode cX6_peopleAt 18 = .ok (.iload_n 1, 1) := by decide +kernel
theorem d_X6_peopleAt_19 : decode cX6_peopleAt 19 = .ok (.if_icmp .ne 10, 3) := by decide +kernel
theorem d_X6_peopleAt_22 : decode cX6_peopleAt 22 = .ok (.iload_n 3, 1) := by decide +kernel
theorem d_X6_peopleAt_23 : decode cX6_peopleAt 23 = .ok (.iconst 1, 1) := by decide +kernel
theorem d_X6_peopleAt_24 : decode cX6_peopleAt 24 = .ok (.iload 4, 2) := by decide +kernel
theorem d_X6_peopleAt_26 : decode cX6_peopleAt 26 = .ok (.ishl, 1) := by decide +kernel
theorem d_X6_peopleAt_27 : decode cX6_peopleAt 27 = .ok (.ior, 1) := by decide +kernel
theorem d_X6_peopleAt_28 : decode cX6_peopleAt 28 = .ok (.istore_n 3, 1) := by decide +kernel
theorem d_X6_peopleAt_29 : decode cX6_peopleAt 29 = .ok (.iinc 4 1, 3) := by decide +kernel
theorem d_X6_peopleAt_32 : decode cX6_peopleAt 32 = .ok (.goto (-27), 3) := by decide +kernel
theorem d_X6_peopleAt_35 : decode cX6_peopleAt 35 = .ok (.iload_n 3, 1) := by decide +kernel
theorem d_X6_peopleAt_36 : decode cX6_peopleAt 36 = .ok (.ireturn, 1) := by decide +kernel
def F_X6_peopleAt_b5 : Nat → Nat → Int32 → Int32 → Int32 → Int32 → xH → Option (Int32 × xH)
  | 0, _, _, _, _, _, _ => none
  | n + 1, x0, x1, x2, x3, x4, h => if x2 ≤ x4 then some (x3, h) else (fR h x0 5 0).bind fun v12 => (aI h v12 x4).bind fun v17 => if ¬ v17 = x1 then F_X6_peopleAt_b5 n x0 x1 x2 x3 (x4 + 1) h else F_X6_peopleAt_b5 n x0 x1 x2 (x3 ||| (((1 : Int32)) <<< (x4 &&& 31))) (x4 + 1) h
theorem R_X6_peopleAt_b5 {Γ : xG} {l : Launch} {d : Nat} {Q : Option Value → xH → Prop} {r : Int32} {h' : xH} (hdp : 0 ≤ d) (hq : Q (some (.int r)) h') : ∀ (n : Nat) (x0 : Nat) (x1 : Int32) (x2 : Int32) (x3 : Int32) (x4 : Int32) (h : xH), F_X6_peopleAt_b5 n x0 x1 x2 x3 x4 h = some (r, h') → Gd Γ l d m_X6_peopleAt 5 [.ref x0, .int x1, .int x2, .int x3, .int x4] [] h 0 0 Q := by
  intro n
  induction n with
  | zero => intro x0 x1 x2 x3 x4 h hF; cases hF
  | succ n ih =>
  intro x0 x1 x2 x3 x4 h hF
  rw [F_X6_peopleAt_b5] at hF
  refine g_iload d_X6_peopleAt_5 rfl ?_
  refine g_iloadn d_X6_peopleAt_7 rfl ?_
  refine g_icmp_ge 35 d_X6_peopleAt_8 rfl (fun c8 => ?_) (fun c8 => ?_)
  · have hF := x_t hF c8
    refine g_iloadn d_X6_peopleAt_35 rfl ?_
    obtain ⟨rfl, rfl⟩ := x_inj hF
    exact g_iret d_X6_peopleAt_36 rfl hq
  · have hF := x_f hF c8
    refine g_aloadn d_X6_peopleAt_11 rfl ?_
    obtain ⟨v12, e12, hF⟩ := Option.bind_eq_some_iff.mp hF
    refine q_fR d_X6_peopleAt_12 f_X6_9 e12 ?_
    refine g_iload d_X6_peopleAt_15 rfl ?_
    obtain ⟨v17, e17, hF⟩ := Option.bind_eq_some_iff.mp hF
    refine q_aI d_X6_peopleAt_17 e17 ?_
    refine g_iloadn d_X6_peopleAt_18 rfl ?_
    refine g_icmp_ne 29 d_X6_peopleAt_19 rfl (fun c19 => ?_) (fun c19 => ?_)
    · have hF := x_t hF c19
      refine q_iinc (1) [.ref x0, .int x1, .int x2, .int x3, .int (x4 + 1)] d_X6_peopleAt_29 ic_1 rfl (by decide) rfl ?_
      refine g_goto 5 d_X6_peopleAt_32 rfl ?_
      exact q_to (xs_r (xs_r (xs_r (xs_r (xs_r xs_n))))) (ih _ _ _ _ _ _ hF)
    · have hF := x_f hF (not_not_intro c19)
      refine g_iloadn d_X6_peopleAt_22 rfl ?_
      refine g_ic (1) d_X6_peopleAt_23 ic_1 ?_
      refine g_iload d_X6_peopleAt_24 rfl ?_
      refine g_ishl d_X6_peopleAt_26 ?_
      refine g_ior d_X6_peopleAt_27 ?_
      refine q_istoren [.ref x0, .int x1, .int x2, .int (x3 ||| (((1 : Int32)) <<< (x4 &&& 31))), .int x4] d_X6_peopleAt_28 (by decide) rfl ?_
      refine q_iinc (1) [.ref x0, .int x1, .int x2, .int (x3 ||| (((1 : Int32)) <<< (x4 &&& 31))), .int (x4 + 1)] d_X6_peopleAt_29 ic_1 rfl (by decide) rfl ?_
      refine g_goto 5 d_X6_peopleAt_32 rfl ?_
      exact q_to (xs_r (xs_r (xs_r (xs_r (xs_r xs_n))))) (ih _ _ _ _ _ _ hF)
def F_X6_peopleAt (x0 : Nat) (x1 : Int32) (x2 : Int32) (h : xH) : Option (Int32 × xH) := F_X6_peopleAt_b5 FU x0 x1 x2 0 0 h
theorem R_X6_peopleAt {Γ : xG} {l : Launch} {d : Nat} {r : Int32} {h' : xH} (x0 : Nat) (x1 : Int32) (x2 : Int32) (h : xH) (hdp : 0 ≤ d) (hF : F_X6_peopleAt x0 x1 x2 h = some (r, h')) : Gm Γ l d 0 0 m_X6_peopleAt [.ref x0, .int x1, .int x2] h (fun a u => a = some (.int r) ∧ u = h') := by
  refine Gm.of pn_X6 (Nat.le_of_ble_eq_true rfl) ?_
  show Gd Γ l d m_X6_peopleAt 0 [.ref x0, .int x1, .int x2, xhole, xhole] [] h 0 0 _
  generalize hQ : (fun (a : Option Value) (u : xH) => a = some (.int r) ∧ u = h') = Q
  have hq : Q (some (.int r)) h' := by rw [← hQ]; exact ⟨rfl, rfl⟩
  clear hQ
  unfold F_X6_peopleAt at hF
  refine g_ic (0) d_X6_peopleAt_0 ic_0 ?_
  refine q_istoren [.ref x0, .int x1, .int x2, .int 0, xhole] d_X6_peopleAt_1 (by decide) rfl ?_
  refine g_ic (0) d_X6_peopleAt_2 ic_0 ?_
  refine q_istore [.ref x0, .int x1, .int x2, .int 0, .int 0] d_X6_peopleAt_3 (by decide) rfl ?_
  exact q_to (xs_r (xs_r (xs_r (xs_r (xs_r xs_n))))) (R_X6_peopleAt_b5 hdp hq FU _ _ _ _ _ _ hF)
theorem d_X6_placesOfAll_0 : decode cX6_placesOfAll 0 = .ok (.iconst 0, 1) := by decide +kernel
theorem d_X6_placesOfAll_1 : decode cX6_placesOfAll 1 = .ok (.istore_n 2, 1) := by decide +kernel
theorem d_X6_placesOfAll_2 : decode cX6_placesOfAll 2 = .ok (.iconst 0, 1) := by decide +kernel
theorem d_X6_placesOfAll_3 : decode cX6_placesOfAll 3 = .ok (.istore_n 3, 1) := by decide +kernel
theorem d_X6_placesOfAll_4 : decode cX6_placesOfAll 4 = .ok (.iload_n 3, 1) := by decide +kernel
theorem d_X6_placesOfAll_5 : decode cX6_placesOfAll 5 = .ok (.iload_n 1, 1) := by decide +kernel
theorem d_X6_placesOfAll_6 : decode cX6_placesOfAll 6 = .ok (.if_icmp .ge 20, 3) := by decide +kernel
theorem d_X6_placesOfAll_9 : decode cX6_placesOfAll 9 = .ok (.iload_n 2, 1) := by decide +kernel
theorem d_X6_placesOfAll_10 : decode cX6_placesOfAll 10 = .ok (.iconst 1, 1) := by decide +kernel
theorem d_X6_placesOfAll_11 : decode cX6_placesOfAll 11 = .ok (.aload_n 0, 1) := by decide +kernel
theorem d_X6_placesOfAll_12 : decode cX6_placesOfAll 12 = .ok (.getfield 9, 3) := by decide +kernel
theorem d_X6_placesOfAll_15 : decode cX6_placesOfAll 15 = .ok (.iload_n 3, 1) := by decide +kernel
theorem d_X6_placesOfAll_16 : decode cX6_placesOfAll 16 = .ok (.iaload, 1) := by decide +kernel
theorem d_X6_placesOfAll_17 : decode cX6_placesOfAll 17 = .ok (.ishl, 1) := by decide +kernel
theorem d_X6_placesOfAll_18 : decode cX6_placesOfAll 18 = .ok (.ior, 1) := by decide +kernel
theorem d_X6_placesOfAll_19 : decode cX6_placesOfAll 19 = .ok (.istore_n 2, 1) := by decide +kernel
theorem d_X6_placesOfAll_20 : decode cX6_placesOfAll 20 = .ok (.iinc 3 1, 3) := by decide +kernel
theorem d_X6_placesOfAll_23 : decode cX6_placesOfAll 23 = .ok (.goto (-19), 3) := by decide +kernel
theorem d_X6_placesOfAll_26 : decode cX6_placesOfAll 26 = .ok (.iload_n 2, 1) := by decide +kernel
theorem d_X6_placesOfAll_27 : decode cX6_placesOfAll 27 = .ok (.ireturn, 1) := by decide +kernel
def F_X6_placesOfAll_b4 : Nat → Nat → Int32 → Int32 → Int32 → xH → Option (Int32 × xH)
  | 0, _, _, _, _, _ => none
  | n + 1, x0, x1, x2, x3, h => if x1 ≤ x3 then some (x2, h) else (fR h x0 5 0).bind fun v12 => (aI h v12 x3).bind fun v16 => F_X6_placesOfAll_b4 n x0 x1 (x2 ||| (((1 : Int32)) <<< (v16 &&& 31))) (x3 + 1) h
theorem R_X6_placesOfAll_b4 {Γ : xG} {l : Launch} {d : Nat} {Q : Option Value → xH → Prop} {r : Int32} {h' : xH} (hdp : 0 ≤ d) (hq : Q (some (.int r)) h') : ∀ (n : Nat) (x0 : Nat) (x1 : Int32) (x2 : Int32) (x3 : Int32) (h : xH), F_X6_placesOfAll_b4 n x0 x1 x2 x3 h = some (r, h') → Gd Γ l d m_X6_placesOfAll 4 [.ref x0, .int x1, .int x2, .int x3] [] h 0 0 Q := by
  intro n
  induction n with
  | zero => intro x0 x1 x2 x3 h hF; cases hF
  | succ n ih =>
  intro x0 x1 x2 x3 h hF
  rw [F_X6_placesOfAll_b4] at hF
  refine g_iloadn d_X6_placesOfAll_4 rfl ?_
  refine g_iloadn d_X6_placesOfAll_5 rfl ?_
  refine g_icmp_ge 26 d_X6_placesOfAll_6 rfl (fun c6 => ?_) (fun c6 => ?_)
  · have hF := x_t hF c6
    refine g_iloadn d_X6_placesOfAll_26 rfl ?_
    obtain ⟨rfl, rfl⟩ := x_inj hF
    exact g_iret d_X6_placesOfAll_27 rfl hq
  · have hF := x_f hF c6
    refine g_iloadn d_X6_placesOfAll_9 rfl ?_
    refine g_ic (1) d_X6_placesOfAll_10 ic_1 ?_
    refine g_aloadn d_X6_placesOfAll_11 rfl ?_
    obtain ⟨v12, e12, hF⟩ := Option.bind_eq_some_iff.mp hF
    refine q_fR d_X6_placesOfAll_12 f_X6_9 e12 ?_
    refine g_iloadn d_X6_placesOfAll_15 rfl ?_
    obtain ⟨v16, e16, hF⟩ := Option.bind_eq_some_iff.mp hF
    refine q_aI d_X6_placesOfAll_16 e16 ?_
    refine g_ishl d_X6_placesOfAll_17 ?_
    refine g_ior d_X6_placesOfAll_18 ?_
    refine q_istoren [.ref x0, .int x1, .int (x2 ||| (((1 : Int32)) <<< (v16 &&& 31))), .int x3] d_X6_placesOfAll_19 (by decide) rfl ?_
    refine q_iinc (1) [.ref x0, .int x1, .int (x2 ||| (((1 : Int32)) <<< (v16 &&& 31))), .int (x3 + 1)] d_X6_placesOfAll_20 ic_1 rfl (by decide) rfl ?_
    refine g_goto 4 d_X6_placesOfAll_23 rfl ?_
    exact q_to (xs_r (xs_r (xs_r (xs_r xs_n)))) (ih _ _ _ _ _ hF)
def F_X6_placesOfAll (x0 : Nat) (x1 : Int32) (h : xH) : Option (Int32 × xH) := F_X6_placesOfAll_b4 FU x0 x1 0 0 h
theorem R_X6_placesOfAll {Γ : xG} {l : Launch} {d : Nat} {r : Int32} {h' : xH} (x0 : Nat) (x1 : Int32) (h : xH) (hdp : 0 ≤ d) (hF : F_X6_placesOfAll x0 x1 h = some (r, h')) : Gm Γ l d 0 0 m_X6_placesOfAll [.ref x0, .int x1] h (fun a u => a = some (.int r) ∧ u = h') := by
  refine Gm.of pn_X6 (Nat.le_of_ble_eq_true rfl) ?_
  show Gd Γ l d m_X6_placesOfAll 0 [.ref x0, .int x1, xhole, xhole] [] h 0 0 _
  generalize hQ : (fun (a : Option Value) (u : xH) => a = some (.int r) ∧ u = h') = Q
  have hq : Q (some (.int r)) h' := by rw [← hQ]; exact ⟨rfl, rfl⟩
  clear hQ
  unfold F_X6_placesOfAll at hF
  refine g_ic (0) d_X6_placesOfAll_0 ic_0 ?_
  refine q_istoren [.ref x0, .int x1, .int 0, xhole] d_X6_placesOfAll_1 (by decide) rfl ?_
  refine g_ic (0) d_X6_placesOfAll_2 ic_0 ?_
  refine q_istoren [.ref x0, .int x1, .int 0, .int 0] d_X6_placesOfAll_3 (by decide) rfl ?_
  exact q_to (xs_r (xs_r (xs_r (xs_r xs_n)))) (R_X6_placesOfAll_b4 hdp hq FU _ _ _ _ _ hF)
theorem d_X10_heardWith_0 : decode cX10_heardWith 0 = .ok (.aload_n 1, 1) := by decide +kernel
theorem d_X10_heardWith_1 : decode cX10_heardWith 1 = .ok (.iload_n 2, 1) := by decide +kernel
theorem d_X10_heardWith_2 : decode cX10_heardWith 2 = .ok (.invokevirtual 91, 3) := by decide +kernel
theorem d_X10_heardWith_5 : decode cX10_heardWith 5 = .ok (.istore 4, 2) := by decide +kernel
theorem d_X10_heardWith_7 : decode cX10_heardWith 7 = .ok (.iconst 0, 1) := by decide +kernel
theorem d_X10_heardWith_8 : decode cX10_heardWith 8 = .ok (.istore 5, 2) := by decide +kernel
theorem d_X10_heardWith_10 : decode cX10_heardWith 10 = .ok (.iconst 0, 1) := by decide +kernel
theorem d_X10_heardWith_11 : decode cX10_heardWith 11 = .ok (.istore 6, 2) := by decide +kernel
theorem d_X10_heardWith_13 : decode cX10_heardWith 13 = .ok (.iload 6, 2) := by decide +kernel
theorem d_X10_heardWith_15 : decode cX10_heardWith 15 = .ok (.aload_n 0, 1) := by decide +kernel
theorem d_X10_heardWith_16 : decode cX10_heardWith 16 = .ok (.getfield 9, 3) := by decide +kernel
theorem d_X10_heardWith_19 : decode cX10_heardWith 19 = .ok (.if_icmp .ge 78, 3) := by decide +kernel
theorem d_X10_heardWith_22 : decode cX10_heardWith 22 = .ok (.aload_n 0, 1) := by decide +kernel
theorem d_X10_heardWith_23 : decode cX10_heardWith 23 = .ok (.getfield 53, 3) := by decide +kernel
theorem d_X10_heardWith_26 : decode cX10_heardWith 26 = .ok (.ifnonnull 22, 3) := by decide +kernel
theorem d_X10_heardWith_29 : decode cX10_heardWith 29 = .ok (.iload 4, 2) := by decide +kernel
theorem d_X10_heardWith_31 : decode cX10_heardWith 31 = .ok (.ifCond .ne 9, 3) := by decide +kernel
theorem d_X10_heardWith_34 : decode cX10_heardWith 34 = .ok (.iload 6, 2) := by decide +kernel
theorem d_X10_heardWith_36 : decode cX10_heardWith 36 = .ok (.iload_n 3, 1) := by decide +kernel
theorem d_X10_heardWith_37 : decode cX10_heardWith 37 = .ok (.if_icmp .eq 7, 3) := by decide +kernel
theorem d_X10_heardWith_40 : decode cX10_heardWith 40 = .ok (.iconst 1, 1) := by decide +kernel
theorem d_X10_heardWith_41 : decode cX10_heardWith 41 = .ok (.goto 34, 3) := by decide +kernel
theorem d_X10_heardWith_44 : decode cX10_heardWith 44 = .ok (.iconst 0, 1) := by decide +kernel
theorem d_X10_heardWith_45 : decode cX10_heardWith 45 = .ok (.goto 30, 3) := by decide +kernel
theorem d_X10_heardWith_48 : decode cX10_heardWith 48 = .ok (.aload_n 0, 1) := by decide +kernel
theorem d_X10_heardWith_49 : decode cX10_heardWith 49 = .ok (.getfield 53, 3) := by decide +kernel
theorem d_X10_heardWith_52 : decode cX10_heardWith 52 = .ok (.iload_n 2, 1) := by decide +kernel
theorem d_X10_heardWith_53 : decode cX10_heardWith 53 = .ok (.iload 6, 2) := by decide +kernel
theorem d_X10_heardWith_55 : decode cX10_heardWith 55 = .ok (.iload_n 3, 1) := by decide +kernel
theorem d_X10_heardWith_56 : decode cX10_heardWith 56 = .ok (.aload_n 1, 1) := by decide +kernel
theorem d_X10_heardWith_57 : decode cX10_heardWith 57 = .ok (.getfield 95, 3) := by decide +kernel
theorem d_X10_heardWith_60 : decode cX10_heardWith 60 = .ok (.iload_n 2, 1) := by decide +kernel
theorem d_X10_heardWith_61 : decode cX10_heardWith 61 = .ok (.iaload, 1) := by decide +kernel
theorem d_X10_heardWith_62 : decode cX10_heardWith 62 = .ok (.iload 4, 2) := by decide +kernel
theorem d_X10_heardWith_64 : decode cX10_heardWith 64 = .ok (.ifCond .eq 7, 3) := by decide +kernel
theorem d_X10_heardWith_67 : decode cX10_heardWith 67 = .ok (.iconst 1, 1) := by decide +kernel
theorem d_X10_heardWith_68 : decode cX10_heardWith 68 = .ok (.goto 4, 3) := by decide +kernel
theorem d_X10_heardWith_71 : decode cX10_heardWith 71 = .ok (.iconst 0, 1) := by decide +kernel
theorem d_X10_heardWith_72 : decode cX10_heardWith 72 = .ok (.invokevirtual 66, 3) := by decide +kernel
theorem d_X10_heardWith_75 : decode cX10_heardWith 75 = .ok (.istore 7, 2) := by decide +kernel
theorem d_X10_heardWith_77 : decode cX10_heardWith 77 = .ok (.iload 7, 2) := by decide +kernel
theorem d_X10_heardWith_79 : decode cX10_heardWith 79 = .ok (.ifCond .eq 12, 3) := by decide +kernel
theorem d_X10_heardWith_82 : decode cX10_heardWith 82 = .ok (.iload 5, 2) := by decide +kernel
theorem d_X10_heardWith_84 : decode cX10_heardWith 84 = .ok (.iconst 1, 1) := by decide +kernel
theorem d_X10_heardWith_85 : decode cX10_heardWith 85 = .ok (.iload 6, 2) := by decide +kernel
theorem d_X10_heardWith_87 : decode cX10_heardWith 87 = .ok (.ishl, 1) := by decide +kernel
theorem d_X10_heardWith_88 : decode cX10_heardWith 88 = .ok (.ior, 1) := by decide +kernel
theorem d_X10_heardWith_89 : decode cX10_heardWith 89 = .ok (.istore 5, 2) := by decide +kernel
theorem d_X10_heardWith_91 : decode cX10_heardWith 91 = .ok (.iinc 6 1, 3) := by decide +kernel
theorem d_X10_heardWith_94 : decode cX10_heardWith 94 = .ok (.goto (-81), 3) := by decide +kernel
theorem d_X10_heardWith_97 : decode cX10_heardWith 97 = .ok (.iload 5, 2) := by decide +kernel
theorem d_X10_heardWith_99 : decode cX10_heardWith 99 = .ok (.ireturn, 1) := by decide +kernel
def F_X10_heardWith_b75 (k13 : Nat → Nat → Int32 → Int32 → Int32 → Int32 → Int32 → xH → Option (Int32 × xH)) (x0 : Nat) (x1 : Nat) (x2 : Int32) (x3 : Int32) (x4 : Int32) (x5 : Int32) (x6 : Int32) (s0 : Int32) (h : xH) : Option (Int32 × xH) := if s0 = 0 then k13 x0 x1 x2 x3 x4 x5 (x6 + 1) h else k13 x0 x1 x2 x3 x4 (x5 ||| (((1 : Int32)) <<< (x6 &&& 31))) (x6 + 1) h
theorem R_X10_heardWith_b75 {Γ : xG} {l : Launch} {d : Nat} {Q : Option Value → xH → Prop} {r : Int32} {h' : xH} {k13 : Nat → Nat → Int32 → Int32 → Int32 → Int32 → Int32 → xH → Option (Int32 × xH)} (K13 : ∀ (x0 : Nat) (x1 : Nat) (x2 : Int32) (x3 : Int32) (x4 : Int32) (x5 : Int32) (x6 : Int32)  (h : xH), k13 x0 x1 x2 x3 x4 x5 x6 h = some (r, h') → Gd Γ l d m_X10_heardWith 13 [.ref x0, .ref x1, .int x2, .int x3, .int x4, .int x5, .int x6, xhole] [] h 0 0 Q) (hdp : 4 ≤ d) (hq : Q (some (.int r)) h') : ∀ (x0 : Nat) (x1 : Nat) (x2 : Int32) (x3 : Int32) (x4 : Int32) (x5 : Int32) (x6 : Int32) (s0 : Int32) (h : xH), F_X10_heardWith_b75 k13 x0 x1 x2 x3 x4 x5 x6 s0 h = some (r, h') → Gd Γ l d m_X10_heardWith 75 [.ref x0, .ref x1, .int x2, .int x3, .int x4, .int x5, .int x6, xhole] [.int s0] h 0 0 Q := by
  intro x0 x1 x2 x3 x4 x5 x6 s0 h hF
  unfold F_X10_heardWith_b75 at hF
  refine q_istore [.ref x0, .ref x1, .int x2, .int x3, .int x4, .int x5, .int x6, .int s0] d_X10_heardWith_75 (by decide) rfl ?_
  refine g_iload d_X10_heardWith_77 rfl ?_
  refine g_if_eq 91 d_X10_heardWith_79 rfl (fun c79 => ?_) (fun c79 => ?_)
  · have hF := x_t hF c79
    refine q_iinc (1) [.ref x0, .ref x1, .int x2, .int x3, .int x4, .int x5, .int (x6 + 1), .int s0] d_X10_heardWith_91 ic_1 rfl (by decide) rfl ?_
    refine g_goto 13 d_X10_heardWith_94 rfl ?_
    exact q_to (xs_r (xs_r (xs_r (xs_r (xs_r (xs_r (xs_r (xs_h xs_n)))))))) (K13 _ _ _ _ _ _ _ _ hF)
  · have hF := x_f hF c79
    refine g_iload d_X10_heardWith_82 rfl ?_
    refine g_ic (1) d_X10_heardWith_84 ic_1 ?_
    refine g_iload d_X10_heardWith_85 rfl ?_
    refine g_ishl d_X10_heardWith_87 ?_
    refine g_ior d_X10_heardWith_88 ?_
    refine q_istore [.ref x0, .ref x1, .int x2, .int x3, .int x4, .int (x5 ||| (((1 : Int32)) <<< (x6 &&& 31))), .int x6, .int s0] d_X10_heardWith_89 (by decide) rfl ?_
    refine q_iinc (1) [.ref x0, .ref x1, .int x2, .int x3, .int x4, .int (x5 ||| (((1 : Int32)) <<< (x6 &&& 31))), .int (x6 + 1), .int s0] d_X10_heardWith_91 ic_1 rfl (by decide) rfl ?_
    refine g_goto 13 d_X10_heardWith_94 rfl ?_
    exact q_to (xs_r (xs_r (xs_r (xs_r (xs_r (xs_r (xs_r (xs_h xs_n)))))))) (K13 _ _ _ _ _ _ _ _ hF)
def F_X10_heardWith_b72 (k13 : Nat → Nat → Int32 → Int32 → Int32 → Int32 → Int32 → xH → Option (Int32 × xH)) (x0 : Nat) (x1 : Nat) (x2 : Int32) (x3 : Int32) (x4 : Int32) (x5 : Int32) (x6 : Int32) (s0 : Nat) (s1 : Int32) (s2 : Int32) (s3 : Int32) (s4 : Int32) (s5 : Int32) (h : xH) : Option (Int32 × xH) := (rc h s0 2).bind fun _ => (F_X3_holds s0 s1 s2 s3 s4 s5 h).bind fun z72 => F_X10_heardWith_b75 k13 x0 x1 x2 x3 x4 x5 x6 z72.1 z72.2
theorem R_X10_heardWith_b72 {Γ : xG} {l : Launch} {d : Nat} {Q : Option Value → xH → Prop} {r : Int32} {h' : xH} {k13 : Nat → Nat → Int32 → Int32 → Int32 → Int32 → Int32 → xH → Option (Int32 × xH)} (K13 : ∀ (x0 : Nat) (x1 : Nat) (x2 : Int32) (x3 : Int32) (x4 : Int32) (x5 : Int32) (x6 : Int32)  (h : xH), k13 x0 x1 x2 x3 x4 x5 x6 h = some (r, h') → Gd Γ l d m_X10_heardWith 13 [.ref x0, .ref x1, .int x2, .int x3, .int x4, .int x5, .int x6, xhole] [] h 0 0 Q) (hdp : 4 ≤ d) (hq : Q (some (.int r)) h') : ∀ (x0 : Nat) (x1 : Nat) (x2 : Int32) (x3 : Int32) (x4 : Int32) (x5 : Int32) (x6 : Int32) (s0 : Nat) (s1 : Int32) (s2 : Int32) (s3 : Int32) (s4 : Int32) (s5 : Int32) (h : xH), F_X10_heardWith_b72 k13 x0 x1 x2 x3 x4 x5 x6 s0 s1 s2 s3 s4 s5 h = some (r, h') → Gd Γ l d m_X10_heardWith 72 [.ref x0, .ref x1, .int x2, .int x3, .int x4, .int x5, .int x6, xhole] [.int s5, .int s4, .int s3, .int s2, .int s1, .ref s0] h 0 0 Q := by
  intro x0 x1 x2 x3 x4 x5 x6 s0 s1 s2 s3 s4 s5 h hF
  unfold F_X10_heardWith_b72 at hF
  obtain ⟨_, g72, hF⟩ := Option.bind_eq_some_iff.mp hF
  obtain ⟨⟨r72, h72⟩, e72, hF⟩ := Option.bind_eq_some_iff.mp hF
  try dsimp only at hF
  refine q_callV [.int s1, .int s2, .int s3, .int s4, .int s5] [] rfl d_X10_heardWith_72 v_X10_66 (by omega) rfl (Nat.le_of_ble_eq_true rfl) (rc_rc g72 (by decide) rfl) (R_X3_holds _ _ _ _ _ _ _ (by omega) e72) ?_
  exact q_to (xs_r (xs_r (xs_r (xs_r (xs_r (xs_r (xs_r (xs_h xs_n)))))))) (R_X10_heardWith_b75 K13 hdp hq _ _ _ _ _ _ _ _ _ hF)
def F_X10_heardWith_b13 : Nat → Nat → Nat → Int32 → Int32 → Int32 → Int32 → Int32 → xH → Option (Int32 × xH)
  | 0, _, _, _, _, _, _, _, _ => none
  | n + 1, x0, x1, x2, x3, x4, x5, x6, h => (fI h x0 9 0).bind fun v16 => if v16 ≤ x6 then some (x5, h) else (fQ h x0 9 12).bind fun v23 => (match v23 with | none => if ¬ x4 = 0 then F_X10_heardWith_b75 (F_X10_heardWith_b13 n) x0 x1 x2 x3 x4 x5 x6 1 h else if x6 = x3 then F_X10_heardWith_b75 (F_X10_heardWith_b13 n) x0 x1 x2 x3 x4 x5 x6 0 h else F_X10_heardWith_b75 (F_X10_heardWith_b13 n) x0 x1 x2 x3 x4 x5 x6 1 h | some q26 => (fR h x0 9 12).bind fun v49 => (fR h x1 5 1).bind fun v57 => (aI h v57 x2).bind fun v61 => if x4 = 0 then F_X10_heardWith_b72 (F_X10_heardWith_b13 n) x0 x1 x2 x3 x4 x5 x6 v49 x2 x6 x3 v61 0 h else F_X10_heardWith_b72 (F_X10_heardWith_b13 n) x0 x1 x2 x3 x4 x5 x6 v49 x2 x6 x3 v61 1 h)
theorem R_X10_heardWith_b13 {Γ : xG} {l : Launch} {d : Nat} {Q : Option Value → xH → Prop} {r : Int32} {h' : xH} (hdp : 4 ≤ d) (hq : Q (some (.int r)) h') : ∀ (n : Nat) (x0 : Nat) (x1 : Nat) (x2 : Int32) (x3 : Int32) (x4 : Int32) (x5 : Int32) (x6 : Int32) (h : xH), F_X10_heardWith_b13 n x0 x1 x2 x3 x4 x5 x6 h = some (r, h') → Gd Γ l d m_X10_heardWith 13 [.ref x0, .ref x1, .int x2, .int x3, .int x4, .int x5, .int x6, xhole] [] h 0 0 Q := by
  intro n
  induction n with
  | zero => intro x0 x1 x2 x3 x4 x5 x6 h hF; cases hF
  | succ n ih =>
  intro x0 x1 x2 x3 x4 x5 x6 h hF
  rw [F_X10_heardWith_b13] at hF
  refine g_iload d_X10_heardWith_13 rfl ?_
  refine g_aloadn d_X10_heardWith_15 rfl ?_
  obtain ⟨v16, e16, hF⟩ := Option.bind_eq_some_iff.mp hF
  refine q_fI d_X10_heardWith_16 f_X10_9 e16 ?_
  refine g_icmp_ge 97 d_X10_heardWith_19 rfl (fun c19 => ?_) (fun c19 => ?_)
  · have hF := x_t hF c19
    refine g_iload d_X10_heardWith_97 rfl ?_
    obtain ⟨rfl, rfl⟩ := x_inj hF
    exact g_iret d_X10_heardWith_99 rfl hq
  · have hF := x_f hF c19
    refine g_aloadn d_X10_heardWith_22 rfl ?_
    obtain ⟨v23, e23, hF⟩ := Option.bind_eq_some_iff.mp hF
    refine q_fQ d_X10_heardWith_23 f_X10_53 e23 ?_
    cases v23 with
    | none =>
      try dsimp only at hF
      refine g_ifnonnullN d_X10_heardWith_26 ?_
      refine g_iload d_X10_heardWith_29 rfl ?_
      refine g_if_ne 40 d_X10_heardWith_31 rfl (fun c31 => ?_) (fun c31 => ?_)
      · have hF := x_t hF c31
        refine g_ic (1) d_X10_heardWith_40 ic_1 ?_
        refine g_goto 75 d_X10_heardWith_41 rfl ?_
        exact q_to (xs_r (xs_r (xs_r (xs_r (xs_r (xs_r (xs_r (xs_h xs_n)))))))) (R_X10_heardWith_b75 ih hdp hq _ _ _ _ _ _ _ _ _ hF)
      · have hF := x_f hF (not_not_intro c31)
        refine g_iload d_X10_heardWith_34 rfl ?_
        refine g_iloadn d_X10_heardWith_36 rfl ?_
        refine g_icmp_eq 44 d_X10_heardWith_37 rfl (fun c37 => ?_) (fun c37 => ?_)
        · have hF := x_t hF c37
          refine g_ic (0) d_X10_heardWith_44 ic_0 ?_
          refine g_goto 75 d_X10_heardWith_45 rfl ?_
          exact q_to (xs_r (xs_r (xs_r (xs_r (xs_r (xs_r (xs_r (xs_h xs_n)))))))) (R_X10_heardWith_b75 ih hdp hq _ _ _ _ _ _ _ _ _ hF)
        · have hF := x_f hF c37
          refine g_ic (1) d_X10_heardWith_40 ic_1 ?_
          refine g_goto 75 d_X10_heardWith_41 rfl ?_
          exact q_to (xs_r (xs_r (xs_r (xs_r (xs_r (xs_r (xs_r (xs_h xs_n)))))))) (R_X10_heardWith_b75 ih hdp hq _ _ _ _ _ _ _ _ _ hF)
    | some q26 =>
      try dsimp only at hF
      refine g_ifnonnull 48 d_X10_heardWith_26 rfl ?_
      refine g_aloadn d_X10_heardWith_48 rfl ?_
      obtain ⟨v49, e49, hF⟩ := Option.bind_eq_some_iff.mp hF
      refine q_fR d_X10_heardWith_49 f_X10_53 e49 ?_
      refine g_iloadn d_X10_heardWith_52 rfl ?_
      refine g_iload d_X10_heardWith_53 rfl ?_
      refine g_iloadn d_X10_heardWith_55 rfl ?_
      refine g_aloadn d_X10_heardWith_56 rfl ?_
      obtain ⟨v57, e57, hF⟩ := Option.bind_eq_some_iff.mp hF
      refine q_fR d_X10_heardWith_57 f_X10_95 e57 ?_
      refine g_iloadn d_X10_heardWith_60 rfl ?_
      obtain ⟨v61, e61, hF⟩ := Option.bind_eq_some_iff.mp hF
      refine q_aI d_X10_heardWith_61 e61 ?_
      refine g_iload d_X10_heardWith_62 rfl ?_
      refine g_if_eq 71 d_X10_heardWith_64 rfl (fun c64 => ?_) (fun c64 => ?_)
      · have hF := x_t hF c64
        refine g_ic (0) d_X10_heardWith_71 ic_0 ?_
        exact q_to (xs_r (xs_r (xs_r (xs_r (xs_r (xs_r (xs_r (xs_h xs_n)))))))) (R_X10_heardWith_b72 ih hdp hq _ _ _ _ _ _ _ _ _ _ _ _ _ _ hF)
      · have hF := x_f hF c64
        refine g_ic (1) d_X10_heardWith_67 ic_1 ?_
        refine g_goto 72 d_X10_heardWith_68 rfl ?_
        exact q_to (xs_r (xs_r (xs_r (xs_r (xs_r (xs_r (xs_r (xs_h xs_n)))))))) (R_X10_heardWith_b72 ih hdp hq _ _ _ _ _ _ _ _ _ _ _ _ _ _ hF)
def F_X10_heardWith (x0 : Nat) (x1 : Nat) (x2 : Int32) (x3 : Int32) (h : xH) : Option (Int32 × xH) := (rc h x1 5).bind fun _ => (F_X6_hasFound x1 x2 h).bind fun z2 => F_X10_heardWith_b13 FU x0 x1 x2 x3 z2.1 0 0 z2.2
theorem R_X10_heardWith {Γ : xG} {l : Launch} {d : Nat} {r : Int32} {h' : xH} (x0 : Nat) (x1 : Nat) (x2 : Int32) (x3 : Int32) (h : xH) (hdp : 4 ≤ d) (hF : F_X10_heardWith x0 x1 x2 x3 h = some (r, h')) : Gm Γ l d 0 0 m_X10_heardWith [.ref x0, .ref x1, .int x2, .int x3] h (fun a u => a = some (.int r) ∧ u = h') := by
  refine Gm.of pn_X10 (Nat.le_of_ble_eq_true rfl) ?_
  show Gd Γ l d m_X10_heardWith 0 [.ref x0, .ref x1, .int x2, .int x3, xhole, xhole, xhole, xhole] [] h 0 0 _
  generalize hQ : (fun (a : Option Value) (u : xH) => a = some (.int r) ∧ u = h') = Q
  have hq : Q (some (.int r)) h' := by rw [← hQ]; exact ⟨rfl, rfl⟩
  clear hQ
  unfold F_X10_heardWith at hF
  refine g_aloadn d_X10_heardWith_0 rfl ?_
  refine g_iloadn d_X10_heardWith_1 rfl ?_
  obtain ⟨_, g2, hF⟩ := Option.bind_eq_some_iff.mp hF
  obtain ⟨⟨r2, h2⟩, e2, hF⟩ := Option.bind_eq_some_iff.mp hF
  try dsimp only at hF
  refine q_callV [.int x2] [] rfl d_X10_heardWith_2 v_X10_91 (by omega) rfl (Nat.le_of_ble_eq_true rfl) (rc_rc g2 (by decide) rfl) (R_X6_hasFound _ _ _ (by omega) e2) ?_
  refine q_istore [.ref x0, .ref x1, .int x2, .int x3, .int (r2), xhole, xhole, xhole] d_X10_heardWith_5 (by decide) rfl ?_
  refine g_ic (0) d_X10_heardWith_7 ic_0 ?_
  refine q_istore [.ref x0, .ref x1, .int x2, .int x3, .int (r2), .int 0, xhole, xhole] d_X10_heardWith_8 (by decide) rfl ?_
  refine g_ic (0) d_X10_heardWith_10 ic_0 ?_
  refine q_istore [.ref x0, .ref x1, .int x2, .int x3, .int (r2), .int 0, .int 0, xhole] d_X10_heardWith_11 (by decide) rfl ?_
  exact q_to (xs_r (xs_r (xs_r (xs_r (xs_r (xs_r (xs_r (xs_h xs_n)))))))) (R_X10_heardWith_b13 hdp hq FU _ _ _ _ _ _ _ _ hF)
theorem d_X10_heardBy_0 : decode cX10_heardBy 0 = .ok (.aload_n 1, 1) := by decide +kernel
theorem d_X10_heardBy_1 : decode cX10_heardBy 1 = .ok (.getfield 84, 3) := by decide +kernel
theorem d_X10_heardBy_4 : decode cX10_heardBy 4 = .ok (.iload_n 2, 1) := by decide +kernel
theorem d_X10_heardBy_5 : decode cX10_heardBy 5 = .ok (.iaload, 1) := by decide +kernel
theorem d_X10_heardBy_6 : decode cX10_heardBy 6 = .ok (.istore_n 3, 1) := by decide +kernel
theorem d_X10_heardBy_7 : decode cX10_heardBy 7 = .ok (.aload_n 0, 1) := by decide +kernel
theorem d_X10_heardBy_8 : decode cX10_heardBy 8 = .ok (.aload_n 1, 1) := by decide +kernel
theorem d_X10_heardBy_9 : decode cX10_heardBy 9 = .ok (.iload_n 2, 1) := by decide +kernel
theorem d_X10_heardBy_10 : decode cX10_heardBy 10 = .ok (.iload_n 3, 1) := by decide +kernel
theorem d_X10_heardBy_11 : decode cX10_heardBy 11 = .ok (.iconst (-1), 1) := by decide +kernel
theorem d_X10_heardBy_12 : decode cX10_heardBy 12 = .ok (.if_icmp .ne 10, 3) := by decide +kernel
theorem d_X10_heardBy_15 : decode cX10_heardBy 15 = .ok (.aload_n 0, 1) := by decide +kernel
theorem d_X10_heardBy_16 : decode cX10_heardBy 16 = .ok (.getfield 9, 3) := by decide +kernel
theorem d_X10_heardBy_19 : decode cX10_heardBy 19 = .ok (.goto 4, 3) := by decide +kernel
theorem d_X10_heardBy_22 : decode cX10_heardBy 22 = .ok (.iload_n 3, 1) := by decide +kernel
theorem d_X10_heardBy_23 : decode cX10_heardBy 23 = .ok (.invokevirtual 87, 3) := by decide +kernel
theorem d_X10_heardBy_26 : decode cX10_heardBy 26 = .ok (.ireturn, 1) := by decide +kernel
def F_X10_heardBy_b23 (s0 : Nat) (s1 : Nat) (s2 : Int32) (s3 : Int32) (h : xH) : Option (Int32 × xH) := (rc h s0 9).bind fun _ => (F_X10_heardWith s0 s1 s2 s3 h).bind fun z23 => some (z23.1, z23.2)
theorem R_X10_heardBy_b23 {Γ : xG} {l : Launch} {d : Nat} {Q : Option Value → xH → Prop} {r : Int32} {h' : xH} (hdp : 5 ≤ d) (hq : Q (some (.int r)) h') : ∀ (s0 : Nat) (s1 : Nat) (s2 : Int32) (s3 : Int32) (h : xH), F_X10_heardBy_b23 s0 s1 s2 s3 h = some (r, h') → Gd Γ l d m_X10_heardBy 23 [xhole, xhole, xhole, xhole] [.int s3, .int s2, .ref s1, .ref s0] h 0 0 Q := by
  intro s0 s1 s2 s3 h hF
  unfold F_X10_heardBy_b23 at hF
  obtain ⟨_, g23, hF⟩ := Option.bind_eq_some_iff.mp hF
  obtain ⟨⟨r23, h23⟩, e23, hF⟩ := Option.bind_eq_some_iff.mp hF
  try dsimp only at hF
  refine q_callV [.ref s1, .int s2, .int s3] [] rfl d_X10_heardBy_23 v_X10_87 (by omega) rfl (Nat.le_of_ble_eq_true rfl) (rc_rc g23 (by decide) rfl) (R_X10_heardWith _ _ _ _ _ (by omega) e23) ?_
  obtain ⟨rfl, rfl⟩ := x_inj hF
  exact g_iret d_X10_heardBy_26 rfl hq
def F_X10_heardBy (x0 : Nat) (x1 : Nat) (x2 : Int32) (h : xH) : Option (Int32 × xH) := (fR h x1 5 2).bind fun v1 => (aI h v1 x2).bind fun v5 => if ¬ v5 = (((-1) : Int32)) then F_X10_heardBy_b23 x0 x1 x2 v5 h else (fI h x0 9 0).bind fun v16 => F_X10_heardBy_b23 x0 x1 x2 v16 h
theorem R_X10_heardBy {Γ : xG} {l : Launch} {d : Nat} {r : Int32} {h' : xH} (x0 : Nat) (x1 : Nat) (x2 : Int32) (h : xH) (hdp : 5 ≤ d) (hF : F_X10_heardBy x0 x1 x2 h = some (r, h')) : Gm Γ l d 0 0 m_X10_heardBy [.ref x0, .ref x1, .int x2] h (fun a u => a = some (.int r) ∧ u = h') := by
  refine Gm.of pn_X10 (Nat.le_of_ble_eq_true rfl) ?_
  show Gd Γ l d m_X10_heardBy 0 [.ref x0, .ref x1, .int x2, xhole] [] h 0 0 _
  generalize hQ : (fun (a : Option Value) (u : xH) => a = some (.int r) ∧ u = h') = Q
  have hq : Q (some (.int r)) h' := by rw [← hQ]; exact ⟨rfl, rfl⟩
  clear hQ
  unfold F_X10_heardBy at hF
  refine g_aloadn d_X10_heardBy_0 rfl ?_
  obtain ⟨v1, e1, hF⟩ := Option.bind_eq_some_iff.mp hF
  refine q_fR d_X10_heardBy_1 f_X10_84 e1 ?_
  refine g_iloadn d_X10_heardBy_4 rfl ?_
  obtain ⟨v5, e5, hF⟩ := Option.bind_eq_some_iff.mp hF
  refine q_aI d_X10_heardBy_5 e5 ?_
  refine q_istoren [.ref x0, .ref x1, .int x2, .int v5] d_X10_heardBy_6 (by decide) rfl ?_
  refine g_aloadn d_X10_heardBy_7 rfl ?_
  refine g_aloadn d_X10_heardBy_8 rfl ?_
  refine g_iloadn d_X10_heardBy_9 rfl ?_
  refine g_iloadn d_X10_heardBy_10 rfl ?_
  refine g_ic (-1) d_X10_heardBy_11 ic_m1 ?_
  refine g_icmp_ne 22 d_X10_heardBy_12 rfl (fun c12 => ?_) (fun c12 => ?_)
  · have hF := x_t hF c12
    refine g_iloadn d_X10_heardBy_22 rfl ?_
    exact q_to (xs_h (xs_h (xs_h (xs_h xs_n)))) (R_X10_heardBy_b23 hdp hq _ _ _ _ _ hF)
  · have hF := x_f hF (not_not_intro c12)
    refine g_aloadn d_X10_heardBy_15 rfl ?_
    obtain ⟨v16, e16, hF⟩ := Option.bind_eq_some_iff.mp hF
    refine q_fI d_X10_heardBy_16 f_X10_9 e16 ?_
    refine g_goto 23 d_X10_heardBy_19 rfl ?_
    exact q_to (xs_h (xs_h (xs_h (xs_h xs_n)))) (R_X10_heardBy_b23 hdp hq _ _ _ _ _ hF)
theorem d_X7_gather_0 : decode cX7_gather 0 = .ok (.aload_n 0, 1) := by decide +kernel
theorem d_X7_gather_1 : decode cX7_gather 1 = .ok (.aload_n 1, 1) := by decide +kernel
theorem d_X7_gather_2 : decode cX7_gather 2 = .ok (.getfield 28, 3) := by decide +kernel
theorem d_X7_gather_5 : decode cX7_gather 5 = .ok (.putfield 9, 3) := by decide +kernel
theorem d_X7_gather_8 : decode cX7_gather 8 = .ok (.aload_n 0, 1) := by decide +kernel
theorem d_X7_gather_9 : decode cX7_gather 9 = .ok (.iload_n 3, 1) := by decide +kernel
theorem d_X7_gather_10 : decode cX7_gather 10 = .ok (.putfield 15, 3) := by decide +kernel
theorem d_X7_gather_13 : decode cX7_gather 13 = .ok (.iconst 0, 1) := by decide +kernel
theorem d_X7_gather_14 : decode cX7_gather 14 = .ok (.istore 4, 2) := by decide +kernel
theorem d_X7_gather_16 : decode cX7_gather 16 = .ok (.iload 4, 2) := by decide +kernel
theorem d_X7_gather_18 : decode cX7_gather 18 = .ok (.aload_n 0, 1) := by decide +kernel
theorem d_X7_gather_19 : decode cX7_gather 19 = .ok (.getfield 9, 3) := by decide +kernel
theorem d_X7_gather_22 : decode cX7_gather 22 = .ok (.if_icmp .ge 23, 3) := by decide +kernel
theorem d_X7_gather_25 : decode cX7_gather 25 = .ok (.aload_n 0, 1) := by decide +kernel
theorem d_X7_gather_26 : decode cX7_gather 26 = .ok (.getfield 18, 3) := by decide +kernel
theorem d_X7_gather_29 : decode cX7_gather 29 = .ok (.iload 4, 2) := by decide +kernel
theorem d_X7_gather_31 : decode cX7_gather 31 = .ok (.aload_n 1, 1) := by decide +kernel
theorem d_X7_gather_32 : decode cX7_gather 32 = .ok (.aload_n 2, 1) := by decide +kernel
theorem d_X7_gather_33 : decode cX7_gather 33 = .ok (.iload 4, 2) := by decide +kernel
theorem d_X7_gather_35 : decode cX7_gather 35 = .ok (.invokevirtual 31, 3) := by decide +kernel
theorem d_X7_gather_38 : decode cX7_gather 38 = .ok (.iastore, 1) := by decide +kernel
theorem d_X7_gather_39 : decode cX7_gather 39 = .ok (.iinc 4 1, 3) := by decide +kernel
theorem d_X7_gather_42 : decode cX7_gather 42 = .ok (.goto (-26), 3) := by decide +kernel
theorem d_X7_gather_45 : decode cX7_gather 45 = .ok (.return_, 1) := by decide +kernel
def F_X7_gather_b16 : Nat → Nat → Nat → Nat → Int32 → xH → Option (Unit × xH)
  | 0, _, _, _, _, _ => none
  | n + 1, x0, x1, x2, x4, h => (fI h x0 6 0).bind fun v19 => if v19 ≤ x4 then some ((), h) else (fR h x0 6 2).bind fun v26 => (rc h x1 9).bind fun _ => (F_X10_heardBy x1 x2 x4 h).bind fun z35 => (sI z35.2 v26 x4 z35.1).bind fun h38 => F_X7_gather_b16 n x0 x1 x2 (x4 + 1) h38
theorem R_X7_gather_b16 {Γ : xG} {l : Launch} {d : Nat} {Q : Option Value → xH → Prop} {r : Unit} {h' : xH} (hdp : 6 ≤ d) (hq : Q (none) h') : ∀ (n : Nat) (x0 : Nat) (x1 : Nat) (x2 : Nat) (x4 : Int32) (h : xH), F_X7_gather_b16 n x0 x1 x2 x4 h = some (r, h') → Gd Γ l d m_X7_gather 16 [.ref x0, .ref x1, .ref x2, xhole, .int x4] [] h 0 0 Q := by
  intro n
  induction n with
  | zero => intro x0 x1 x2 x4 h hF; cases hF
  | succ n ih =>
  intro x0 x1 x2 x4 h hF
  rw [F_X7_gather_b16] at hF
  refine g_iload d_X7_gather_16 rfl ?_
  refine g_aloadn d_X7_gather_18 rfl ?_
  obtain ⟨v19, e19, hF⟩ := Option.bind_eq_some_iff.mp hF
  refine q_fI d_X7_gather_19 f_X7_9 e19 ?_
  refine g_icmp_ge 45 d_X7_gather_22 rfl (fun c22 => ?_) (fun c22 => ?_)
  · have hF := x_t hF c22
    obtain ⟨rfl, rfl⟩ := x_inj hF
    exact g_vret d_X7_gather_45 rfl hq
  · have hF := x_f hF c22
    refine g_aloadn d_X7_gather_25 rfl ?_
    obtain ⟨v26, e26, hF⟩ := Option.bind_eq_some_iff.mp hF
    refine q_fR d_X7_gather_26 f_X7_18 e26 ?_
    refine g_iload d_X7_gather_29 rfl ?_
    refine g_aloadn d_X7_gather_31 rfl ?_
    refine g_aloadn d_X7_gather_32 rfl ?_
    refine g_iload d_X7_gather_33 rfl ?_
    obtain ⟨_, g35, hF⟩ := Option.bind_eq_some_iff.mp hF
    obtain ⟨⟨r35, h35⟩, e35, hF⟩ := Option.bind_eq_some_iff.mp hF
    try dsimp only at hF
    refine q_callV [.ref x2, .int x4] [.int x4, .ref v26] rfl d_X7_gather_35 v_X7_31 (by omega) rfl (Nat.le_of_ble_eq_true rfl) (rc_rc g35 (by decide) rfl) (R_X10_heardBy _ _ _ _ (by omega) e35) ?_
    obtain ⟨h38, e38, hF⟩ := Option.bind_eq_some_iff.mp hF
    refine q_sI d_X7_gather_38 e38 ?_
    refine q_iinc (1) [.ref x0, .ref x1, .ref x2, xhole, .int (x4 + 1)] d_X7_gather_39 ic_1 rfl (by decide) rfl ?_
    refine g_goto 16 d_X7_gather_42 rfl ?_
    exact q_to (xs_r (xs_r (xs_r (xs_h (xs_r xs_n))))) (ih _ _ _ _ _ hF)
def F_X7_gather (x0 : Nat) (x1 : Nat) (x2 : Nat) (x3 : Int32) (h : xH) : Option (Unit × xH) := (fI h x1 9 4).bind fun v2 => (wI h x0 6 0 v2).bind fun h5 => (wI h5 x0 6 1 x3).bind fun h10 => F_X7_gather_b16 FU x0 x1 x2 0 h10
theorem R_X7_gather {Γ : xG} {l : Launch} {d : Nat} {r : Unit} {h' : xH} (x0 : Nat) (x1 : Nat) (x2 : Nat) (x3 : Int32) (h : xH) (hdp : 6 ≤ d) (hF : F_X7_gather x0 x1 x2 x3 h = some (r, h')) : Gm Γ l d 0 0 m_X7_gather [.ref x0, .ref x1, .ref x2, .int x3] h (fun a u => a = none ∧ u = h') := by
  refine Gm.of pn_X7 (Nat.le_of_ble_eq_true rfl) ?_
  show Gd Γ l d m_X7_gather 0 [.ref x0, .ref x1, .ref x2, .int x3, xhole] [] h 0 0 _
  generalize hQ : (fun (a : Option Value) (u : xH) => a = none ∧ u = h') = Q
  have hq : Q (none) h' := by rw [← hQ]; exact ⟨rfl, rfl⟩
  clear hQ
  unfold F_X7_gather at hF
  refine g_aloadn d_X7_gather_0 rfl ?_
  refine g_aloadn d_X7_gather_1 rfl ?_
  obtain ⟨v2, e2, hF⟩ := Option.bind_eq_some_iff.mp hF
  refine q_fI d_X7_gather_2 f_X7_28 e2 ?_
  obtain ⟨h5, e5, hF⟩ := Option.bind_eq_some_iff.mp hF
  refine q_wI d_X7_gather_5 (w_X7_9 _) e5 ?_
  refine g_aloadn d_X7_gather_8 rfl ?_
  refine g_iloadn d_X7_gather_9 rfl ?_
  obtain ⟨h10, e10, hF⟩ := Option.bind_eq_some_iff.mp hF
  refine q_wI d_X7_gather_10 (w_X7_15 _) e10 ?_
  refine g_ic (0) d_X7_gather_13 ic_0 ?_
  refine q_istore [.ref x0, .ref x1, .ref x2, .int x3, .int 0] d_X7_gather_14 (by decide) rfl ?_
  exact q_to (xs_r (xs_r (xs_r (xs_h (xs_r xs_n))))) (R_X7_gather_b16 hdp hq FU _ _ _ _ _ hF)
theorem d_X7_isChoir_0 : decode cX7_isChoir 0 = .ok (.iconst 0, 1) := by decide +kernel
theorem d_X7_isChoir_1 : decode cX7_isChoir 1 = .ok (.istore_n 3, 1) := by decide +kernel
theorem d_X7_isChoir_2 : decode cX7_isChoir 2 = .ok (.iload_n 3, 1) := by decide +kernel
theorem d_X7_isChoir_3 : decode cX7_isChoir 3 = .ok (.bipush 10, 2) := by decide +kernel
theorem d_X7_isChoir_5 : decode cX7_isChoir 5 = .ok (.if_icmp .ge 71, 3) := by decide +kernel
theorem d_X7_isChoir_8 : decode cX7_isChoir 8 = .ok (.iconst 0, 1) := by decide +kernel
theorem d_X7_isChoir_9 : decode cX7_isChoir 9 = .ok (.istore 4, 2) := by decide +kernel
theorem d_X7_isChoir_11 : decode cX7_isChoir 11 = .ok (.iconst 0, 1) := by decide +kernel
theorem d_X7_isChoir_12 : decode cX7_isChoir 12 = .ok (.istore 5, 2) := by decide +kernel
theorem d_X7_isChoir_14 : decode cX7_isChoir 14 = .ok (.iload 5, 2) := by decide +kernel
theorem d_X7_isChoir_16 : decode cX7_isChoir 16 = .ok (.aload_n 0, 1) := by decide +kernel
theorem d_X7_isChoir_17 : decode cX7_isChoir 17 = .ok (.getfield 9, 3) := by decide +kernel
theorem d_X7_isChoir_20 : decode cX7_isChoir 20 = .ok (.if_icmp .ge 30, 3) := by decide +kernel
theorem d_X7_isChoir_23 : decode cX7_isChoir 23 = .ok (.iload 4, 2) := by decide +kernel
theorem d_X7_isChoir_25 : decode cX7_isChoir 25 = .ok (.iload_n 1, 1) := by decide +kernel
theorem d_X7_isChoir_26 : decode cX7_isChoir 26 = .ok (.iload 5, 2) := by decide +kernel
theorem d_X7_isChoir_28 : decode cX7_isChoir 28 = .ok (.ishr, 1) := by decide +kernel
theorem d_X7_isChoir_29 : decode cX7_isChoir 29 = .ok (.aload_n 0, 1) := by decide +kernel
theorem d_X7_isChoir_30 : decode cX7_isChoir 30 = .ok (.getfield 18, 3) := by decide +kernel
theorem d_X7_isChoir_33 : decode cX7_isChoir 33 = .ok (.iload 5, 2) := by decide +kernel
theorem d_X7_isChoir_35 : decode cX7_isChoir 35 = .ok (.iaload, 1) := by decide +kernel
theorem d_X7_isChoir_36 : decode cX7_isChoir 36 = .ok (.iload_n 3, 1) := by decide +kernel
theorem d_X7_isChoir_37 : decode cX7_isChoir 37 = .ok (.ishr, 1) := by decide +kernel
theorem d_X7_isChoir_38 : decode cX7_isChoir 38 = .ok (.iand, 1) := by decide +kernel
theorem d_X7_isChoir_39 : decode cX7_isChoir 39 = .ok (.iconst 1, 1) := by decide +kernel
theorem d_X7_isChoir_40 : decode cX7_isChoir 40 = .ok (.iand, 1) := by decide +kernel
theorem d_X7_isChoir_41 : decode cX7_isChoir 41 = .ok (.iadd, 1) := by decide +kernel
theorem d_X7_isChoir_42 : decode cX7_isChoir 42 = .ok (.istore 4, 2) := by decide +kernel
theorem d_X7_isChoir_44 : decode cX7_isChoir 44 = .ok (.iinc 5 1, 3) := by decide +kernel
theorem d_X7_isChoir_47 : decode cX7_isChoir 47 = .ok (.goto (-33), 3) := by decide +kernel
theorem d_X7_isChoir_50 : decode cX7_isChoir 50 = .ok (.aload_n 0, 1) := by decide +kernel
theorem d_X7_isChoir_51 : decode cX7_isChoir 51 = .ok (.getfield 15, 3) := by decide +kernel
theorem d_X7_isChoir_54 : decode cX7_isChoir 54 = .ok (.iload_n 3, 1) := by decide +kernel
theorem d_X7_isChoir_55 : decode cX7_isChoir 55 = .ok (.ishr, 1) := by decide +kernel
theorem d_X7_isChoir_56 : decode cX7_isChoir 56 = .ok (.iconst 1, 1) := by decide +kernel
theorem d_X7_isChoir_57 : decode cX7_isChoir 57 = .ok (.iand, 1) := by decide +kernel
theorem d_X7_isChoir_58 : decode cX7_isChoir 58 = .ok (.iconst 1, 1) := by decide +kernel
theorem d_X7_isChoir_59 : decode cX7_isChoir 59 = .ok (.if_icmp .ne 11, 3) := by decide +kernel
theorem d_X7_isChoir_62 : decode cX7_isChoir 62 = .ok (.iload 4, 2) := by decide +kernel
theorem d_X7_isChoir_64 : decode cX7_isChoir 64 = .ok (.iload_n 2, 1) := by decide +kernel
theorem d_X7_isChoir_65 : decode cX7_isChoir 65 = .ok (.if_icmp .ge 5, 3) := by decide +kernel
theorem d_X7_isChoir_68 : decode cX7_isChoir 68 = .ok (.iconst 0, 1) := by decide +kernel
theorem d_X7_isChoir_69 : decode cX7_isChoir 69 = .ok (.ireturn, 1) := by decide +kernel
theorem d_X7_isChoir_70 : decode cX7_isChoir 70 = .ok (.iinc 3 1, 3) := by decide +kernel
theorem d_X7_isChoir_73 : decode cX7_isChoir 73 = .ok (.goto (-71), 3) := by decide +kernel
theorem d_X7_isChoir_76 : decode cX7_isChoir 76 = .ok (.iconst 1, 1) := by decide +kernel
theorem d_X7_isChoir_77 : decode cX7_isChoir 77 = .ok (.ireturn, 1) := by decide +kernel
def F_X7_isChoir_b14 (k2 : Nat → Int32 → Int32 → Int32 → xH → Option (Int32 × xH)) : Nat → Nat → Int32 → Int32 → Int32 → Int32 → Int32 → xH → Option (Int32 × xH)
  | 0, _, _, _, _, _, _, _ => none
  | n + 1, x0, x1, x2, x3, x4, x5, h => (fI h x0 6 0).bind fun v17 => if v17 ≤ x5 then (fI h x0 6 1).bind fun v51 => if ¬ ((v51 >>> (x3 &&& 31)) &&& 1) = ((1 : Int32)) then k2 x0 x1 x2 (x3 + 1) h else if x2 ≤ x4 then k2 x0 x1 x2 (x3 + 1) h else some (0, h) else (fR h x0 6 2).bind fun v30 => (aI h v30 x5).bind fun v35 => F_X7_isChoir_b14 k2 n x0 x1 x2 x3 (x4 + (((x1 >>> (x5 &&& 31)) &&& (v35 >>> (x3 &&& 31))) &&& 1)) (x5 + 1) h
theorem R_X7_isChoir_b14 {Γ : xG} {l : Launch} {d : Nat} {Q : Option Value → xH → Prop} {r : Int32} {h' : xH} {k2 : Nat → Int32 → Int32 → Int32 → xH → Option (Int32 × xH)} (K2 : ∀ (x0 : Nat) (x1 : Int32) (x2 : Int32) (x3 : Int32)  (h : xH), k2 x0 x1 x2 x3 h = some (r, h') → Gd Γ l d m_X7_isChoir 2 [.ref x0, .int x1, .int x2, .int x3, xhole, xhole] [] h 0 0 Q) (hdp : 0 ≤ d) (hq : Q (some (.int r)) h') : ∀ (n : Nat) (x0 : Nat) (x1 : Int32) (x2 : Int32) (x3 : Int32) (x4 : Int32) (x5 : Int32) (h : xH), F_X7_isChoir_b14 k2 n x0 x1 x2 x3 x4 x5 h = some (r, h') → Gd Γ l d m_X7_isChoir 14 [.ref x0, .int x1, .int x2, .int x3, .int x4, .int x5] [] h 0 0 Q := by
  intro n
  induction n with
  | zero => intro x0 x1 x2 x3 x4 x5 h hF; cases hF
  | succ n ih =>
  intro x0 x1 x2 x3 x4 x5 h hF
  rw [F_X7_isChoir_b14] at hF
  refine g_iload d_X7_isChoir_14 rfl ?_
  refine g_aloadn d_X7_isChoir_16 rfl ?_
  obtain ⟨v17, e17, hF⟩ := Option.bind_eq_some_iff.mp hF
  refine q_fI d_X7_isChoir_17 f_X7_9 e17 ?_
  refine g_icmp_ge 50 d_X7_isChoir_20 rfl (fun c20 => ?_) (fun c20 => ?_)
  · have hF := x_t hF c20
    refine g_aloadn d_X7_isChoir_50 rfl ?_
    obtain ⟨v51, e51, hF⟩ := Option.bind_eq_some_iff.mp hF
    refine q_fI d_X7_isChoir_51 f_X7_15 e51 ?_
    refine g_iloadn d_X7_isChoir_54 rfl ?_
    refine g_ishr d_X7_isChoir_55 ?_
    refine g_ic (1) d_X7_isChoir_56 ic_1 ?_
    refine g_iand d_X7_isChoir_57 ?_
    refine g_ic (1) d_X7_isChoir_58 ic_1 ?_
    refine g_icmp_ne 70 d_X7_isChoir_59 rfl (fun c59 => ?_) (fun c59 => ?_)
    · have hF := x_t hF c59
      refine q_iinc (1) [.ref x0, .int x1, .int x2, .int (x3 + 1), .int x4, .int x5] d_X7_isChoir_70 ic_1 rfl (by decide) rfl ?_
      refine g_goto 2 d_X7_isChoir_73 rfl ?_
      exact q_to (xs_r (xs_r (xs_r (xs_r (xs_h (xs_h xs_n)))))) (K2 _ _ _ _ _ hF)
    · have hF := x_f hF (not_not_intro c59)
      refine g_iload d_X7_isChoir_62 rfl ?_
      refine g_iloadn d_X7_isChoir_64 rfl ?_
      refine g_icmp_ge 70 d_X7_isChoir_65 rfl (fun c65 => ?_) (fun c65 => ?_)
      · have hF := x_t hF c65
        refine q_iinc (1) [.ref x0, .int x1, .int x2, .int (x3 + 1), .int x4, .int x5] d_X7_isChoir_70 ic_1 rfl (by decide) rfl ?_
        refine g_goto 2 d_X7_isChoir_73 rfl ?_
        exact q_to (xs_r (xs_r (xs_r (xs_r (xs_h (xs_h xs_n)))))) (K2 _ _ _ _ _ hF)
      · have hF := x_f hF c65
        refine g_ic (0) d_X7_isChoir_68 ic_0 ?_
        obtain ⟨rfl, rfl⟩ := x_inj hF
        exact g_zret d_X7_isChoir_69 rfl rfl hq
  · have hF := x_f hF c20
    refine g_iload d_X7_isChoir_23 rfl ?_
    refine g_iloadn d_X7_isChoir_25 rfl ?_
    refine g_iload d_X7_isChoir_26 rfl ?_
    refine g_ishr d_X7_isChoir_28 ?_
    refine g_aloadn d_X7_isChoir_29 rfl ?_
    obtain ⟨v30, e30, hF⟩ := Option.bind_eq_some_iff.mp hF
    refine q_fR d_X7_isChoir_30 f_X7_18 e30 ?_
    refine g_iload d_X7_isChoir_33 rfl ?_
    obtain ⟨v35, e35, hF⟩ := Option.bind_eq_some_iff.mp hF
    refine q_aI d_X7_isChoir_35 e35 ?_
    refine g_iloadn d_X7_isChoir_36 rfl ?_
    refine g_ishr d_X7_isChoir_37 ?_
    refine g_iand d_X7_isChoir_38 ?_
    refine g_ic (1) d_X7_isChoir_39 ic_1 ?_
    refine g_iand d_X7_isChoir_40 ?_
    refine g_iadd d_X7_isChoir_41 ?_
    refine q_istore [.ref x0, .int x1, .int x2, .int x3, .int (x4 + (((x1 >>> (x5 &&& 31)) &&& (v35 >>> (x3 &&& 31))) &&& 1)), .int x5] d_X7_isChoir_42 (by decide) rfl ?_
    refine q_iinc (1) [.ref x0, .int x1, .int x2, .int x3, .int (x4 + (((x1 >>> (x5 &&& 31)) &&& (v35 >>> (x3 &&& 31))) &&& 1)), .int (x5 + 1)] d_X7_isChoir_44 ic_1 rfl (by decide) rfl ?_
    refine g_goto 14 d_X7_isChoir_47 rfl ?_
    exact q_to (xs_r (xs_r (xs_r (xs_r (xs_r (xs_r xs_n)))))) (ih _ _ _ _ _ _ _ hF)
def F_X7_isChoir_b2 : Nat → Nat → Int32 → Int32 → Int32 → xH → Option (Int32 × xH)
  | 0, _, _, _, _, _ => none
  | n + 1, x0, x1, x2, x3, h => if ((10 : Int32)) ≤ x3 then some (1, h) else F_X7_isChoir_b14 (F_X7_isChoir_b2 n) FU x0 x1 x2 x3 0 0 h
theorem R_X7_isChoir_b2 {Γ : xG} {l : Launch} {d : Nat} {Q : Option Value → xH → Prop} {r : Int32} {h' : xH} (hdp : 0 ≤ d) (hq : Q (some (.int r)) h') : ∀ (n : Nat) (x0 : Nat) (x1 : Int32) (x2 : Int32) (x3 : Int32) (h : xH), F_X7_isChoir_b2 n x0 x1 x2 x3 h = some (r, h') → Gd Γ l d m_X7_isChoir 2 [.ref x0, .int x1, .int x2, .int x3, xhole, xhole] [] h 0 0 Q := by
  intro n
  induction n with
  | zero => intro x0 x1 x2 x3 h hF; cases hF
  | succ n ih =>
  intro x0 x1 x2 x3 h hF
  rw [F_X7_isChoir_b2] at hF
  refine g_iloadn d_X7_isChoir_2 rfl ?_
  refine g_bi (10) d_X7_isChoir_3 bi_10 ?_
  refine g_icmp_ge 76 d_X7_isChoir_5 rfl (fun c5 => ?_) (fun c5 => ?_)
  · have hF := x_t hF c5
    refine g_ic (1) d_X7_isChoir_76 ic_1 ?_
    obtain ⟨rfl, rfl⟩ := x_inj hF
    exact g_zret d_X7_isChoir_77 rfl rfl hq
  · have hF := x_f hF c5
    refine g_ic (0) d_X7_isChoir_8 ic_0 ?_
    refine q_istore [.ref x0, .int x1, .int x2, .int x3, .int 0, xhole] d_X7_isChoir_9 (by decide) rfl ?_
    refine g_ic (0) d_X7_isChoir_11 ic_0 ?_
    refine q_istore [.ref x0, .int x1, .int x2, .int x3, .int 0, .int 0] d_X7_isChoir_12 (by decide) rfl ?_
    exact q_to (xs_r (xs_r (xs_r (xs_r (xs_r (xs_r xs_n)))))) (R_X7_isChoir_b14 ih hdp hq FU _ _ _ _ _ _ _ hF)
def F_X7_isChoir (x0 : Nat) (x1 : Int32) (x2 : Int32) (h : xH) : Option (Int32 × xH) := F_X7_isChoir_b2 FU x0 x1 x2 0 h
theorem R_X7_isChoir {Γ : xG} {l : Launch} {d : Nat} {r : Int32} {h' : xH} (x0 : Nat) (x1 : Int32) (x2 : Int32) (h : xH) (hdp : 0 ≤ d) (hF : F_X7_isChoir x0 x1 x2 h = some (r, h')) : Gm Γ l d 0 0 m_X7_isChoir [.ref x0, .int x1, .int x2] h (fun a u => a = some (.int r) ∧ u = h') := by
  refine Gm.of pn_X7 (Nat.le_of_ble_eq_true rfl) ?_
  show Gd Γ l d m_X7_isChoir 0 [.ref x0, .int x1, .int x2, xhole, xhole, xhole] [] h 0 0 _
  generalize hQ : (fun (a : Option Value) (u : xH) => a = some (.int r) ∧ u = h') = Q
  have hq : Q (some (.int r)) h' := by rw [← hQ]; exact ⟨rfl, rfl⟩
  clear hQ
  unfold F_X7_isChoir at hF
  refine g_ic (0) d_X7_isChoir_0 ic_0 ?_
  refine q_istoren [.ref x0, .int x1, .int x2, .int 0, xhole, xhole] d_X7_isChoir_1 (by decide) rfl ?_
  exact q_to (xs_r (xs_r (xs_r (xs_r (xs_h (xs_h xs_n)))))) (R_X7_isChoir_b2 hdp hq FU _ _ _ _ _ hF)
theorem d_X7_leastChoir_0 : decode cX7_leastChoir 0 = .ok (.iconst (-1), 1) := by decide +kernel
theorem d_X7_leastChoir_1 : decode cX7_leastChoir 1 = .ok (.istore_n 2, 1) := by decide +kernel
theorem d_X7_leastChoir_2 : decode cX7_leastChoir 2 = .ok (.aload_n 0, 1) := by decide +kernel
theorem d_X7_leastChoir_3 : decode cX7_leastChoir 3 = .ok (.getfield 9, 3) := by decide +kernel
theorem d_X7_leastChoir_6 : decode cX7_leastChoir 6 = .ok (.iconst 1, 1) := by decide +kernel
theorem d_X7_leastChoir_7 : decode cX7_leastChoir 7 = .ok (.iadd, 1) := by decide +kernel
theorem d_X7_leastChoir_8 : decode cX7_leastChoir 8 = .ok (.istore_n 3, 1) := by decide +kernel
theorem d_X7_leastChoir_9 : decode cX7_leastChoir 9 = .ok (.iconst 0, 1) := by decide +kernel
theorem d_X7_leastChoir_10 : decode cX7_leastChoir 10 = .ok (.istore 4, 2) := by decide +kernel
theorem d_X7_leastChoir_12 : decode cX7_leastChoir 12 = .ok (.iload 4, 2) := by decide +kernel
theorem d_X7_leastChoir_14 : decode cX7_leastChoir 14 = .ok (.iconst 1, 1) := by decide +kernel
theorem d_X7_leastChoir_15 : decode cX7_leastChoir 15 = .ok (.aload_n 0, 1) := by decide +kernel
theorem d_X7_leastChoir_16 : decode cX7_leastChoir 16 = .ok (.getfield 9, 3) := by decide +kernel
theorem d_X7_leastChoir_19 : decode cX7_leastChoir 19 = .ok (.ishl, 1) := by decide +kernel
theorem d_X7_leastChoir_20 : decode cX7_leastChoir 20 = .ok (.if_icmp .ge 37, 3) := by decide +kernel
theorem d_X7_leastChoir_23 : decode cX7_leastChoir 23 = .ok (.iload 4, 2) := by decide +kernel
theorem d_X7_leastChoir_25 : decode cX7_leastChoir 25 = .ok (.invokestatic 35, 3) := by decide +kernel
theorem d_X7_leastChoir_28 : decode cX7_leastChoir 28 = .ok (.iload_n 3, 1) := by decide +kernel
theorem d_X7_leastChoir_29 : decode cX7_leastChoir 29 = .ok (.if_icmp .ge 22, 3) := by decide +kernel
theorem d_X7_leastChoir_32 : decode cX7_leastChoir 32 = .ok (.aload_n 0, 1) := by decide +kernel
theorem d_X7_leastChoir_33 : decode cX7_leastChoir 33 = .ok (.iload 4, 2) := by decide +kernel
theorem d_X7_leastChoir_35 : decode cX7_leastChoir 35 = .ok (.iload_n 1, 1) := by decide +kernel
theorem d_X7_leastChoir_36 : decode cX7_leastChoir 36 = .ok (.invokevirtual 41, 3) := by decide +kernel
theorem d_X7_leastChoir_39 : decode cX7_leastChoir 39 = .ok (.ifCond .eq 12, 3) := by decide +kernel
theorem d_X7_leastChoir_42 : decode cX7_leastChoir 42 = .ok (.iload 4, 2) := by decide +kernel
theorem d_X7_leastChoir_44 : decode cX7_leastChoir 44 = .ok (.istore_n 2, 1) := by decide +kernel
theorem d_X7_leastChoir_45 : decode cX7_leastChoir 45 = .ok (.iload 4, 2) := by decide +kernel
theorem d_X7_leastChoir_47 : decode cX7_leastChoir 47 = .ok (.invokestatic 35, 3) := by decide +kernel
theorem d_X7_leastChoir_50 : decode cX7_leastChoir 50 = .ok (.istore_n 3, 1) := by decide +kernel
theorem d_X7_leastChoir_51 : decode cX7_leastChoir 51 = .ok (.iinc 4 1, 3) := by decide +kernel
theorem d_X7_leastChoir_54 : decode cX7_leastChoir 54 = .ok (.goto (-42), 3) := by decide +kernel
theorem d_X7_leastChoir_57 : decode cX7_leastChoir 57 = .ok (.iload_n 2, 1) := by decide +kernel
theorem d_X7_leastChoir_58 : decode cX7_leastChoir 58 = .ok (.ireturn, 1) := by decide +kernel
def F_X7_leastChoir_b12 : Nat → Nat → Int32 → Int32 → Int32 → Int32 → xH → Option (Int32 × xH)
  | 0, _, _, _, _, _, _ => none
  | n + 1, x0, x1, x2, x3, x4, h => (fI h x0 6 0).bind fun v16 => if (((1 : Int32)) <<< (v16 &&& 31)) ≤ x4 then some (x2, h) else (F_J6_bitCount_0f7a4 x4 h).bind fun z25 => if x3 ≤ z25.1 then F_X7_leastChoir_b12 n x0 x1 x2 x3 (x4 + 1) z25.2 else (rc z25.2 x0 6).bind fun _ => (F_X7_isChoir x0 x4 x1 z25.2).bind fun z36 => if z36.1 = 0 then F_X7_leastChoir_b12 n x0 x1 x2 x3 (x4 + 1) z36.2 else (F_J6_bitCount_0f7a4 x4 z36.2).bind fun z47 => F_X7_leastChoir_b12 n x0 x1 x4 z47.1 (x4 + 1) z47.2
theorem R_X7_leastChoir_b12 {Γ : xG} {l : Launch} {d : Nat} {Q : Option Value → xH → Prop} {r : Int32} {h' : xH} (hdp : 1 ≤ d) (hq : Q (some (.int r)) h') : ∀ (n : Nat) (x0 : Nat) (x1 : Int32) (x2 : Int32) (x3 : Int32) (x4 : Int32) (h : xH), F_X7_leastChoir_b12 n x0 x1 x2 x3 x4 h = some (r, h') → Gd Γ l d m_X7_leastChoir 12 [.ref x0, .int x1, .int x2, .int x3, .int x4] [] h 0 0 Q := by
  intro n
  induction n with
  | zero => intro x0 x1 x2 x3 x4 h hF; cases hF
  | succ n ih =>
  intro x0 x1 x2 x3 x4 h hF
  rw [F_X7_leastChoir_b12] at hF
  refine g_iload d_X7_leastChoir_12 rfl ?_
  refine g_ic (1) d_X7_leastChoir_14 ic_1 ?_
  refine g_aloadn d_X7_leastChoir_15 rfl ?_
  obtain ⟨v16, e16, hF⟩ := Option.bind_eq_some_iff.mp hF
  refine q_fI d_X7_leastChoir_16 f_X7_9 e16 ?_
  refine g_ishl d_X7_leastChoir_19 ?_
  refine g_icmp_ge 57 d_X7_leastChoir_20 rfl (fun c20 => ?_) (fun c20 => ?_)
  · have hF := x_t hF c20
    refine g_iloadn d_X7_leastChoir_57 rfl ?_
    obtain ⟨rfl, rfl⟩ := x_inj hF
    exact g_iret d_X7_leastChoir_58 rfl hq
  · have hF := x_f hF c20
    refine g_iload d_X7_leastChoir_23 rfl ?_
    obtain ⟨⟨r25, h25⟩, e25, hF⟩ := Option.bind_eq_some_iff.mp hF
    try dsimp only at hF
    refine q_callS [.int x4] [] rfl d_X7_leastChoir_25 s_X7_35 (by omega) rfl (Nat.le_of_ble_eq_true rfl) (R_J6_bitCount_0f7a4 _ _ (by omega) e25) ?_
    refine g_iloadn d_X7_leastChoir_28 rfl ?_
    refine g_icmp_ge 51 d_X7_leastChoir_29 rfl (fun c29 => ?_) (fun c29 => ?_)
    · have hF := x_t hF c29
      refine q_iinc (1) [.ref x0, .int x1, .int x2, .int x3, .int (x4 + 1)] d_X7_leastChoir_51 ic_1 rfl (by decide) rfl ?_
      refine g_goto 12 d_X7_leastChoir_54 rfl ?_
      exact q_to (xs_r (xs_r (xs_r (xs_r (xs_r xs_n))))) (ih _ _ _ _ _ _ hF)
    · have hF := x_f hF c29
      refine g_aloadn d_X7_leastChoir_32 rfl ?_
      refine g_iload d_X7_leastChoir_33 rfl ?_
      refine g_iloadn d_X7_leastChoir_35 rfl ?_
      obtain ⟨_, g36, hF⟩ := Option.bind_eq_some_iff.mp hF
      obtain ⟨⟨r36, h36⟩, e36, hF⟩ := Option.bind_eq_some_iff.mp hF
      try dsimp only at hF
      refine q_callV [.int x4, .int x1] [] rfl d_X7_leastChoir_36 v_X7_41 (by omega) rfl (Nat.le_of_ble_eq_true rfl) (rc_rc g36 (by decide) rfl) (R_X7_isChoir _ _ _ _ (by omega) e36) ?_
      refine g_if_eq 51 d_X7_leastChoir_39 rfl (fun c39 => ?_) (fun c39 => ?_)
      · have hF := x_t hF c39
        refine q_iinc (1) [.ref x0, .int x1, .int x2, .int x3, .int (x4 + 1)] d_X7_leastChoir_51 ic_1 rfl (by decide) rfl ?_
        refine g_goto 12 d_X7_leastChoir_54 rfl ?_
        exact q_to (xs_r (xs_r (xs_r (xs_r (xs_r xs_n))))) (ih _ _ _ _ _ _ hF)
      · have hF := x_f hF c39
        refine g_iload d_X7_leastChoir_42 rfl ?_
        refine q_istoren [.ref x0, .int x1, .int x4, .int x3, .int x4] d_X7_leastChoir_44 (by decide) rfl ?_
        refine g_iload d_X7_leastChoir_45 rfl ?_
        obtain ⟨⟨r47, h47⟩, e47, hF⟩ := Option.bind_eq_some_iff.mp hF
        try dsimp only at hF
        refine q_callS [.int x4] [] rfl d_X7_leastChoir_47 s_X7_35 (by omega) rfl (Nat.le_of_ble_eq_true rfl) (R_J6_bitCount_0f7a4 _ _ (by omega) e47) ?_
        refine q_istoren [.ref x0, .int x1, .int x4, .int (r47), .int x4] d_X7_leastChoir_50 (by decide) rfl ?_
        refine q_iinc (1) [.ref x0, .int x1, .int x4, .int (r47), .int (x4 + 1)] d_X7_leastChoir_51 ic_1 rfl (by decide) rfl ?_
        refine g_goto 12 d_X7_leastChoir_54 rfl ?_
        exact q_to (xs_r (xs_r (xs_r (xs_r (xs_r xs_n))))) (ih _ _ _ _ _ _ hF)
def F_X7_leastChoir (x0 : Nat) (x1 : Int32) (h : xH) : Option (Int32 × xH) := (fI h x0 6 0).bind fun v3 => F_X7_leastChoir_b12 FU x0 x1 ((-1)) (v3 + 1) 0 h
theorem R_X7_leastChoir {Γ : xG} {l : Launch} {d : Nat} {r : Int32} {h' : xH} (x0 : Nat) (x1 : Int32) (h : xH) (hdp : 1 ≤ d) (hF : F_X7_leastChoir x0 x1 h = some (r, h')) : Gm Γ l d 0 0 m_X7_leastChoir [.ref x0, .int x1] h (fun a u => a = some (.int r) ∧ u = h') := by
  refine Gm.of pn_X7 (Nat.le_of_ble_eq_true rfl) ?_
  show Gd Γ l d m_X7_leastChoir 0 [.ref x0, .int x1, xhole, xhole, xhole] [] h 0 0 _
  generalize hQ : (fun (a : Option Value) (u : xH) => a = some (.int r) ∧ u = h') = Q
  have hq : Q (some (.int r)) h' := by rw [← hQ]; exact ⟨rfl, rfl⟩
  clear hQ
  unfold F_X7_leastChoir at hF
  refine g_ic (-1) d_X7_leastChoir_0 ic_m1 ?_
  refine q_istoren [.ref x0, .int x1, .int ((-1)), xhole, xhole] d_X7_leastChoir_1 (by decide) rfl ?_
  refine g_aloadn d_X7_leastChoir_2 rfl ?_
  obtain ⟨v3, e3, hF⟩ := Option.bind_eq_some_iff.mp hF
  refine q_fI d_X7_leastChoir_3 f_X7_9 e3 ?_
  refine g_ic (1) d_X7_leastChoir_6 ic_1 ?_
  refine g_iadd d_X7_leastChoir_7 ?_
  refine q_istoren [.ref x0, .int x1, .int ((-1)), .int (v3 + 1), xhole] d_X7_leastChoir_8 (by decide) rfl ?_
  refine g_ic (0) d_X7_leastChoir_9 ic_0 ?_
  refine q_istore [.ref x0, .int x1, .int ((-1)), .int (v3 + 1), .int 0] d_X7_leastChoir_10 (by decide) rfl ?_
  exact q_to (xs_r (xs_r (xs_r (xs_r (xs_r xs_n))))) (R_X7_leastChoir_b12 hdp hq FU _ _ _ _ _ _ hF)
theorem d_X7_fit_0 : decode cX7_fit 0 = .ok (.aload_n 0, 1) := by decide +kernel
theorem d_X7_fit_1 : decode cX7_fit 1 = .ok (.getfield 15, 3) := by decide +kernel
theorem d_X7_fit_4 : decode cX7_fit 4 = .ok (.aload_n 0, 1) := by decide +kernel
theorem d_X7_fit_5 : decode cX7_fit 5 = .ok (.getfield 18, 3) := by decide +kernel
theorem d_X7_fit_8 : decode cX7_fit 8 = .ok (.iload_n 1, 1) := by decide +kernel
theorem d_X7_fit_9 : decode cX7_fit 9 = .ok (.iaload, 1) := by decide +kernel
theorem d_X7_fit_10 : decode cX7_fit 10 = .ok (.aload_n 0, 1) := by decide +kernel
theorem d_X7_fit_11 : decode cX7_fit 11 = .ok (.getfield 18, 3) := by decide +kernel
theorem d_X7_fit_14 : decode cX7_fit 14 = .ok (.iload_n 2, 1) := by decide +kernel
theorem d_X7_fit_15 : decode cX7_fit 15 = .ok (.iaload, 1) := by decide +kernel
theorem d_X7_fit_16 : decode cX7_fit 16 = .ok (.ior, 1) := by decide +kernel
theorem d_X7_fit_17 : decode cX7_fit 17 = .ok (.iconst (-1), 1) := by decide +kernel
theorem d_X7_fit_18 : decode cX7_fit 18 = .ok (.ixor, 1) := by decide +kernel
theorem d_X7_fit_19 : decode cX7_fit 19 = .ok (.iand, 1) := by decide +kernel
theorem d_X7_fit_20 : decode cX7_fit 20 = .ok (.ifCond .ne 7, 3) := by decide +kernel
theorem d_X7_fit_23 : decode cX7_fit 23 = .ok (.iconst 1, 1) := by decide +kernel
theorem d_X7_fit_24 : decode cX7_fit 24 = .ok (.goto 4, 3) := by decide +kernel
theorem d_X7_fit_27 : decode cX7_fit 27 = .ok (.iconst 0, 1) := by decide +kernel
theorem d_X7_fit_28 : decode cX7_fit 28 = .ok (.ireturn, 1) := by decide +kernel
def F_X7_fit (x0 : Nat) (x1 : Int32) (x2 : Int32) (h : xH) : Option (Int32 × xH) := (fI h x0 6 1).bind fun v1 => (fR h x0 6 2).bind fun v5 => (aI h v5 x1).bind fun v9 => (fR h x0 6 2).bind fun v11 => (aI h v11 x2).bind fun v15 => if ¬ (v1 &&& ((v9 ||| v15) ^^^ ((-1)))) = 0 then some (0, h) else some (1, h)
theorem R_X7_fit {Γ : xG} {l : Launch} {d : Nat} {r : Int32} {h' : xH} (x0 : Nat) (x1 : Int32) (x2 : Int32) (h : xH) (hdp : 0 ≤ d) (hF : F_X7_fit x0 x1 x2 h = some (r, h')) : Gm Γ l d 0 0 m_X7_fit [.ref x0, .int x1, .int x2] h (fun a u => a = some (.int r) ∧ u = h') := by
  refine Gm.of pn_X7 (Nat.le_of_ble_eq_true rfl) ?_
  show Gd Γ l d m_X7_fit 0 [.ref x0, .int x1, .int x2] [] h 0 0 _
  generalize hQ : (fun (a : Option Value) (u : xH) => a = some (.int r) ∧ u = h') = Q
  have hq : Q (some (.int r)) h' := by rw [← hQ]; exact ⟨rfl, rfl⟩
  clear hQ
  unfold F_X7_fit at hF
  refine g_aloadn d_X7_fit_0 rfl ?_
  obtain ⟨v1, e1, hF⟩ := Option.bind_eq_some_iff.mp hF
  refine q_fI d_X7_fit_1 f_X7_15 e1 ?_
  refine g_aloadn d_X7_fit_4 rfl ?_
  obtain ⟨v5, e5, hF⟩ := Option.bind_eq_some_iff.mp hF
  refine q_fR d_X7_fit_5 f_X7_18 e5 ?_
  refine g_iloadn d_X7_fit_8 rfl ?_
  obtain ⟨v9, e9, hF⟩ := Option.bind_eq_some_iff.mp hF
  refine q_aI d_X7_fit_9 e9 ?_
  refine g_aloadn d_X7_fit_10 rfl ?_
  obtain ⟨v11, e11, hF⟩ := Option.bind_eq_some_iff.mp hF
  refine q_fR d_X7_fit_11 f_X7_18 e11 ?_
  refine g_iloadn d_X7_fit_14 rfl ?_
  obtain ⟨v15, e15, hF⟩ := Option.bind_eq_some_iff.mp hF
  refine q_aI d_X7_fit_15 e15 ?_
  refine g_ior d_X7_fit_16 ?_
  refine g_ic (-1) d_X7_fit_17 ic_m1 ?_
  refine g_ixor d_X7_fit_18 ?_
  refine g_iand d_X7_fit_19 ?_
  refine g_if_ne 27 d_X7_fit_20 rfl (fun c20 => ?_) (fun c20 => ?_)
  · have hF := x_t hF c20
    refine g_ic (0) d_X7_fit_27 ic_0 ?_
    obtain ⟨rfl, rfl⟩ := x_inj hF
    exact g_zret d_X7_fit_28 rfl rfl hq
  · have hF := x_f hF (not_not_intro c20)
    refine g_ic (1) d_X7_fit_23 ic_1 ?_
    refine g_goto 28 d_X7_fit_24 rfl ?_
    obtain ⟨rfl, rfl⟩ := x_inj hF
    exact g_zret d_X7_fit_28 rfl rfl hq
theorem d_X7_countEndings_0 : decode cX7_countEndings 0 = .ok (.iconst 0, 1) := by decide +kernel
theorem d_X7_countEndings_1 : decode cX7_countEndings 1 = .ok (.istore_n 3, 1) := by decide +kernel
theorem d_X7_countEndings_2 : decode cX7_countEndings 2 = .ok (.iconst 0, 1) := by decide +kernel
theorem d_X7_countEndings_3 : decode cX7_countEndings 3 = .ok (.istore 4, 2) := by decide +kernel
theorem d_X7_countEndings_5 : decode cX7_countEndings 5 = .ok (.iload 4, 2) := by decide +kernel
theorem d_X7_countEndings_7 : decode cX7_countEndings 7 = .ok (.aload_n 0, 1) := by decide +kernel
theorem d_X7_countEndings_8 : decode cX7_countEndings 8 = .ok (.getfield 9, 3) := by decide +kernel
theorem d_X7_countEndings_11 : decode cX7_countEndings 11 = .ok (.if_icmp .ge 48, 3) := by decide +kernel
theorem d_X7_countEndings_14 : decode cX7_countEndings 14 = .ok (.iload_n 1, 1) := by decide +kernel
theorem d_X7_countEndings_15 : decode cX7_countEndings 15 = .ok (.iload 4, 2) := by decide +kernel
theorem d_X7_countEndings_17 : decode cX7_countEndings 17 = .ok (.ishr, 1) := by decide +kernel
theorem d_X7_countEndings_18 : decode cX7_countEndings 18 = .ok (.iconst 1, 1) := by decide +kernel
theorem d_X7_countEndings_19 : decode cX7_countEndings 19 = .ok (.iand, 1) := by decide +kernel
theorem d_X7_countEndings_20 : decode cX7_countEndings 20 = .ok (.ifCond .ne 33, 3) := by decide +kernel
theorem d_X7_countEndings_23 : decode cX7_countEndings 23 = .ok (.aload_n 0, 1) := by decide +kernel
theorem d_X7_countEndings_24 : decode cX7_countEndings 24 = .ok (.iload_n 2, 1) := by decide +kernel
theorem d_X7_countEndings_25 : decode cX7_countEndings 25 = .ok (.iload 4, 2) := by decide +kernel
theorem d_X7_countEndings_27 : decode cX7_countEndings 27 = .ok (.invokevirtual 49, 3) := by decide +kernel
theorem d_X7_countEndings_30 : decode cX7_countEndings 30 = .ok (.ifCond .eq 23, 3) := by decide +kernel
theorem d_X7_countEndings_33 : decode cX7_countEndings 33 = .ok (.iload_n 3, 1) := by decide +kernel
theorem d_X7_countEndings_34 : decode cX7_countEndings 34 = .ok (.aload_n 0, 1) := by decide +kernel
theorem d_X7_countEndings_35 : decode cX7_countEndings 35 = .ok (.getfield 22, 3) := by decide +kernel
theorem d_X7_countEndings_38 : decode cX7_countEndings 38 = .ok (.iload_n 1, 1) := by decide +kernel
theorem d_X7_countEndings_39 : decode cX7_countEndings 39 = .ok (.iconst 1, 1) := by decide +kernel
theorem d_X7_countEndings_40 : decode cX7_countEndings 40 = .ok (.iload 4, 2) := by decide +kernel
theorem d_X7_countEndings_42 : decode cX7_countEndings 42 = .ok (.ishl, 1) := by decide +kernel
theorem d_X7_countEndings_43 : decode cX7_countEndings 43 = .ok (.ior, 1) := by decide +kernel
theorem d_X7_countEndings_44 : decode cX7_countEndings 44 = .ok (.bipush 6, 2) := by decide +kernel
theorem d_X7_countEndings_46 : decode cX7_countEndings 46 = .ok (.imul, 1) := by decide +kernel
theorem d_X7_countEndings_47 : decode cX7_countEndings 47 = .ok (.iload 4, 2) := by decide +kernel
theorem d_X7_countEndings_49 : decode cX7_countEndings 49 = .ok (.iadd, 1) := by decide +kernel
theorem d_X7_countEndings_50 : decode cX7_countEndings 50 = .ok (.iaload, 1) := by decide +kernel
theorem d_X7_countEndings_51 : decode cX7_countEndings 51 = .ok (.iadd, 1) := by decide +kernel
theorem d_X7_countEndings_52 : decode cX7_countEndings 52 = .ok (.istore_n 3, 1) := by decide +kernel
theorem d_X7_countEndings_53 : decode cX7_countEndings 53 = .ok (.iinc 4 1, 3) := by decide +kernel
theorem d_X7_countEndings_56 : decode cX7_countEndings 56 = .ok (.goto (-51), 3) := by decide +kernel
theorem d_X7_countEndings_59 : decode cX7_countEndings 59 = .ok (.iload_n 3, 1) := by decide +kernel
theorem d_X7_countEndings_60 : decode cX7_countEndings 60 = .ok (.ireturn, 1) := by decide +kernel
def F_X7_countEndings_b5 : Nat → Nat → Int32 → Int32 → Int32 → Int32 → xH → Option (Int32 × xH)
  | 0, _, _, _, _, _, _ => none
  | n + 1, x0, x1, x2, x3, x4, h => (fI h x0 6 0).bind fun v8 => if v8 ≤ x4 then some (x3, h) else if ¬ ((x1 >>> (x4 &&& 31)) &&& 1) = 0 then F_X7_countEndings_b5 n x0 x1 x2 x3 (x4 + 1) h else (rc h x0 6).bind fun _ => (F_X7_fit x0 x2 x4 h).bind fun z27 => if z27.1 = 0 then F_X7_countEndings_b5 n x0 x1 x2 x3 (x4 + 1) z27.2 else (fR z27.2 x0 6 3).bind fun v35 => (aI z27.2 v35 (((x1 ||| (((1 : Int32)) <<< (x4 &&& 31))) * 6) + x4)).bind fun v50 => F_X7_countEndings_b5 n x0 x1 x2 (x3 + v50) (x4 + 1) z27.2
theorem R_X7_countEndings_b5 {Γ : xG} {l : Launch} {d : Nat} {Q : Option Value → xH → Prop} {r : Int32} {h' : xH} (hdp : 1 ≤ d) (hq : Q (some (.int r)) h') : ∀ (n : Nat) (x0 : Nat) (x1 : Int32) (x2 : Int32) (x3 : Int32) (x4 : Int32) (h : xH), F_X7_countEndings_b5 n x0 x1 x2 x3 x4 h = some (r, h') → Gd Γ l d m_X7_countEndings 5 [.ref x0, .int x1, .int x2, .int x3, .int x4] [] h 0 0 Q := by
  intro n
  induction n with
  | zero => intro x0 x1 x2 x3 x4 h hF; cases hF
  | succ n ih =>
  intro x0 x1 x2 x3 x4 h hF
  rw [F_X7_countEndings_b5] at hF
  refine g_iload d_X7_countEndings_5 rfl ?_
  refine g_aloadn d_X7_countEndings_7 rfl ?_
  obtain ⟨v8, e8, hF⟩ := Option.bind_eq_some_iff.mp hF
  refine q_fI d_X7_countEndings_8 f_X7_9 e8 ?_
  refine g_icmp_ge 59 d_X7_countEndings_11 rfl (fun c11 => ?_) (fun c11 => ?_)
  · have hF := x_t hF c11
    refine g_iloadn d_X7_countEndings_59 rfl ?_
    obtain ⟨rfl, rfl⟩ := x_inj hF
    exact g_iret d_X7_countEndings_60 rfl hq
  · have hF := x_f hF c11
    refine g_iloadn d_X7_countEndings_14 rfl ?_
    refine g_iload d_X7_countEndings_15 rfl ?_
    refine g_ishr d_X7_countEndings_17 ?_
    refine g_ic (1) d_X7_countEndings_18 ic_1 ?_
    refine g_iand d_X7_countEndings_19 ?_
    refine g_if_ne 53 d_X7_countEndings_20 rfl (fun c20 => ?_) (fun c20 => ?_)
    · have hF := x_t hF c20
      refine q_iinc (1) [.ref x0, .int x1, .int x2, .int x3, .int (x4 + 1)] d_X7_countEndings_53 ic_1 rfl (by decide) rfl ?_
      refine g_goto 5 d_X7_countEndings_56 rfl ?_
      exact q_to (xs_r (xs_r (xs_r (xs_r (xs_r xs_n))))) (ih _ _ _ _ _ _ hF)
    · have hF := x_f hF (not_not_intro c20)
      refine g_aloadn d_X7_countEndings_23 rfl ?_
      refine g_iloadn d_X7_countEndings_24 rfl ?_
      refine g_iload d_X7_countEndings_25 rfl ?_
      obtain ⟨_, g27, hF⟩ := Option.bind_eq_some_iff.mp hF
      obtain ⟨⟨r27, h27⟩, e27, hF⟩ := Option.bind_eq_some_iff.mp hF
      try dsimp only at hF
      refine q_callV [.int x2, .int x4] [] rfl d_X7_countEndings_27 v_X7_49 (by omega) rfl (Nat.le_of_ble_eq_true rfl) (rc_rc g27 (by decide) rfl) (R_X7_fit _ _ _ _ (by omega) e27) ?_
      refine g_if_eq 53 d_X7_countEndings_30 rfl (fun c30 => ?_) (fun c30 => ?_)
      · have hF := x_t hF c30
        refine q_iinc (1) [.ref x0, .int x1, .int x2, .int x3, .int (x4 + 1)] d_X7_countEndings_53 ic_1 rfl (by decide) rfl ?_
        refine g_goto 5 d_X7_countEndings_56 rfl ?_
        exact q_to (xs_r (xs_r (xs_r (xs_r (xs_r xs_n))))) (ih _ _ _ _ _ _ hF)
      · have hF := x_f hF c30
        refine g_iloadn d_X7_countEndings_33 rfl ?_
        refine g_aloadn d_X7_countEndings_34 rfl ?_
        obtain ⟨v35, e35, hF⟩ := Option.bind_eq_some_iff.mp hF
        refine q_fR d_X7_countEndings_35 f_X7_22 e35 ?_
        refine g_iloadn d_X7_countEndings_38 rfl ?_
        refine g_ic (1) d_X7_countEndings_39 ic_1 ?_
        refine g_iload d_X7_countEndings_40 rfl ?_
        refine g_ishl d_X7_countEndings_42 ?_
        refine g_ior d_X7_countEndings_43 ?_
        refine g_bi (6) d_X7_countEndings_44 bi_6 ?_
        refine g_imul d_X7_countEndings_46 ?_
        refine g_iload d_X7_countEndings_47 rfl ?_
        refine g_iadd d_X7_countEndings_49 ?_
        obtain ⟨v50, e50, hF⟩ := Option.bind_eq_some_iff.mp hF
        refine q_aI d_X7_countEndings_50 e50 ?_
        refine g_iadd d_X7_countEndings_51 ?_
        refine q_istoren [.ref x0, .int x1, .int x2, .int (x3 + v50), .int x4] d_X7_countEndings_52 (by decide) rfl ?_
        refine q_iinc (1) [.ref x0, .int x1, .int x2, .int (x3 + v50), .int (x4 + 1)] d_X7_countEndings_53 ic_1 rfl (by decide) rfl ?_
        refine g_goto 5 d_X7_countEndings_56 rfl ?_
        exact q_to (xs_r (xs_r (xs_r (xs_r (xs_r xs_n))))) (ih _ _ _ _ _ _ hF)
def F_X7_countEndings (x0 : Nat) (x1 : Int32) (x2 : Int32) (h : xH) : Option (Int32 × xH) := F_X7_countEndings_b5 FU x0 x1 x2 0 0 h
theorem R_X7_countEndings {Γ : xG} {l : Launch} {d : Nat} {r : Int32} {h' : xH} (x0 : Nat) (x1 : Int32) (x2 : Int32) (h : xH) (hdp : 1 ≤ d) (hF : F_X7_countEndings x0 x1 x2 h = some (r, h')) : Gm Γ l d 0 0 m_X7_countEndings [.ref x0, .int x1, .int x2] h (fun a u => a = some (.int r) ∧ u = h') := by
  refine Gm.of pn_X7 (Nat.le_of_ble_eq_true rfl) ?_
  show Gd Γ l d m_X7_countEndings 0 [.ref x0, .int x1, .int x2, xhole, xhole] [] h 0 0 _
  generalize hQ : (fun (a : Option Value) (u : xH) => a = some (.int r) ∧ u = h') = Q
  have hq : Q (some (.int r)) h' := by rw [← hQ]; exact ⟨rfl, rfl⟩
  clear hQ
  unfold F_X7_countEndings at hF
  refine g_ic (0) d_X7_countEndings_0 ic_0 ?_
  refine q_istoren [.ref x0, .int x1, .int x2, .int 0, xhole] d_X7_countEndings_1 (by decide) rfl ?_
  refine g_ic (0) d_X7_countEndings_2 ic_0 ?_
  refine q_istore [.ref x0, .int x1, .int x2, .int 0, .int 0] d_X7_countEndings_3 (by decide) rfl ?_
  exact q_to (xs_r (xs_r (xs_r (xs_r (xs_r xs_n))))) (R_X7_countEndings_b5 hdp hq FU _ _ _ _ _ _ hF)
theorem d_X7_countOrders_0 : decode cX7_countOrders 0 = .ok (.aload_n 0, 1) := by decide +kernel
theorem d_X7_countOrders_1 : decode cX7_countOrders 1 = .ok (.getfield 9, 3) := by decide +kernel
theorem d_X7_countOrders_4 : decode cX7_countOrders 4 = .ok (.ifCond .ne 5, 3) := by decide +kernel
theorem d_X7_countOrders_7 : decode cX7_countOrders 7 = .ok (.iconst 1, 1) := by decide +kernel
theorem d_X7_countOrders_8 : decode cX7_countOrders 8 = .ok (.ireturn, 1) := by decide +kernel
theorem d_X7_countOrders_9 : decode cX7_countOrders 9 = .ok (.iconst 1, 1) := by decide +kernel
theorem d_X7_countOrders_10 : decode cX7_countOrders 10 = .ok (.aload_n 0, 1) := by decide +kernel
theorem d_X7_countOrders_11 : decode cX7_countOrders 11 = .ok (.getfield 9, 3) := by decide +kernel
theorem d_X7_countOrders_14 : decode cX7_countOrders 14 = .ok (.ishl, 1) := by decide +kernel
theorem d_X7_countOrders_15 : decode cX7_countOrders 15 = .ok (.iconst 1, 1) := by decide +kernel
theorem d_X7_countOrders_16 : decode cX7_countOrders 16 = .ok (.isub, 1) := by decide +kernel
theorem d_X7_countOrders_17 : decode cX7_countOrders 17 = .ok (.istore_n 1, 1) := by decide +kernel
theorem d_X7_countOrders_18 : decode cX7_countOrders 18 = .ok (.iload_n 1, 1) := by decide +kernel
theorem d_X7_countOrders_19 : decode cX7_countOrders 19 = .ok (.istore_n 2, 1) := by decide +kernel
theorem d_X7_countOrders_20 : decode cX7_countOrders 20 = .ok (.iload_n 2, 1) := by decide +kernel
theorem d_X7_countOrders_21 : decode cX7_countOrders 21 = .ok (.ifCond .le 51, 3) := by decide +kernel
theorem d_X7_countOrders_24 : decode cX7_countOrders 24 = .ok (.iconst 0, 1) := by decide +kernel
theorem d_X7_countOrders_25 : decode cX7_countOrders 25 = .ok (.istore_n 3, 1) := by decide +kernel
theorem d_X7_countOrders_26 : decode cX7_countOrders 26 = .ok (.iload_n 3, 1) := by decide +kernel
theorem d_X7_countOrders_27 : decode cX7_countOrders 27 = .ok (.aload_n 0, 1) := by decide +kernel
theorem d_X7_countOrders_28 : decode cX7_countOrders 28 = .ok (.getfield 9, 3) := by decide +kernel
theorem d_X7_countOrders_31 : decode cX7_countOrders 31 = .ok (.if_icmp .ge 35, 3) := by decide +kernel
theorem d_X7_countOrders_34 : decode cX7_countOrders 34 = .ok (.aload_n 0, 1) := by decide +kernel
theorem d_X7_countOrders_35 : decode cX7_countOrders 35 = .ok (.getfield 22, 3) := by decide +kernel
theorem d_X7_countOrders_38 : decode cX7_countOrders 38 = .ok (.iload_n 2, 1) := by decide +kernel
theorem d_X7_countOrders_39 : decode cX7_countOrders 39 = .ok (.bipush 6, 2) := by decide +kernel
theorem d_X7_countOrders_41 : decode cX7_countOrders 41 = .ok (.imul, 1) := by decide +kernel
theorem d_X7_countOrders_42 : decode cX7_countOrders 42 = .ok (.iload_n 3, 1) := by decide +kernel
theorem d_X7_countOrders_43 : decode cX7_countOrders 43 = .ok (.iadd, 1) := by decide +kernel
theorem d_X7_countOrders_44 : decode cX7_countOrders 44 = .ok (.iload_n 2, 1) := by decide +kernel
theorem d_X7_countOrders_45 : decode cX7_countOrders 45 = .ok (.iload_n 1, 1) := by decide +kernel
theorem d_X7_countOrders_46 : decode cX7_countOrders 46 = .ok (.if_icmp .ne 7, 3) := by decide +kernel
theorem d_X7_countOrders_49 : decode cX7_countOrders 49 = .ok (.iconst 1, 1) := by decide +kernel
theorem d_X7_countOrders_50 : decode cX7_countOrders 50 = .ok (.goto 9, 3) := by decide +kernel
theorem d_X7_countOrders_53 : decode cX7_countOrders 53 = .ok (.aload_n 0, 1) := by decide +kernel
theorem d_X7_countOrders_54 : decode cX7_countOrders 54 = .ok (.iload_n 2, 1) := by decide +kernel
theorem d_X7_countOrders_55 : decode cX7_countOrders 55 = .ok (.iload_n 3, 1) := by decide +kernel
theorem d_X7_countOrders_56 : decode cX7_countOrders 56 = .ok (.invokevirtual 45, 3) := by decide +kernel
theorem d_X7_countOrders_59 : decode cX7_countOrders 59 = .ok (.iastore, 1) := by decide +kernel
theorem d_X7_countOrders_60 : decode cX7_countOrders 60 = .ok (.iinc 3 1, 3) := by decide +kernel
theorem d_X7_countOrders_63 : decode cX7_countOrders 63 = .ok (.goto (-37), 3) := by decide +kernel
theorem d_X7_countOrders_66 : decode cX7_countOrders 66 = .ok (.iinc 2 (-1), 3) := by decide +kernel
theorem d_X7_countOrders_69 : decode cX7_countOrders 69 = .ok (.goto (-49), 3) := by decide +kernel
theorem d_X7_countOrders_72 : decode cX7_countOrders 72 = .ok (.iconst 0, 1) := by decide +kernel
theorem d_X7_countOrders_73 : decode cX7_countOrders 73 = .ok (.istore_n 2, 1) := by decide +kernel
theorem d_X7_countOrders_74 : decode cX7_countOrders 74 = .ok (.iconst 0, 1) := by decide +kernel
theorem d_X7_countOrders_75 : decode cX7_countOrders 75 = .ok (.istore_n 3, 1) := by decide +kernel
theorem d_X7_countOrders_76 : decode cX7_countOrders 76 = .ok (.iload_n 3, 1) := by decide +kernel
theorem d_X7_countOrders_77 : decode cX7_countOrders 77 = .ok (.aload_n 0, 1) := by decide +kernel
theorem d_X7_countOrders_78 : decode cX7_countOrders 78 = .ok (.getfield 9, 3) := by decide +kernel
theorem d_X7_countOrders_81 : decode cX7_countOrders 81 = .ok (.if_icmp .ge 25, 3) := by decide +kernel
theorem d_X7_countOrders_84 : decode cX7_countOrders 84 = .ok (.iload_n 2, 1) := by decide +kernel
theorem d_X7_countOrders_85 : decode cX7_countOrders 85 = .ok (.aload_n 0, 1) := by decide +kernel
theorem d_X7_countOrders_86 : decode cX7_countOrders 86 = .ok (.getfield 22, 3) := by decide +kernel
theorem d_X7_countOrders_89 : decode cX7_countOrders 89 = .ok (.iconst 1, 1) := by decide +kernel
theorem d_X7_countOrders_90 : decode cX7_countOrders 90 = .ok (.iload_n 3, 1) := by decide +kernel
theorem d_X7_countOrders_91 : decode cX7_countOrders 91 = .ok (.ishl, 1) := by decide +kernel
theorem d_X7_countOrders_92 : decode cX7_countOrders 92 = .ok (.bipush 6, 2) := by decide +kernel
theorem d_X7_countOrders_94 : decode cX7_countOrders 94 = .ok (.imul, 1) := by decide +kernel
theorem d_X7_countOrders_95 : decode cX7_countOrders 95 = .ok (.iload_n 3, 1) := by decide +kernel
theorem d_X7_countOrders_96 : decode cX7_countOrders 96 = .ok (.iadd, 1) := by decide +kernel
theorem d_X7_countOrders_97 : decode cX7_countOrders 97 = .ok (.iaload, 1) := by decide +kernel
theorem d_X7_countOrders_98 : decode cX7_countOrders 98 = .ok (.iadd, 1) := by decide +kernel
theorem d_X7_countOrders_99 : decode cX7_countOrders 99 = .ok (.istore_n 2, 1) := by decide +kernel
theorem d_X7_countOrders_100 : decode cX7_countOrders 100 = .ok (.iinc 3 1, 3) := by decide +kernel
theorem d_X7_countOrders_103 : decode cX7_countOrders 103 = .ok (.goto (-27), 3) := by decide +kernel
theorem d_X7_countOrders_106 : decode cX7_countOrders 106 = .ok (.iload_n 2, 1) := by decide +kernel
theorem d_X7_countOrders_107 : decode cX7_countOrders 107 = .ok (.ireturn, 1) := by decide +kernel
def F_X7_countOrders_b26 (k20 : Nat → Int32 → Int32 → xH → Option (Int32 × xH)) : Nat → Nat → Int32 → Int32 → Int32 → xH → Option (Int32 × xH)
  | 0, _, _, _, _, _ => none
  | n + 1, x0, x1, x2, x3, h => (fI h x0 6 0).bind fun v28 => if v28 ≤ x3 then k20 x0 x1 (x2 + (-1)) h else (fR h x0 6 3).bind fun v35 => if ¬ x2 = x1 then (rc h x0 6).bind fun _ => (F_X7_countEndings x0 x2 x3 h).bind fun z56 => (sI z56.2 v35 ((x2 * 6) + x3) z56.1).bind fun h59 => F_X7_countOrders_b26 k20 n x0 x1 x2 (x3 + 1) h59 else (sI h v35 ((x2 * 6) + x3) 1).bind fun h59 => F_X7_countOrders_b26 k20 n x0 x1 x2 (x3 + 1) h59
theorem R_X7_countOrders_b26 {Γ : xG} {l : Launch} {d : Nat} {Q : Option Value → xH → Prop} {r : Int32} {h' : xH} {k20 : Nat → Int32 → Int32 → xH → Option (Int32 × xH)} (K20 : ∀ (x0 : Nat) (x1 : Int32) (x2 : Int32)  (h : xH), k20 x0 x1 x2 h = some (r, h') → Gd Γ l d m_X7_countOrders 20 [.ref x0, .int x1, .int x2, xhole] [] h 0 0 Q) (hdp : 2 ≤ d) (hq : Q (some (.int r)) h') : ∀ (n : Nat) (x0 : Nat) (x1 : Int32) (x2 : Int32) (x3 : Int32) (h : xH), F_X7_countOrders_b26 k20 n x0 x1 x2 x3 h = some (r, h') → Gd Γ l d m_X7_countOrders 26 [.ref x0, .int x1, .int x2, .int x3] [] h 0 0 Q := by
  intro n
  induction n with
  | zero => intro x0 x1 x2 x3 h hF; cases hF
  | succ n ih =>
  intro x0 x1 x2 x3 h hF
  rw [F_X7_countOrders_b26] at hF
  refine g_iloadn d_X7_countOrders_26 rfl ?_
  refine g_aloadn d_X7_countOrders_27 rfl ?_
  obtain ⟨v28, e28, hF⟩ := Option.bind_eq_some_iff.mp hF
  refine q_fI d_X7_countOrders_28 f_X7_9 e28 ?_
  refine g_icmp_ge 66 d_X7_countOrders_31 rfl (fun c31 => ?_) (fun c31 => ?_)
  · have hF := x_t hF c31
    refine q_iinc (-1) [.ref x0, .int x1, .int (x2 + (-1)), .int x3] d_X7_countOrders_66 ic_m1 rfl (by decide) rfl ?_
    refine g_goto 20 d_X7_countOrders_69 rfl ?_
    exact q_to (xs_r (xs_r (xs_r (xs_h xs_n)))) (K20 _ _ _ _ hF)
  · have hF := x_f hF c31
    refine g_aloadn d_X7_countOrders_34 rfl ?_
    obtain ⟨v35, e35, hF⟩ := Option.bind_eq_some_iff.mp hF
    refine q_fR d_X7_countOrders_35 f_X7_22 e35 ?_
    refine g_iloadn d_X7_countOrders_38 rfl ?_
    refine g_bi (6) d_X7_countOrders_39 bi_6 ?_
    refine g_imul d_X7_countOrders_41 ?_
    refine g_iloadn d_X7_countOrders_42 rfl ?_
    refine g_iadd d_X7_countOrders_43 ?_
    refine g_iloadn d_X7_countOrders_44 rfl ?_
    refine g_iloadn d_X7_countOrders_45 rfl ?_
    refine g_icmp_ne 53 d_X7_countOrders_46 rfl (fun c46 => ?_) (fun c46 => ?_)
    · have hF := x_t hF c46
      refine g_aloadn d_X7_countOrders_53 rfl ?_
      refine g_iloadn d_X7_countOrders_54 rfl ?_
      refine g_iloadn d_X7_countOrders_55 rfl ?_
      obtain ⟨_, g56, hF⟩ := Option.bind_eq_some_iff.mp hF
      obtain ⟨⟨r56, h56⟩, e56, hF⟩ := Option.bind_eq_some_iff.mp hF
      try dsimp only at hF
      refine q_callV [.int x2, .int x3] [.int ((x2 * 6) + x3), .ref v35] rfl d_X7_countOrders_56 v_X7_45 (by omega) rfl (Nat.le_of_ble_eq_true rfl) (rc_rc g56 (by decide) rfl) (R_X7_countEndings _ _ _ _ (by omega) e56) ?_
      obtain ⟨h59, e59, hF⟩ := Option.bind_eq_some_iff.mp hF
      refine q_sI d_X7_countOrders_59 e59 ?_
      refine q_iinc (1) [.ref x0, .int x1, .int x2, .int (x3 + 1)] d_X7_countOrders_60 ic_1 rfl (by decide) rfl ?_
      refine g_goto 26 d_X7_countOrders_63 rfl ?_
      exact q_to (xs_r (xs_r (xs_r (xs_r xs_n)))) (ih _ _ _ _ _ hF)
    · have hF := x_f hF (not_not_intro c46)
      refine g_ic (1) d_X7_countOrders_49 ic_1 ?_
      refine g_goto 59 d_X7_countOrders_50 rfl ?_
      obtain ⟨h59, e59, hF⟩ := Option.bind_eq_some_iff.mp hF
      refine q_sI d_X7_countOrders_59 e59 ?_
      refine q_iinc (1) [.ref x0, .int x1, .int x2, .int (x3 + 1)] d_X7_countOrders_60 ic_1 rfl (by decide) rfl ?_
      refine g_goto 26 d_X7_countOrders_63 rfl ?_
      exact q_to (xs_r (xs_r (xs_r (xs_r xs_n)))) (ih _ _ _ _ _ hF)
def F_X7_countOrders_b76 : Nat → Nat → Int32 → Int32 → xH → Option (Int32 × xH)
  | 0, _, _, _, _ => none
  | n + 1, x0, x2, x3, h => (fI h x0 6 0).bind fun v78 => if v78 ≤ x3 then some (x2, h) else (fR h x0 6 3).bind fun v86 => (aI h v86 (((((1 : Int32)) <<< (x3 &&& 31)) * 6) + x3)).bind fun v97 => F_X7_countOrders_b76 n x0 (x2 + v97) (x3 + 1) h
theorem R_X7_countOrders_b76 {Γ : xG} {l : Launch} {d : Nat} {Q : Option Value → xH → Prop} {r : Int32} {h' : xH} (hdp : 2 ≤ d) (hq : Q (some (.int r)) h') : ∀ (n : Nat) (x0 : Nat) (x2 : Int32) (x3 : Int32) (h : xH), F_X7_countOrders_b76 n x0 x2 x3 h = some (r, h') → Gd Γ l d m_X7_countOrders 76 [.ref x0, xhole, .int x2, .int x3] [] h 0 0 Q := by
  intro n
  induction n with
  | zero => intro x0 x2 x3 h hF; cases hF
  | succ n ih =>
  intro x0 x2 x3 h hF
  rw [F_X7_countOrders_b76] at hF
  refine g_iloadn d_X7_countOrders_76 rfl ?_
  refine g_aloadn d_X7_countOrders_77 rfl ?_
  obtain ⟨v78, e78, hF⟩ := Option.bind_eq_some_iff.mp hF
  refine q_fI d_X7_countOrders_78 f_X7_9 e78 ?_
  refine g_icmp_ge 106 d_X7_countOrders_81 rfl (fun c81 => ?_) (fun c81 => ?_)
  · have hF := x_t hF c81
    refine g_iloadn d_X7_countOrders_106 rfl ?_
    obtain ⟨rfl, rfl⟩ := x_inj hF
    exact g_iret d_X7_countOrders_107 rfl hq
  · have hF := x_f hF c81
    refine g_iloadn d_X7_countOrders_84 rfl ?_
    refine g_aloadn d_X7_countOrders_85 rfl ?_
    obtain ⟨v86, e86, hF⟩ := Option.bind_eq_some_iff.mp hF
    refine q_fR d_X7_countOrders_86 f_X7_22 e86 ?_
    refine g_ic (1) d_X7_countOrders_89 ic_1 ?_
    refine g_iloadn d_X7_countOrders_90 rfl ?_
    refine g_ishl d_X7_countOrders_91 ?_
    refine g_bi (6) d_X7_countOrders_92 bi_6 ?_
    refine g_imul d_X7_countOrders_94 ?_
    refine g_iloadn d_X7_countOrders_95 rfl ?_
    refine g_iadd d_X7_countOrders_96 ?_
    obtain ⟨v97, e97, hF⟩ := Option.bind_eq_some_iff.mp hF
    refine q_aI d_X7_countOrders_97 e97 ?_
    refine g_iadd d_X7_countOrders_98 ?_
    refine q_istoren [.ref x0, xhole, .int (x2 + v97), .int x3] d_X7_countOrders_99 (by decide) rfl ?_
    refine q_iinc (1) [.ref x0, xhole, .int (x2 + v97), .int (x3 + 1)] d_X7_countOrders_100 ic_1 rfl (by decide) rfl ?_
    refine g_goto 76 d_X7_countOrders_103 rfl ?_
    exact q_to (xs_r (xs_h (xs_r (xs_r xs_n)))) (ih _ _ _ _ hF)
def F_X7_countOrders_b20 : Nat → Nat → Int32 → Int32 → xH → Option (Int32 × xH)
  | 0, _, _, _, _ => none
  | n + 1, x0, x1, x2, h => if x2 ≤ 0 then F_X7_countOrders_b76 FU x0 0 0 h else F_X7_countOrders_b26 (F_X7_countOrders_b20 n) FU x0 x1 x2 0 h
theorem R_X7_countOrders_b20 {Γ : xG} {l : Launch} {d : Nat} {Q : Option Value → xH → Prop} {r : Int32} {h' : xH} (hdp : 2 ≤ d) (hq : Q (some (.int r)) h') : ∀ (n : Nat) (x0 : Nat) (x1 : Int32) (x2 : Int32) (h : xH), F_X7_countOrders_b20 n x0 x1 x2 h = some (r, h') → Gd Γ l d m_X7_countOrders 20 [.ref x0, .int x1, .int x2, xhole] [] h 0 0 Q := by
  intro n
  induction n with
  | zero => intro x0 x1 x2 h hF; cases hF
  | succ n ih =>
  intro x0 x1 x2 h hF
  rw [F_X7_countOrders_b20] at hF
  refine g_iloadn d_X7_countOrders_20 rfl ?_
  refine g_if_le 72 d_X7_countOrders_21 rfl (fun c21 => ?_) (fun c21 => ?_)
  · have hF := x_t hF c21
    refine g_ic (0) d_X7_countOrders_72 ic_0 ?_
    refine q_istoren [.ref x0, .int x1, .int 0, xhole] d_X7_countOrders_73 (by decide) rfl ?_
    refine g_ic (0) d_X7_countOrders_74 ic_0 ?_
    refine q_istoren [.ref x0, .int x1, .int 0, .int 0] d_X7_countOrders_75 (by decide) rfl ?_
    exact q_to (xs_r (xs_h (xs_r (xs_r xs_n)))) (R_X7_countOrders_b76 hdp hq FU _ _ _ _ hF)
  · have hF := x_f hF c21
    refine g_ic (0) d_X7_countOrders_24 ic_0 ?_
    refine q_istoren [.ref x0, .int x1, .int x2, .int 0] d_X7_countOrders_25 (by decide) rfl ?_
    exact q_to (xs_r (xs_r (xs_r (xs_r xs_n)))) (R_X7_countOrders_b26 ih hdp hq FU _ _ _ _ _ hF)
def F_X7_countOrders (x0 : Nat) (h : xH) : Option (Int32 × xH) := (fI h x0 6 0).bind fun v1 => if ¬ v1 = 0 then (fI h x0 6 0).bind fun v11 => F_X7_countOrders_b20 FU x0 ((((1 : Int32)) <<< (v11 &&& 31)) - 1) ((((1 : Int32)) <<< (v11 &&& 31)) - 1) h else some (1, h)
theorem R_X7_countOrders {Γ : xG} {l : Launch} {d : Nat} {r : Int32} {h' : xH} (x0 : Nat) (h : xH) (hdp : 2 ≤ d) (hF : F_X7_countOrders x0 h = some (r, h')) : Gm Γ l d 0 0 m_X7_countOrders [.ref x0] h (fun a u => a = some (.int r) ∧ u = h') := by
  refine Gm.of pn_X7 (Nat.le_of_ble_eq_true rfl) ?_
  show Gd Γ l d m_X7_countOrders 0 [.ref x0, xhole, xhole, xhole] [] h 0 0 _
  generalize hQ : (fun (a : Option Value) (u : xH) => a = some (.int r) ∧ u = h') = Q
  have hq : Q (some (.int r)) h' := by rw [← hQ]; exact ⟨rfl, rfl⟩
  clear hQ
  unfold F_X7_countOrders at hF
  refine g_aloadn d_X7_countOrders_0 rfl ?_
  obtain ⟨v1, e1, hF⟩ := Option.bind_eq_some_iff.mp hF
  refine q_fI d_X7_countOrders_1 f_X7_9 e1 ?_
  refine g_if_ne 9 d_X7_countOrders_4 rfl (fun c4 => ?_) (fun c4 => ?_)
  · have hF := x_t hF c4
    refine g_ic (1) d_X7_countOrders_9 ic_1 ?_
    refine g_aloadn d_X7_countOrders_10 rfl ?_
    obtain ⟨v11, e11, hF⟩ := Option.bind_eq_some_iff.mp hF
    refine q_fI d_X7_countOrders_11 f_X7_9 e11 ?_
    refine g_ishl d_X7_countOrders_14 ?_
    refine g_ic (1) d_X7_countOrders_15 ic_1 ?_
    refine g_isub d_X7_countOrders_16 ?_
    refine q_istoren [.ref x0, .int ((((1 : Int32)) <<< (v11 &&& 31)) - 1), xhole, xhole] d_X7_countOrders_17 (by decide) rfl ?_
    refine g_iloadn d_X7_countOrders_18 rfl ?_
    refine q_istoren [.ref x0, .int ((((1 : Int32)) <<< (v11 &&& 31)) - 1), .int ((((1 : Int32)) <<< (v11 &&& 31)) - 1), xhole] d_X7_countOrders_19 (by decide) rfl ?_
    exact q_to (xs_r (xs_r (xs_r (xs_h xs_n)))) (R_X7_countOrders_b20 hdp hq FU _ _ _ _ hF)
  · have hF := x_f hF (not_not_intro c4)
    refine g_ic (1) d_X7_countOrders_7 ic_1 ?_
    obtain ⟨rfl, rfl⟩ := x_inj hF
    exact g_iret d_X7_countOrders_8 rfl hq
theorem d_X7_nextInOrder_0 : decode cX7_nextInOrder 0 = .ok (.iconst 0, 1) := by decide +kernel
theorem d_X7_nextInOrder_1 : decode cX7_nextInOrder 1 = .ok (.istore_n 3, 1) := by decide +kernel
theorem d_X7_nextInOrder_2 : decode cX7_nextInOrder 2 = .ok (.iload_n 3, 1) := by decide +kernel
theorem d_X7_nextInOrder_3 : decode cX7_nextInOrder 3 = .ok (.aload_n 0, 1) := by decide +kernel
theorem d_X7_nextInOrder_4 : decode cX7_nextInOrder 4 = .ok (.getfield 9, 3) := by decide +kernel
theorem d_X7_nextInOrder_7 : decode cX7_nextInOrder 7 = .ok (.if_icmp .ge 63, 3) := by decide +kernel
theorem d_X7_nextInOrder_10 : decode cX7_nextInOrder 10 = .ok (.iload_n 1, 1) := by decide +kernel
theorem d_X7_nextInOrder_11 : decode cX7_nextInOrder 11 = .ok (.iload_n 3, 1) := by decide +kernel
theorem d_X7_nextInOrder_12 : decode cX7_nextInOrder 12 = .ok (.ishr, 1) := by decide +kernel
theorem d_X7_nextInOrder_13 : decode cX7_nextInOrder 13 = .ok (.iconst 1, 1) := by decide +kernel
theorem d_X7_nextInOrder_14 : decode cX7_nextInOrder 14 = .ok (.iand, 1) := by decide +kernel
theorem d_X7_nextInOrder_15 : decode cX7_nextInOrder 15 = .ok (.ifCond .ne 7, 3) := by decide +kernel
theorem d_X7_nextInOrder_18 : decode cX7_nextInOrder 18 = .ok (.iconst 1, 1) := by decide +kernel
theorem d_X7_nextInOrder_19 : decode cX7_nextInOrder 19 = .ok (.goto 4, 3) := by decide +kernel
theorem d_X7_nextInOrder_22 : decode cX7_nextInOrder 22 = .ok (.iconst 0, 1) := by decide +kernel
theorem d_X7_nextInOrder_23 : decode cX7_nextInOrder 23 = .ok (.istore 4, 2) := by decide +kernel
theorem d_X7_nextInOrder_25 : decode cX7_nextInOrder 25 = .ok (.iload 4, 2) := by decide +kernel
theorem d_X7_nextInOrder_27 : decode cX7_nextInOrder 27 = .ok (.ifCond .eq 37, 3) := by decide +kernel
theorem d_X7_nextInOrder_30 : decode cX7_nextInOrder 30 = .ok (.iload_n 2, 1) := by decide +kernel
theorem d_X7_nextInOrder_31 : decode cX7_nextInOrder 31 = .ok (.iconst (-1), 1) := by decide +kernel
theorem d_X7_nextInOrder_32 : decode cX7_nextInOrder 32 = .ok (.if_icmp .eq 12, 3) := by decide +kernel
theorem d_X7_nextInOrder_35 : decode cX7_nextInOrder 35 = .ok (.aload_n 0, 1) := by decide +kernel
theorem d_X7_nextInOrder_36 : decode cX7_nextInOrder 36 = .ok (.iload_n 2, 1) := by decide +kernel
theorem d_X7_nextInOrder_37 : decode cX7_nextInOrder 37 = .ok (.iload_n 3, 1) := by decide +kernel
theorem d_X7_nextInOrder_38 : decode cX7_nextInOrder 38 = .ok (.invokevirtual 49, 3) := by decide +kernel
theorem d_X7_nextInOrder_41 : decode cX7_nextInOrder 41 = .ok (.ifCond .eq 23, 3) := by decide +kernel
theorem d_X7_nextInOrder_44 : decode cX7_nextInOrder 44 = .ok (.aload_n 0, 1) := by decide +kernel
theorem d_X7_nextInOrder_45 : decode cX7_nextInOrder 45 = .ok (.getfield 22, 3) := by decide +kernel
theorem d_X7_nextInOrder_48 : decode cX7_nextInOrder 48 = .ok (.iload_n 1, 1) := by decide +kernel
theorem d_X7_nextInOrder_49 : decode cX7_nextInOrder 49 = .ok (.iconst 1, 1) := by decide +kernel
theorem d_X7_nextInOrder_50 : decode cX7_nextInOrder 50 = .ok (.iload_n 3, 1) := by decide +kernel
theorem d_X7_nextInOrder_51 : decode cX7_nextInOrder 51 = .ok (.ishl, 1) := by decide +kernel
theorem d_X7_nextInOrder_52 : decode cX7_nextInOrder 52 = .ok (.ior, 1) := by decide +kernel
theorem d_X7_nextInOrder_53 : decode cX7_nextInOrder 53 = .ok (.bipush 6, 2) := by decide +kernel
theorem d_X7_nextInOrder_55 : decode cX7_nextInOrder 55 = .ok (.imul, 1) := by decide +kernel
theorem d_X7_nextInOrder_56 : decode cX7_nextInOrder 56 = .ok (.iload_n 3, 1) := by decide +kernel
theorem d_X7_nextInOrder_57 : decode cX7_nextInOrder 57 = .ok (.iadd, 1) := by decide +kernel
theorem d_X7_nextInOrder_58 : decode cX7_nextInOrder 58 = .ok (.iaload, 1) := by decide +kernel
theorem d_X7_nextInOrder_59 : decode cX7_nextInOrder 59 = .ok (.ifCond .le 5, 3) := by decide +kernel
theorem d_X7_nextInOrder_62 : decode cX7_nextInOrder 62 = .ok (.iload_n 3, 1) := by decide +kernel
theorem d_X7_nextInOrder_63 : decode cX7_nextInOrder 63 = .ok (.ireturn, 1) := by decide +kernel
theorem d_X7_nextInOrder_64 : decode cX7_nextInOrder 64 = .ok (.iinc 3 1, 3) := by decide +kernel
theorem d_X7_nextInOrder_67 : decode cX7_nextInOrder 67 = .ok (.goto (-65), 3) := by decide +kernel
theorem d_X7_nextInOrder_70 : decode cX7_nextInOrder 70 = .ok (.iconst (-1), 1) := by decide +kernel
theorem d_X7_nextInOrder_71 : decode cX7_nextInOrder 71 = .ok (.ireturn, 1) := by decide +kernel
def F_X7_nextInOrder_b44 (k2 : Nat → Int32 → Int32 → Int32 → xH → Option (Int32 × xH)) (x0 : Nat) (x1 : Int32) (x2 : Int32) (x3 : Int32) (h : xH) : Option (Int32 × xH) := (fR h x0 6 3).bind fun v45 => (aI h v45 (((x1 ||| (((1 : Int32)) <<< (x3 &&& 31))) * 6) + x3)).bind fun v58 => if v58 ≤ 0 then k2 x0 x1 x2 (x3 + 1) h else some (x3, h)
theorem R_X7_nextInOrder_b44 {Γ : xG} {l : Launch} {d : Nat} {Q : Option Value → xH → Prop} {r : Int32} {h' : xH} {k2 : Nat → Int32 → Int32 → Int32 → xH → Option (Int32 × xH)} (K2 : ∀ (x0 : Nat) (x1 : Int32) (x2 : Int32) (x3 : Int32)  (h : xH), k2 x0 x1 x2 x3 h = some (r, h') → Gd Γ l d m_X7_nextInOrder 2 [.ref x0, .int x1, .int x2, .int x3, xhole] [] h 0 0 Q) (hdp : 1 ≤ d) (hq : Q (some (.int r)) h') : ∀ (x0 : Nat) (x1 : Int32) (x2 : Int32) (x3 : Int32) (h : xH), F_X7_nextInOrder_b44 k2 x0 x1 x2 x3 h = some (r, h') → Gd Γ l d m_X7_nextInOrder 44 [.ref x0, .int x1, .int x2, .int x3, xhole] [] h 0 0 Q := by
  intro x0 x1 x2 x3 h hF
  unfold F_X7_nextInOrder_b44 at hF
  refine g_aloadn d_X7_nextInOrder_44 rfl ?_
  obtain ⟨v45, e45, hF⟩ := Option.bind_eq_some_iff.mp hF
  refine q_fR d_X7_nextInOrder_45 f_X7_22 e45 ?_
  refine g_iloadn d_X7_nextInOrder_48 rfl ?_
  refine g_ic (1) d_X7_nextInOrder_49 ic_1 ?_
  refine g_iloadn d_X7_nextInOrder_50 rfl ?_
  refine g_ishl d_X7_nextInOrder_51 ?_
  refine g_ior d_X7_nextInOrder_52 ?_
  refine g_bi (6) d_X7_nextInOrder_53 bi_6 ?_
  refine g_imul d_X7_nextInOrder_55 ?_
  refine g_iloadn d_X7_nextInOrder_56 rfl ?_
  refine g_iadd d_X7_nextInOrder_57 ?_
  obtain ⟨v58, e58, hF⟩ := Option.bind_eq_some_iff.mp hF
  refine q_aI d_X7_nextInOrder_58 e58 ?_
  refine g_if_le 64 d_X7_nextInOrder_59 rfl (fun c59 => ?_) (fun c59 => ?_)
  · have hF := x_t hF c59
    refine q_iinc (1) [.ref x0, .int x1, .int x2, .int (x3 + 1), xhole] d_X7_nextInOrder_64 ic_1 rfl (by decide) rfl ?_
    refine g_goto 2 d_X7_nextInOrder_67 rfl ?_
    exact q_to (xs_r (xs_r (xs_r (xs_r (xs_h xs_n))))) (K2 _ _ _ _ _ hF)
  · have hF := x_f hF c59
    refine g_iloadn d_X7_nextInOrder_62 rfl ?_
    obtain ⟨rfl, rfl⟩ := x_inj hF
    exact g_iret d_X7_nextInOrder_63 rfl hq
def F_X7_nextInOrder_b23 (k2 : Nat → Int32 → Int32 → Int32 → xH → Option (Int32 × xH)) (x0 : Nat) (x1 : Int32) (x2 : Int32) (x3 : Int32) (s0 : Int32) (h : xH) : Option (Int32 × xH) := if s0 = 0 then k2 x0 x1 x2 (x3 + 1) h else if x2 = (((-1) : Int32)) then F_X7_nextInOrder_b44 k2 x0 x1 x2 x3 h else (rc h x0 6).bind fun _ => (F_X7_fit x0 x2 x3 h).bind fun z38 => if z38.1 = 0 then k2 x0 x1 x2 (x3 + 1) z38.2 else F_X7_nextInOrder_b44 k2 x0 x1 x2 x3 z38.2
theorem R_X7_nextInOrder_b23 {Γ : xG} {l : Launch} {d : Nat} {Q : Option Value → xH → Prop} {r : Int32} {h' : xH} {k2 : Nat → Int32 → Int32 → Int32 → xH → Option (Int32 × xH)} (K2 : ∀ (x0 : Nat) (x1 : Int32) (x2 : Int32) (x3 : Int32)  (h : xH), k2 x0 x1 x2 x3 h = some (r, h') → Gd Γ l d m_X7_nextInOrder 2 [.ref x0, .int x1, .int x2, .int x3, xhole] [] h 0 0 Q) (hdp : 1 ≤ d) (hq : Q (some (.int r)) h') : ∀ (x0 : Nat) (x1 : Int32) (x2 : Int32) (x3 : Int32) (s0 : Int32) (h : xH), F_X7_nextInOrder_b23 k2 x0 x1 x2 x3 s0 h = some (r, h') → Gd Γ l d m_X7_nextInOrder 23 [.ref x0, .int x1, .int x2, .int x3, xhole] [.int s0] h 0 0 Q := by
  intro x0 x1 x2 x3 s0 h hF
  unfold F_X7_nextInOrder_b23 at hF
  refine q_istore [.ref x0, .int x1, .int x2, .int x3, .int s0] d_X7_nextInOrder_23 (by decide) rfl ?_
  refine g_iload d_X7_nextInOrder_25 rfl ?_
  refine g_if_eq 64 d_X7_nextInOrder_27 rfl (fun c27 => ?_) (fun c27 => ?_)
  · have hF := x_t hF c27
    refine q_iinc (1) [.ref x0, .int x1, .int x2, .int (x3 + 1), .int s0] d_X7_nextInOrder_64 ic_1 rfl (by decide) rfl ?_
    refine g_goto 2 d_X7_nextInOrder_67 rfl ?_
    exact q_to (xs_r (xs_r (xs_r (xs_r (xs_h xs_n))))) (K2 _ _ _ _ _ hF)
  · have hF := x_f hF c27
    refine g_iloadn d_X7_nextInOrder_30 rfl ?_
    refine g_ic (-1) d_X7_nextInOrder_31 ic_m1 ?_
    refine g_icmp_eq 44 d_X7_nextInOrder_32 rfl (fun c32 => ?_) (fun c32 => ?_)
    · have hF := x_t hF c32
      exact q_to (xs_r (xs_r (xs_r (xs_r (xs_h xs_n))))) (R_X7_nextInOrder_b44 K2 hdp hq _ _ _ _ _ hF)
    · have hF := x_f hF c32
      refine g_aloadn d_X7_nextInOrder_35 rfl ?_
      refine g_iloadn d_X7_nextInOrder_36 rfl ?_
      refine g_iloadn d_X7_nextInOrder_37 rfl ?_
      obtain ⟨_, g38, hF⟩ := Option.bind_eq_some_iff.mp hF
      obtain ⟨⟨r38, h38⟩, e38, hF⟩ := Option.bind_eq_some_iff.mp hF
      try dsimp only at hF
      refine q_callV [.int x2, .int x3] [] rfl d_X7_nextInOrder_38 v_X7_49 (by omega) rfl (Nat.le_of_ble_eq_true rfl) (rc_rc g38 (by decide) rfl) (R_X7_fit _ _ _ _ (by omega) e38) ?_
      refine g_if_eq 64 d_X7_nextInOrder_41 rfl (fun c41 => ?_) (fun c41 => ?_)
      · have hF := x_t hF c41
        refine q_iinc (1) [.ref x0, .int x1, .int x2, .int (x3 + 1), .int s0] d_X7_nextInOrder_64 ic_1 rfl (by decide) rfl ?_
        refine g_goto 2 d_X7_nextInOrder_67 rfl ?_
        exact q_to (xs_r (xs_r (xs_r (xs_r (xs_h xs_n))))) (K2 _ _ _ _ _ hF)
      · have hF := x_f hF c41
        exact q_to (xs_r (xs_r (xs_r (xs_r (xs_h xs_n))))) (R_X7_nextInOrder_b44 K2 hdp hq _ _ _ _ _ hF)
def F_X7_nextInOrder_b2 : Nat → Nat → Int32 → Int32 → Int32 → xH → Option (Int32 × xH)
  | 0, _, _, _, _, _ => none
  | n + 1, x0, x1, x2, x3, h => (fI h x0 6 0).bind fun v4 => if v4 ≤ x3 then some ((-1), h) else if ¬ ((x1 >>> (x3 &&& 31)) &&& 1) = 0 then F_X7_nextInOrder_b23 (F_X7_nextInOrder_b2 n) x0 x1 x2 x3 0 h else F_X7_nextInOrder_b23 (F_X7_nextInOrder_b2 n) x0 x1 x2 x3 1 h
theorem R_X7_nextInOrder_b2 {Γ : xG} {l : Launch} {d : Nat} {Q : Option Value → xH → Prop} {r : Int32} {h' : xH} (hdp : 1 ≤ d) (hq : Q (some (.int r)) h') : ∀ (n : Nat) (x0 : Nat) (x1 : Int32) (x2 : Int32) (x3 : Int32) (h : xH), F_X7_nextInOrder_b2 n x0 x1 x2 x3 h = some (r, h') → Gd Γ l d m_X7_nextInOrder 2 [.ref x0, .int x1, .int x2, .int x3, xhole] [] h 0 0 Q := by
  intro n
  induction n with
  | zero => intro x0 x1 x2 x3 h hF; cases hF
  | succ n ih =>
  intro x0 x1 x2 x3 h hF
  rw [F_X7_nextInOrder_b2] at hF
  refine g_iloadn d_X7_nextInOrder_2 rfl ?_
  refine g_aloadn d_X7_nextInOrder_3 rfl ?_
  obtain ⟨v4, e4, hF⟩ := Option.bind_eq_some_iff.mp hF
  refine q_fI d_X7_nextInOrder_4 f_X7_9 e4 ?_
  refine g_icmp_ge 70 d_X7_nextInOrder_7 rfl (fun c7 => ?_) (fun c7 => ?_)
  · have hF := x_t hF c7
    refine g_ic (-1) d_X7_nextInOrder_70 ic_m1 ?_
    obtain ⟨rfl, rfl⟩ := x_inj hF
    exact g_iret d_X7_nextInOrder_71 rfl hq
  · have hF := x_f hF c7
    refine g_iloadn d_X7_nextInOrder_10 rfl ?_
    refine g_iloadn d_X7_nextInOrder_11 rfl ?_
    refine g_ishr d_X7_nextInOrder_12 ?_
    refine g_ic (1) d_X7_nextInOrder_13 ic_1 ?_
    refine g_iand d_X7_nextInOrder_14 ?_
    refine g_if_ne 22 d_X7_nextInOrder_15 rfl (fun c15 => ?_) (fun c15 => ?_)
    · have hF := x_t hF c15
      refine g_ic (0) d_X7_nextInOrder_22 ic_0 ?_
      exact q_to (xs_r (xs_r (xs_r (xs_r (xs_h xs_n))))) (R_X7_nextInOrder_b23 ih hdp hq _ _ _ _ _ _ hF)
    · have hF := x_f hF (not_not_intro c15)
      refine g_ic (1) d_X7_nextInOrder_18 ic_1 ?_
      refine g_goto 23 d_X7_nextInOrder_19 rfl ?_
      exact q_to (xs_r (xs_r (xs_r (xs_r (xs_h xs_n))))) (R_X7_nextInOrder_b23 ih hdp hq _ _ _ _ _ _ hF)
def F_X7_nextInOrder (x0 : Nat) (x1 : Int32) (x2 : Int32) (h : xH) : Option (Int32 × xH) := F_X7_nextInOrder_b2 FU x0 x1 x2 0 h
theorem R_X7_nextInOrder {Γ : xG} {l : Launch} {d : Nat} {r : Int32} {h' : xH} (x0 : Nat) (x1 : Int32) (x2 : Int32) (h : xH) (hdp : 1 ≤ d) (hF : F_X7_nextInOrder x0 x1 x2 h = some (r, h')) : Gm Γ l d 0 0 m_X7_nextInOrder [.ref x0, .int x1, .int x2] h (fun a u => a = some (.int r) ∧ u = h') := by
  refine Gm.of pn_X7 (Nat.le_of_ble_eq_true rfl) ?_
  show Gd Γ l d m_X7_nextInOrder 0 [.ref x0, .int x1, .int x2, xhole, xhole] [] h 0 0 _
  generalize hQ : (fun (a : Option Value) (u : xH) => a = some (.int r) ∧ u = h') = Q
  have hq : Q (some (.int r)) h' := by rw [← hQ]; exact ⟨rfl, rfl⟩
  clear hQ
  unfold F_X7_nextInOrder at hF
  refine g_ic (0) d_X7_nextInOrder_0 ic_0 ?_
  refine q_istoren [.ref x0, .int x1, .int x2, .int 0, xhole] d_X7_nextInOrder_1 (by decide) rfl ?_
  exact q_to (xs_r (xs_r (xs_r (xs_r (xs_h xs_n))))) (R_X7_nextInOrder_b2 hdp hq FU _ _ _ _ _ hF)
theorem d_X7_inFirstOrder_0 : decode cX7_inFirstOrder 0 = .ok (.iload_n 1, 1) := by decide +kernel
theorem d_X7_inFirstOrder_1 : decode cX7_inFirstOrder 1 = .ok (.aload_n 0, 1) := by decide +kernel
theorem d_X7_inFirstOrder_2 : decode cX7_inFirstOrder 2 = .ok (.getfield 9, 3) := by decide +kernel
theorem d_X7_inFirstOrder_5 : decode cX7_inFirstOrder 5 = .ok (.if_icmp .ge 10, 3) := by decide +kernel
theorem d_X7_inFirstOrder_8 : decode cX7_inFirstOrder 8 = .ok (.aload_n 0, 1) := by decide +kernel
theorem d_X7_inFirstOrder_9 : decode cX7_inFirstOrder 9 = .ok (.invokevirtual 52, 3) := by decide +kernel
theorem d_X7_inFirstOrder_12 : decode cX7_inFirstOrder 12 = .ok (.ifCond .ne 5, 3) := by decide +kernel
theorem d_X7_inFirstOrder_15 : decode cX7_inFirstOrder 15 = .ok (.iconst (-1), 1) := by decide +kernel
theorem d_X7_inFirstOrder_16 : decode cX7_inFirstOrder 16 = .ok (.ireturn, 1) := by decide +kernel
theorem d_X7_inFirstOrder_17 : decode cX7_inFirstOrder 17 = .ok (.iconst 0, 1) := by decide +kernel
theorem d_X7_inFirstOrder_18 : decode cX7_inFirstOrder 18 = .ok (.istore_n 2, 1) := by decide +kernel
theorem d_X7_inFirstOrder_19 : decode cX7_inFirstOrder 19 = .ok (.iconst (-1), 1) := by decide +kernel
theorem d_X7_inFirstOrder_20 : decode cX7_inFirstOrder 20 = .ok (.istore_n 3, 1) := by decide +kernel
theorem d_X7_inFirstOrder_21 : decode cX7_inFirstOrder 21 = .ok (.iconst 0, 1) := by decide +kernel
theorem d_X7_inFirstOrder_22 : decode cX7_inFirstOrder 22 = .ok (.istore 4, 2) := by decide +kernel
theorem d_X7_inFirstOrder_24 : decode cX7_inFirstOrder 24 = .ok (.iload 4, 2) := by decide +kernel
theorem d_X7_inFirstOrder_26 : decode cX7_inFirstOrder 26 = .ok (.iload_n 1, 1) := by decide +kernel
theorem d_X7_inFirstOrder_27 : decode cX7_inFirstOrder 27 = .ok (.if_icmp .gt 29, 3) := by decide +kernel
theorem d_X7_inFirstOrder_30 : decode cX7_inFirstOrder 30 = .ok (.aload_n 0, 1) := by decide +kernel
theorem d_X7_inFirstOrder_31 : decode cX7_inFirstOrder 31 = .ok (.iload_n 2, 1) := by decide +kernel
theorem d_X7_inFirstOrder_32 : decode cX7_inFirstOrder 32 = .ok (.iload_n 3, 1) := by decide +kernel
theorem d_X7_inFirstOrder_33 : decode cX7_inFirstOrder 33 = .ok (.invokevirtual 56, 3) := by decide +kernel
theorem d_X7_inFirstOrder_36 : decode cX7_inFirstOrder 36 = .ok (.istore_n 3, 1) := by decide +kernel
theorem d_X7_inFirstOrder_37 : decode cX7_inFirstOrder 37 = .ok (.iload_n 3, 1) := by decide +kernel
theorem d_X7_inFirstOrder_38 : decode cX7_inFirstOrder 38 = .ok (.iconst (-1), 1) := by decide +kernel
theorem d_X7_inFirstOrder_39 : decode cX7_inFirstOrder 39 = .ok (.if_icmp .ne 5, 3) := by decide +kernel
theorem d_X7_inFirstOrder_42 : decode cX7_inFirstOrder 42 = .ok (.iconst (-1), 1) := by decide +kernel
theorem d_X7_inFirstOrder_43 : decode cX7_inFirstOrder 43 = .ok (.ireturn, 1) := by decide +kernel
theorem d_X7_inFirstOrder_44 : decode cX7_inFirstOrder 44 = .ok (.iload_n 2, 1) := by decide +kernel
theorem d_X7_inFirstOrder_45 : decode cX7_inFirstOrder 45 = .ok (.iconst 1, 1) := by decide +kernel
theorem d_X7_inFirstOrder_46 : decode cX7_inFirstOrder 46 = .ok (.iload_n 3, 1) := by decide +kernel
theorem d_X7_inFirstOrder_47 : decode cX7_inFirstOrder 47 = .ok (.ishl, 1) := by decide +kernel
theorem d_X7_inFirstOrder_48 : decode cX7_inFirstOrder 48 = .ok (.ior, 1) := by decide +kernel
theorem d_X7_inFirstOrder_49 : decode cX7_inFirstOrder 49 = .ok (.istore_n 2, 1) := by decide +kernel
theorem d_X7_inFirstOrder_50 : decode cX7_inFirstOrder 50 = .ok (.iinc 4 1, 3) := by decide +kernel
theorem d_X7_inFirstOrder_53 : decode cX7_inFirstOrder 53 = .ok (.goto (-29), 3) := by decide +kernel
theorem d_X7_inFirstOrder_56 : decode cX7_inFirstOrder 56 = .ok (.iload_n 3, 1) := by decide +kernel
theorem d_X7_inFirstOrder_57 : decode cX7_inFirstOrder 57 = .ok (.ireturn, 1) := by decide +kernel
def F_X7_inFirstOrder_b24 : Nat → Nat → Int32 → Int32 → Int32 → Int32 → xH → Option (Int32 × xH)
  | 0, _, _, _, _, _, _ => none
  | n + 1, x0, x1, x2, x3, x4, h => if x1 < x4 then some (x3, h) else (rc h x0 6).bind fun _ => (F_X7_nextInOrder x0 x2 x3 h).bind fun z33 => if ¬ z33.1 = (((-1) : Int32)) then F_X7_inFirstOrder_b24 n x0 x1 (x2 ||| (((1 : Int32)) <<< (z33.1 &&& 31))) z33.1 (x4 + 1) z33.2 else some ((-1), z33.2)
theorem R_X7_inFirstOrder_b24 {Γ : xG} {l : Launch} {d : Nat} {Q : Option Value → xH → Prop} {r : Int32} {h' : xH} (hdp : 3 ≤ d) (hq : Q (some (.int r)) h') : ∀ (n : Nat) (x0 : Nat) (x1 : Int32) (x2 : Int32) (x3 : Int32) (x4 : Int32) (h : xH), F_X7_inFirstOrder_b24 n x0 x1 x2 x3 x4 h = some (r, h') → Gd Γ l d m_X7_inFirstOrder 24 [.ref x0, .int x1, .int x2, .int x3, .int x4] [] h 0 0 Q := by
  intro n
  induction n with
  | zero => intro x0 x1 x2 x3 x4 h hF; cases hF
  | succ n ih =>
  intro x0 x1 x2 x3 x4 h hF
  rw [F_X7_inFirstOrder_b24] at hF
  refine g_iload d_X7_inFirstOrder_24 rfl ?_
  refine g_iloadn d_X7_inFirstOrder_26 rfl ?_
  refine g_icmp_gt 56 d_X7_inFirstOrder_27 rfl (fun c27 => ?_) (fun c27 => ?_)
  · have hF := x_t hF c27
    refine g_iloadn d_X7_inFirstOrder_56 rfl ?_
    obtain ⟨rfl, rfl⟩ := x_inj hF
    exact g_iret d_X7_inFirstOrder_57 rfl hq
  · have hF := x_f hF c27
    refine g_aloadn d_X7_inFirstOrder_30 rfl ?_
    refine g_iloadn d_X7_inFirstOrder_31 rfl ?_
    refine g_iloadn d_X7_inFirstOrder_32 rfl ?_
    obtain ⟨_, g33, hF⟩ := Option.bind_eq_some_iff.mp hF
    obtain ⟨⟨r33, h33⟩, e33, hF⟩ := Option.bind_eq_some_iff.mp hF
    try dsimp only at hF
    refine q_callV [.int x2, .int x3] [] rfl d_X7_inFirstOrder_33 v_X7_56 (by omega) rfl (Nat.le_of_ble_eq_true rfl) (rc_rc g33 (by decide) rfl) (R_X7_nextInOrder _ _ _ _ (by omega) e33) ?_
    refine q_istoren [.ref x0, .int x1, .int x2, .int (r33), .int x4] d_X7_inFirstOrder_36 (by decide) rfl ?_
    refine g_iloadn d_X7_inFirstOrder_37 rfl ?_
    refine g_ic (-1) d_X7_inFirstOrder_38 ic_m1 ?_
    refine g_icmp_ne 44 d_X7_inFirstOrder_39 rfl (fun c39 => ?_) (fun c39 => ?_)
    · have hF := x_t hF c39
      refine g_iloadn d_X7_inFirstOrder_44 rfl ?_
      refine g_ic (1) d_X7_inFirstOrder_45 ic_1 ?_
      refine g_iloadn d_X7_inFirstOrder_46 rfl ?_
      refine g_ishl d_X7_inFirstOrder_47 ?_
      refine g_ior d_X7_inFirstOrder_48 ?_
      refine q_istoren [.ref x0, .int x1, .int (x2 ||| (((1 : Int32)) <<< (r33 &&& 31))), .int (r33), .int x4] d_X7_inFirstOrder_49 (by decide) rfl ?_
      refine q_iinc (1) [.ref x0, .int x1, .int (x2 ||| (((1 : Int32)) <<< (r33 &&& 31))), .int (r33), .int (x4 + 1)] d_X7_inFirstOrder_50 ic_1 rfl (by decide) rfl ?_
      refine g_goto 24 d_X7_inFirstOrder_53 rfl ?_
      exact q_to (xs_r (xs_r (xs_r (xs_r (xs_r xs_n))))) (ih _ _ _ _ _ _ hF)
    · have hF := x_f hF (not_not_intro c39)
      refine g_ic (-1) d_X7_inFirstOrder_42 ic_m1 ?_
      obtain ⟨rfl, rfl⟩ := x_inj hF
      exact g_iret d_X7_inFirstOrder_43 rfl hq
def F_X7_inFirstOrder (x0 : Nat) (x1 : Int32) (h : xH) : Option (Int32 × xH) := (fI h x0 6 0).bind fun v2 => if v2 ≤ x1 then some ((-1), h) else (rc h x0 6).bind fun _ => (F_X7_countOrders x0 h).bind fun z9 => if ¬ z9.1 = 0 then F_X7_inFirstOrder_b24 FU x0 x1 0 ((-1)) 0 z9.2 else some ((-1), z9.2)
theorem R_X7_inFirstOrder {Γ : xG} {l : Launch} {d : Nat} {r : Int32} {h' : xH} (x0 : Nat) (x1 : Int32) (h : xH) (hdp : 3 ≤ d) (hF : F_X7_inFirstOrder x0 x1 h = some (r, h')) : Gm Γ l d 0 0 m_X7_inFirstOrder [.ref x0, .int x1] h (fun a u => a = some (.int r) ∧ u = h') := by
  refine Gm.of pn_X7 (Nat.le_of_ble_eq_true rfl) ?_
  show Gd Γ l d m_X7_inFirstOrder 0 [.ref x0, .int x1, xhole, xhole, xhole] [] h 0 0 _
  generalize hQ : (fun (a : Option Value) (u : xH) => a = some (.int r) ∧ u = h') = Q
  have hq : Q (some (.int r)) h' := by rw [← hQ]; exact ⟨rfl, rfl⟩
  clear hQ
  unfold F_X7_inFirstOrder at hF
  refine g_iloadn d_X7_inFirstOrder_0 rfl ?_
  refine g_aloadn d_X7_inFirstOrder_1 rfl ?_
  obtain ⟨v2, e2, hF⟩ := Option.bind_eq_some_iff.mp hF
  refine q_fI d_X7_inFirstOrder_2 f_X7_9 e2 ?_
  refine g_icmp_ge 15 d_X7_inFirstOrder_5 rfl (fun c5 => ?_) (fun c5 => ?_)
  · have hF := x_t hF c5
    refine g_ic (-1) d_X7_inFirstOrder_15 ic_m1 ?_
    obtain ⟨rfl, rfl⟩ := x_inj hF
    exact g_iret d_X7_inFirstOrder_16 rfl hq
  · have hF := x_f hF c5
    refine g_aloadn d_X7_inFirstOrder_8 rfl ?_
    obtain ⟨_, g9, hF⟩ := Option.bind_eq_some_iff.mp hF
    obtain ⟨⟨r9, h9⟩, e9, hF⟩ := Option.bind_eq_some_iff.mp hF
    try dsimp only at hF
    refine q_callV [] [] rfl d_X7_inFirstOrder_9 v_X7_52 (by omega) rfl (Nat.le_of_ble_eq_true rfl) (rc_rc g9 (by decide) rfl) (R_X7_countOrders _ _ (by omega) e9) ?_
    refine g_if_ne 17 d_X7_inFirstOrder_12 rfl (fun c12 => ?_) (fun c12 => ?_)
    · have hF := x_t hF c12
      refine g_ic (0) d_X7_inFirstOrder_17 ic_0 ?_
      refine q_istoren [.ref x0, .int x1, .int 0, xhole, xhole] d_X7_inFirstOrder_18 (by decide) rfl ?_
      refine g_ic (-1) d_X7_inFirstOrder_19 ic_m1 ?_
      refine q_istoren [.ref x0, .int x1, .int 0, .int ((-1)), xhole] d_X7_inFirstOrder_20 (by decide) rfl ?_
      refine g_ic (0) d_X7_inFirstOrder_21 ic_0 ?_
      refine q_istore [.ref x0, .int x1, .int 0, .int ((-1)), .int 0] d_X7_inFirstOrder_22 (by decide) rfl ?_
      exact q_to (xs_r (xs_r (xs_r (xs_r (xs_r xs_n))))) (R_X7_inFirstOrder_b24 hdp hq FU _ _ _ _ _ _ hF)
    · have hF := x_f hF (not_not_intro c12)
      refine g_ic (-1) d_X7_inFirstOrder_15 ic_m1 ?_
      obtain ⟨rfl, rfl⟩ := x_inj hF
      exact g_iret d_X7_inFirstOrder_16 rfl hq
theorem d_X7_countPairs_0 : decode cX7_countPairs 0 = .ok (.iconst 1, 1) := by decide +kernel
theorem d_X7_countPairs_1 : decode cX7_countPairs 1 = .ok (.aload_n 0, 1) := by decide +kernel
theorem d_X7_countPairs_2 : decode cX7_countPairs 2 = .ok (.getfield 9, 3) := by decide +kernel
theorem d_X7_countPairs_5 : decode cX7_countPairs 5 = .ok (.ishl, 1) := by decide +kernel
theorem d_X7_countPairs_6 : decode cX7_countPairs 6 = .ok (.iconst 1, 1) := by decide +kernel
theorem d_X7_countPairs_7 : decode cX7_countPairs 7 = .ok (.isub, 1) := by decide +kernel
theorem d_X7_countPairs_8 : decode cX7_countPairs 8 = .ok (.istore_n 1, 1) := by decide +kernel
theorem d_X7_countPairs_9 : decode cX7_countPairs 9 = .ok (.aload_n 0, 1) := by decide +kernel
theorem d_X7_countPairs_10 : decode cX7_countPairs 10 = .ok (.getfield 25, 3) := by decide +kernel
theorem d_X7_countPairs_13 : decode cX7_countPairs 13 = .ok (.iconst 0, 1) := by decide +kernel
theorem d_X7_countPairs_14 : decode cX7_countPairs 14 = .ok (.iconst 0, 1) := by decide +kernel
theorem d_X7_countPairs_15 : decode cX7_countPairs 15 = .ok (.iastore, 1) := by decide +kernel
theorem d_X7_countPairs_16 : decode cX7_countPairs 16 = .ok (.iconst 1, 1) := by decide +kernel
theorem d_X7_countPairs_17 : decode cX7_countPairs 17 = .ok (.istore_n 2, 1) := by decide +kernel
theorem d_X7_countPairs_18 : decode cX7_countPairs 18 = .ok (.iload_n 2, 1) := by decide +kernel
theorem d_X7_countPairs_19 : decode cX7_countPairs 19 = .ok (.iload_n 1, 1) := by decide +kernel
theorem d_X7_countPairs_20 : decode cX7_countPairs 20 = .ok (.if_icmp .gt 102, 3) := by decide +kernel
theorem d_X7_countPairs_23 : decode cX7_countPairs 23 = .ok (.iload_n 2, 1) := by decide +kernel
theorem d_X7_countPairs_24 : decode cX7_countPairs 24 = .ok (.invokestatic 59, 3) := by decide +kernel
theorem d_X7_countPairs_27 : decode cX7_countPairs 27 = .ok (.istore_n 3, 1) := by decide +kernel
theorem d_X7_countPairs_28 : decode cX7_countPairs 28 = .ok (.iload_n 2, 1) := by decide +kernel
theorem d_X7_countPairs_29 : decode cX7_countPairs 29 = .ok (.iload_n 2, 1) := by decide +kernel
theorem d_X7_countPairs_30 : decode cX7_countPairs 30 = .ok (.iconst 1, 1) := by decide +kernel
theorem d_X7_countPairs_31 : decode cX7_countPairs 31 = .ok (.isub, 1) := by decide +kernel
theorem d_X7_countPairs_32 : decode cX7_countPairs 32 = .ok (.iand, 1) := by decide +kernel
theorem d_X7_countPairs_33 : decode cX7_countPairs 33 = .ok (.istore 4, 2) := by decide +kernel
theorem d_X7_countPairs_35 : decode cX7_countPairs 35 = .ok (.aload_n 0, 1) := by decide +kernel
theorem d_X7_countPairs_36 : decode cX7_countPairs 36 = .ok (.getfield 25, 3) := by decide +kernel
theorem d_X7_countPairs_39 : decode cX7_countPairs 39 = .ok (.iload 4, 2) := by decide +kernel
theorem d_X7_countPairs_41 : decode cX7_countPairs 41 = .ok (.iaload, 1) := by decide +kernel
theorem d_X7_countPairs_42 : decode cX7_countPairs 42 = .ok (.istore 5, 2) := by decide +kernel
theorem d_X7_countPairs_44 : decode cX7_countPairs 44 = .ok (.iload_n 3, 1) := by decide +kernel
theorem d_X7_countPairs_45 : decode cX7_countPairs 45 = .ok (.iconst 1, 1) := by decide +kernel
theorem d_X7_countPairs_46 : decode cX7_countPairs 46 = .ok (.iadd, 1) := by decide +kernel
theorem d_X7_countPairs_47 : decode cX7_countPairs 47 = .ok (.istore 6, 2) := by decide +kernel
theorem d_X7_countPairs_49 : decode cX7_countPairs 49 = .ok (.iload 6, 2) := by decide +kernel
theorem d_X7_countPairs_51 : decode cX7_countPairs 51 = .ok (.aload_n 0, 1) := by decide +kernel
theorem d_X7_countPairs_52 : decode cX7_countPairs 52 = .ok (.getfield 9, 3) := by decide +kernel
theorem d_X7_countPairs_55 : decode cX7_countPairs 55 = .ok (.if_icmp .ge 53, 3) := by decide +kernel
theorem d_X7_countPairs_58 : decode cX7_countPairs 58 = .ok (.iload 4, 2) := by decide +kernel
theorem d_X7_countPairs_60 : decode cX7_countPairs 60 = .ok (.iload 6, 2) := by decide +kernel
theorem d_X7_countPairs_62 : decode cX7_countPairs 62 = .ok (.ishr, 1) := by decide +kernel
theorem d_X7_countPairs_63 : decode cX7_countPairs 63 = .ok (.iconst 1, 1) := by decide +kernel
theorem d_X7_countPairs_64 : decode cX7_countPairs 64 = .ok (.iand, 1) := by decide +kernel
theorem d_X7_countPairs_65 : decode cX7_countPairs 65 = .ok (.iconst 1, 1) := by decide +kernel
theorem d_X7_countPairs_66 : decode cX7_countPairs 66 = .ok (.if_icmp .ne 36, 3) := by decide +kernel
theorem d_X7_countPairs_69 : decode cX7_countPairs 69 = .ok (.aload_n 0, 1) := by decide +kernel
theorem d_X7_countPairs_70 : decode cX7_countPairs 70 = .ok (.iload_n 3, 1) := by decide +kernel
theorem d_X7_countPairs_71 : decode cX7_countPairs 71 = .ok (.iload 6, 2) := by decide +kernel
theorem d_X7_countPairs_73 : decode cX7_countPairs 73 = .ok (.invokevirtual 49, 3) := by decide +kernel
theorem d_X7_countPairs_76 : decode cX7_countPairs 76 = .ok (.ifCond .eq 26, 3) := by decide +kernel
theorem d_X7_countPairs_79 : decode cX7_countPairs 79 = .ok (.iload 5, 2) := by decide +kernel
theorem d_X7_countPairs_81 : decode cX7_countPairs 81 = .ok (.iconst 1, 1) := by decide +kernel
theorem d_X7_countPairs_82 : decode cX7_countPairs 82 = .ok (.aload_n 0, 1) := by decide +kernel
theorem d_X7_countPairs_83 : decode cX7_countPairs 83 = .ok (.getfield 25, 3) := by decide +kernel
theorem d_X7_countPairs_86 : decode cX7_countPairs 86 = .ok (.iload 4, 2) := by decide +kernel
theorem d_X7_countPairs_88 : decode cX7_countPairs 88 = .ok (.iconst 1, 1) := by decide +kernel
theorem d_X7_countPairs_89 : decode cX7_countPairs 89 = .ok (.iload 6, 2) := by decide +kernel
theorem d_X7_countPairs_91 : decode cX7_countPairs 91 = .ok (.ishl, 1) := by decide +kernel
theorem d_X7_countPairs_92 : decode cX7_countPairs 92 = .ok (.iconst (-1), 1) := by decide +kernel
theorem d_X7_countPairs_93 : decode cX7_countPairs 93 = .ok (.ixor, 1) := by decide +kernel
theorem d_X7_countPairs_94 : decode cX7_countPairs 94 = .ok (.iand, 1) := by decide +kernel
theorem d_X7_countPairs_95 : decode cX7_countPairs 95 = .ok (.iaload, 1) := by decide +kernel
theorem d_X7_countPairs_96 : decode cX7_countPairs 96 = .ok (.iadd, 1) := by decide +kernel
theorem d_X7_countPairs_97 : decode cX7_countPairs 97 = .ok (.invokestatic 62, 3) := by decide +kernel
theorem d_X7_countPairs_100 : decode cX7_countPairs 100 = .ok (.istore 5, 2) := by decide +kernel
theorem d_X7_countPairs_102 : decode cX7_countPairs 102 = .ok (.iinc 6 1, 3) := by decide +kernel
theorem d_X7_countPairs_105 : decode cX7_countPairs 105 = .ok (.goto (-56), 3) := by decide +kernel
theorem d_X7_countPairs_108 : decode cX7_countPairs 108 = .ok (.aload_n 0, 1) := by decide +kernel
theorem d_X7_countPairs_109 : decode cX7_countPairs 109 = .ok (.getfield 25, 3) := by decide +kernel
theorem d_X7_countPairs_112 : decode cX7_countPairs 112 = .ok (.iload_n 2, 1) := by decide +kernel
theorem d_X7_countPairs_113 : decode cX7_countPairs 113 = .ok (.iload 5, 2) := by decide +kernel
theorem d_X7_countPairs_115 : decode cX7_countPairs 115 = .ok (.iastore, 1) := by decide +kernel
theorem d_X7_countPairs_116 : decode cX7_countPairs 116 = .ok (.iinc 2 1, 3) := by decide +kernel
theorem d_X7_countPairs_119 : decode cX7_countPairs 119 = .ok (.goto (-101), 3) := by decide +kernel
theorem d_X7_countPairs_122 : decode cX7_countPairs 122 = .ok (.aload_n 0, 1) := by decide +kernel
theorem d_X7_countPairs_123 : decode cX7_countPairs 123 = .ok (.getfield 25, 3) := by decide +kernel
theorem d_X7_countPairs_126 : decode cX7_countPairs 126 = .ok (.iload_n 1, 1) := by decide +kernel
theorem d_X7_countPairs_127 : decode cX7_countPairs 127 = .ok (.iaload, 1) := by decide +kernel
theorem d_X7_countPairs_128 : decode cX7_countPairs 128 = .ok (.ireturn, 1) := by decide +kernel
def F_X7_countPairs_b49 (k18 : Nat → Int32 → Int32 → xH → Option (Int32 × xH)) : Nat → Nat → Int32 → Int32 → Int32 → Int32 → Int32 → Int32 → xH → Option (Int32 × xH)
  | 0, _, _, _, _, _, _, _, _ => none
  | n + 1, x0, x1, x2, x3, x4, x5, x6, h => (fI h x0 6 0).bind fun v52 => if v52 ≤ x6 then (fR h x0 6 4).bind fun v109 => (sI h v109 x2 x5).bind fun h115 => k18 x0 x1 (x2 + 1) h115 else if ¬ ((x4 >>> (x6 &&& 31)) &&& 1) = ((1 : Int32)) then F_X7_countPairs_b49 k18 n x0 x1 x2 x3 x4 x5 (x6 + 1) h else (rc h x0 6).bind fun _ => (F_X7_fit x0 x3 x6 h).bind fun z73 => if z73.1 = 0 then F_X7_countPairs_b49 k18 n x0 x1 x2 x3 x4 x5 (x6 + 1) z73.2 else (fR z73.2 x0 6 4).bind fun v83 => (aI z73.2 v83 (x4 &&& ((((1 : Int32)) <<< (x6 &&& 31)) ^^^ ((-1))))).bind fun v95 => (F_J9_max_7cf53 x5 (((1 : Int32)) + v95) z73.2).bind fun z97 => F_X7_countPairs_b49 k18 n x0 x1 x2 x3 x4 z97.1 (x6 + 1) z97.2
theorem R_X7_countPairs_b49 {Γ : xG} {l : Launch} {d : Nat} {Q : Option Value → xH → Prop} {r : Int32} {h' : xH} {k18 : Nat → Int32 → Int32 → xH → Option (Int32 × xH)} (K18 : ∀ (x0 : Nat) (x1 : Int32) (x2 : Int32)  (h : xH), k18 x0 x1 x2 h = some (r, h') → Gd Γ l d m_X7_countPairs 18 [.ref x0, .int x1, .int x2, xhole, xhole, xhole, xhole] [] h 0 0 Q) (hdp : 1 ≤ d) (hq : Q (some (.int r)) h') : ∀ (n : Nat) (x0 : Nat) (x1 : Int32) (x2 : Int32) (x3 : Int32) (x4 : Int32) (x5 : Int32) (x6 : Int32) (h : xH), F_X7_countPairs_b49 k18 n x0 x1 x2 x3 x4 x5 x6 h = some (r, h') → Gd Γ l d m_X7_countPairs 49 [.ref x0, .int x1, .int x2, .int x3, .int x4, .int x5, .int x6] [] h 0 0 Q := by
  intro n
  induction n with
  | zero => intro x0 x1 x2 x3 x4 x5 x6 h hF; cases hF
  | succ n ih =>
  intro x0 x1 x2 x3 x4 x5 x6 h hF
  rw [F_X7_countPairs_b49] at hF
  refine g_iload d_X7_countPairs_49 rfl ?_
  refine g_aloadn d_X7_countPairs_51 rfl ?_
  obtain ⟨v52, e52, hF⟩ := Option.bind_eq_some_iff.mp hF
  refine q_fI d_X7_countPairs_52 f_X7_9 e52 ?_
  refine g_icmp_ge 108 d_X7_countPairs_55 rfl (fun c55 => ?_) (fun c55 => ?_)
  · have hF := x_t hF c55
    refine g_aloadn d_X7_countPairs_108 rfl ?_
    obtain ⟨v109, e109, hF⟩ := Option.bind_eq_some_iff.mp hF
    refine q_fR d_X7_countPairs_109 f_X7_25 e109 ?_
    refine g_iloadn d_X7_countPairs_112 rfl ?_
    refine g_iload d_X7_countPairs_113 rfl ?_
    obtain ⟨h115, e115, hF⟩ := Option.bind_eq_some_iff.mp hF
    refine q_sI d_X7_countPairs_115 e115 ?_
    refine q_iinc (1) [.ref x0, .int x1, .int (x2 + 1), .int x3, .int x4, .int x5, .int x6] d_X7_countPairs_116 ic_1 rfl (by decide) rfl ?_
    refine g_goto 18 d_X7_countPairs_119 rfl ?_
    exact q_to (xs_r (xs_r (xs_r (xs_h (xs_h (xs_h (xs_h xs_n))))))) (K18 _ _ _ _ hF)
  · have hF := x_f hF c55
    refine g_iload d_X7_countPairs_58 rfl ?_
    refine g_iload d_X7_countPairs_60 rfl ?_
    refine g_ishr d_X7_countPairs_62 ?_
    refine g_ic (1) d_X7_countPairs_63 ic_1 ?_
    refine g_iand d_X7_countPairs_64 ?_
    refine g_ic (1) d_X7_countPairs_65 ic_1 ?_
    refine g_icmp_ne 102 d_X7_countPairs_66 rfl (fun c66 => ?_) (fun c66 => ?_)
    · have hF := x_t hF c66
      refine q_iinc (1) [.ref x0, .int x1, .int x2, .int x3, .int x4, .int x5, .int (x6 + 1)] d_X7_countPairs_102 ic_1 rfl (by decide) rfl ?_
      refine g_goto 49 d_X7_countPairs_105 rfl ?_
      exact q_to (xs_r (xs_r (xs_r (xs_r (xs_r (xs_r (xs_r xs_n))))))) (ih _ _ _ _ _ _ _ _ hF)
    · have hF := x_f hF (not_not_intro c66)
      refine g_aloadn d_X7_countPairs_69 rfl ?_
      refine g_iloadn d_X7_countPairs_70 rfl ?_
      refine g_iload d_X7_countPairs_71 rfl ?_
      obtain ⟨_, g73, hF⟩ := Option.bind_eq_some_iff.mp hF
      obtain ⟨⟨r73, h73⟩, e73, hF⟩ := Option.bind_eq_some_iff.mp hF
      try dsimp only at hF
      refine q_callV [.int x3, .int x6] [] rfl d_X7_countPairs_73 v_X7_49 (by omega) rfl (Nat.le_of_ble_eq_true rfl) (rc_rc g73 (by decide) rfl) (R_X7_fit _ _ _ _ (by omega) e73) ?_
      refine g_if_eq 102 d_X7_countPairs_76 rfl (fun c76 => ?_) (fun c76 => ?_)
      · have hF := x_t hF c76
        refine q_iinc (1) [.ref x0, .int x1, .int x2, .int x3, .int x4, .int x5, .int (x6 + 1)] d_X7_countPairs_102 ic_1 rfl (by decide) rfl ?_
        refine g_goto 49 d_X7_countPairs_105 rfl ?_
        exact q_to (xs_r (xs_r (xs_r (xs_r (xs_r (xs_r (xs_r xs_n))))))) (ih _ _ _ _ _ _ _ _ hF)
      · have hF := x_f hF c76
        refine g_iload d_X7_countPairs_79 rfl ?_
        refine g_ic (1) d_X7_countPairs_81 ic_1 ?_
        refine g_aloadn d_X7_countPairs_82 rfl ?_
        obtain ⟨v83, e83, hF⟩ := Option.bind_eq_some_iff.mp hF
        refine q_fR d_X7_countPairs_83 f_X7_25 e83 ?_
        refine g_iload d_X7_countPairs_86 rfl ?_
        refine g_ic (1) d_X7_countPairs_88 ic_1 ?_
        refine g_iload d_X7_countPairs_89 rfl ?_
        refine g_ishl d_X7_countPairs_91 ?_
        refine g_ic (-1) d_X7_countPairs_92 ic_m1 ?_
        refine g_ixor d_X7_countPairs_93 ?_
        refine g_iand d_X7_countPairs_94 ?_
        obtain ⟨v95, e95, hF⟩ := Option.bind_eq_some_iff.mp hF
        refine q_aI d_X7_countPairs_95 e95 ?_
        refine g_iadd d_X7_countPairs_96 ?_
        obtain ⟨⟨r97, h97⟩, e97, hF⟩ := Option.bind_eq_some_iff.mp hF
        try dsimp only at hF
        refine q_callS [.int x5, .int (((1 : Int32)) + v95)] [] rfl d_X7_countPairs_97 s_X7_62 (by omega) rfl (Nat.le_of_ble_eq_true rfl) (R_J9_max_7cf53 _ _ _ (by omega) e97) ?_
        refine q_istore [.ref x0, .int x1, .int x2, .int x3, .int x4, .int (r97), .int x6] d_X7_countPairs_100 (by decide) rfl ?_
        refine q_iinc (1) [.ref x0, .int x1, .int x2, .int x3, .int x4, .int (r97), .int (x6 + 1)] d_X7_countPairs_102 ic_1 rfl (by decide) rfl ?_
        refine g_goto 49 d_X7_countPairs_105 rfl ?_
        exact q_to (xs_r (xs_r (xs_r (xs_r (xs_r (xs_r (xs_r xs_n))))))) (ih _ _ _ _ _ _ _ _ hF)
def F_X7_countPairs_b18 : Nat → Nat → Int32 → Int32 → xH → Option (Int32 × xH)
  | 0, _, _, _, _ => none
  | n + 1, x0, x1, x2, h => if x1 < x2 then (fR h x0 6 4).bind fun v123 => (aI h v123 x1).bind fun v127 => some (v127, h) else (F_J6_numberOfTrailingZeros_0f7a4 x2 h).bind fun z24 => (fR z24.2 x0 6 4).bind fun v36 => (aI z24.2 v36 (x2 &&& (x2 - 1))).bind fun v41 => F_X7_countPairs_b49 (F_X7_countPairs_b18 n) FU x0 x1 x2 z24.1 (x2 &&& (x2 - 1)) v41 (z24.1 + 1) z24.2
theorem R_X7_countPairs_b18 {Γ : xG} {l : Launch} {d : Nat} {Q : Option Value → xH → Prop} {r : Int32} {h' : xH} (hdp : 1 ≤ d) (hq : Q (some (.int r)) h') : ∀ (n : Nat) (x0 : Nat) (x1 : Int32) (x2 : Int32) (h : xH), F_X7_countPairs_b18 n x0 x1 x2 h = some (r, h') → Gd Γ l d m_X7_countPairs 18 [.ref x0, .int x1, .int x2, xhole, xhole, xhole, xhole] [] h 0 0 Q := by
  intro n
  induction n with
  | zero => intro x0 x1 x2 h hF; cases hF
  | succ n ih =>
  intro x0 x1 x2 h hF
  rw [F_X7_countPairs_b18] at hF
  refine g_iloadn d_X7_countPairs_18 rfl ?_
  refine g_iloadn d_X7_countPairs_19 rfl ?_
  refine g_icmp_gt 122 d_X7_countPairs_20 rfl (fun c20 => ?_) (fun c20 => ?_)
  · have hF := x_t hF c20
    refine g_aloadn d_X7_countPairs_122 rfl ?_
    obtain ⟨v123, e123, hF⟩ := Option.bind_eq_some_iff.mp hF
    refine q_fR d_X7_countPairs_123 f_X7_25 e123 ?_
    refine g_iloadn d_X7_countPairs_126 rfl ?_
    obtain ⟨v127, e127, hF⟩ := Option.bind_eq_some_iff.mp hF
    refine q_aI d_X7_countPairs_127 e127 ?_
    obtain ⟨rfl, rfl⟩ := x_inj hF
    exact g_iret d_X7_countPairs_128 rfl hq
  · have hF := x_f hF c20
    refine g_iloadn d_X7_countPairs_23 rfl ?_
    obtain ⟨⟨r24, h24⟩, e24, hF⟩ := Option.bind_eq_some_iff.mp hF
    try dsimp only at hF
    refine q_callS [.int x2] [] rfl d_X7_countPairs_24 s_X7_59 (by omega) rfl (Nat.le_of_ble_eq_true rfl) (R_J6_numberOfTrailingZeros_0f7a4 _ _ (by omega) e24) ?_
    refine q_istoren [.ref x0, .int x1, .int x2, .int (r24), xhole, xhole, xhole] d_X7_countPairs_27 (by decide) rfl ?_
    refine g_iloadn d_X7_countPairs_28 rfl ?_
    refine g_iloadn d_X7_countPairs_29 rfl ?_
    refine g_ic (1) d_X7_countPairs_30 ic_1 ?_
    refine g_isub d_X7_countPairs_31 ?_
    refine g_iand d_X7_countPairs_32 ?_
    refine q_istore [.ref x0, .int x1, .int x2, .int (r24), .int (x2 &&& (x2 - 1)), xhole, xhole] d_X7_countPairs_33 (by decide) rfl ?_
    refine g_aloadn d_X7_countPairs_35 rfl ?_
    obtain ⟨v36, e36, hF⟩ := Option.bind_eq_some_iff.mp hF
    refine q_fR d_X7_countPairs_36 f_X7_25 e36 ?_
    refine g_iload d_X7_countPairs_39 rfl ?_
    obtain ⟨v41, e41, hF⟩ := Option.bind_eq_some_iff.mp hF
    refine q_aI d_X7_countPairs_41 e41 ?_
    refine q_istore [.ref x0, .int x1, .int x2, .int (r24), .int (x2 &&& (x2 - 1)), .int v41, xhole] d_X7_countPairs_42 (by decide) rfl ?_
    refine g_iloadn d_X7_countPairs_44 rfl ?_
    refine g_ic (1) d_X7_countPairs_45 ic_1 ?_
    refine g_iadd d_X7_countPairs_46 ?_
    refine q_istore [.ref x0, .int x1, .int x2, .int (r24), .int (x2 &&& (x2 - 1)), .int v41, .int (r24 + 1)] d_X7_countPairs_47 (by decide) rfl ?_
    exact q_to (xs_r (xs_r (xs_r (xs_r (xs_r (xs_r (xs_r xs_n))))))) (R_X7_countPairs_b49 ih hdp hq FU _ _ _ _ _ _ _ _ hF)
def F_X7_countPairs (x0 : Nat) (h : xH) : Option (Int32 × xH) := (fI h x0 6 0).bind fun v2 => (fR h x0 6 4).bind fun v10 => (sI h v10 0 0).bind fun h15 => F_X7_countPairs_b18 FU x0 ((((1 : Int32)) <<< (v2 &&& 31)) - 1) 1 h15
theorem R_X7_countPairs {Γ : xG} {l : Launch} {d : Nat} {r : Int32} {h' : xH} (x0 : Nat) (h : xH) (hdp : 1 ≤ d) (hF : F_X7_countPairs x0 h = some (r, h')) : Gm Γ l d 0 0 m_X7_countPairs [.ref x0] h (fun a u => a = some (.int r) ∧ u = h') := by
  refine Gm.of pn_X7 (Nat.le_of_ble_eq_true rfl) ?_
  show Gd Γ l d m_X7_countPairs 0 [.ref x0, xhole, xhole, xhole, xhole, xhole, xhole] [] h 0 0 _
  generalize hQ : (fun (a : Option Value) (u : xH) => a = some (.int r) ∧ u = h') = Q
  have hq : Q (some (.int r)) h' := by rw [← hQ]; exact ⟨rfl, rfl⟩
  clear hQ
  unfold F_X7_countPairs at hF
  refine g_ic (1) d_X7_countPairs_0 ic_1 ?_
  refine g_aloadn d_X7_countPairs_1 rfl ?_
  obtain ⟨v2, e2, hF⟩ := Option.bind_eq_some_iff.mp hF
  refine q_fI d_X7_countPairs_2 f_X7_9 e2 ?_
  refine g_ishl d_X7_countPairs_5 ?_
  refine g_ic (1) d_X7_countPairs_6 ic_1 ?_
  refine g_isub d_X7_countPairs_7 ?_
  refine q_istoren [.ref x0, .int ((((1 : Int32)) <<< (v2 &&& 31)) - 1), xhole, xhole, xhole, xhole, xhole] d_X7_countPairs_8 (by decide) rfl ?_
  refine g_aloadn d_X7_countPairs_9 rfl ?_
  obtain ⟨v10, e10, hF⟩ := Option.bind_eq_some_iff.mp hF
  refine q_fR d_X7_countPairs_10 f_X7_25 e10 ?_
  refine g_ic (0) d_X7_countPairs_13 ic_0 ?_
  refine g_ic (0) d_X7_countPairs_14 ic_0 ?_
  obtain ⟨h15, e15, hF⟩ := Option.bind_eq_some_iff.mp hF
  refine q_sI d_X7_countPairs_15 e15 ?_
  refine g_ic (1) d_X7_countPairs_16 ic_1 ?_
  refine q_istoren [.ref x0, .int ((((1 : Int32)) <<< (v2 &&& 31)) - 1), .int 1, xhole, xhole, xhole, xhole] d_X7_countPairs_17 (by decide) rfl ?_
  exact q_to (xs_r (xs_r (xs_r (xs_h (xs_h (xs_h (xs_h xs_n))))))) (R_X7_countPairs_b18 hdp hq FU _ _ _ _ hF)
theorem d_X7_firstPartner_0 : decode cX7_firstPartner 0 = .ok (.iload_n 2, 1) := by decide +kernel
theorem d_X7_firstPartner_1 : decode cX7_firstPartner 1 = .ok (.iconst 1, 1) := by decide +kernel
theorem d_X7_firstPartner_2 : decode cX7_firstPartner 2 = .ok (.iload_n 1, 1) := by decide +kernel
theorem d_X7_firstPartner_3 : decode cX7_firstPartner 3 = .ok (.ishl, 1) := by decide +kernel
theorem d_X7_firstPartner_4 : decode cX7_firstPartner 4 = .ok (.iconst (-1), 1) := by decide +kernel
theorem d_X7_firstPartner_5 : decode cX7_firstPartner 5 = .ok (.ixor, 1) := by decide +kernel
theorem d_X7_firstPartner_6 : decode cX7_firstPartner 6 = .ok (.iand, 1) := by decide +kernel
theorem d_X7_firstPartner_7 : decode cX7_firstPartner 7 = .ok (.istore_n 3, 1) := by decide +kernel
theorem d_X7_firstPartner_8 : decode cX7_firstPartner 8 = .ok (.iload_n 1, 1) := by decide +kernel
theorem d_X7_firstPartner_9 : decode cX7_firstPartner 9 = .ok (.iconst 1, 1) := by decide +kernel
theorem d_X7_firstPartner_10 : decode cX7_firstPartner 10 = .ok (.iadd, 1) := by decide +kernel
theorem d_X7_firstPartner_11 : decode cX7_firstPartner 11 = .ok (.istore 4, 2) := by decide +kernel
theorem d_X7_firstPartner_13 : decode cX7_firstPartner 13 = .ok (.iload 4, 2) := by decide +kernel
theorem d_X7_firstPartner_15 : decode cX7_firstPartner 15 = .ok (.aload_n 0, 1) := by decide +kernel
theorem d_X7_firstPartner_16 : decode cX7_firstPartner 16 = .ok (.getfield 9, 3) := by decide +kernel
theorem d_X7_firstPartner_19 : decode cX7_firstPartner 19 = .ok (.if_icmp .ge 68, 3) := by decide +kernel
theorem d_X7_firstPartner_22 : decode cX7_firstPartner 22 = .ok (.iload_n 3, 1) := by decide +kernel
theorem d_X7_firstPartner_23 : decode cX7_firstPartner 23 = .ok (.iload 4, 2) := by decide +kernel
theorem d_X7_firstPartner_25 : decode cX7_firstPartner 25 = .ok (.ishr, 1) := by decide +kernel
theorem d_X7_firstPartner_26 : decode cX7_firstPartner 26 = .ok (.iconst 1, 1) := by decide +kernel
theorem d_X7_firstPartner_27 : decode cX7_firstPartner 27 = .ok (.iand, 1) := by decide +kernel
theorem d_X7_firstPartner_28 : decode cX7_firstPartner 28 = .ok (.iconst 1, 1) := by decide +kernel
theorem d_X7_firstPartner_29 : decode cX7_firstPartner 29 = .ok (.if_icmp .ne 7, 3) := by decide +kernel
theorem d_X7_firstPartner_32 : decode cX7_firstPartner 32 = .ok (.iconst 1, 1) := by decide +kernel
theorem d_X7_firstPartner_33 : decode cX7_firstPartner 33 = .ok (.goto 4, 3) := by decide +kernel
theorem d_X7_firstPartner_36 : decode cX7_firstPartner 36 = .ok (.iconst 0, 1) := by decide +kernel
theorem d_X7_firstPartner_37 : decode cX7_firstPartner 37 = .ok (.istore 5, 2) := by decide +kernel
theorem d_X7_firstPartner_39 : decode cX7_firstPartner 39 = .ok (.iload 5, 2) := by decide +kernel
theorem d_X7_firstPartner_41 : decode cX7_firstPartner 41 = .ok (.ifCond .eq 40, 3) := by decide +kernel
theorem d_X7_firstPartner_44 : decode cX7_firstPartner 44 = .ok (.aload_n 0, 1) := by decide +kernel
theorem d_X7_firstPartner_45 : decode cX7_firstPartner 45 = .ok (.iload_n 1, 1) := by decide +kernel
theorem d_X7_firstPartner_46 : decode cX7_firstPartner 46 = .ok (.iload 4, 2) := by decide +kernel
theorem d_X7_firstPartner_48 : decode cX7_firstPartner 48 = .ok (.invokevirtual 49, 3) := by decide +kernel
theorem d_X7_firstPartner_51 : decode cX7_firstPartner 51 = .ok (.ifCond .eq 30, 3) := by decide +kernel
theorem d_X7_firstPartner_54 : decode cX7_firstPartner 54 = .ok (.iconst 1, 1) := by decide +kernel
theorem d_X7_firstPartner_55 : decode cX7_firstPartner 55 = .ok (.aload_n 0, 1) := by decide +kernel
theorem d_X7_firstPartner_56 : decode cX7_firstPartner 56 = .ok (.getfield 25, 3) := by decide +kernel
theorem d_X7_firstPartner_59 : decode cX7_firstPartner 59 = .ok (.iload_n 3, 1) := by decide +kernel
theorem d_X7_firstPartner_60 : decode cX7_firstPartner 60 = .ok (.iconst 1, 1) := by decide +kernel
theorem d_X7_firstPartner_61 : decode cX7_firstPartner 61 = .ok (.iload 4, 2) := by decide +kernel
theorem d_X7_firstPartner_63 : decode cX7_firstPartner 63 = .ok (.ishl, 1) := by decide +kernel
theorem d_X7_firstPartner_64 : decode cX7_firstPartner 64 = .ok (.iconst (-1), 1) := by decide +kernel
theorem d_X7_firstPartner_65 : decode cX7_firstPartner 65 = .ok (.ixor, 1) := by decide +kernel
theorem d_X7_firstPartner_66 : decode cX7_firstPartner 66 = .ok (.iand, 1) := by decide +kernel
theorem d_X7_firstPartner_67 : decode cX7_firstPartner 67 = .ok (.iaload, 1) := by decide +kernel
theorem d_X7_firstPartner_68 : decode cX7_firstPartner 68 = .ok (.iadd, 1) := by decide +kernel
theorem d_X7_firstPartner_69 : decode cX7_firstPartner 69 = .ok (.aload_n 0, 1) := by decide +kernel
theorem d_X7_firstPartner_70 : decode cX7_firstPartner 70 = .ok (.getfield 25, 3) := by decide +kernel
theorem d_X7_firstPartner_73 : decode cX7_firstPartner 73 = .ok (.iload_n 2, 1) := by decide +kernel
theorem d_X7_firstPartner_74 : decode cX7_firstPartner 74 = .ok (.iaload, 1) := by decide +kernel
theorem d_X7_firstPartner_75 : decode cX7_firstPartner 75 = .ok (.if_icmp .ne 6, 3) := by decide +kernel
theorem d_X7_firstPartner_78 : decode cX7_firstPartner 78 = .ok (.iload 4, 2) := by decide +kernel
theorem d_X7_firstPartner_80 : decode cX7_firstPartner 80 = .ok (.ireturn, 1) := by decide +kernel
theorem d_X7_firstPartner_81 : decode cX7_firstPartner 81 = .ok (.iinc 4 1, 3) := by decide +kernel
theorem d_X7_firstPartner_84 : decode cX7_firstPartner 84 = .ok (.goto (-71), 3) := by decide +kernel
theorem d_X7_firstPartner_87 : decode cX7_firstPartner 87 = .ok (.iconst (-1), 1) := by decide +kernel
theorem d_X7_firstPartner_88 : decode cX7_firstPartner 88 = .ok (.ireturn, 1) := by decide +kernel
def F_X7_firstPartner_b37 (k13 : Nat → Int32 → Int32 → Int32 → Int32 → xH → Option (Int32 × xH)) (x0 : Nat) (x1 : Int32) (x2 : Int32) (x3 : Int32) (x4 : Int32) (s0 : Int32) (h : xH) : Option (Int32 × xH) := if s0 = 0 then k13 x0 x1 x2 x3 (x4 + 1) h else (rc h x0 6).bind fun _ => (F_X7_fit x0 x1 x4 h).bind fun z48 => if z48.1 = 0 then k13 x0 x1 x2 x3 (x4 + 1) z48.2 else (fR z48.2 x0 6 4).bind fun v56 => (aI z48.2 v56 (x3 &&& ((((1 : Int32)) <<< (x4 &&& 31)) ^^^ ((-1))))).bind fun v67 => (fR z48.2 x0 6 4).bind fun v70 => (aI z48.2 v70 x2).bind fun v74 => if ¬ (((1 : Int32)) + v67) = v74 then k13 x0 x1 x2 x3 (x4 + 1) z48.2 else some (x4, z48.2)
theorem R_X7_firstPartner_b37 {Γ : xG} {l : Launch} {d : Nat} {Q : Option Value → xH → Prop} {r : Int32} {h' : xH} {k13 : Nat → Int32 → Int32 → Int32 → Int32 → xH → Option (Int32 × xH)} (K13 : ∀ (x0 : Nat) (x1 : Int32) (x2 : Int32) (x3 : Int32) (x4 : Int32)  (h : xH), k13 x0 x1 x2 x3 x4 h = some (r, h') → Gd Γ l d m_X7_firstPartner 13 [.ref x0, .int x1, .int x2, .int x3, .int x4, xhole] [] h 0 0 Q) (hdp : 1 ≤ d) (hq : Q (some (.int r)) h') : ∀ (x0 : Nat) (x1 : Int32) (x2 : Int32) (x3 : Int32) (x4 : Int32) (s0 : Int32) (h : xH), F_X7_firstPartner_b37 k13 x0 x1 x2 x3 x4 s0 h = some (r, h') → Gd Γ l d m_X7_firstPartner 37 [.ref x0, .int x1, .int x2, .int x3, .int x4, xhole] [.int s0] h 0 0 Q := by
  intro x0 x1 x2 x3 x4 s0 h hF
  unfold F_X7_firstPartner_b37 at hF
  refine q_istore [.ref x0, .int x1, .int x2, .int x3, .int x4, .int s0] d_X7_firstPartner_37 (by decide) rfl ?_
  refine g_iload d_X7_firstPartner_39 rfl ?_
  refine g_if_eq 81 d_X7_firstPartner_41 rfl (fun c41 => ?_) (fun c41 => ?_)
  · have hF := x_t hF c41
    refine q_iinc (1) [.ref x0, .int x1, .int x2, .int x3, .int (x4 + 1), .int s0] d_X7_firstPartner_81 ic_1 rfl (by decide) rfl ?_
    refine g_goto 13 d_X7_firstPartner_84 rfl ?_
    exact q_to (xs_r (xs_r (xs_r (xs_r (xs_r (xs_h xs_n)))))) (K13 _ _ _ _ _ _ hF)
  · have hF := x_f hF c41
    refine g_aloadn d_X7_firstPartner_44 rfl ?_
    refine g_iloadn d_X7_firstPartner_45 rfl ?_
    refine g_iload d_X7_firstPartner_46 rfl ?_
    obtain ⟨_, g48, hF⟩ := Option.bind_eq_some_iff.mp hF
    obtain ⟨⟨r48, h48⟩, e48, hF⟩ := Option.bind_eq_some_iff.mp hF
    try dsimp only at hF
    refine q_callV [.int x1, .int x4] [] rfl d_X7_firstPartner_48 v_X7_49 (by omega) rfl (Nat.le_of_ble_eq_true rfl) (rc_rc g48 (by decide) rfl) (R_X7_fit _ _ _ _ (by omega) e48) ?_
    refine g_if_eq 81 d_X7_firstPartner_51 rfl (fun c51 => ?_) (fun c51 => ?_)
    · have hF := x_t hF c51
      refine q_iinc (1) [.ref x0, .int x1, .int x2, .int x3, .int (x4 + 1), .int s0] d_X7_firstPartner_81 ic_1 rfl (by decide) rfl ?_
      refine g_goto 13 d_X7_firstPartner_84 rfl ?_
      exact q_to (xs_r (xs_r (xs_r (xs_r (xs_r (xs_h xs_n)))))) (K13 _ _ _ _ _ _ hF)
    · have hF := x_f hF c51
      refine g_ic (1) d_X7_firstPartner_54 ic_1 ?_
      refine g_aloadn d_X7_firstPartner_55 rfl ?_
      obtain ⟨v56, e56, hF⟩ := Option.bind_eq_some_iff.mp hF
      refine q_fR d_X7_firstPartner_56 f_X7_25 e56 ?_
      refine g_iloadn d_X7_firstPartner_59 rfl ?_
      refine g_ic (1) d_X7_firstPartner_60 ic_1 ?_
      refine g_iload d_X7_firstPartner_61 rfl ?_
      refine g_ishl d_X7_firstPartner_63 ?_
      refine g_ic (-1) d_X7_firstPartner_64 ic_m1 ?_
      refine g_ixor d_X7_firstPartner_65 ?_
      refine g_iand d_X7_firstPartner_66 ?_
      obtain ⟨v67, e67, hF⟩ := Option.bind_eq_some_iff.mp hF
      refine q_aI d_X7_firstPartner_67 e67 ?_
      refine g_iadd d_X7_firstPartner_68 ?_
      refine g_aloadn d_X7_firstPartner_69 rfl ?_
      obtain ⟨v70, e70, hF⟩ := Option.bind_eq_some_iff.mp hF
      refine q_fR d_X7_firstPartner_70 f_X7_25 e70 ?_
      refine g_iloadn d_X7_firstPartner_73 rfl ?_
      obtain ⟨v74, e74, hF⟩ := Option.bind_eq_some_iff.mp hF
      refine q_aI d_X7_firstPartner_74 e74 ?_
      refine g_icmp_ne 81 d_X7_firstPartner_75 rfl (fun c75 => ?_) (fun c75 => ?_)
      · have hF := x_t hF c75
        refine q_iinc (1) [.ref x0, .int x1, .int x2, .int x3, .int (x4 + 1), .int s0] d_X7_firstPartner_81 ic_1 rfl (by decide) rfl ?_
        refine g_goto 13 d_X7_firstPartner_84 rfl ?_
        exact q_to (xs_r (xs_r (xs_r (xs_r (xs_r (xs_h xs_n)))))) (K13 _ _ _ _ _ _ hF)
      · have hF := x_f hF (not_not_intro c75)
        refine g_iload d_X7_firstPartner_78 rfl ?_
        obtain ⟨rfl, rfl⟩ := x_inj hF
        exact g_iret d_X7_firstPartner_80 rfl hq
def F_X7_firstPartner_b13 : Nat → Nat → Int32 → Int32 → Int32 → Int32 → xH → Option (Int32 × xH)
  | 0, _, _, _, _, _, _ => none
  | n + 1, x0, x1, x2, x3, x4, h => (fI h x0 6 0).bind fun v16 => if v16 ≤ x4 then some ((-1), h) else if ¬ ((x3 >>> (x4 &&& 31)) &&& 1) = ((1 : Int32)) then F_X7_firstPartner_b37 (F_X7_firstPartner_b13 n) x0 x1 x2 x3 x4 0 h else F_X7_firstPartner_b37 (F_X7_firstPartner_b13 n) x0 x1 x2 x3 x4 1 h
theorem R_X7_firstPartner_b13 {Γ : xG} {l : Launch} {d : Nat} {Q : Option Value → xH → Prop} {r : Int32} {h' : xH} (hdp : 1 ≤ d) (hq : Q (some (.int r)) h') : ∀ (n : Nat) (x0 : Nat) (x1 : Int32) (x2 : Int32) (x3 : Int32) (x4 : Int32) (h : xH), F_X7_firstPartner_b13 n x0 x1 x2 x3 x4 h = some (r, h') → Gd Γ l d m_X7_firstPartner 13 [.ref x0, .int x1, .int x2, .int x3, .int x4, xhole] [] h 0 0 Q := by
  intro n
  induction n with
  | zero => intro x0 x1 x2 x3 x4 h hF; cases hF
  | succ n ih =>
  intro x0 x1 x2 x3 x4 h hF
  rw [F_X7_firstPartner_b13] at hF
  refine g_iload d_X7_firstPartner_13 rfl ?_
  refine g_aloadn d_X7_firstPartner_15 rfl ?_
  obtain ⟨v16, e16, hF⟩ := Option.bind_eq_some_iff.mp hF
  refine q_fI d_X7_firstPartner_16 f_X7_9 e16 ?_
  refine g_icmp_ge 87 d_X7_firstPartner_19 rfl (fun c19 => ?_) (fun c19 => ?_)
  · have hF := x_t hF c19
    refine g_ic (-1) d_X7_firstPartner_87 ic_m1 ?_
    obtain ⟨rfl, rfl⟩ := x_inj hF
    exact g_iret d_X7_firstPartner_88 rfl hq
  · have hF := x_f hF c19
    refine g_iloadn d_X7_firstPartner_22 rfl ?_
    refine g_iload d_X7_firstPartner_23 rfl ?_
    refine g_ishr d_X7_firstPartner_25 ?_
    refine g_ic (1) d_X7_firstPartner_26 ic_1 ?_
    refine g_iand d_X7_firstPartner_27 ?_
    refine g_ic (1) d_X7_firstPartner_28 ic_1 ?_
    refine g_icmp_ne 36 d_X7_firstPartner_29 rfl (fun c29 => ?_) (fun c29 => ?_)
    · have hF := x_t hF c29
      refine g_ic (0) d_X7_firstPartner_36 ic_0 ?_
      exact q_to (xs_r (xs_r (xs_r (xs_r (xs_r (xs_h xs_n)))))) (R_X7_firstPartner_b37 ih hdp hq _ _ _ _ _ _ _ hF)
    · have hF := x_f hF (not_not_intro c29)
      refine g_ic (1) d_X7_firstPartner_32 ic_1 ?_
      refine g_goto 37 d_X7_firstPartner_33 rfl ?_
      exact q_to (xs_r (xs_r (xs_r (xs_r (xs_r (xs_h xs_n)))))) (R_X7_firstPartner_b37 ih hdp hq _ _ _ _ _ _ _ hF)
def F_X7_firstPartner (x0 : Nat) (x1 : Int32) (x2 : Int32) (h : xH) : Option (Int32 × xH) := F_X7_firstPartner_b13 FU x0 x1 x2 (x2 &&& ((((1 : Int32)) <<< (x1 &&& 31)) ^^^ ((-1)))) (x1 + 1) h
theorem R_X7_firstPartner {Γ : xG} {l : Launch} {d : Nat} {r : Int32} {h' : xH} (x0 : Nat) (x1 : Int32) (x2 : Int32) (h : xH) (hdp : 1 ≤ d) (hF : F_X7_firstPartner x0 x1 x2 h = some (r, h')) : Gm Γ l d 0 0 m_X7_firstPartner [.ref x0, .int x1, .int x2] h (fun a u => a = some (.int r) ∧ u = h') := by
  refine Gm.of pn_X7 (Nat.le_of_ble_eq_true rfl) ?_
  show Gd Γ l d m_X7_firstPartner 0 [.ref x0, .int x1, .int x2, xhole, xhole, xhole] [] h 0 0 _
  generalize hQ : (fun (a : Option Value) (u : xH) => a = some (.int r) ∧ u = h') = Q
  have hq : Q (some (.int r)) h' := by rw [← hQ]; exact ⟨rfl, rfl⟩
  clear hQ
  unfold F_X7_firstPartner at hF
  refine g_iloadn d_X7_firstPartner_0 rfl ?_
  refine g_ic (1) d_X7_firstPartner_1 ic_1 ?_
  refine g_iloadn d_X7_firstPartner_2 rfl ?_
  refine g_ishl d_X7_firstPartner_3 ?_
  refine g_ic (-1) d_X7_firstPartner_4 ic_m1 ?_
  refine g_ixor d_X7_firstPartner_5 ?_
  refine g_iand d_X7_firstPartner_6 ?_
  refine q_istoren [.ref x0, .int x1, .int x2, .int (x2 &&& ((((1 : Int32)) <<< (x1 &&& 31)) ^^^ ((-1)))), xhole, xhole] d_X7_firstPartner_7 (by decide) rfl ?_
  refine g_iloadn d_X7_firstPartner_8 rfl ?_
  refine g_ic (1) d_X7_firstPartner_9 ic_1 ?_
  refine g_iadd d_X7_firstPartner_10 ?_
  refine q_istore [.ref x0, .int x1, .int x2, .int (x2 &&& ((((1 : Int32)) <<< (x1 &&& 31)) ^^^ ((-1)))), .int (x1 + 1), xhole] d_X7_firstPartner_11 (by decide) rfl ?_
  exact q_to (xs_r (xs_r (xs_r (xs_r (xs_r (xs_h xs_n)))))) (R_X7_firstPartner_b13 hdp hq FU _ _ _ _ _ _ hF)
