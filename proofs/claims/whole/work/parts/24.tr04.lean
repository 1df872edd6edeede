/-! ===== methods as functions, 4: written by a program out of the listings ===== -/
theorem d_X7_partnerOf_0 : decode cX7_partnerOf 0 = .ok (.iconst 1, 1) := by decide +kernel
theorem d_X7_partnerOf_1 : decode cX7_partnerOf 1 = .ok (.aload_n 0, 1) := by decide +kernel
theorem d_X7_partnerOf_2 : decode cX7_partnerOf 2 = .ok (.getfield 9, 3) := by decide +kernel
theorem d_X7_partnerOf_5 : decode cX7_partnerOf 5 = .ok (.ishl, 1) := by decide +kernel
theorem d_X7_partnerOf_6 : decode cX7_partnerOf 6 = .ok (.iconst 1, 1) := by decide +kernel
theorem d_X7_partnerOf_7 : decode cX7_partnerOf 7 = .ok (.isub, 1) := by decide +kernel
theorem d_X7_partnerOf_8 : decode cX7_partnerOf 8 = .ok (.istore_n 2, 1) := by decide +kernel
theorem d_X7_partnerOf_9 : decode cX7_partnerOf 9 = .ok (.iconst 0, 1) := by decide +kernel
theorem d_X7_partnerOf_10 : decode cX7_partnerOf 10 = .ok (.istore_n 3, 1) := by decide +kernel
theorem d_X7_partnerOf_11 : decode cX7_partnerOf 11 = .ok (.iload_n 3, 1) := by decide +kernel
theorem d_X7_partnerOf_12 : decode cX7_partnerOf 12 = .ok (.aload_n 0, 1) := by decide +kernel
theorem d_X7_partnerOf_13 : decode cX7_partnerOf 13 = .ok (.getfield 9, 3) := by decide +kernel
theorem d_X7_partnerOf_16 : decode cX7_partnerOf 16 = .ok (.if_icmp .ge 76, 3) := by decide +kernel
theorem d_X7_partnerOf_19 : decode cX7_partnerOf 19 = .ok (.iload_n 2, 1) := by decide +kernel
theorem d_X7_partnerOf_20 : decode cX7_partnerOf 20 = .ok (.iload_n 3, 1) := by decide +kernel
theorem d_X7_partnerOf_21 : decode cX7_partnerOf 21 = .ok (.ishr, 1) := by decide +kernel
theorem d_X7_partnerOf_22 : decode cX7_partnerOf 22 = .ok (.iconst 1, 1) := by decide +kernel
theorem d_X7_partnerOf_23 : decode cX7_partnerOf 23 = .ok (.iand, 1) := by decide +kernel
theorem d_X7_partnerOf_24 : decode cX7_partnerOf 24 = .ok (.iconst 1, 1) := by decide +kernel
theorem d_X7_partnerOf_25 : decode cX7_partnerOf 25 = .ok (.if_icmp .ne 61, 3) := by decide +kernel
theorem d_X7_partnerOf_28 : decode cX7_partnerOf 28 = .ok (.aload_n 0, 1) := by decide +kernel
theorem d_X7_partnerOf_29 : decode cX7_partnerOf 29 = .ok (.iload_n 3, 1) := by decide +kernel
theorem d_X7_partnerOf_30 : decode cX7_partnerOf 30 = .ok (.iload_n 2, 1) := by decide +kernel
theorem d_X7_partnerOf_31 : decode cX7_partnerOf 31 = .ok (.invokevirtual 67, 3) := by decide +kernel
theorem d_X7_partnerOf_34 : decode cX7_partnerOf 34 = .ok (.istore 4, 2) := by decide +kernel
theorem d_X7_partnerOf_36 : decode cX7_partnerOf 36 = .ok (.iload_n 3, 1) := by decide +kernel
theorem d_X7_partnerOf_37 : decode cX7_partnerOf 37 = .ok (.iload_n 1, 1) := by decide +kernel
theorem d_X7_partnerOf_38 : decode cX7_partnerOf 38 = .ok (.if_icmp .eq 9, 3) := by decide +kernel
theorem d_X7_partnerOf_41 : decode cX7_partnerOf 41 = .ok (.iload 4, 2) := by decide +kernel
theorem d_X7_partnerOf_43 : decode cX7_partnerOf 43 = .ok (.iload_n 1, 1) := by decide +kernel
theorem d_X7_partnerOf_44 : decode cX7_partnerOf 44 = .ok (.if_icmp .ne 15, 3) := by decide +kernel
theorem d_X7_partnerOf_47 : decode cX7_partnerOf 47 = .ok (.iload_n 3, 1) := by decide +kernel
theorem d_X7_partnerOf_48 : decode cX7_partnerOf 48 = .ok (.iload_n 1, 1) := by decide +kernel
theorem d_X7_partnerOf_49 : decode cX7_partnerOf 49 = .ok (.if_icmp .ne 8, 3) := by decide +kernel
theorem d_X7_partnerOf_52 : decode cX7_partnerOf 52 = .ok (.iload 4, 2) := by decide +kernel
theorem d_X7_partnerOf_54 : decode cX7_partnerOf 54 = .ok (.goto 4, 3) := by decide +kernel
theorem d_X7_partnerOf_57 : decode cX7_partnerOf 57 = .ok (.iload_n 3, 1) := by decide +kernel
theorem d_X7_partnerOf_58 : decode cX7_partnerOf 58 = .ok (.ireturn, 1) := by decide +kernel
theorem d_X7_partnerOf_59 : decode cX7_partnerOf 59 = .ok (.iload_n 2, 1) := by decide +kernel
theorem d_X7_partnerOf_60 : decode cX7_partnerOf 60 = .ok (.iconst 1, 1) := by decide +kernel
theorem d_X7_partnerOf_61 : decode cX7_partnerOf 61 = .ok (.iload_n 3, 1) := by decide +kernel
theorem d_X7_partnerOf_62 : decode cX7_partnerOf 62 = .ok (.ishl, 1) := by decide +kernel
theorem d_X7_partnerOf_63 : decode cX7_partnerOf 63 = .ok (.iconst (-1), 1) := by decide +kernel
theorem d_X7_partnerOf_64 : decode cX7_partnerOf 64 = .ok (.ixor, 1) := by decide +kernel
theorem d_X7_partnerOf_65 : decode cX7_partnerOf 65 = .ok (.iand, 1) := by decide +kernel
theorem d_X7_partnerOf_66 : decode cX7_partnerOf 66 = .ok (.istore_n 2, 1) := by decide +kernel
theorem d_X7_partnerOf_67 : decode cX7_partnerOf 67 = .ok (.iload_n 2, 1) := by decide +kernel
theorem d_X7_partnerOf_68 : decode cX7_partnerOf 68 = .ok (.iload 4, 2) := by decide +kernel
theorem d_X7_partnerOf_70 : decode cX7_partnerOf 70 = .ok (.iconst (-1), 1) := by decide +kernel
theorem d_X7_partnerOf_71 : decode cX7_partnerOf 71 = .ok (.if_icmp .ne 7, 3) := by decide +kernel
theorem d_X7_partnerOf_74 : decode cX7_partnerOf 74 = .ok (.iload_n 2, 1) := by decide +kernel
theorem d_X7_partnerOf_75 : decode cX7_partnerOf 75 = .ok (.goto 9, 3) := by decide +kernel
theorem d_X7_partnerOf_78 : decode cX7_partnerOf 78 = .ok (.iconst 1, 1) := by decide +kernel
theorem d_X7_partnerOf_79 : decode cX7_partnerOf 79 = .ok (.iload 4, 2) := by decide +kernel
theorem d_X7_partnerOf_81 : decode cX7_partnerOf 81 = .ok (.ishl, 1) := by decide +kernel
theorem d_X7_partnerOf_82 : decode cX7_partnerOf 82 = .ok (.iconst (-1), 1) := by decide +kernel
theorem d_X7_partnerOf_83 : decode cX7_partnerOf 83 = .ok (.ixor, 1) := by decide +kernel
theorem d_X7_partnerOf_84 : decode cX7_partnerOf 84 = .ok (.iand, 1) := by decide +kernel
theorem d_X7_partnerOf_85 : decode cX7_partnerOf 85 = .ok (.istore_n 2, 1) := by decide +kernel
theorem d_X7_partnerOf_86 : decode cX7_partnerOf 86 = .ok (.iinc 3 1, 3) := by decide +kernel
theorem d_X7_partnerOf_89 : decode cX7_partnerOf 89 = .ok (.goto (-78), 3) := by decide +kernel
theorem d_X7_partnerOf_92 : decode cX7_partnerOf 92 = .ok (.iconst (-1), 1) := by decide +kernel
theorem d_X7_partnerOf_93 : decode cX7_partnerOf 93 = .ok (.ireturn, 1) := by decide +kernel
def F_X7_partnerOf_b84 (k11 : Nat → Int32 → Int32 → Int32 → xH → Option (Int32 × xH)) (x0 : Nat) (x1 : Int32) (x3 : Int32) (s0 : Int32) (s1 : Int32) (h : xH) : Option (Int32 × xH) := k11 x0 x1 (s0 &&& s1) (x3 + 1) h
theorem R_X7_partnerOf_b84 {Γ : xG} {l : Launch} {d : Nat} {Q : Option Value → xH → Prop} {r : Int32} {h' : xH} {k11 : Nat → Int32 → Int32 → Int32 → xH → Option (Int32 × xH)} (K11 : ∀ (x0 : Nat) (x1 : Int32) (x2 : Int32) (x3 : Int32)  (h : xH), k11 x0 x1 x2 x3 h = some (r, h') → Gd Γ l d m_X7_partnerOf 11 [.ref x0, .int x1, .int x2, .int x3, xhole] [] h 0 0 Q) (hdp : 2 ≤ d) (hq : Q (some (.int r)) h') : ∀ (x0 : Nat) (x1 : Int32) (x3 : Int32) (s0 : Int32) (s1 : Int32) (h : xH), F_X7_partnerOf_b84 k11 x0 x1 x3 s0 s1 h = some (r, h') → Gd Γ l d m_X7_partnerOf 84 [.ref x0, .int x1, xhole, .int x3, xhole] [.int s1, .int s0] h 0 0 Q := by
  intro x0 x1 x3 s0 s1 h hF
  unfold F_X7_partnerOf_b84 at hF
  refine g_iand d_X7_partnerOf_84 ?_
  refine q_istoren [.ref x0, .int x1, .int (s0 &&& s1), .int x3, xhole] d_X7_partnerOf_85 (by decide) rfl ?_
  refine q_iinc (1) [.ref x0, .int x1, .int (s0 &&& s1), .int (x3 + 1), xhole] d_X7_partnerOf_86 ic_1 rfl (by decide) rfl ?_
  refine g_goto 11 d_X7_partnerOf_89 rfl ?_
  exact q_to (xs_r (xs_r (xs_r (xs_r (xs_h xs_n))))) (K11 _ _ _ _ _ hF)
def F_X7_partnerOf_b47 (x1 : Int32) (x3 : Int32) (x4 : Int32) (h : xH) : Option (Int32 × xH) := if ¬ x3 = x1 then some (x3, h) else some (x4, h)
theorem R_X7_partnerOf_b47 {Γ : xG} {l : Launch} {d : Nat} {Q : Option Value → xH → Prop} {r : Int32} {h' : xH} (hdp : 2 ≤ d) (hq : Q (some (.int r)) h') : ∀ (x1 : Int32) (x3 : Int32) (x4 : Int32) (h : xH), F_X7_partnerOf_b47 x1 x3 x4 h = some (r, h') → Gd Γ l d m_X7_partnerOf 47 [xhole, .int x1, xhole, .int x3, .int x4] [] h 0 0 Q := by
  intro x1 x3 x4 h hF
  unfold F_X7_partnerOf_b47 at hF
  refine g_iloadn d_X7_partnerOf_47 rfl ?_
  refine g_iloadn d_X7_partnerOf_48 rfl ?_
  refine g_icmp_ne 57 d_X7_partnerOf_49 rfl (fun c49 => ?_) (fun c49 => ?_)
  · have hF := x_t hF c49
    refine g_iloadn d_X7_partnerOf_57 rfl ?_
    obtain ⟨rfl, rfl⟩ := x_inj hF
    exact g_iret d_X7_partnerOf_58 rfl hq
  · have hF := x_f hF (not_not_intro c49)
    refine g_iload d_X7_partnerOf_52 rfl ?_
    refine g_goto 58 d_X7_partnerOf_54 rfl ?_
    obtain ⟨rfl, rfl⟩ := x_inj hF
    exact g_iret d_X7_partnerOf_58 rfl hq
def F_X7_partnerOf_b11 : Nat → Nat → Int32 → Int32 → Int32 → xH → Option (Int32 × xH)
  | 0, _, _, _, _, _ => none
  | n + 1, x0, x1, x2, x3, h => (fI h x0 6 0).bind fun v13 => if v13 ≤ x3 then some ((-1), h) else if ¬ ((x2 >>> (x3 &&& 31)) &&& 1) = ((1 : Int32)) then F_X7_partnerOf_b11 n x0 x1 x2 (x3 + 1) h else (rc h x0 6).bind fun _ => (F_X7_firstPartner x0 x3 x2 h).bind fun z31 => if x3 = x1 then F_X7_partnerOf_b47 x1 x3 z31.1 z31.2 else if ¬ z31.1 = x1 then if ¬ z31.1 = (((-1) : Int32)) then F_X7_partnerOf_b84 (F_X7_partnerOf_b11 n) x0 x1 x3 (x2 &&& ((((1 : Int32)) <<< (x3 &&& 31)) ^^^ ((-1)))) ((((1 : Int32)) <<< (z31.1 &&& 31)) ^^^ ((-1))) z31.2 else F_X7_partnerOf_b84 (F_X7_partnerOf_b11 n) x0 x1 x3 (x2 &&& ((((1 : Int32)) <<< (x3 &&& 31)) ^^^ ((-1)))) (x2 &&& ((((1 : Int32)) <<< (x3 &&& 31)) ^^^ ((-1)))) z31.2 else F_X7_partnerOf_b47 x1 x3 z31.1 z31.2
theorem R_X7_partnerOf_b11 {Γ : xG} {l : Launch} {d : Nat} {Q : Option Value → xH → Prop} {r : Int32} {h' : xH} (hdp : 2 ≤ d) (hq : Q (some (.int r)) h') : ∀ (n : Nat) (x0 : Nat) (x1 : Int32) (x2 : Int32) (x3 : Int32) (h : xH), F_X7_partnerOf_b11 n x0 x1 x2 x3 h = some (r, h') → Gd Γ l d m_X7_partnerOf 11 [.ref x0, .int x1, .int x2, .int x3, xhole] [] h 0 0 Q := by
  intro n
  induction n with
  | zero => intro x0 x1 x2 x3 h hF; cases hF
  | succ n ih =>
  intro x0 x1 x2 x3 h hF
  rw [F_X7_partnerOf_b11] at hF
  refine g_iloadn d_X7_partnerOf_11 rfl ?_
  refine g_aloadn d_X7_partnerOf_12 rfl ?_
  obtain ⟨v13, e13, hF⟩ := Option.bind_eq_some_iff.mp hF
  refine q_fI d_X7_partnerOf_13 f_X7_9 e13 ?_
  refine g_icmp_ge 92 d_X7_partnerOf_16 rfl (fun c16 => ?_) (fun c16 => ?_)
  · have hF := x_t hF c16
    refine g_ic (-1) d_X7_partnerOf_92 ic_m1 ?_
    obtain ⟨rfl, rfl⟩ := x_inj hF
    exact g_iret d_X7_partnerOf_93 rfl hq
  · have hF := x_f hF c16
    refine g_iloadn d_X7_partnerOf_19 rfl ?_
    refine g_iloadn d_X7_partnerOf_20 rfl ?_
    refine g_ishr d_X7_partnerOf_21 ?_
    refine g_ic (1) d_X7_partnerOf_22 ic_1 ?_
    refine g_iand d_X7_partnerOf_23 ?_
    refine g_ic (1) d_X7_partnerOf_24 ic_1 ?_
    refine g_icmp_ne 86 d_X7_partnerOf_25 rfl (fun c25 => ?_) (fun c25 => ?_)
    · have hF := x_t hF c25
      refine q_iinc (1) [.ref x0, .int x1, .int x2, .int (x3 + 1), xhole] d_X7_partnerOf_86 ic_1 rfl (by decide) rfl ?_
      refine g_goto 11 d_X7_partnerOf_89 rfl ?_
      exact q_to (xs_r (xs_r (xs_r (xs_r (xs_h xs_n))))) (ih _ _ _ _ _ hF)
    · have hF := x_f hF (not_not_intro c25)
      refine g_aloadn d_X7_partnerOf_28 rfl ?_
      refine g_iloadn d_X7_partnerOf_29 rfl ?_
      refine g_iloadn d_X7_partnerOf_30 rfl ?_
      obtain ⟨_, g31, hF⟩ := Option.bind_eq_some_iff.mp hF
      obtain ⟨⟨r31, h31⟩, e31, hF⟩ := Option.bind_eq_some_iff.mp hF
      try dsimp only at hF
      refine q_callV [.int x3, .int x2] [] rfl d_X7_partnerOf_31 v_X7_67 (by omega) rfl (Nat.le_of_ble_eq_true rfl) (rc_rc g31 (by decide) rfl) (R_X7_firstPartner _ _ _ _ (by omega) e31) ?_
      refine q_istore [.ref x0, .int x1, .int x2, .int x3, .int (r31)] d_X7_partnerOf_34 (by decide) rfl ?_
      refine g_iloadn d_X7_partnerOf_36 rfl ?_
      refine g_iloadn d_X7_partnerOf_37 rfl ?_
      refine g_icmp_eq 47 d_X7_partnerOf_38 rfl (fun c38 => ?_) (fun c38 => ?_)
      · have hF := x_t hF c38
        exact q_to (xs_h (xs_r (xs_h (xs_r (xs_r xs_n))))) (R_X7_partnerOf_b47 hdp hq _ _ _ _ hF)
      · have hF := x_f hF c38
        refine g_iload d_X7_partnerOf_41 rfl ?_
        refine g_iloadn d_X7_partnerOf_43 rfl ?_
        refine g_icmp_ne 59 d_X7_partnerOf_44 rfl (fun c44 => ?_) (fun c44 => ?_)
        · have hF := x_t hF c44
          refine g_iloadn d_X7_partnerOf_59 rfl ?_
          refine g_ic (1) d_X7_partnerOf_60 ic_1 ?_
          refine g_iloadn d_X7_partnerOf_61 rfl ?_
          refine g_ishl d_X7_partnerOf_62 ?_
          refine g_ic (-1) d_X7_partnerOf_63 ic_m1 ?_
          refine g_ixor d_X7_partnerOf_64 ?_
          refine g_iand d_X7_partnerOf_65 ?_
          refine q_istoren [.ref x0, .int x1, .int (x2 &&& ((((1 : Int32)) <<< (x3 &&& 31)) ^^^ ((-1)))), .int x3, .int (r31)] d_X7_partnerOf_66 (by decide) rfl ?_
          refine g_iloadn d_X7_partnerOf_67 rfl ?_
          refine g_iload d_X7_partnerOf_68 rfl ?_
          refine g_ic (-1) d_X7_partnerOf_70 ic_m1 ?_
          refine g_icmp_ne 78 d_X7_partnerOf_71 rfl (fun c71 => ?_) (fun c71 => ?_)
          · have hF := x_t hF c71
            refine g_ic (1) d_X7_partnerOf_78 ic_1 ?_
            refine g_iload d_X7_partnerOf_79 rfl ?_
            refine g_ishl d_X7_partnerOf_81 ?_
            refine g_ic (-1) d_X7_partnerOf_82 ic_m1 ?_
            refine g_ixor d_X7_partnerOf_83 ?_
            exact q_to (xs_r (xs_r (xs_h (xs_r (xs_h xs_n))))) (R_X7_partnerOf_b84 ih hdp hq _ _ _ _ _ _ hF)
          · have hF := x_f hF (not_not_intro c71)
            refine g_iloadn d_X7_partnerOf_74 rfl ?_
            refine g_goto 84 d_X7_partnerOf_75 rfl ?_
            exact q_to (xs_r (xs_r (xs_h (xs_r (xs_h xs_n))))) (R_X7_partnerOf_b84 ih hdp hq _ _ _ _ _ _ hF)
        · have hF := x_f hF (not_not_intro c44)
          exact q_to (xs_h (xs_r (xs_h (xs_r (xs_r xs_n))))) (R_X7_partnerOf_b47 hdp hq _ _ _ _ hF)
def F_X7_partnerOf (x0 : Nat) (x1 : Int32) (h : xH) : Option (Int32 × xH) := (fI h x0 6 0).bind fun v2 => F_X7_partnerOf_b11 FU x0 x1 ((((1 : Int32)) <<< (v2 &&& 31)) - 1) 0 h
theorem R_X7_partnerOf {Γ : xG} {l : Launch} {d : Nat} {r : Int32} {h' : xH} (x0 : Nat) (x1 : Int32) (h : xH) (hdp : 2 ≤ d) (hF : F_X7_partnerOf x0 x1 h = some (r, h')) : Gm Γ l d 0 0 m_X7_partnerOf [.ref x0, .int x1] h (fun a u => a = some (.int r) ∧ u = h') := by
  refine Gm.of pn_X7 (Nat.le_of_ble_eq_true rfl) ?_
  show Gd Γ l d m_X7_partnerOf 0 [.ref x0, .int x1, xhole, xhole, xhole] [] h 0 0 _
  generalize hQ : (fun (a : Option Value) (u : xH) => a = some (.int r) ∧ u = h') = Q
  have hq : Q (some (.int r)) h' := by rw [← hQ]; exact ⟨rfl, rfl⟩
  clear hQ
  unfold F_X7_partnerOf at hF
  refine g_ic (1) d_X7_partnerOf_0 ic_1 ?_
  refine g_aloadn d_X7_partnerOf_1 rfl ?_
  obtain ⟨v2, e2, hF⟩ := Option.bind_eq_some_iff.mp hF
  refine q_fI d_X7_partnerOf_2 f_X7_9 e2 ?_
  refine g_ishl d_X7_partnerOf_5 ?_
  refine g_ic (1) d_X7_partnerOf_6 ic_1 ?_
  refine g_isub d_X7_partnerOf_7 ?_
  refine q_istoren [.ref x0, .int x1, .int ((((1 : Int32)) <<< (v2 &&& 31)) - 1), xhole, xhole] d_X7_partnerOf_8 (by decide) rfl ?_
  refine g_ic (0) d_X7_partnerOf_9 ic_0 ?_
  refine q_istoren [.ref x0, .int x1, .int ((((1 : Int32)) <<< (v2 &&& 31)) - 1), .int 0, xhole] d_X7_partnerOf_10 (by decide) rfl ?_
  exact q_to (xs_r (xs_r (xs_r (xs_r (xs_h xs_n))))) (R_X7_partnerOf_b11 hdp hq FU _ _ _ _ _ hF)
theorem d_X8_layOut_0 : decode cX8_layOut 0 = .ok (.aload_n 0, 1) := by decide +kernel
theorem d_X8_layOut_1 : decode cX8_layOut 1 = .ok (.getfield 9, 3) := by decide +kernel
theorem d_X8_layOut_4 : decode cX8_layOut 4 = .ok (.lconst 0, 1) := by decide +kernel
theorem d_X8_layOut_5 : decode cX8_layOut 5 = .ok (.invokestatic 22, 3) := by decide +kernel
theorem d_X8_layOut_8 : decode cX8_layOut 8 = .ok (.aload_n 0, 1) := by decide +kernel
theorem d_X8_layOut_9 : decode cX8_layOut 9 = .ok (.iload_n 1, 1) := by decide +kernel
theorem d_X8_layOut_10 : decode cX8_layOut 10 = .ok (.putfield 19, 3) := by decide +kernel
theorem d_X8_layOut_13 : decode cX8_layOut 13 = .ok (.aload_n 0, 1) := by decide +kernel
theorem d_X8_layOut_14 : decode cX8_layOut 14 = .ok (.iload_n 2, 1) := by decide +kernel
theorem d_X8_layOut_15 : decode cX8_layOut 15 = .ok (.putfield 15, 3) := by decide +kernel
theorem d_X8_layOut_18 : decode cX8_layOut 18 = .ok (.return_, 1) := by decide +kernel
def F_X8_layOut (x0 : Nat) (x1 : Int32) (x2 : Int32) (h : xH) : Option (Unit × xH) := (fR h x0 7 0).bind fun v1 => (F_J7_fill_d0a16 v1 0 h).bind fun z5 => (wI z5.2 x0 7 2 x1).bind fun h10 => (wI h10 x0 7 1 x2).bind fun h15 => some ((), h15)
theorem R_X8_layOut {Γ : xG} {l : Launch} {d : Nat} {r : Unit} {h' : xH} (x0 : Nat) (x1 : Int32) (x2 : Int32) (h : xH) (hdp : 1 ≤ d) (hF : F_X8_layOut x0 x1 x2 h = some (r, h')) : Gm Γ l d 0 0 m_X8_layOut [.ref x0, .int x1, .int x2] h (fun a u => a = none ∧ u = h') := by
  refine Gm.of pn_X8 (Nat.le_of_ble_eq_true rfl) ?_
  show Gd Γ l d m_X8_layOut 0 [.ref x0, .int x1, .int x2] [] h 0 0 _
  generalize hQ : (fun (a : Option Value) (u : xH) => a = none ∧ u = h') = Q
  have hq : Q (none) h' := by rw [← hQ]; exact ⟨rfl, rfl⟩
  clear hQ
  unfold F_X8_layOut at hF
  refine g_aloadn d_X8_layOut_0 rfl ?_
  obtain ⟨v1, e1, hF⟩ := Option.bind_eq_some_iff.mp hF
  refine q_fR d_X8_layOut_1 f_X8_9 e1 ?_
  refine g_lc 0 d_X8_layOut_4 rfl ?_
  obtain ⟨⟨r5, h5⟩, e5, hF⟩ := Option.bind_eq_some_iff.mp hF
  try dsimp only at hF
  refine q_callS [.ref v1, .long 0] [] rfl d_X8_layOut_5 s_X8_22 (by omega) rfl (Nat.le_of_ble_eq_true rfl) (R_J7_fill_d0a16 _ _ _ (by omega) e5) ?_
  refine g_aloadn d_X8_layOut_8 rfl ?_
  refine g_iloadn d_X8_layOut_9 rfl ?_
  obtain ⟨h10, e10, hF⟩ := Option.bind_eq_some_iff.mp hF
  refine q_wI d_X8_layOut_10 (w_X8_19 _) e10 ?_
  refine g_aloadn d_X8_layOut_13 rfl ?_
  refine g_iloadn d_X8_layOut_14 rfl ?_
  obtain ⟨h15, e15, hF⟩ := Option.bind_eq_some_iff.mp hF
  refine q_wI d_X8_layOut_15 (w_X8_15 _) e15 ?_
  obtain ⟨rfl, rfl⟩ := x_inj hF
  exact g_vret d_X8_layOut_18 rfl hq
theorem d_X8_cut_0 : decode cX8_cut 0 = .ok (.aload_n 0, 1) := by decide +kernel
theorem d_X8_cut_1 : decode cX8_cut 1 = .ok (.getfield 19, 3) := by decide +kernel
theorem d_X8_cut_4 : decode cX8_cut 4 = .ok (.tableswitch 42 0 2 #[28, 33, 38], 28) := by decide +kernel
theorem d_X8_cut_32 : decode cX8_cut 32 = .ok (.lload_n 1, 1) := by decide +kernel
theorem d_X8_cut_33 : decode cX8_cut 33 = .ok (.l2i, 1) := by decide +kernel
theorem d_X8_cut_34 : decode cX8_cut 34 = .ok (.i2b, 1) := by decide +kernel
theorem d_X8_cut_35 : decode cX8_cut 35 = .ok (.i2l, 1) := by decide +kernel
theorem d_X8_cut_36 : decode cX8_cut 36 = .ok (.lreturn, 1) := by decide +kernel
theorem d_X8_cut_37 : decode cX8_cut 37 = .ok (.lload_n 1, 1) := by decide +kernel
theorem d_X8_cut_38 : decode cX8_cut 38 = .ok (.l2i, 1) := by decide +kernel
theorem d_X8_cut_39 : decode cX8_cut 39 = .ok (.i2s, 1) := by decide +kernel
theorem d_X8_cut_40 : decode cX8_cut 40 = .ok (.i2l, 1) := by decide +kernel
theorem d_X8_cut_41 : decode cX8_cut 41 = .ok (.lreturn, 1) := by decide +kernel
theorem d_X8_cut_42 : decode cX8_cut 42 = .ok (.lload_n 1, 1) := by decide +kernel
theorem d_X8_cut_43 : decode cX8_cut 43 = .ok (.l2i, 1) := by decide +kernel
theorem d_X8_cut_44 : decode cX8_cut 44 = .ok (.i2l, 1) := by decide +kernel
theorem d_X8_cut_45 : decode cX8_cut 45 = .ok (.lreturn, 1) := by decide +kernel
theorem d_X8_cut_46 : decode cX8_cut 46 = .ok (.lload_n 1, 1) := by decide +kernel
theorem d_X8_cut_47 : decode cX8_cut 47 = .ok (.lreturn, 1) := by decide +kernel
def F_X8_cut (x0 : Nat) (x1 : Int64) (h : xH) : Option (Int64 × xH) := (fI h x0 7 2).bind fun v1 => if v1 = 0 then some (x1.toInt32.toInt8.toInt32.toInt64, h) else if v1 = 1 then some (x1.toInt32.toInt16.toInt32.toInt64, h) else if v1 = 2 then some (x1.toInt32.toInt64, h) else some (x1, h)
theorem R_X8_cut {Γ : xG} {l : Launch} {d : Nat} {r : Int64} {h' : xH} (x0 : Nat) (x1 : Int64) (h : xH) (hdp : 0 ≤ d) (hF : F_X8_cut x0 x1 h = some (r, h')) : Gm Γ l d 0 0 m_X8_cut [.ref x0, .long x1] h (fun a u => a = some (.long r) ∧ u = h') := by
  refine Gm.of pn_X8 (Nat.le_of_ble_eq_true rfl) ?_
  show Gd Γ l d m_X8_cut 0 [.ref x0, .long x1, xhole] [] h 0 0 _
  generalize hQ : (fun (a : Option Value) (u : xH) => a = some (.long r) ∧ u = h') = Q
  have hq : Q (some (.long r)) h' := by rw [← hQ]; exact ⟨rfl, rfl⟩
  clear hQ
  unfold F_X8_cut at hF
  refine g_aloadn d_X8_cut_0 rfl ?_
  obtain ⟨v1, e1, hF⟩ := Option.bind_eq_some_iff.mp hF
  refine q_fI d_X8_cut_1 f_X8_19 e1 ?_
  rcases Classical.em (v1 = 0) with c4_0 | c4_0
  · have hF := x_t hF c4_0
    refine q_tabIn 32 d_X8_cut_4 c4_0 (by decide) (by decide) rfl rfl ?_
    refine g_lloadn d_X8_cut_32 rfl ?_
    refine g_l2i d_X8_cut_33 ?_
    refine g_i2b d_X8_cut_34 ?_
    refine g_i2l d_X8_cut_35 ?_
    obtain ⟨rfl, rfl⟩ := x_inj hF
    exact g_lret d_X8_cut_36 rfl hq
  have hF := x_f hF c4_0
  rcases Classical.em (v1 = 1) with c4_1 | c4_1
  · have hF := x_t hF c4_1
    refine q_tabIn 37 d_X8_cut_4 c4_1 (by decide) (by decide) rfl rfl ?_
    refine g_lloadn d_X8_cut_37 rfl ?_
    refine g_l2i d_X8_cut_38 ?_
    refine g_i2s d_X8_cut_39 ?_
    refine g_i2l d_X8_cut_40 ?_
    obtain ⟨rfl, rfl⟩ := x_inj hF
    exact g_lret d_X8_cut_41 rfl hq
  have hF := x_f hF c4_1
  rcases Classical.em (v1 = 2) with c4_2 | c4_2
  · have hF := x_t hF c4_2
    refine q_tabIn 42 d_X8_cut_4 c4_2 (by decide) (by decide) rfl rfl ?_
    refine g_lloadn d_X8_cut_42 rfl ?_
    refine g_l2i d_X8_cut_43 ?_
    refine g_i2l d_X8_cut_44 ?_
    obtain ⟨rfl, rfl⟩ := x_inj hF
    exact g_lret d_X8_cut_45 rfl hq
  have hF := x_f hF c4_2
  refine g_tabOut 46 d_X8_cut_4 (by have a0 := sw_ne c4_0 (k := 0) (by decide); have a1 := sw_ne c4_1 (k := 1) (by decide); have a2 := sw_ne c4_2 (k := 2) (by decide); omega) rfl ?_
  refine g_lloadn d_X8_cut_46 rfl ?_
  obtain ⟨rfl, rfl⟩ := x_inj hF
  exact g_lret d_X8_cut_47 rfl hq
theorem d_X8_put_0 : decode cX8_put 0 = .ok (.aload_n 0, 1) := by decide +kernel
theorem d_X8_put_1 : decode cX8_put 1 = .ok (.getfield 9, 3) := by decide +kernel
theorem d_X8_put_4 : decode cX8_put 4 = .ok (.iload_n 1, 1) := by decide +kernel
theorem d_X8_put_5 : decode cX8_put 5 = .ok (.aload_n 0, 1) := by decide +kernel
theorem d_X8_put_6 : decode cX8_put 6 = .ok (.lload_n 2, 1) := by decide +kernel
theorem d_X8_put_7 : decode cX8_put 7 = .ok (.invokevirtual 28, 3) := by decide +kernel
theorem d_X8_put_10 : decode cX8_put 10 = .ok (.lastore, 1) := by decide +kernel
theorem d_X8_put_11 : decode cX8_put 11 = .ok (.aload_n 0, 1) := by decide +kernel
theorem d_X8_put_12 : decode cX8_put 12 = .ok (.getfield 9, 3) := by decide +kernel
theorem d_X8_put_15 : decode cX8_put 15 = .ok (.iload_n 1, 1) := by decide +kernel
theorem d_X8_put_16 : decode cX8_put 16 = .ok (.laload, 1) := by decide +kernel
theorem d_X8_put_17 : decode cX8_put 17 = .ok (.lreturn, 1) := by decide +kernel
def F_X8_put (x0 : Nat) (x1 : Int32) (x2 : Int64) (h : xH) : Option (Int64 × xH) := (fR h x0 7 0).bind fun v1 => (rc h x0 7).bind fun _ => (F_X8_cut x0 x2 h).bind fun z7 => (sJ z7.2 v1 x1 z7.1).bind fun h10 => (fR h10 x0 7 0).bind fun v12 => (aJ h10 v12 x1).bind fun v16 => some (v16, h10)
theorem R_X8_put {Γ : xG} {l : Launch} {d : Nat} {r : Int64} {h' : xH} (x0 : Nat) (x1 : Int32) (x2 : Int64) (h : xH) (hdp : 1 ≤ d) (hF : F_X8_put x0 x1 x2 h = some (r, h')) : Gm Γ l d 0 0 m_X8_put [.ref x0, .int x1, .long x2] h (fun a u => a = some (.long r) ∧ u = h') := by
  refine Gm.of pn_X8 (Nat.le_of_ble_eq_true rfl) ?_
  show Gd Γ l d m_X8_put 0 [.ref x0, .int x1, .long x2, xhole] [] h 0 0 _
  generalize hQ : (fun (a : Option Value) (u : xH) => a = some (.long r) ∧ u = h') = Q
  have hq : Q (some (.long r)) h' := by rw [← hQ]; exact ⟨rfl, rfl⟩
  clear hQ
  unfold F_X8_put at hF
  refine g_aloadn d_X8_put_0 rfl ?_
  obtain ⟨v1, e1, hF⟩ := Option.bind_eq_some_iff.mp hF
  refine q_fR d_X8_put_1 f_X8_9 e1 ?_
  refine g_iloadn d_X8_put_4 rfl ?_
  refine g_aloadn d_X8_put_5 rfl ?_
  refine g_lloadn d_X8_put_6 rfl ?_
  obtain ⟨_, g7, hF⟩ := Option.bind_eq_some_iff.mp hF
  obtain ⟨⟨r7, h7⟩, e7, hF⟩ := Option.bind_eq_some_iff.mp hF
  try dsimp only at hF
  refine q_callV [.long x2] [.int x1, .ref v1] rfl d_X8_put_7 v_X8_28 (by omega) rfl (Nat.le_of_ble_eq_true rfl) (rc_rc g7 (by decide) rfl) (R_X8_cut _ _ _ (by omega) e7) ?_
  obtain ⟨h10, e10, hF⟩ := Option.bind_eq_some_iff.mp hF
  refine q_sJ d_X8_put_10 e10 ?_
  refine g_aloadn d_X8_put_11 rfl ?_
  obtain ⟨v12, e12, hF⟩ := Option.bind_eq_some_iff.mp hF
  refine q_fR d_X8_put_12 f_X8_9 e12 ?_
  refine g_iloadn d_X8_put_15 rfl ?_
  obtain ⟨v16, e16, hF⟩ := Option.bind_eq_some_iff.mp hF
  refine q_aJ d_X8_put_16 e16 ?_
  obtain ⟨rfl, rfl⟩ := x_inj hF
  exact g_lret d_X8_put_17 rfl hq
theorem d_X8_allFrom0Below_0 : decode cX8_allFrom0Below 0 = .ok (.iconst 0, 1) := by decide +kernel
theorem d_X8_allFrom0Below_1 : decode cX8_allFrom0Below 1 = .ok (.istore_n 2, 1) := by decide +kernel
theorem d_X8_allFrom0Below_2 : decode cX8_allFrom0Below 2 = .ok (.iload_n 2, 1) := by decide +kernel
theorem d_X8_allFrom0Below_3 : decode cX8_allFrom0Below 3 = .ok (.aload_n 0, 1) := by decide +kernel
theorem d_X8_allFrom0Below_4 : decode cX8_allFrom0Below 4 = .ok (.getfield 15, 3) := by decide +kernel
theorem d_X8_allFrom0Below_7 : decode cX8_allFrom0Below 7 = .ok (.if_icmp .ge 34, 3) := by decide +kernel
theorem d_X8_allFrom0Below_10 : decode cX8_allFrom0Below 10 = .ok (.aload_n 0, 1) := by decide +kernel
theorem d_X8_allFrom0Below_11 : decode cX8_allFrom0Below 11 = .ok (.getfield 9, 3) := by decide +kernel
theorem d_X8_allFrom0Below_14 : decode cX8_allFrom0Below 14 = .ok (.iload_n 2, 1) := by decide +kernel
theorem d_X8_allFrom0Below_15 : decode cX8_allFrom0Below 15 = .ok (.laload, 1) := by decide +kernel
theorem d_X8_allFrom0Below_16 : decode cX8_allFrom0Below 16 = .ok (.lconst 0, 1) := by decide +kernel
theorem d_X8_allFrom0Below_17 : decode cX8_allFrom0Below 17 = .ok (.lcmp, 1) := by decide +kernel
theorem d_X8_allFrom0Below_18 : decode cX8_allFrom0Below 18 = .ok (.ifCond .lt 15, 3) := by decide +kernel
theorem d_X8_allFrom0Below_21 : decode cX8_allFrom0Below 21 = .ok (.aload_n 0, 1) := by decide +kernel
theorem d_X8_allFrom0Below_22 : decode cX8_allFrom0Below 22 = .ok (.getfield 9, 3) := by decide +kernel
theorem d_X8_allFrom0Below_25 : decode cX8_allFrom0Below 25 = .ok (.iload_n 2, 1) := by decide +kernel
theorem d_X8_allFrom0Below_26 : decode cX8_allFrom0Below 26 = .ok (.laload, 1) := by decide +kernel
theorem d_X8_allFrom0Below_27 : decode cX8_allFrom0Below 27 = .ok (.iload_n 1, 1) := by decide +kernel
theorem d_X8_allFrom0Below_28 : decode cX8_allFrom0Below 28 = .ok (.i2l, 1) := by decide +kernel
theorem d_X8_allFrom0Below_29 : decode cX8_allFrom0Below 29 = .ok (.lcmp, 1) := by decide +kernel
theorem d_X8_allFrom0Below_30 : decode cX8_allFrom0Below 30 = .ok (.ifCond .lt 5, 3) := by decide +kernel
theorem d_X8_allFrom0Below_33 : decode cX8_allFrom0Below 33 = .ok (.iconst 0, 1) := by decide +kernel
theorem d_X8_allFrom0Below_34 : decode cX8_allFrom0Below 34 = .ok (.ireturn, 1) := by decide +kernel
theorem d_X8_allFrom0Below_35 : decode cX8_allFrom0Below 35 = .ok (.iinc 2 1, 3) := by decide +kernel
theorem d_X8_allFrom0Below_38 : decode cX8_allFrom0Below 38 = .ok (.goto (-36), 3) := by decide +kernel
theorem d_X8_allFrom0Below_41 : decode cX8_allFrom0Below 41 = .ok (.iconst 1, 1) := by decide +kernel
theorem d_X8_allFrom0Below_42 : decode cX8_allFrom0Below 42 = .ok (.ireturn, 1) := by decide +kernel
def F_X8_allFrom0Below_b2 : Nat → Nat → Int32 → Int32 → xH → Option (Int32 × xH)
  | 0, _, _, _, _ => none
  | n + 1, x0, x1, x2, h => (fI h x0 7 1).bind fun v4 => if v4 ≤ x2 then some (1, h) else (fR h x0 7 0).bind fun v11 => (aJ h v11 x2).bind fun v15 => if (lg_cmp v15 0) < 0 then some (0, h) else (fR h x0 7 0).bind fun v22 => (aJ h v22 x2).bind fun v26 => if (lg_cmp v26 x1.toInt64) < 0 then F_X8_allFrom0Below_b2 n x0 x1 (x2 + 1) h else some (0, h)
theorem R_X8_allFrom0Below_b2 {Γ : xG} {l : Launch} {d : Nat} {Q : Option Value → xH → Prop} {r : Int32} {h' : xH} (hdp : 0 ≤ d) (hq : Q (some (.int r)) h') : ∀ (n : Nat) (x0 : Nat) (x1 : Int32) (x2 : Int32) (h : xH), F_X8_allFrom0Below_b2 n x0 x1 x2 h = some (r, h') → Gd Γ l d m_X8_allFrom0Below 2 [.ref x0, .int x1, .int x2] [] h 0 0 Q := by
  intro n
  induction n with
  | zero => intro x0 x1 x2 h hF; cases hF
  | succ n ih =>
  intro x0 x1 x2 h hF
  rw [F_X8_allFrom0Below_b2] at hF
  refine g_iloadn d_X8_allFrom0Below_2 rfl ?_
  refine g_aloadn d_X8_allFrom0Below_3 rfl ?_
  obtain ⟨v4, e4, hF⟩ := Option.bind_eq_some_iff.mp hF
  refine q_fI d_X8_allFrom0Below_4 f_X8_15 e4 ?_
  refine g_icmp_ge 41 d_X8_allFrom0Below_7 rfl (fun c7 => ?_) (fun c7 => ?_)
  · have hF := x_t hF c7
    refine g_ic (1) d_X8_allFrom0Below_41 ic_1 ?_
    obtain ⟨rfl, rfl⟩ := x_inj hF
    exact g_zret d_X8_allFrom0Below_42 rfl rfl hq
  · have hF := x_f hF c7
    refine g_aloadn d_X8_allFrom0Below_10 rfl ?_
    obtain ⟨v11, e11, hF⟩ := Option.bind_eq_some_iff.mp hF
    refine q_fR d_X8_allFrom0Below_11 f_X8_9 e11 ?_
    refine g_iloadn d_X8_allFrom0Below_14 rfl ?_
    obtain ⟨v15, e15, hF⟩ := Option.bind_eq_some_iff.mp hF
    refine q_aJ d_X8_allFrom0Below_15 e15 ?_
    refine g_lc 0 d_X8_allFrom0Below_16 rfl ?_
    refine g_lcmp d_X8_allFrom0Below_17 ?_
    refine g_if_lt 33 d_X8_allFrom0Below_18 rfl (fun c18 => ?_) (fun c18 => ?_)
    · have hF := x_t hF c18
      refine g_ic (0) d_X8_allFrom0Below_33 ic_0 ?_
      obtain ⟨rfl, rfl⟩ := x_inj hF
      exact g_zret d_X8_allFrom0Below_34 rfl rfl hq
    · have hF := x_f hF c18
      refine g_aloadn d_X8_allFrom0Below_21 rfl ?_
      obtain ⟨v22, e22, hF⟩ := Option.bind_eq_some_iff.mp hF
      refine q_fR d_X8_allFrom0Below_22 f_X8_9 e22 ?_
      refine g_iloadn d_X8_allFrom0Below_25 rfl ?_
      obtain ⟨v26, e26, hF⟩ := Option.bind_eq_some_iff.mp hF
      refine q_aJ d_X8_allFrom0Below_26 e26 ?_
      refine g_iloadn d_X8_allFrom0Below_27 rfl ?_
      refine g_i2l d_X8_allFrom0Below_28 ?_
      refine g_lcmp d_X8_allFrom0Below_29 ?_
      refine g_if_lt 35 d_X8_allFrom0Below_30 rfl (fun c30 => ?_) (fun c30 => ?_)
      · have hF := x_t hF c30
        refine q_iinc (1) [.ref x0, .int x1, .int (x2 + 1)] d_X8_allFrom0Below_35 ic_1 rfl (by decide) rfl ?_
        refine g_goto 2 d_X8_allFrom0Below_38 rfl ?_
        exact q_to (xs_r (xs_r (xs_r xs_n))) (ih _ _ _ _ hF)
      · have hF := x_f hF c30
        refine g_ic (0) d_X8_allFrom0Below_33 ic_0 ?_
        obtain ⟨rfl, rfl⟩ := x_inj hF
        exact g_zret d_X8_allFrom0Below_34 rfl rfl hq
def F_X8_allFrom0Below (x0 : Nat) (x1 : Int32) (h : xH) : Option (Int32 × xH) := F_X8_allFrom0Below_b2 FU x0 x1 0 h
theorem R_X8_allFrom0Below {Γ : xG} {l : Launch} {d : Nat} {r : Int32} {h' : xH} (x0 : Nat) (x1 : Int32) (h : xH) (hdp : 0 ≤ d) (hF : F_X8_allFrom0Below x0 x1 h = some (r, h')) : Gm Γ l d 0 0 m_X8_allFrom0Below [.ref x0, .int x1] h (fun a u => a = some (.int r) ∧ u = h') := by
  refine Gm.of pn_X8 (Nat.le_of_ble_eq_true rfl) ?_
  show Gd Γ l d m_X8_allFrom0Below 0 [.ref x0, .int x1, xhole] [] h 0 0 _
  generalize hQ : (fun (a : Option Value) (u : xH) => a = some (.int r) ∧ u = h') = Q
  have hq : Q (some (.int r)) h' := by rw [← hQ]; exact ⟨rfl, rfl⟩
  clear hQ
  unfold F_X8_allFrom0Below at hF
  refine g_ic (0) d_X8_allFrom0Below_0 ic_0 ?_
  refine q_istoren [.ref x0, .int x1, .int 0] d_X8_allFrom0Below_1 (by decide) rfl ?_
  exact q_to (xs_r (xs_r (xs_r xs_n))) (R_X8_allFrom0Below_b2 hdp hq FU _ _ _ _ hF)
theorem d_J7_fill_53178_0 : decode cJ7_fill_53178 0 = .ok (.iconst 0, 1) := by decide +kernel
theorem d_J7_fill_53178_1 : decode cJ7_fill_53178 1 = .ok (.istore_n 2, 1) := by decide +kernel
theorem d_J7_fill_53178_2 : decode cJ7_fill_53178 2 = .ok (.aload_n 0, 1) := by decide +kernel
theorem d_J7_fill_53178_3 : decode cJ7_fill_53178 3 = .ok (.arraylength, 1) := by decide +kernel
theorem d_J7_fill_53178_4 : decode cJ7_fill_53178 4 = .ok (.istore_n 3, 1) := by decide +kernel
theorem d_J7_fill_53178_5 : decode cJ7_fill_53178 5 = .ok (.iload_n 2, 1) := by decide +kernel
theorem d_J7_fill_53178_6 : decode cJ7_fill_53178 6 = .ok (.iload_n 3, 1) := by decide +kernel
theorem d_J7_fill_53178_7 : decode cJ7_fill_53178 7 = .ok (.if_icmp .ge 13, 3) := by decide +kernel
theorem d_J7_fill_53178_10 : decode cJ7_fill_53178 10 = .ok (.aload_n 0, 1) := by decide +kernel
theorem d_J7_fill_53178_11 : decode cJ7_fill_53178 11 = .ok (.iload_n 2, 1) := by decide +kernel
theorem d_J7_fill_53178_12 : decode cJ7_fill_53178 12 = .ok (.iload_n 1, 1) := by decide +kernel
theorem d_J7_fill_53178_13 : decode cJ7_fill_53178 13 = .ok (.iastore, 1) := by decide +kernel
theorem d_J7_fill_53178_14 : decode cJ7_fill_53178 14 = .ok (.iinc 2 1, 3) := by decide +kernel
theorem d_J7_fill_53178_17 : decode cJ7_fill_53178 17 = .ok (.goto (-12), 3) := by decide +kernel
theorem d_J7_fill_53178_20 : decode cJ7_fill_53178 20 = .ok (.return_, 1) := by decide +kernel
def F_J7_fill_53178_b5 : Nat → Nat → Int32 → Int32 → Int32 → xH → Option (Unit × xH)
  | 0, _, _, _, _, _ => none
  | n + 1, x0, x1, x2, x3, h => if x3 ≤ x2 then some ((), h) else (sI h x0 x2 x1).bind fun h13 => F_J7_fill_53178_b5 n x0 x1 (x2 + 1) x3 h13
theorem R_J7_fill_53178_b5 {Γ : xG} {l : Launch} {d : Nat} {Q : Option Value → xH → Prop} {r : Unit} {h' : xH} (hdp : 0 ≤ d) (hq : Q (none) h') : ∀ (n : Nat) (x0 : Nat) (x1 : Int32) (x2 : Int32) (x3 : Int32) (h : xH), F_J7_fill_53178_b5 n x0 x1 x2 x3 h = some (r, h') → Gd Γ l d m_J7_fill_53178 5 [.ref x0, .int x1, .int x2, .int x3] [] h 0 0 Q := by
  intro n
  induction n with
  | zero => intro x0 x1 x2 x3 h hF; cases hF
  | succ n ih =>
  intro x0 x1 x2 x3 h hF
  rw [F_J7_fill_53178_b5] at hF
  refine g_iloadn d_J7_fill_53178_5 rfl ?_
  refine g_iloadn d_J7_fill_53178_6 rfl ?_
  refine g_icmp_ge 20 d_J7_fill_53178_7 rfl (fun c7 => ?_) (fun c7 => ?_)
  · have hF := x_t hF c7
    obtain ⟨rfl, rfl⟩ := x_inj hF
    exact g_vret d_J7_fill_53178_20 rfl hq
  · have hF := x_f hF c7
    refine g_aloadn d_J7_fill_53178_10 rfl ?_
    refine g_iloadn d_J7_fill_53178_11 rfl ?_
    refine g_iloadn d_J7_fill_53178_12 rfl ?_
    obtain ⟨h13, e13, hF⟩ := Option.bind_eq_some_iff.mp hF
    refine q_sI d_J7_fill_53178_13 e13 ?_
    refine q_iinc (1) [.ref x0, .int x1, .int (x2 + 1), .int x3] d_J7_fill_53178_14 ic_1 rfl (by decide) rfl ?_
    refine g_goto 5 d_J7_fill_53178_17 rfl ?_
    exact q_to (xs_r (xs_r (xs_r (xs_r xs_n)))) (ih _ _ _ _ _ hF)
def F_J7_fill_53178 (x0 : Nat) (x1 : Int32) (h : xH) : Option (Unit × xH) := (al h x0).bind fun v3 => F_J7_fill_53178_b5 FU x0 x1 0 v3 h
theorem R_J7_fill_53178 {Γ : xG} {l : Launch} {d : Nat} {r : Unit} {h' : xH} (x0 : Nat) (x1 : Int32) (h : xH) (hdp : 0 ≤ d) (hF : F_J7_fill_53178 x0 x1 h = some (r, h')) : Gm Γ l d 0 0 m_J7_fill_53178 [.ref x0, .int x1] h (fun a u => a = none ∧ u = h') := by
  refine Gm.of pn_J7 (Nat.le_of_ble_eq_true rfl) ?_
  show Gd Γ l d m_J7_fill_53178 0 [.ref x0, .int x1, xhole, xhole] [] h 0 0 _
  generalize hQ : (fun (a : Option Value) (u : xH) => a = none ∧ u = h') = Q
  have hq : Q (none) h' := by rw [← hQ]; exact ⟨rfl, rfl⟩
  clear hQ
  unfold F_J7_fill_53178 at hF
  refine g_ic (0) d_J7_fill_53178_0 ic_0 ?_
  refine q_istoren [.ref x0, .int x1, .int 0, xhole] d_J7_fill_53178_1 (by decide) rfl ?_
  refine g_aloadn d_J7_fill_53178_2 rfl ?_
  obtain ⟨v3, e3, hF⟩ := Option.bind_eq_some_iff.mp hF
  refine q_al d_J7_fill_53178_3 e3 ?_
  refine q_istoren [.ref x0, .int x1, .int 0, .int v3] d_J7_fill_53178_4 (by decide) rfl ?_
  exact q_to (xs_r (xs_r (xs_r (xs_r xs_n)))) (R_J7_fill_53178_b5 hdp hq FU _ _ _ _ _ hF)
theorem d_X9_isNewKind_0 : decode cX9_isNewKind 0 = .ok (.iconst 0, 1) := by decide +kernel
theorem d_X9_isNewKind_1 : decode cX9_isNewKind 1 = .ok (.istore_n 2, 1) := by decide +kernel
theorem d_X9_isNewKind_2 : decode cX9_isNewKind 2 = .ok (.iload_n 2, 1) := by decide +kernel
theorem d_X9_isNewKind_3 : decode cX9_isNewKind 3 = .ok (.aload_n 0, 1) := by decide +kernel
theorem d_X9_isNewKind_4 : decode cX9_isNewKind 4 = .ok (.getfield 22, 3) := by decide +kernel
theorem d_X9_isNewKind_7 : decode cX9_isNewKind 7 = .ok (.if_icmp .ge 21, 3) := by decide +kernel
theorem d_X9_isNewKind_10 : decode cX9_isNewKind 10 = .ok (.aload_n 0, 1) := by decide +kernel
theorem d_X9_isNewKind_11 : decode cX9_isNewKind 11 = .ok (.getfield 19, 3) := by decide +kernel
theorem d_X9_isNewKind_14 : decode cX9_isNewKind 14 = .ok (.iload_n 2, 1) := by decide +kernel
theorem d_X9_isNewKind_15 : decode cX9_isNewKind 15 = .ok (.iaload, 1) := by decide +kernel
theorem d_X9_isNewKind_16 : decode cX9_isNewKind 16 = .ok (.iload_n 1, 1) := by decide +kernel
theorem d_X9_isNewKind_17 : decode cX9_isNewKind 17 = .ok (.if_icmp .ne 5, 3) := by decide +kernel
theorem d_X9_isNewKind_20 : decode cX9_isNewKind 20 = .ok (.iconst 0, 1) := by decide +kernel
theorem d_X9_isNewKind_21 : decode cX9_isNewKind 21 = .ok (.ireturn, 1) := by decide +kernel
theorem d_X9_isNewKind_22 : decode cX9_isNewKind 22 = .ok (.iinc 2 1, 3) := by decide +kernel
theorem d_X9_isNewKind_25 : decode cX9_isNewKind 25 = .ok (.goto (-23), 3) := by decide +kernel
theorem d_X9_isNewKind_28 : decode cX9_isNewKind 28 = .ok (.iconst 1, 1) := by decide +kernel
theorem d_X9_isNewKind_29 : decode cX9_isNewKind 29 = .ok (.ireturn, 1) := by decide +kernel
def F_X9_isNewKind_b2 : Nat → Nat → Int32 → Int32 → xH → Option (Int32 × xH)
  | 0, _, _, _, _ => none
  | n + 1, x0, x1, x2, h => (fI h x0 8 3).bind fun v4 => if v4 ≤ x2 then some (1, h) else (fR h x0 8 2).bind fun v11 => (aI h v11 x2).bind fun v15 => if ¬ v15 = x1 then F_X9_isNewKind_b2 n x0 x1 (x2 + 1) h else some (0, h)
theorem R_X9_isNewKind_b2 {Γ : xG} {l : Launch} {d : Nat} {Q : Option Value → xH → Prop} {r : Int32} {h' : xH} (hdp : 0 ≤ d) (hq : Q (some (.int r)) h') : ∀ (n : Nat) (x0 : Nat) (x1 : Int32) (x2 : Int32) (h : xH), F_X9_isNewKind_b2 n x0 x1 x2 h = some (r, h') → Gd Γ l d m_X9_isNewKind 2 [.ref x0, .int x1, .int x2] [] h 0 0 Q := by
  intro n
  induction n with
  | zero => intro x0 x1 x2 h hF; cases hF
  | succ n ih =>
  intro x0 x1 x2 h hF
  rw [F_X9_isNewKind_b2] at hF
  refine g_iloadn d_X9_isNewKind_2 rfl ?_
  refine g_aloadn d_X9_isNewKind_3 rfl ?_
  obtain ⟨v4, e4, hF⟩ := Option.bind_eq_some_iff.mp hF
  refine q_fI d_X9_isNewKind_4 f_X9_22 e4 ?_
  refine g_icmp_ge 28 d_X9_isNewKind_7 rfl (fun c7 => ?_) (fun c7 => ?_)
  · have hF := x_t hF c7
    refine g_ic (1) d_X9_isNewKind_28 ic_1 ?_
    obtain ⟨rfl, rfl⟩ := x_inj hF
    exact g_zret d_X9_isNewKind_29 rfl rfl hq
  · have hF := x_f hF c7
    refine g_aloadn d_X9_isNewKind_10 rfl ?_
    obtain ⟨v11, e11, hF⟩ := Option.bind_eq_some_iff.mp hF
    refine q_fR d_X9_isNewKind_11 f_X9_19 e11 ?_
    refine g_iloadn d_X9_isNewKind_14 rfl ?_
    obtain ⟨v15, e15, hF⟩ := Option.bind_eq_some_iff.mp hF
    refine q_aI d_X9_isNewKind_15 e15 ?_
    refine g_iloadn d_X9_isNewKind_16 rfl ?_
    refine g_icmp_ne 22 d_X9_isNewKind_17 rfl (fun c17 => ?_) (fun c17 => ?_)
    · have hF := x_t hF c17
      refine q_iinc (1) [.ref x0, .int x1, .int (x2 + 1)] d_X9_isNewKind_22 ic_1 rfl (by decide) rfl ?_
      refine g_goto 2 d_X9_isNewKind_25 rfl ?_
      exact q_to (xs_r (xs_r (xs_r xs_n))) (ih _ _ _ _ hF)
    · have hF := x_f hF (not_not_intro c17)
      refine g_ic (0) d_X9_isNewKind_20 ic_0 ?_
      obtain ⟨rfl, rfl⟩ := x_inj hF
      exact g_zret d_X9_isNewKind_21 rfl rfl hq
def F_X9_isNewKind (x0 : Nat) (x1 : Int32) (h : xH) : Option (Int32 × xH) := F_X9_isNewKind_b2 FU x0 x1 0 h
theorem R_X9_isNewKind {Γ : xG} {l : Launch} {d : Nat} {r : Int32} {h' : xH} (x0 : Nat) (x1 : Int32) (h : xH) (hdp : 0 ≤ d) (hF : F_X9_isNewKind x0 x1 h = some (r, h')) : Gm Γ l d 0 0 m_X9_isNewKind [.ref x0, .int x1] h (fun a u => a = some (.int r) ∧ u = h') := by
  refine Gm.of pn_X9 (Nat.le_of_ble_eq_true rfl) ?_
  show Gd Γ l d m_X9_isNewKind 0 [.ref x0, .int x1, xhole] [] h 0 0 _
  generalize hQ : (fun (a : Option Value) (u : xH) => a = some (.int r) ∧ u = h') = Q
  have hq : Q (some (.int r)) h' := by rw [← hQ]; exact ⟨rfl, rfl⟩
  clear hQ
  unfold F_X9_isNewKind at hF
  refine g_ic (0) d_X9_isNewKind_0 ic_0 ?_
  refine q_istoren [.ref x0, .int x1, .int 0] d_X9_isNewKind_1 (by decide) rfl ?_
  exact q_to (xs_r (xs_r (xs_r xs_n))) (R_X9_isNewKind_b2 hdp hq FU _ _ _ _ hF)
theorem d_X9_addKind_0 : decode cX9_addKind 0 = .ok (.aload_n 0, 1) := by decide +kernel
theorem d_X9_addKind_1 : decode cX9_addKind 1 = .ok (.getfield 19, 3) := by decide +kernel
theorem d_X9_addKind_4 : decode cX9_addKind 4 = .ok (.aload_n 0, 1) := by decide +kernel
theorem d_X9_addKind_5 : decode cX9_addKind 5 = .ok (.getfield 22, 3) := by decide +kernel
theorem d_X9_addKind_8 : decode cX9_addKind 8 = .ok (.iload_n 1, 1) := by decide +kernel
theorem d_X9_addKind_9 : decode cX9_addKind 9 = .ok (.iastore, 1) := by decide +kernel
theorem d_X9_addKind_10 : decode cX9_addKind 10 = .ok (.iconst 0, 1) := by decide +kernel
theorem d_X9_addKind_11 : decode cX9_addKind 11 = .ok (.istore_n 2, 1) := by decide +kernel
theorem d_X9_addKind_12 : decode cX9_addKind 12 = .ok (.iload_n 2, 1) := by decide +kernel
theorem d_X9_addKind_13 : decode cX9_addKind 13 = .ok (.aload_n 0, 1) := by decide +kernel
theorem d_X9_addKind_14 : decode cX9_addKind 14 = .ok (.getfield 9, 3) := by decide +kernel
theorem d_X9_addKind_17 : decode cX9_addKind 17 = .ok (.if_icmp .ge 33, 3) := by decide +kernel
theorem d_X9_addKind_20 : decode cX9_addKind 20 = .ok (.iload_n 1, 1) := by decide +kernel
theorem d_X9_addKind_21 : decode cX9_addKind 21 = .ok (.iload_n 2, 1) := by decide +kernel
theorem d_X9_addKind_22 : decode cX9_addKind 22 = .ok (.ishr, 1) := by decide +kernel
theorem d_X9_addKind_23 : decode cX9_addKind 23 = .ok (.iconst 1, 1) := by decide +kernel
theorem d_X9_addKind_24 : decode cX9_addKind 24 = .ok (.iand, 1) := by decide +kernel
theorem d_X9_addKind_25 : decode cX9_addKind 25 = .ok (.iconst 1, 1) := by decide +kernel
theorem d_X9_addKind_26 : decode cX9_addKind 26 = .ok (.if_icmp .ne 18, 3) := by decide +kernel
theorem d_X9_addKind_29 : decode cX9_addKind 29 = .ok (.aload_n 0, 1) := by decide +kernel
theorem d_X9_addKind_30 : decode cX9_addKind 30 = .ok (.getfield 25, 3) := by decide +kernel
theorem d_X9_addKind_33 : decode cX9_addKind 33 = .ok (.iload_n 2, 1) := by decide +kernel
theorem d_X9_addKind_34 : decode cX9_addKind 34 = .ok (.dup2, 1) := by decide +kernel
theorem d_X9_addKind_35 : decode cX9_addKind 35 = .ok (.iaload, 1) := by decide +kernel
theorem d_X9_addKind_36 : decode cX9_addKind 36 = .ok (.iconst 1, 1) := by decide +kernel
theorem d_X9_addKind_37 : decode cX9_addKind 37 = .ok (.aload_n 0, 1) := by decide +kernel
theorem d_X9_addKind_38 : decode cX9_addKind 38 = .ok (.getfield 22, 3) := by decide +kernel
theorem d_X9_addKind_41 : decode cX9_addKind 41 = .ok (.ishl, 1) := by decide +kernel
theorem d_X9_addKind_42 : decode cX9_addKind 42 = .ok (.ior, 1) := by decide +kernel
theorem d_X9_addKind_43 : decode cX9_addKind 43 = .ok (.iastore, 1) := by decide +kernel
theorem d_X9_addKind_44 : decode cX9_addKind 44 = .ok (.iinc 2 1, 3) := by decide +kernel
theorem d_X9_addKind_47 : decode cX9_addKind 47 = .ok (.goto (-35), 3) := by decide +kernel
theorem d_X9_addKind_50 : decode cX9_addKind 50 = .ok (.aload_n 0, 1) := by decide +kernel
theorem d_X9_addKind_51 : decode cX9_addKind 51 = .ok (.dup, 1) := by decide +kernel
theorem d_X9_addKind_52 : decode cX9_addKind 52 = .ok (.getfield 22, 3) := by decide +kernel
theorem d_X9_addKind_55 : decode cX9_addKind 55 = .ok (.iconst 1, 1) := by decide +kernel
theorem d_X9_addKind_56 : decode cX9_addKind 56 = .ok (.iadd, 1) := by decide +kernel
theorem d_X9_addKind_57 : decode cX9_addKind 57 = .ok (.putfield 22, 3) := by decide +kernel
theorem d_X9_addKind_60 : decode cX9_addKind 60 = .ok (.return_, 1) := by decide +kernel
def F_X9_addKind_b12 : Nat → Nat → Int32 → Int32 → xH → Option (Unit × xH)
  | 0, _, _, _, _ => none
  | n + 1, x0, x1, x2, h => (fI h x0 8 0).bind fun v14 => if v14 ≤ x2 then (fI h x0 8 3).bind fun v52 => (wI h x0 8 3 (v52 + 1)).bind fun h57 => some ((), h57) else if ¬ ((x1 >>> (x2 &&& 31)) &&& 1) = ((1 : Int32)) then F_X9_addKind_b12 n x0 x1 (x2 + 1) h else (fR h x0 8 4).bind fun v30 => (aI h v30 x2).bind fun v35 => (fI h x0 8 3).bind fun v38 => (sI h v30 x2 (v35 ||| (((1 : Int32)) <<< (v38 &&& 31)))).bind fun h43 => F_X9_addKind_b12 n x0 x1 (x2 + 1) h43
theorem R_X9_addKind_b12 {Γ : xG} {l : Launch} {d : Nat} {Q : Option Value → xH → Prop} {r : Unit} {h' : xH} (hdp : 0 ≤ d) (hq : Q (none) h') : ∀ (n : Nat) (x0 : Nat) (x1 : Int32) (x2 : Int32) (h : xH), F_X9_addKind_b12 n x0 x1 x2 h = some (r, h') → Gd Γ l d m_X9_addKind 12 [.ref x0, .int x1, .int x2] [] h 0 0 Q := by
  intro n
  induction n with
  | zero => intro x0 x1 x2 h hF; cases hF
  | succ n ih =>
  intro x0 x1 x2 h hF
  rw [F_X9_addKind_b12] at hF
  refine g_iloadn d_X9_addKind_12 rfl ?_
  refine g_aloadn d_X9_addKind_13 rfl ?_
  obtain ⟨v14, e14, hF⟩ := Option.bind_eq_some_iff.mp hF
  refine q_fI d_X9_addKind_14 f_X9_9 e14 ?_
  refine g_icmp_ge 50 d_X9_addKind_17 rfl (fun c17 => ?_) (fun c17 => ?_)
  · have hF := x_t hF c17
    refine g_aloadn d_X9_addKind_50 rfl ?_
    refine g_dup d_X9_addKind_51 rfl ?_
    obtain ⟨v52, e52, hF⟩ := Option.bind_eq_some_iff.mp hF
    refine q_fI d_X9_addKind_52 f_X9_22 e52 ?_
    refine g_ic (1) d_X9_addKind_55 ic_1 ?_
    refine g_iadd d_X9_addKind_56 ?_
    obtain ⟨h57, e57, hF⟩ := Option.bind_eq_some_iff.mp hF
    refine q_wI d_X9_addKind_57 (w_X9_22 _) e57 ?_
    obtain ⟨rfl, rfl⟩ := x_inj hF
    exact g_vret d_X9_addKind_60 rfl hq
  · have hF := x_f hF c17
    refine g_iloadn d_X9_addKind_20 rfl ?_
    refine g_iloadn d_X9_addKind_21 rfl ?_
    refine g_ishr d_X9_addKind_22 ?_
    refine g_ic (1) d_X9_addKind_23 ic_1 ?_
    refine g_iand d_X9_addKind_24 ?_
    refine g_ic (1) d_X9_addKind_25 ic_1 ?_
    refine g_icmp_ne 44 d_X9_addKind_26 rfl (fun c26 => ?_) (fun c26 => ?_)
    · have hF := x_t hF c26
      refine q_iinc (1) [.ref x0, .int x1, .int (x2 + 1)] d_X9_addKind_44 ic_1 rfl (by decide) rfl ?_
      refine g_goto 12 d_X9_addKind_47 rfl ?_
      exact q_to (xs_r (xs_r (xs_r xs_n))) (ih _ _ _ _ hF)
    · have hF := x_f hF (not_not_intro c26)
      refine g_aloadn d_X9_addKind_29 rfl ?_
      obtain ⟨v30, e30, hF⟩ := Option.bind_eq_some_iff.mp hF
      refine q_fR d_X9_addKind_30 f_X9_25 e30 ?_
      refine g_iloadn d_X9_addKind_33 rfl ?_
      refine g_dup2 d_X9_addKind_34 rfl rfl ?_
      obtain ⟨v35, e35, hF⟩ := Option.bind_eq_some_iff.mp hF
      refine q_aI d_X9_addKind_35 e35 ?_
      refine g_ic (1) d_X9_addKind_36 ic_1 ?_
      refine g_aloadn d_X9_addKind_37 rfl ?_
      obtain ⟨v38, e38, hF⟩ := Option.bind_eq_some_iff.mp hF
      refine q_fI d_X9_addKind_38 f_X9_22 e38 ?_
      refine g_ishl d_X9_addKind_41 ?_
      refine g_ior d_X9_addKind_42 ?_
      obtain ⟨h43, e43, hF⟩ := Option.bind_eq_some_iff.mp hF
      refine q_sI d_X9_addKind_43 e43 ?_
      refine q_iinc (1) [.ref x0, .int x1, .int (x2 + 1)] d_X9_addKind_44 ic_1 rfl (by decide) rfl ?_
      refine g_goto 12 d_X9_addKind_47 rfl ?_
      exact q_to (xs_r (xs_r (xs_r xs_n))) (ih _ _ _ _ hF)
def F_X9_addKind (x0 : Nat) (x1 : Int32) (h : xH) : Option (Unit × xH) := (fR h x0 8 2).bind fun v1 => (fI h x0 8 3).bind fun v5 => (sI h v1 v5 x1).bind fun h9 => F_X9_addKind_b12 FU x0 x1 0 h9
theorem R_X9_addKind {Γ : xG} {l : Launch} {d : Nat} {r : Unit} {h' : xH} (x0 : Nat) (x1 : Int32) (h : xH) (hdp : 0 ≤ d) (hF : F_X9_addKind x0 x1 h = some (r, h')) : Gm Γ l d 0 0 m_X9_addKind [.ref x0, .int x1] h (fun a u => a = none ∧ u = h') := by
  refine Gm.of pn_X9 (Nat.le_of_ble_eq_true rfl) ?_
  show Gd Γ l d m_X9_addKind 0 [.ref x0, .int x1, xhole] [] h 0 0 _
  generalize hQ : (fun (a : Option Value) (u : xH) => a = none ∧ u = h') = Q
  have hq : Q (none) h' := by rw [← hQ]; exact ⟨rfl, rfl⟩
  clear hQ
  unfold F_X9_addKind at hF
  refine g_aloadn d_X9_addKind_0 rfl ?_
  obtain ⟨v1, e1, hF⟩ := Option.bind_eq_some_iff.mp hF
  refine q_fR d_X9_addKind_1 f_X9_19 e1 ?_
  refine g_aloadn d_X9_addKind_4 rfl ?_
  obtain ⟨v5, e5, hF⟩ := Option.bind_eq_some_iff.mp hF
  refine q_fI d_X9_addKind_5 f_X9_22 e5 ?_
  refine g_iloadn d_X9_addKind_8 rfl ?_
  obtain ⟨h9, e9, hF⟩ := Option.bind_eq_some_iff.mp hF
  refine q_sI d_X9_addKind_9 e9 ?_
  refine g_ic (0) d_X9_addKind_10 ic_0 ?_
  refine q_istoren [.ref x0, .int x1, .int 0] d_X9_addKind_11 (by decide) rfl ?_
  exact q_to (xs_r (xs_r (xs_r xs_n))) (R_X9_addKind_b12 hdp hq FU _ _ _ _ hF)
theorem d_X9_gather_0 : decode cX9_gather 0 = .ok (.aload_n 0, 1) := by decide +kernel
theorem d_X9_gather_1 : decode cX9_gather 1 = .ok (.aload_n 1, 1) := by decide +kernel
theorem d_X9_gather_2 : decode cX9_gather 2 = .ok (.getfield 32, 3) := by decide +kernel
theorem d_X9_gather_5 : decode cX9_gather 5 = .ok (.putfield 9, 3) := by decide +kernel
theorem d_X9_gather_8 : decode cX9_gather 8 = .ok (.aload_n 0, 1) := by decide +kernel
theorem d_X9_gather_9 : decode cX9_gather 9 = .ok (.iconst 0, 1) := by decide +kernel
theorem d_X9_gather_10 : decode cX9_gather 10 = .ok (.putfield 22, 3) := by decide +kernel
theorem d_X9_gather_13 : decode cX9_gather 13 = .ok (.aload_n 0, 1) := by decide +kernel
theorem d_X9_gather_14 : decode cX9_gather 14 = .ok (.getfield 25, 3) := by decide +kernel
theorem d_X9_gather_17 : decode cX9_gather 17 = .ok (.iconst 0, 1) := by decide +kernel
theorem d_X9_gather_18 : decode cX9_gather 18 = .ok (.invokestatic 35, 3) := by decide +kernel
theorem d_X9_gather_21 : decode cX9_gather 21 = .ok (.iconst 0, 1) := by decide +kernel
theorem d_X9_gather_22 : decode cX9_gather 22 = .ok (.istore 4, 2) := by decide +kernel
theorem d_X9_gather_24 : decode cX9_gather 24 = .ok (.iload 4, 2) := by decide +kernel
theorem d_X9_gather_26 : decode cX9_gather 26 = .ok (.aload_n 0, 1) := by decide +kernel
theorem d_X9_gather_27 : decode cX9_gather 27 = .ok (.getfield 9, 3) := by decide +kernel
theorem d_X9_gather_30 : decode cX9_gather 30 = .ok (.if_icmp .gt 49, 3) := by decide +kernel
theorem d_X9_gather_33 : decode cX9_gather 33 = .ok (.aload_n 0, 1) := by decide +kernel
theorem d_X9_gather_34 : decode cX9_gather 34 = .ok (.getfield 15, 3) := by decide +kernel
theorem d_X9_gather_37 : decode cX9_gather 37 = .ok (.iload 4, 2) := by decide +kernel
theorem d_X9_gather_39 : decode cX9_gather 39 = .ok (.aload_n 1, 1) := by decide +kernel
theorem d_X9_gather_40 : decode cX9_gather 40 = .ok (.aload_n 2, 1) := by decide +kernel
theorem d_X9_gather_41 : decode cX9_gather 41 = .ok (.iload_n 3, 1) := by decide +kernel
theorem d_X9_gather_42 : decode cX9_gather 42 = .ok (.iload 4, 2) := by decide +kernel
theorem d_X9_gather_44 : decode cX9_gather 44 = .ok (.invokevirtual 41, 3) := by decide +kernel
theorem d_X9_gather_47 : decode cX9_gather 47 = .ok (.iastore, 1) := by decide +kernel
theorem d_X9_gather_48 : decode cX9_gather 48 = .ok (.aload_n 0, 1) := by decide +kernel
theorem d_X9_gather_49 : decode cX9_gather 49 = .ok (.aload_n 0, 1) := by decide +kernel
theorem d_X9_gather_50 : decode cX9_gather 50 = .ok (.getfield 15, 3) := by decide +kernel
theorem d_X9_gather_53 : decode cX9_gather 53 = .ok (.iload 4, 2) := by decide +kernel
theorem d_X9_gather_55 : decode cX9_gather 55 = .ok (.iaload, 1) := by decide +kernel
theorem d_X9_gather_56 : decode cX9_gather 56 = .ok (.invokevirtual 45, 3) := by decide +kernel
theorem d_X9_gather_59 : decode cX9_gather 59 = .ok (.ifCond .eq 14, 3) := by decide +kernel
theorem d_X9_gather_62 : decode cX9_gather 62 = .ok (.aload_n 0, 1) := by decide +kernel
theorem d_X9_gather_63 : decode cX9_gather 63 = .ok (.aload_n 0, 1) := by decide +kernel
theorem d_X9_gather_64 : decode cX9_gather 64 = .ok (.getfield 15, 3) := by decide +kernel
theorem d_X9_gather_67 : decode cX9_gather 67 = .ok (.iload 4, 2) := by decide +kernel
theorem d_X9_gather_69 : decode cX9_gather 69 = .ok (.iaload, 1) := by decide +kernel
theorem d_X9_gather_70 : decode cX9_gather 70 = .ok (.invokevirtual 49, 3) := by decide +kernel
theorem d_X9_gather_73 : decode cX9_gather 73 = .ok (.iinc 4 1, 3) := by decide +kernel
theorem d_X9_gather_76 : decode cX9_gather 76 = .ok (.goto (-52), 3) := by decide +kernel
theorem d_X9_gather_79 : decode cX9_gather 79 = .ok (.return_, 1) := by decide +kernel
def F_X9_gather_b24 : Nat → Nat → Nat → Nat → Int32 → Int32 → xH → Option (Unit × xH)
  | 0, _, _, _, _, _, _ => none
  | n + 1, x0, x1, x2, x3, x4, h => (fI h x0 8 0).bind fun v27 => if v27 < x4 then some ((), h) else (fR h x0 8 1).bind fun v34 => (rc h x1 9).bind fun _ => (F_X10_heardWith x1 x2 x3 x4 h).bind fun z44 => (sI z44.2 v34 x4 z44.1).bind fun h47 => (fR h47 x0 8 1).bind fun v50 => (aI h47 v50 x4).bind fun v55 => (rc h47 x0 8).bind fun _ => (F_X9_isNewKind x0 v55 h47).bind fun z56 => if z56.1 = 0 then F_X9_gather_b24 n x0 x1 x2 x3 (x4 + 1) z56.2 else (fR z56.2 x0 8 1).bind fun v64 => (aI z56.2 v64 x4).bind fun v69 => (rc z56.2 x0 8).bind fun _ => (F_X9_addKind x0 v69 z56.2).bind fun z70 => F_X9_gather_b24 n x0 x1 x2 x3 (x4 + 1) z70.2
theorem R_X9_gather_b24 {Γ : xG} {l : Launch} {d : Nat} {Q : Option Value → xH → Prop} {r : Unit} {h' : xH} (hdp : 5 ≤ d) (hq : Q (none) h') : ∀ (n : Nat) (x0 : Nat) (x1 : Nat) (x2 : Nat) (x3 : Int32) (x4 : Int32) (h : xH), F_X9_gather_b24 n x0 x1 x2 x3 x4 h = some (r, h') → Gd Γ l d m_X9_gather 24 [.ref x0, .ref x1, .ref x2, .int x3, .int x4] [] h 0 0 Q := by
  intro n
  induction n with
  | zero => intro x0 x1 x2 x3 x4 h hF; cases hF
  | succ n ih =>
  intro x0 x1 x2 x3 x4 h hF
  rw [F_X9_gather_b24] at hF
  refine g_iload d_X9_gather_24 rfl ?_
  refine g_aloadn d_X9_gather_26 rfl ?_
  obtain ⟨v27, e27, hF⟩ := Option.bind_eq_some_iff.mp hF
  refine q_fI d_X9_gather_27 f_X9_9 e27 ?_
  refine g_icmp_gt 79 d_X9_gather_30 rfl (fun c30 => ?_) (fun c30 => ?_)
  · have hF := x_t hF c30
    obtain ⟨rfl, rfl⟩ := x_inj hF
    exact g_vret d_X9_gather_79 rfl hq
  · have hF := x_f hF c30
    refine g_aloadn d_X9_gather_33 rfl ?_
    obtain ⟨v34, e34, hF⟩ := Option.bind_eq_some_iff.mp hF
    refine q_fR d_X9_gather_34 f_X9_15 e34 ?_
    refine g_iload d_X9_gather_37 rfl ?_
    refine g_aloadn d_X9_gather_39 rfl ?_
    refine g_aloadn d_X9_gather_40 rfl ?_
    refine g_iloadn d_X9_gather_41 rfl ?_
    refine g_iload d_X9_gather_42 rfl ?_
    obtain ⟨_, g44, hF⟩ := Option.bind_eq_some_iff.mp hF
    obtain ⟨⟨r44, h44⟩, e44, hF⟩ := Option.bind_eq_some_iff.mp hF
    try dsimp only at hF
    refine q_callV [.ref x2, .int x3, .int x4] [.int x4, .ref v34] rfl d_X9_gather_44 v_X9_41 (by omega) rfl (Nat.le_of_ble_eq_true rfl) (rc_rc g44 (by decide) rfl) (R_X10_heardWith _ _ _ _ _ (by omega) e44) ?_
    obtain ⟨h47, e47, hF⟩ := Option.bind_eq_some_iff.mp hF
    refine q_sI d_X9_gather_47 e47 ?_
    refine g_aloadn d_X9_gather_48 rfl ?_
    refine g_aloadn d_X9_gather_49 rfl ?_
    obtain ⟨v50, e50, hF⟩ := Option.bind_eq_some_iff.mp hF
    refine q_fR d_X9_gather_50 f_X9_15 e50 ?_
    refine g_iload d_X9_gather_53 rfl ?_
    obtain ⟨v55, e55, hF⟩ := Option.bind_eq_some_iff.mp hF
    refine q_aI d_X9_gather_55 e55 ?_
    obtain ⟨_, g56, hF⟩ := Option.bind_eq_some_iff.mp hF
    obtain ⟨⟨r56, h56⟩, e56, hF⟩ := Option.bind_eq_some_iff.mp hF
    try dsimp only at hF
    refine q_callV [.int v55] [] rfl d_X9_gather_56 v_X9_45 (by omega) rfl (Nat.le_of_ble_eq_true rfl) (rc_rc g56 (by decide) rfl) (R_X9_isNewKind _ _ _ (by omega) e56) ?_
    refine g_if_eq 73 d_X9_gather_59 rfl (fun c59 => ?_) (fun c59 => ?_)
    · have hF := x_t hF c59
      refine q_iinc (1) [.ref x0, .ref x1, .ref x2, .int x3, .int (x4 + 1)] d_X9_gather_73 ic_1 rfl (by decide) rfl ?_
      refine g_goto 24 d_X9_gather_76 rfl ?_
      exact q_to (xs_r (xs_r (xs_r (xs_r (xs_r xs_n))))) (ih _ _ _ _ _ _ hF)
    · have hF := x_f hF c59
      refine g_aloadn d_X9_gather_62 rfl ?_
      refine g_aloadn d_X9_gather_63 rfl ?_
      obtain ⟨v64, e64, hF⟩ := Option.bind_eq_some_iff.mp hF
      refine q_fR d_X9_gather_64 f_X9_15 e64 ?_
      refine g_iload d_X9_gather_67 rfl ?_
      obtain ⟨v69, e69, hF⟩ := Option.bind_eq_some_iff.mp hF
      refine q_aI d_X9_gather_69 e69 ?_
      obtain ⟨_, g70, hF⟩ := Option.bind_eq_some_iff.mp hF
      obtain ⟨⟨r70, h70⟩, e70, hF⟩ := Option.bind_eq_some_iff.mp hF
      try dsimp only at hF
      refine q_callV [.int v69] [] rfl d_X9_gather_70 v_X9_49 (by omega) rfl (Nat.le_of_ble_eq_true rfl) (rc_rc g70 (by decide) rfl) (R_X9_addKind _ _ _ (by omega) e70) ?_
      refine q_iinc (1) [.ref x0, .ref x1, .ref x2, .int x3, .int (x4 + 1)] d_X9_gather_73 ic_1 rfl (by decide) rfl ?_
      refine g_goto 24 d_X9_gather_76 rfl ?_
      exact q_to (xs_r (xs_r (xs_r (xs_r (xs_r xs_n))))) (ih _ _ _ _ _ _ hF)
def F_X9_gather (x0 : Nat) (x1 : Nat) (x2 : Nat) (x3 : Int32) (h : xH) : Option (Unit × xH) := (fI h x1 9 0).bind fun v2 => (wI h x0 8 0 v2).bind fun h5 => (wI h5 x0 8 3 0).bind fun h10 => (fR h10 x0 8 4).bind fun v14 => (F_J7_fill_53178 v14 0 h10).bind fun z18 => F_X9_gather_b24 FU x0 x1 x2 x3 0 z18.2
theorem R_X9_gather {Γ : xG} {l : Launch} {d : Nat} {r : Unit} {h' : xH} (x0 : Nat) (x1 : Nat) (x2 : Nat) (x3 : Int32) (h : xH) (hdp : 5 ≤ d) (hF : F_X9_gather x0 x1 x2 x3 h = some (r, h')) : Gm Γ l d 0 0 m_X9_gather [.ref x0, .ref x1, .ref x2, .int x3] h (fun a u => a = none ∧ u = h') := by
  refine Gm.of pn_X9 (Nat.le_of_ble_eq_true rfl) ?_
  show Gd Γ l d m_X9_gather 0 [.ref x0, .ref x1, .ref x2, .int x3, xhole] [] h 0 0 _
  generalize hQ : (fun (a : Option Value) (u : xH) => a = none ∧ u = h') = Q
  have hq : Q (none) h' := by rw [← hQ]; exact ⟨rfl, rfl⟩
  clear hQ
  unfold F_X9_gather at hF
  refine g_aloadn d_X9_gather_0 rfl ?_
  refine g_aloadn d_X9_gather_1 rfl ?_
  obtain ⟨v2, e2, hF⟩ := Option.bind_eq_some_iff.mp hF
  refine q_fI d_X9_gather_2 f_X9_32 e2 ?_
  obtain ⟨h5, e5, hF⟩ := Option.bind_eq_some_iff.mp hF
  refine q_wI d_X9_gather_5 (w_X9_9 _) e5 ?_
  refine g_aloadn d_X9_gather_8 rfl ?_
  refine g_ic (0) d_X9_gather_9 ic_0 ?_
  obtain ⟨h10, e10, hF⟩ := Option.bind_eq_some_iff.mp hF
  refine q_wI d_X9_gather_10 (w_X9_22 _) e10 ?_
  refine g_aloadn d_X9_gather_13 rfl ?_
  obtain ⟨v14, e14, hF⟩ := Option.bind_eq_some_iff.mp hF
  refine q_fR d_X9_gather_14 f_X9_25 e14 ?_
  refine g_ic (0) d_X9_gather_17 ic_0 ?_
  obtain ⟨⟨r18, h18⟩, e18, hF⟩ := Option.bind_eq_some_iff.mp hF
  try dsimp only at hF
  refine q_callS [.ref v14, .int 0] [] rfl d_X9_gather_18 s_X9_35 (by omega) rfl (Nat.le_of_ble_eq_true rfl) (R_J7_fill_53178 _ _ _ (by omega) e18) ?_
  refine g_ic (0) d_X9_gather_21 ic_0 ?_
  refine q_istore [.ref x0, .ref x1, .ref x2, .int x3, .int 0] d_X9_gather_22 (by decide) rfl ?_
  exact q_to (xs_r (xs_r (xs_r (xs_r (xs_r xs_n))))) (R_X9_gather_b24 hdp hq FU _ _ _ _ _ _ hF)
theorem d_X9_blanksBy_0 : decode cX9_blanksBy 0 = .ok (.iconst 0, 1) := by decide +kernel
theorem d_X9_blanksBy_1 : decode cX9_blanksBy 1 = .ok (.istore_n 2, 1) := by decide +kernel
theorem d_X9_blanksBy_2 : decode cX9_blanksBy 2 = .ok (.iconst 0, 1) := by decide +kernel
theorem d_X9_blanksBy_3 : decode cX9_blanksBy 3 = .ok (.istore_n 3, 1) := by decide +kernel
theorem d_X9_blanksBy_4 : decode cX9_blanksBy 4 = .ok (.iload_n 3, 1) := by decide +kernel
theorem d_X9_blanksBy_5 : decode cX9_blanksBy 5 = .ok (.aload_n 0, 1) := by decide +kernel
theorem d_X9_blanksBy_6 : decode cX9_blanksBy 6 = .ok (.getfield 9, 3) := by decide +kernel
theorem d_X9_blanksBy_9 : decode cX9_blanksBy 9 = .ok (.if_icmp .gt 83, 3) := by decide +kernel
theorem d_X9_blanksBy_12 : decode cX9_blanksBy 12 = .ok (.iconst 1, 1) := by decide +kernel
theorem d_X9_blanksBy_13 : decode cX9_blanksBy 13 = .ok (.istore 4, 2) := by decide +kernel
theorem d_X9_blanksBy_15 : decode cX9_blanksBy 15 = .ok (.iconst 0, 1) := by decide +kernel
theorem d_X9_blanksBy_16 : decode cX9_blanksBy 16 = .ok (.istore 5, 2) := by decide +kernel
theorem d_X9_blanksBy_18 : decode cX9_blanksBy 18 = .ok (.iload 5, 2) := by decide +kernel
theorem d_X9_blanksBy_20 : decode cX9_blanksBy 20 = .ok (.aload_n 1, 1) := by decide +kernel
theorem d_X9_blanksBy_21 : decode cX9_blanksBy 21 = .ok (.getfield 53, 3) := by decide +kernel
theorem d_X9_blanksBy_24 : decode cX9_blanksBy 24 = .ok (.if_icmp .ge 51, 3) := by decide +kernel
theorem d_X9_blanksBy_27 : decode cX9_blanksBy 27 = .ok (.iload 4, 2) := by decide +kernel
theorem d_X9_blanksBy_29 : decode cX9_blanksBy 29 = .ok (.ifCond .eq 46, 3) := by decide +kernel
theorem d_X9_blanksBy_32 : decode cX9_blanksBy 32 = .ok (.aload_n 1, 1) := by decide +kernel
theorem d_X9_blanksBy_33 : decode cX9_blanksBy 33 = .ok (.getfield 58, 3) := by decide +kernel
theorem d_X9_blanksBy_36 : decode cX9_blanksBy 36 = .ok (.iload 5, 2) := by decide +kernel
theorem d_X9_blanksBy_38 : decode cX9_blanksBy 38 = .ok (.laload, 1) := by decide +kernel
theorem d_X9_blanksBy_39 : decode cX9_blanksBy 39 = .ok (.l2i, 1) := by decide +kernel
theorem d_X9_blanksBy_40 : decode cX9_blanksBy 40 = .ok (.istore 6, 2) := by decide +kernel
theorem d_X9_blanksBy_42 : decode cX9_blanksBy 42 = .ok (.aload_n 0, 1) := by decide +kernel
theorem d_X9_blanksBy_43 : decode cX9_blanksBy 43 = .ok (.getfield 15, 3) := by decide +kernel
theorem d_X9_blanksBy_46 : decode cX9_blanksBy 46 = .ok (.iload_n 3, 1) := by decide +kernel
theorem d_X9_blanksBy_47 : decode cX9_blanksBy 47 = .ok (.iaload, 1) := by decide +kernel
theorem d_X9_blanksBy_48 : decode cX9_blanksBy 48 = .ok (.iload 6, 2) := by decide +kernel
theorem d_X9_blanksBy_50 : decode cX9_blanksBy 50 = .ok (.iconst 1, 1) := by decide +kernel
theorem d_X9_blanksBy_51 : decode cX9_blanksBy 51 = .ok (.ishr, 1) := by decide +kernel
theorem d_X9_blanksBy_52 : decode cX9_blanksBy 52 = .ok (.ishr, 1) := by decide +kernel
theorem d_X9_blanksBy_53 : decode cX9_blanksBy 53 = .ok (.iconst 1, 1) := by decide +kernel
theorem d_X9_blanksBy_54 : decode cX9_blanksBy 54 = .ok (.iand, 1) := by decide +kernel
theorem d_X9_blanksBy_55 : decode cX9_blanksBy 55 = .ok (.iload 6, 2) := by decide +kernel
theorem d_X9_blanksBy_57 : decode cX9_blanksBy 57 = .ok (.iconst 1, 1) := by decide +kernel
theorem d_X9_blanksBy_58 : decode cX9_blanksBy 58 = .ok (.iand, 1) := by decide +kernel
theorem d_X9_blanksBy_59 : decode cX9_blanksBy 59 = .ok (.if_icmp .ne 7, 3) := by decide +kernel
theorem d_X9_blanksBy_62 : decode cX9_blanksBy 62 = .ok (.iconst 1, 1) := by decide +kernel
theorem d_X9_blanksBy_63 : decode cX9_blanksBy 63 = .ok (.goto 4, 3) := by decide +kernel
theorem d_X9_blanksBy_66 : decode cX9_blanksBy 66 = .ok (.iconst 0, 1) := by decide +kernel
theorem d_X9_blanksBy_67 : decode cX9_blanksBy 67 = .ok (.istore 4, 2) := by decide +kernel
theorem d_X9_blanksBy_69 : decode cX9_blanksBy 69 = .ok (.iinc 5 1, 3) := by decide +kernel
theorem d_X9_blanksBy_72 : decode cX9_blanksBy 72 = .ok (.goto (-54), 3) := by decide +kernel
theorem d_X9_blanksBy_75 : decode cX9_blanksBy 75 = .ok (.iload 4, 2) := by decide +kernel
theorem d_X9_blanksBy_77 : decode cX9_blanksBy 77 = .ok (.ifCond .eq 9, 3) := by decide +kernel
theorem d_X9_blanksBy_80 : decode cX9_blanksBy 80 = .ok (.iload_n 2, 1) := by decide +kernel
theorem d_X9_blanksBy_81 : decode cX9_blanksBy 81 = .ok (.iconst 1, 1) := by decide +kernel
theorem d_X9_blanksBy_82 : decode cX9_blanksBy 82 = .ok (.iload_n 3, 1) := by decide +kernel
theorem d_X9_blanksBy_83 : decode cX9_blanksBy 83 = .ok (.ishl, 1) := by decide +kernel
theorem d_X9_blanksBy_84 : decode cX9_blanksBy 84 = .ok (.ior, 1) := by decide +kernel
theorem d_X9_blanksBy_85 : decode cX9_blanksBy 85 = .ok (.istore_n 2, 1) := by decide +kernel
theorem d_X9_blanksBy_86 : decode cX9_blanksBy 86 = .ok (.iinc 3 1, 3) := by decide +kernel
theorem d_X9_blanksBy_89 : decode cX9_blanksBy 89 = .ok (.goto (-85), 3) := by decide +kernel
theorem d_X9_blanksBy_92 : decode cX9_blanksBy 92 = .ok (.iload_n 2, 1) := by decide +kernel
theorem d_X9_blanksBy_93 : decode cX9_blanksBy 93 = .ok (.ireturn, 1) := by decide +kernel
def F_X9_blanksBy_b75 (k4 : Nat → Nat → Int32 → Int32 → xH → Option (Int32 × xH)) (x0 : Nat) (x1 : Nat) (x2 : Int32) (x3 : Int32) (x4 : Int32) (h : xH) : Option (Int32 × xH) := if x4 = 0 then k4 x0 x1 x2 (x3 + 1) h else k4 x0 x1 (x2 ||| (((1 : Int32)) <<< (x3 &&& 31))) (x3 + 1) h
theorem R_X9_blanksBy_b75 {Γ : xG} {l : Launch} {d : Nat} {Q : Option Value → xH → Prop} {r : Int32} {h' : xH} {k4 : Nat → Nat → Int32 → Int32 → xH → Option (Int32 × xH)} (K4 : ∀ (x0 : Nat) (x1 : Nat) (x2 : Int32) (x3 : Int32)  (h : xH), k4 x0 x1 x2 x3 h = some (r, h') → Gd Γ l d m_X9_blanksBy 4 [.ref x0, .ref x1, .int x2, .int x3, xhole, xhole, xhole] [] h 0 0 Q) (hdp : 0 ≤ d) (hq : Q (some (.int r)) h') : ∀ (x0 : Nat) (x1 : Nat) (x2 : Int32) (x3 : Int32) (x4 : Int32) (h : xH), F_X9_blanksBy_b75 k4 x0 x1 x2 x3 x4 h = some (r, h') → Gd Γ l d m_X9_blanksBy 75 [.ref x0, .ref x1, .int x2, .int x3, .int x4, xhole, xhole] [] h 0 0 Q := by
  intro x0 x1 x2 x3 x4 h hF
  unfold F_X9_blanksBy_b75 at hF
  refine g_iload d_X9_blanksBy_75 rfl ?_
  refine g_if_eq 86 d_X9_blanksBy_77 rfl (fun c77 => ?_) (fun c77 => ?_)
  · have hF := x_t hF c77
    refine q_iinc (1) [.ref x0, .ref x1, .int x2, .int (x3 + 1), .int x4, xhole, xhole] d_X9_blanksBy_86 ic_1 rfl (by decide) rfl ?_
    refine g_goto 4 d_X9_blanksBy_89 rfl ?_
    exact q_to (xs_r (xs_r (xs_r (xs_r (xs_h (xs_h (xs_h xs_n))))))) (K4 _ _ _ _ _ hF)
  · have hF := x_f hF c77
    refine g_iloadn d_X9_blanksBy_80 rfl ?_
    refine g_ic (1) d_X9_blanksBy_81 ic_1 ?_
    refine g_iloadn d_X9_blanksBy_82 rfl ?_
    refine g_ishl d_X9_blanksBy_83 ?_
    refine g_ior d_X9_blanksBy_84 ?_
    refine q_istoren [.ref x0, .ref x1, .int (x2 ||| (((1 : Int32)) <<< (x3 &&& 31))), .int x3, .int x4, xhole, xhole] d_X9_blanksBy_85 (by decide) rfl ?_
    refine q_iinc (1) [.ref x0, .ref x1, .int (x2 ||| (((1 : Int32)) <<< (x3 &&& 31))), .int (x3 + 1), .int x4, xhole, xhole] d_X9_blanksBy_86 ic_1 rfl (by decide) rfl ?_
    refine g_goto 4 d_X9_blanksBy_89 rfl ?_
    exact q_to (xs_r (xs_r (xs_r (xs_r (xs_h (xs_h (xs_h xs_n))))))) (K4 _ _ _ _ _ hF)
def F_X9_blanksBy_b18 (k4 : Nat → Nat → Int32 → Int32 → xH → Option (Int32 × xH)) : Nat → Nat → Nat → Int32 → Int32 → Int32 → Int32 → xH → Option (Int32 × xH)
  | 0, _, _, _, _, _, _, _ => none
  | n + 1, x0, x1, x2, x3, x4, x5, h => (fI h x1 7 1).bind fun v21 => if v21 ≤ x5 then F_X9_blanksBy_b75 k4 x0 x1 x2 x3 x4 h else if x4 = 0 then F_X9_blanksBy_b75 k4 x0 x1 x2 x3 x4 h else (fR h x1 7 0).bind fun v33 => (aJ h v33 x5).bind fun v38 => (fR h x0 8 1).bind fun v43 => (aI h v43 x3).bind fun v47 => if ¬ ((v47 >>> ((v38.toInt32 >>> (1 &&& 31)) &&& 31)) &&& 1) = (v38.toInt32 &&& 1) then F_X9_blanksBy_b18 k4 n x0 x1 x2 x3 0 (x5 + 1) h else F_X9_blanksBy_b18 k4 n x0 x1 x2 x3 1 (x5 + 1) h
theorem R_X9_blanksBy_b18 {Γ : xG} {l : Launch} {d : Nat} {Q : Option Value → xH → Prop} {r : Int32} {h' : xH} {k4 : Nat → Nat → Int32 → Int32 → xH → Option (Int32 × xH)} (K4 : ∀ (x0 : Nat) (x1 : Nat) (x2 : Int32) (x3 : Int32)  (h : xH), k4 x0 x1 x2 x3 h = some (r, h') → Gd Γ l d m_X9_blanksBy 4 [.ref x0, .ref x1, .int x2, .int x3, xhole, xhole, xhole] [] h 0 0 Q) (hdp : 0 ≤ d) (hq : Q (some (.int r)) h') : ∀ (n : Nat) (x0 : Nat) (x1 : Nat) (x2 : Int32) (x3 : Int32) (x4 : Int32) (x5 : Int32) (h : xH), F_X9_blanksBy_b18 k4 n x0 x1 x2 x3 x4 x5 h = some (r, h') → Gd Γ l d m_X9_blanksBy 18 [.ref x0, .ref x1, .int x2, .int x3, .int x4, .int x5, xhole] [] h 0 0 Q := by
  intro n
  induction n with
  | zero => intro x0 x1 x2 x3 x4 x5 h hF; cases hF
  | succ n ih =>
  intro x0 x1 x2 x3 x4 x5 h hF
  rw [F_X9_blanksBy_b18] at hF
  refine g_iload d_X9_blanksBy_18 rfl ?_
  refine g_aloadn d_X9_blanksBy_20 rfl ?_
  obtain ⟨v21, e21, hF⟩ := Option.bind_eq_some_iff.mp hF
  refine q_fI d_X9_blanksBy_21 f_X9_53 e21 ?_
  refine g_icmp_ge 75 d_X9_blanksBy_24 rfl (fun c24 => ?_) (fun c24 => ?_)
  · have hF := x_t hF c24
    exact q_to (xs_r (xs_r (xs_r (xs_r (xs_r (xs_h (xs_h xs_n))))))) (R_X9_blanksBy_b75 K4 hdp hq _ _ _ _ _ _ hF)
  · have hF := x_f hF c24
    refine g_iload d_X9_blanksBy_27 rfl ?_
    refine g_if_eq 75 d_X9_blanksBy_29 rfl (fun c29 => ?_) (fun c29 => ?_)
    · have hF := x_t hF c29
      exact q_to (xs_r (xs_r (xs_r (xs_r (xs_r (xs_h (xs_h xs_n))))))) (R_X9_blanksBy_b75 K4 hdp hq _ _ _ _ _ _ hF)
    · have hF := x_f hF c29
      refine g_aloadn d_X9_blanksBy_32 rfl ?_
      obtain ⟨v33, e33, hF⟩ := Option.bind_eq_some_iff.mp hF
      refine q_fR d_X9_blanksBy_33 f_X9_58 e33 ?_
      refine g_iload d_X9_blanksBy_36 rfl ?_
      obtain ⟨v38, e38, hF⟩ := Option.bind_eq_some_iff.mp hF
      refine q_aJ d_X9_blanksBy_38 e38 ?_
      refine g_l2i d_X9_blanksBy_39 ?_
      refine q_istore [.ref x0, .ref x1, .int x2, .int x3, .int x4, .int x5, .int (v38.toInt32)] d_X9_blanksBy_40 (by decide) rfl ?_
      refine g_aloadn d_X9_blanksBy_42 rfl ?_
      obtain ⟨v43, e43, hF⟩ := Option.bind_eq_some_iff.mp hF
      refine q_fR d_X9_blanksBy_43 f_X9_15 e43 ?_
      refine g_iloadn d_X9_blanksBy_46 rfl ?_
      obtain ⟨v47, e47, hF⟩ := Option.bind_eq_some_iff.mp hF
      refine q_aI d_X9_blanksBy_47 e47 ?_
      refine g_iload d_X9_blanksBy_48 rfl ?_
      refine g_ic (1) d_X9_blanksBy_50 ic_1 ?_
      refine g_ishr d_X9_blanksBy_51 ?_
      refine g_ishr d_X9_blanksBy_52 ?_
      refine g_ic (1) d_X9_blanksBy_53 ic_1 ?_
      refine g_iand d_X9_blanksBy_54 ?_
      refine g_iload d_X9_blanksBy_55 rfl ?_
      refine g_ic (1) d_X9_blanksBy_57 ic_1 ?_
      refine g_iand d_X9_blanksBy_58 ?_
      refine g_icmp_ne 66 d_X9_blanksBy_59 rfl (fun c59 => ?_) (fun c59 => ?_)
      · have hF := x_t hF c59
        refine g_ic (0) d_X9_blanksBy_66 ic_0 ?_
        refine q_istore [.ref x0, .ref x1, .int x2, .int x3, .int 0, .int x5, .int (v38.toInt32)] d_X9_blanksBy_67 (by decide) rfl ?_
        refine q_iinc (1) [.ref x0, .ref x1, .int x2, .int x3, .int 0, .int (x5 + 1), .int (v38.toInt32)] d_X9_blanksBy_69 ic_1 rfl (by decide) rfl ?_
        refine g_goto 18 d_X9_blanksBy_72 rfl ?_
        exact q_to (xs_r (xs_r (xs_r (xs_r (xs_r (xs_r (xs_h xs_n))))))) (ih _ _ _ _ _ _ _ hF)
      · have hF := x_f hF (not_not_intro c59)
        refine g_ic (1) d_X9_blanksBy_62 ic_1 ?_
        refine g_goto 67 d_X9_blanksBy_63 rfl ?_
        refine q_istore [.ref x0, .ref x1, .int x2, .int x3, .int 1, .int x5, .int (v38.toInt32)] d_X9_blanksBy_67 (by decide) rfl ?_
        refine q_iinc (1) [.ref x0, .ref x1, .int x2, .int x3, .int 1, .int (x5 + 1), .int (v38.toInt32)] d_X9_blanksBy_69 ic_1 rfl (by decide) rfl ?_
        refine g_goto 18 d_X9_blanksBy_72 rfl ?_
        exact q_to (xs_r (xs_r (xs_r (xs_r (xs_r (xs_r (xs_h xs_n))))))) (ih _ _ _ _ _ _ _ hF)
def F_X9_blanksBy_b4 : Nat → Nat → Nat → Int32 → Int32 → xH → Option (Int32 × xH)
  | 0, _, _, _, _, _ => none
  | n + 1, x0, x1, x2, x3, h => (fI h x0 8 0).bind fun v6 => if v6 < x3 then some (x2, h) else F_X9_blanksBy_b18 (F_X9_blanksBy_b4 n) FU x0 x1 x2 x3 1 0 h
theorem R_X9_blanksBy_b4 {Γ : xG} {l : Launch} {d : Nat} {Q : Option Value → xH → Prop} {r : Int32} {h' : xH} (hdp : 0 ≤ d) (hq : Q (some (.int r)) h') : ∀ (n : Nat) (x0 : Nat) (x1 : Nat) (x2 : Int32) (x3 : Int32) (h : xH), F_X9_blanksBy_b4 n x0 x1 x2 x3 h = some (r, h') → Gd Γ l d m_X9_blanksBy 4 [.ref x0, .ref x1, .int x2, .int x3, xhole, xhole, xhole] [] h 0 0 Q := by
  intro n
  induction n with
  | zero => intro x0 x1 x2 x3 h hF; cases hF
  | succ n ih =>
  intro x0 x1 x2 x3 h hF
  rw [F_X9_blanksBy_b4] at hF
  refine g_iloadn d_X9_blanksBy_4 rfl ?_
  refine g_aloadn d_X9_blanksBy_5 rfl ?_
  obtain ⟨v6, e6, hF⟩ := Option.bind_eq_some_iff.mp hF
  refine q_fI d_X9_blanksBy_6 f_X9_9 e6 ?_
  refine g_icmp_gt 92 d_X9_blanksBy_9 rfl (fun c9 => ?_) (fun c9 => ?_)
  · have hF := x_t hF c9
    refine g_iloadn d_X9_blanksBy_92 rfl ?_
    obtain ⟨rfl, rfl⟩ := x_inj hF
    exact g_iret d_X9_blanksBy_93 rfl hq
  · have hF := x_f hF c9
    refine g_ic (1) d_X9_blanksBy_12 ic_1 ?_
    refine q_istore [.ref x0, .ref x1, .int x2, .int x3, .int 1, xhole, xhole] d_X9_blanksBy_13 (by decide) rfl ?_
    refine g_ic (0) d_X9_blanksBy_15 ic_0 ?_
    refine q_istore [.ref x0, .ref x1, .int x2, .int x3, .int 1, .int 0, xhole] d_X9_blanksBy_16 (by decide) rfl ?_
    exact q_to (xs_r (xs_r (xs_r (xs_r (xs_r (xs_r (xs_h xs_n))))))) (R_X9_blanksBy_b18 ih hdp hq FU _ _ _ _ _ _ _ hF)
def F_X9_blanksBy (x0 : Nat) (x1 : Nat) (h : xH) : Option (Int32 × xH) := F_X9_blanksBy_b4 FU x0 x1 0 0 h
theorem R_X9_blanksBy {Γ : xG} {l : Launch} {d : Nat} {r : Int32} {h' : xH} (x0 : Nat) (x1 : Nat) (h : xH) (hdp : 0 ≤ d) (hF : F_X9_blanksBy x0 x1 h = some (r, h')) : Gm Γ l d 0 0 m_X9_blanksBy [.ref x0, .ref x1] h (fun a u => a = some (.int r) ∧ u = h') := by
  refine Gm.of pn_X9 (Nat.le_of_ble_eq_true rfl) ?_
  show Gd Γ l d m_X9_blanksBy 0 [.ref x0, .ref x1, xhole, xhole, xhole, xhole, xhole] [] h 0 0 _
  generalize hQ : (fun (a : Option Value) (u : xH) => a = some (.int r) ∧ u = h') = Q
  have hq : Q (some (.int r)) h' := by rw [← hQ]; exact ⟨rfl, rfl⟩
  clear hQ
  unfold F_X9_blanksBy at hF
  refine g_ic (0) d_X9_blanksBy_0 ic_0 ?_
  refine q_istoren [.ref x0, .ref x1, .int 0, xhole, xhole, xhole, xhole] d_X9_blanksBy_1 (by decide) rfl ?_
  refine g_ic (0) d_X9_blanksBy_2 ic_0 ?_
  refine q_istoren [.ref x0, .ref x1, .int 0, .int 0, xhole, xhole, xhole] d_X9_blanksBy_3 (by decide) rfl ?_
  exact q_to (xs_r (xs_r (xs_r (xs_r (xs_h (xs_h (xs_h xs_n))))))) (R_X9_blanksBy_b4 hdp hq FU _ _ _ _ _ hF)
theorem d_X9_nextNote_0 : decode cX9_nextNote 0 = .ok (.iconst (-1), 1) := by decide +kernel
theorem d_X9_nextNote_1 : decode cX9_nextNote 1 = .ok (.istore_n 2, 1) := by decide +kernel
theorem d_X9_nextNote_2 : decode cX9_nextNote 2 = .ok (.iconst (-1), 1) := by decide +kernel
theorem d_X9_nextNote_3 : decode cX9_nextNote 3 = .ok (.istore_n 3, 1) := by decide +kernel
theorem d_X9_nextNote_4 : decode cX9_nextNote 4 = .ok (.iconst 0, 1) := by decide +kernel
theorem d_X9_nextNote_5 : decode cX9_nextNote 5 = .ok (.istore 4, 2) := by decide +kernel
theorem d_X9_nextNote_7 : decode cX9_nextNote 7 = .ok (.iload 4, 2) := by decide +kernel
theorem d_X9_nextNote_9 : decode cX9_nextNote 9 = .ok (.aload_n 0, 1) := by decide +kernel
theorem d_X9_nextNote_10 : decode cX9_nextNote 10 = .ok (.getfield 9, 3) := by decide +kernel
theorem d_X9_nextNote_13 : decode cX9_nextNote 13 = .ok (.if_icmp .ge 82, 3) := by decide +kernel
theorem d_X9_nextNote_16 : decode cX9_nextNote 16 = .ok (.iload_n 1, 1) := by decide +kernel
theorem d_X9_nextNote_17 : decode cX9_nextNote 17 = .ok (.ifCond .eq 78, 3) := by decide +kernel
theorem d_X9_nextNote_20 : decode cX9_nextNote 20 = .ok (.iconst 0, 1) := by decide +kernel
theorem d_X9_nextNote_21 : decode cX9_nextNote 21 = .ok (.istore 5, 2) := by decide +kernel
theorem d_X9_nextNote_23 : decode cX9_nextNote 23 = .ok (.iconst 0, 1) := by decide +kernel
theorem d_X9_nextNote_24 : decode cX9_nextNote 24 = .ok (.istore 6, 2) := by decide +kernel
theorem d_X9_nextNote_26 : decode cX9_nextNote 26 = .ok (.iload 6, 2) := by decide +kernel
theorem d_X9_nextNote_28 : decode cX9_nextNote 28 = .ok (.aload_n 0, 1) := by decide +kernel
theorem d_X9_nextNote_29 : decode cX9_nextNote 29 = .ok (.getfield 9, 3) := by decide +kernel
theorem d_X9_nextNote_32 : decode cX9_nextNote 32 = .ok (.if_icmp .gt 31, 3) := by decide +kernel
theorem d_X9_nextNote_35 : decode cX9_nextNote 35 = .ok (.iload 5, 2) := by decide +kernel
theorem d_X9_nextNote_37 : decode cX9_nextNote 37 = .ok (.iload_n 1, 1) := by decide +kernel
theorem d_X9_nextNote_38 : decode cX9_nextNote 38 = .ok (.iload 6, 2) := by decide +kernel
theorem d_X9_nextNote_40 : decode cX9_nextNote 40 = .ok (.ishr, 1) := by decide +kernel
theorem d_X9_nextNote_41 : decode cX9_nextNote 41 = .ok (.aload_n 0, 1) := by decide +kernel
theorem d_X9_nextNote_42 : decode cX9_nextNote 42 = .ok (.getfield 15, 3) := by decide +kernel
theorem d_X9_nextNote_45 : decode cX9_nextNote 45 = .ok (.iload 6, 2) := by decide +kernel
theorem d_X9_nextNote_47 : decode cX9_nextNote 47 = .ok (.iaload, 1) := by decide +kernel
theorem d_X9_nextNote_48 : decode cX9_nextNote 48 = .ok (.iload 4, 2) := by decide +kernel
theorem d_X9_nextNote_50 : decode cX9_nextNote 50 = .ok (.ishr, 1) := by decide +kernel
theorem d_X9_nextNote_51 : decode cX9_nextNote 51 = .ok (.iand, 1) := by decide +kernel
theorem d_X9_nextNote_52 : decode cX9_nextNote 52 = .ok (.iconst 1, 1) := by decide +kernel
theorem d_X9_nextNote_53 : decode cX9_nextNote 53 = .ok (.iand, 1) := by decide +kernel
theorem d_X9_nextNote_54 : decode cX9_nextNote 54 = .ok (.iadd, 1) := by decide +kernel
theorem d_X9_nextNote_55 : decode cX9_nextNote 55 = .ok (.istore 5, 2) := by decide +kernel
theorem d_X9_nextNote_57 : decode cX9_nextNote 57 = .ok (.iinc 6 1, 3) := by decide +kernel
theorem d_X9_nextNote_60 : decode cX9_nextNote 60 = .ok (.goto (-34), 3) := by decide +kernel
theorem d_X9_nextNote_63 : decode cX9_nextNote 63 = .ok (.iload 5, 2) := by decide +kernel
theorem d_X9_nextNote_65 : decode cX9_nextNote 65 = .ok (.iload_n 1, 1) := by decide +kernel
theorem d_X9_nextNote_66 : decode cX9_nextNote 66 = .ok (.invokestatic 62, 3) := by decide +kernel
theorem d_X9_nextNote_69 : decode cX9_nextNote 69 = .ok (.iload 5, 2) := by decide +kernel
theorem d_X9_nextNote_71 : decode cX9_nextNote 71 = .ok (.isub, 1) := by decide +kernel
theorem d_X9_nextNote_72 : decode cX9_nextNote 72 = .ok (.invokestatic 68, 3) := by decide +kernel
theorem d_X9_nextNote_75 : decode cX9_nextNote 75 = .ok (.istore 6, 2) := by decide +kernel
theorem d_X9_nextNote_77 : decode cX9_nextNote 77 = .ok (.iload 6, 2) := by decide +kernel
theorem d_X9_nextNote_79 : decode cX9_nextNote 79 = .ok (.iload_n 3, 1) := by decide +kernel
theorem d_X9_nextNote_80 : decode cX9_nextNote 80 = .ok (.if_icmp .le 9, 3) := by decide +kernel
theorem d_X9_nextNote_83 : decode cX9_nextNote 83 = .ok (.iload 6, 2) := by decide +kernel
theorem d_X9_nextNote_85 : decode cX9_nextNote 85 = .ok (.istore_n 3, 1) := by decide +kernel
theorem d_X9_nextNote_86 : decode cX9_nextNote 86 = .ok (.iload 4, 2) := by decide +kernel
theorem d_X9_nextNote_88 : decode cX9_nextNote 88 = .ok (.istore_n 2, 1) := by decide +kernel
theorem d_X9_nextNote_89 : decode cX9_nextNote 89 = .ok (.iinc 4 1, 3) := by decide +kernel
theorem d_X9_nextNote_92 : decode cX9_nextNote 92 = .ok (.goto (-85), 3) := by decide +kernel
theorem d_X9_nextNote_95 : decode cX9_nextNote 95 = .ok (.iload_n 2, 1) := by decide +kernel
theorem d_X9_nextNote_96 : decode cX9_nextNote 96 = .ok (.ireturn, 1) := by decide +kernel
def F_X9_nextNote_b26 (k7 : Nat → Int32 → Int32 → Int32 → Int32 → xH → Option (Int32 × xH)) : Nat → Nat → Int32 → Int32 → Int32 → Int32 → Int32 → Int32 → xH → Option (Int32 × xH)
  | 0, _, _, _, _, _, _, _, _ => none
  | n + 1, x0, x1, x2, x3, x4, x5, x6, h => (fI h x0 8 0).bind fun v29 => if v29 < x6 then (F_J6_bitCount_0f7a4 x1 h).bind fun z66 => (F_J9_min_7cf53 x5 (z66.1 - x5) z66.2).bind fun z72 => if z72.1 ≤ x3 then k7 x0 x1 x2 x3 (x4 + 1) z72.2 else k7 x0 x1 x4 z72.1 (x4 + 1) z72.2 else (fR h x0 8 1).bind fun v42 => (aI h v42 x6).bind fun v47 => F_X9_nextNote_b26 k7 n x0 x1 x2 x3 x4 (x5 + (((x1 >>> (x6 &&& 31)) &&& (v47 >>> (x4 &&& 31))) &&& 1)) (x6 + 1) h
theorem R_X9_nextNote_b26 {Γ : xG} {l : Launch} {d : Nat} {Q : Option Value → xH → Prop} {r : Int32} {h' : xH} {k7 : Nat → Int32 → Int32 → Int32 → Int32 → xH → Option (Int32 × xH)} (K7 : ∀ (x0 : Nat) (x1 : Int32) (x2 : Int32) (x3 : Int32) (x4 : Int32)  (h : xH), k7 x0 x1 x2 x3 x4 h = some (r, h') → Gd Γ l d m_X9_nextNote 7 [.ref x0, .int x1, .int x2, .int x3, .int x4, xhole, xhole] [] h 0 0 Q) (hdp : 1 ≤ d) (hq : Q (some (.int r)) h') : ∀ (n : Nat) (x0 : Nat) (x1 : Int32) (x2 : Int32) (x3 : Int32) (x4 : Int32) (x5 : Int32) (x6 : Int32) (h : xH), F_X9_nextNote_b26 k7 n x0 x1 x2 x3 x4 x5 x6 h = some (r, h') → Gd Γ l d m_X9_nextNote 26 [.ref x0, .int x1, .int x2, .int x3, .int x4, .int x5, .int x6] [] h 0 0 Q := by
  intro n
  induction n with
  | zero => intro x0 x1 x2 x3 x4 x5 x6 h hF; cases hF
  | succ n ih =>
  intro x0 x1 x2 x3 x4 x5 x6 h hF
  rw [F_X9_nextNote_b26] at hF
  refine g_iload d_X9_nextNote_26 rfl ?_
  refine g_aloadn d_X9_nextNote_28 rfl ?_
  obtain ⟨v29, e29, hF⟩ := Option.bind_eq_some_iff.mp hF
  refine q_fI d_X9_nextNote_29 f_X9_9 e29 ?_
  refine g_icmp_gt 63 d_X9_nextNote_32 rfl (fun c32 => ?_) (fun c32 => ?_)
  · have hF := x_t hF c32
    refine g_iload d_X9_nextNote_63 rfl ?_
    refine g_iloadn d_X9_nextNote_65 rfl ?_
    obtain ⟨⟨r66, h66⟩, e66, hF⟩ := Option.bind_eq_some_iff.mp hF
    try dsimp only at hF
    refine q_callS [.int x1] [.int x5] rfl d_X9_nextNote_66 s_X9_62 (by omega) rfl (Nat.le_of_ble_eq_true rfl) (R_J6_bitCount_0f7a4 _ _ (by omega) e66) ?_
    refine g_iload d_X9_nextNote_69 rfl ?_
    refine g_isub d_X9_nextNote_71 ?_
    obtain ⟨⟨r72, h72⟩, e72, hF⟩ := Option.bind_eq_some_iff.mp hF
    try dsimp only at hF
    refine q_callS [.int x5, .int (r66 - x5)] [] rfl d_X9_nextNote_72 s_X9_68 (by omega) rfl (Nat.le_of_ble_eq_true rfl) (R_J9_min_7cf53 _ _ _ (by omega) e72) ?_
    refine q_istore [.ref x0, .int x1, .int x2, .int x3, .int x4, .int x5, .int (r72)] d_X9_nextNote_75 (by decide) rfl ?_
    refine g_iload d_X9_nextNote_77 rfl ?_
    refine g_iloadn d_X9_nextNote_79 rfl ?_
    refine g_icmp_le 89 d_X9_nextNote_80 rfl (fun c80 => ?_) (fun c80 => ?_)
    · have hF := x_t hF c80
      refine q_iinc (1) [.ref x0, .int x1, .int x2, .int x3, .int (x4 + 1), .int x5, .int (r72)] d_X9_nextNote_89 ic_1 rfl (by decide) rfl ?_
      refine g_goto 7 d_X9_nextNote_92 rfl ?_
      exact q_to (xs_r (xs_r (xs_r (xs_r (xs_r (xs_h (xs_h xs_n))))))) (K7 _ _ _ _ _ _ hF)
    · have hF := x_f hF c80
      refine g_iload d_X9_nextNote_83 rfl ?_
      refine q_istoren [.ref x0, .int x1, .int x2, .int (r72), .int x4, .int x5, .int (r72)] d_X9_nextNote_85 (by decide) rfl ?_
      refine g_iload d_X9_nextNote_86 rfl ?_
      refine q_istoren [.ref x0, .int x1, .int x4, .int (r72), .int x4, .int x5, .int (r72)] d_X9_nextNote_88 (by decide) rfl ?_
      refine q_iinc (1) [.ref x0, .int x1, .int x4, .int (r72), .int (x4 + 1), .int x5, .int (r72)] d_X9_nextNote_89 ic_1 rfl (by decide) rfl ?_
      refine g_goto 7 d_X9_nextNote_92 rfl ?_
      exact q_to (xs_r (xs_r (xs_r (xs_r (xs_r (xs_h (xs_h xs_n))))))) (K7 _ _ _ _ _ _ hF)
  · have hF := x_f hF c32
    refine g_iload d_X9_nextNote_35 rfl ?_
    refine g_iloadn d_X9_nextNote_37 rfl ?_
    refine g_iload d_X9_nextNote_38 rfl ?_
    refine g_ishr d_X9_nextNote_40 ?_
    refine g_aloadn d_X9_nextNote_41 rfl ?_
    obtain ⟨v42, e42, hF⟩ := Option.bind_eq_some_iff.mp hF
    refine q_fR d_X9_nextNote_42 f_X9_15 e42 ?_
    refine g_iload d_X9_nextNote_45 rfl ?_
    obtain ⟨v47, e47, hF⟩ := Option.bind_eq_some_iff.mp hF
    refine q_aI d_X9_nextNote_47 e47 ?_
    refine g_iload d_X9_nextNote_48 rfl ?_
    refine g_ishr d_X9_nextNote_50 ?_
    refine g_iand d_X9_nextNote_51 ?_
    refine g_ic (1) d_X9_nextNote_52 ic_1 ?_
    refine g_iand d_X9_nextNote_53 ?_
    refine g_iadd d_X9_nextNote_54 ?_
    refine q_istore [.ref x0, .int x1, .int x2, .int x3, .int x4, .int (x5 + (((x1 >>> (x6 &&& 31)) &&& (v47 >>> (x4 &&& 31))) &&& 1)), .int x6] d_X9_nextNote_55 (by decide) rfl ?_
    refine q_iinc (1) [.ref x0, .int x1, .int x2, .int x3, .int x4, .int (x5 + (((x1 >>> (x6 &&& 31)) &&& (v47 >>> (x4 &&& 31))) &&& 1)), .int (x6 + 1)] d_X9_nextNote_57 ic_1 rfl (by decide) rfl ?_
    refine g_goto 26 d_X9_nextNote_60 rfl ?_
    exact q_to (xs_r (xs_r (xs_r (xs_r (xs_r (xs_r (xs_r xs_n))))))) (ih _ _ _ _ _ _ _ _ hF)
def F_X9_nextNote_b7 : Nat → Nat → Int32 → Int32 → Int32 → Int32 → xH → Option (Int32 × xH)
  | 0, _, _, _, _, _, _ => none
  | n + 1, x0, x1, x2, x3, x4, h => (fI h x0 8 0).bind fun v10 => if v10 ≤ x4 then some (x2, h) else if x1 = 0 then some (x2, h) else F_X9_nextNote_b26 (F_X9_nextNote_b7 n) FU x0 x1 x2 x3 x4 0 0 h
theorem R_X9_nextNote_b7 {Γ : xG} {l : Launch} {d : Nat} {Q : Option Value → xH → Prop} {r : Int32} {h' : xH} (hdp : 1 ≤ d) (hq : Q (some (.int r)) h') : ∀ (n : Nat) (x0 : Nat) (x1 : Int32) (x2 : Int32) (x3 : Int32) (x4 : Int32) (h : xH), F_X9_nextNote_b7 n x0 x1 x2 x3 x4 h = some (r, h') → Gd Γ l d m_X9_nextNote 7 [.ref x0, .int x1, .int x2, .int x3, .int x4, xhole, xhole] [] h 0 0 Q := by
  intro n
  induction n with
  | zero => intro x0 x1 x2 x3 x4 h hF; cases hF
  | succ n ih =>
  intro x0 x1 x2 x3 x4 h hF
  rw [F_X9_nextNote_b7] at hF
  refine g_iload d_X9_nextNote_7 rfl ?_
  refine g_aloadn d_X9_nextNote_9 rfl ?_
  obtain ⟨v10, e10, hF⟩ := Option.bind_eq_some_iff.mp hF
  refine q_fI d_X9_nextNote_10 f_X9_9 e10 ?_
  refine g_icmp_ge 95 d_X9_nextNote_13 rfl (fun c13 => ?_) (fun c13 => ?_)
  · have hF := x_t hF c13
    refine g_iloadn d_X9_nextNote_95 rfl ?_
    obtain ⟨rfl, rfl⟩ := x_inj hF
    exact g_iret d_X9_nextNote_96 rfl hq
  · have hF := x_f hF c13
    refine g_iloadn d_X9_nextNote_16 rfl ?_
    refine g_if_eq 95 d_X9_nextNote_17 rfl (fun c17 => ?_) (fun c17 => ?_)
    · have hF := x_t hF c17
      refine g_iloadn d_X9_nextNote_95 rfl ?_
      obtain ⟨rfl, rfl⟩ := x_inj hF
      exact g_iret d_X9_nextNote_96 rfl hq
    · have hF := x_f hF c17
      refine g_ic (0) d_X9_nextNote_20 ic_0 ?_
      refine q_istore [.ref x0, .int x1, .int x2, .int x3, .int x4, .int 0, xhole] d_X9_nextNote_21 (by decide) rfl ?_
      refine g_ic (0) d_X9_nextNote_23 ic_0 ?_
      refine q_istore [.ref x0, .int x1, .int x2, .int x3, .int x4, .int 0, .int 0] d_X9_nextNote_24 (by decide) rfl ?_
      exact q_to (xs_r (xs_r (xs_r (xs_r (xs_r (xs_r (xs_r xs_n))))))) (R_X9_nextNote_b26 ih hdp hq FU _ _ _ _ _ _ _ _ hF)
def F_X9_nextNote (x0 : Nat) (x1 : Int32) (h : xH) : Option (Int32 × xH) := F_X9_nextNote_b7 FU x0 x1 ((-1)) ((-1)) 0 h
theorem R_X9_nextNote {Γ : xG} {l : Launch} {d : Nat} {r : Int32} {h' : xH} (x0 : Nat) (x1 : Int32) (h : xH) (hdp : 1 ≤ d) (hF : F_X9_nextNote x0 x1 h = some (r, h')) : Gm Γ l d 0 0 m_X9_nextNote [.ref x0, .int x1] h (fun a u => a = some (.int r) ∧ u = h') := by
  refine Gm.of pn_X9 (Nat.le_of_ble_eq_true rfl) ?_
  show Gd Γ l d m_X9_nextNote 0 [.ref x0, .int x1, xhole, xhole, xhole, xhole, xhole] [] h 0 0 _
  generalize hQ : (fun (a : Option Value) (u : xH) => a = some (.int r) ∧ u = h') = Q
  have hq : Q (some (.int r)) h' := by rw [← hQ]; exact ⟨rfl, rfl⟩
  clear hQ
  unfold F_X9_nextNote at hF
  refine g_ic (-1) d_X9_nextNote_0 ic_m1 ?_
  refine q_istoren [.ref x0, .int x1, .int ((-1)), xhole, xhole, xhole, xhole] d_X9_nextNote_1 (by decide) rfl ?_
  refine g_ic (-1) d_X9_nextNote_2 ic_m1 ?_
  refine q_istoren [.ref x0, .int x1, .int ((-1)), .int ((-1)), xhole, xhole, xhole] d_X9_nextNote_3 (by decide) rfl ?_
  refine g_ic (0) d_X9_nextNote_4 ic_0 ?_
  refine q_istore [.ref x0, .int x1, .int ((-1)), .int ((-1)), .int 0, xhole, xhole] d_X9_nextNote_5 (by decide) rfl ?_
  exact q_to (xs_r (xs_r (xs_r (xs_r (xs_r (xs_h (xs_h xs_n))))))) (R_X9_nextNote_b7 hdp hq FU _ _ _ _ _ _ hF)
theorem d_X9_worstBeginningWith_0 : decode cX9_worstBeginningWith 0 = .ok (.iload_n 2, 1) := by decide +kernel
theorem d_X9_worstBeginningWith_1 : decode cX9_worstBeginningWith 1 = .ok (.aload_n 0, 1) := by decide +kernel
theorem d_X9_worstBeginningWith_2 : decode cX9_worstBeginningWith 2 = .ok (.getfield 25, 3) := by decide +kernel
theorem d_X9_worstBeginningWith_5 : decode cX9_worstBeginningWith 5 = .ok (.iload_n 1, 1) := by decide +kernel
theorem d_X9_worstBeginningWith_6 : decode cX9_worstBeginningWith 6 = .ok (.iaload, 1) := by decide +kernel
theorem d_X9_worstBeginningWith_7 : decode cX9_worstBeginningWith 7 = .ok (.iand, 1) := by decide +kernel
theorem d_X9_worstBeginningWith_8 : decode cX9_worstBeginningWith 8 = .ok (.istore_n 3, 1) := by decide +kernel
theorem d_X9_worstBeginningWith_9 : decode cX9_worstBeginningWith 9 = .ok (.iload_n 2, 1) := by decide +kernel
theorem d_X9_worstBeginningWith_10 : decode cX9_worstBeginningWith 10 = .ok (.aload_n 0, 1) := by decide +kernel
theorem d_X9_worstBeginningWith_11 : decode cX9_worstBeginningWith 11 = .ok (.getfield 25, 3) := by decide +kernel
theorem d_X9_worstBeginningWith_14 : decode cX9_worstBeginningWith 14 = .ok (.iload_n 1, 1) := by decide +kernel
theorem d_X9_worstBeginningWith_15 : decode cX9_worstBeginningWith 15 = .ok (.iaload, 1) := by decide +kernel
theorem d_X9_worstBeginningWith_16 : decode cX9_worstBeginningWith 16 = .ok (.iconst (-1), 1) := by decide +kernel
theorem d_X9_worstBeginningWith_17 : decode cX9_worstBeginningWith 17 = .ok (.ixor, 1) := by decide +kernel
theorem d_X9_worstBeginningWith_18 : decode cX9_worstBeginningWith 18 = .ok (.iand, 1) := by decide +kernel
theorem d_X9_worstBeginningWith_19 : decode cX9_worstBeginningWith 19 = .ok (.istore 4, 2) := by decide +kernel
theorem d_X9_worstBeginningWith_21 : decode cX9_worstBeginningWith 21 = .ok (.iload_n 3, 1) := by decide +kernel
theorem d_X9_worstBeginningWith_22 : decode cX9_worstBeginningWith 22 = .ok (.ifCond .eq 8, 3) := by decide +kernel
theorem d_X9_worstBeginningWith_25 : decode cX9_worstBeginningWith 25 = .ok (.iload 4, 2) := by decide +kernel
theorem d_X9_worstBeginningWith_27 : decode cX9_worstBeginningWith 27 = .ok (.ifCond .ne 8, 3) := by decide +kernel
theorem d_X9_worstBeginningWith_30 : decode cX9_worstBeginningWith 30 = .ok (.bipush 10, 2) := by decide +kernel
theorem d_X9_worstBeginningWith_32 : decode cX9_worstBeginningWith 32 = .ok (.goto 21, 3) := by decide +kernel
theorem d_X9_worstBeginningWith_35 : decode cX9_worstBeginningWith 35 = .ok (.iconst 1, 1) := by decide +kernel
theorem d_X9_worstBeginningWith_36 : decode cX9_worstBeginningWith 36 = .ok (.aload_n 0, 1) := by decide +kernel
theorem d_X9_worstBeginningWith_37 : decode cX9_worstBeginningWith 37 = .ok (.getfield 28, 3) := by decide +kernel
theorem d_X9_worstBeginningWith_40 : decode cX9_worstBeginningWith 40 = .ok (.iload_n 3, 1) := by decide +kernel
theorem d_X9_worstBeginningWith_41 : decode cX9_worstBeginningWith 41 = .ok (.baload, 1) := by decide +kernel
theorem d_X9_worstBeginningWith_42 : decode cX9_worstBeginningWith 42 = .ok (.aload_n 0, 1) := by decide +kernel
theorem d_X9_worstBeginningWith_43 : decode cX9_worstBeginningWith 43 = .ok (.getfield 28, 3) := by decide +kernel
theorem d_X9_worstBeginningWith_46 : decode cX9_worstBeginningWith 46 = .ok (.iload 4, 2) := by decide +kernel
theorem d_X9_worstBeginningWith_48 : decode cX9_worstBeginningWith 48 = .ok (.baload, 1) := by decide +kernel
theorem d_X9_worstBeginningWith_49 : decode cX9_worstBeginningWith 49 = .ok (.invokestatic 77, 3) := by decide +kernel
theorem d_X9_worstBeginningWith_52 : decode cX9_worstBeginningWith 52 = .ok (.iadd, 1) := by decide +kernel
theorem d_X9_worstBeginningWith_53 : decode cX9_worstBeginningWith 53 = .ok (.ireturn, 1) := by decide +kernel
def F_X9_worstBeginningWith (x0 : Nat) (x1 : Int32) (x2 : Int32) (h : xH) : Option (Int32 × xH) := (fR h x0 8 4).bind fun v2 => (aI h v2 x1).bind fun v6 => (fR h x0 8 4).bind fun v11 => (aI h v11 x1).bind fun v15 => if (x2 &&& v6) = 0 then some (10, h) else if ¬ (x2 &&& (v15 ^^^ ((-1)))) = 0 then (fR h x0 8 5).bind fun v37 => (aB h v37 (x2 &&& v6)).bind fun v41 => (fR h x0 8 5).bind fun v43 => (aB h v43 (x2 &&& (v15 ^^^ ((-1))))).bind fun v48 => (F_J9_max_7cf53 v41 v48 h).bind fun z49 => some (((1 : Int32)) + z49.1, z49.2) else some (10, h)
theorem R_X9_worstBeginningWith {Γ : xG} {l : Launch} {d : Nat} {r : Int32} {h' : xH} (x0 : Nat) (x1 : Int32) (x2 : Int32) (h : xH) (hdp : 1 ≤ d) (hF : F_X9_worstBeginningWith x0 x1 x2 h = some (r, h')) : Gm Γ l d 0 0 m_X9_worstBeginningWith [.ref x0, .int x1, .int x2] h (fun a u => a = some (.int r) ∧ u = h') := by
  refine Gm.of pn_X9 (Nat.le_of_ble_eq_true rfl) ?_
  show Gd Γ l d m_X9_worstBeginningWith 0 [.ref x0, .int x1, .int x2, xhole, xhole] [] h 0 0 _
  generalize hQ : (fun (a : Option Value) (u : xH) => a = some (.int r) ∧ u = h') = Q
  have hq : Q (some (.int r)) h' := by rw [← hQ]; exact ⟨rfl, rfl⟩
  clear hQ
  unfold F_X9_worstBeginningWith at hF
  refine g_iloadn d_X9_worstBeginningWith_0 rfl ?_
  refine g_aloadn d_X9_worstBeginningWith_1 rfl ?_
  obtain ⟨v2, e2, hF⟩ := Option.bind_eq_some_iff.mp hF
  refine q_fR d_X9_worstBeginningWith_2 f_X9_25 e2 ?_
  refine g_iloadn d_X9_worstBeginningWith_5 rfl ?_
  obtain ⟨v6, e6, hF⟩ := Option.bind_eq_some_iff.mp hF
  refine q_aI d_X9_worstBeginningWith_6 e6 ?_
  refine g_iand d_X9_worstBeginningWith_7 ?_
  refine q_istoren [.ref x0, .int x1, .int x2, .int (x2 &&& v6), xhole] d_X9_worstBeginningWith_8 (by decide) rfl ?_
  refine g_iloadn d_X9_worstBeginningWith_9 rfl ?_
  refine g_aloadn d_X9_worstBeginningWith_10 rfl ?_
  obtain ⟨v11, e11, hF⟩ := Option.bind_eq_some_iff.mp hF
  refine q_fR d_X9_worstBeginningWith_11 f_X9_25 e11 ?_
  refine g_iloadn d_X9_worstBeginningWith_14 rfl ?_
  obtain ⟨v15, e15, hF⟩ := Option.bind_eq_some_iff.mp hF
  refine q_aI d_X9_worstBeginningWith_15 e15 ?_
  refine g_ic (-1) d_X9_worstBeginningWith_16 ic_m1 ?_
  refine g_ixor d_X9_worstBeginningWith_17 ?_
  refine g_iand d_X9_worstBeginningWith_18 ?_
  refine q_istore [.ref x0, .int x1, .int x2, .int (x2 &&& v6), .int (x2 &&& (v15 ^^^ ((-1))))] d_X9_worstBeginningWith_19 (by decide) rfl ?_
  refine g_iloadn d_X9_worstBeginningWith_21 rfl ?_
  refine g_if_eq 30 d_X9_worstBeginningWith_22 rfl (fun c22 => ?_) (fun c22 => ?_)
  · have hF := x_t hF c22
    refine g_bi (10) d_X9_worstBeginningWith_30 bi_10 ?_
    refine g_goto 53 d_X9_worstBeginningWith_32 rfl ?_
    obtain ⟨rfl, rfl⟩ := x_inj hF
    exact g_iret d_X9_worstBeginningWith_53 rfl hq
  · have hF := x_f hF c22
    refine g_iload d_X9_worstBeginningWith_25 rfl ?_
    refine g_if_ne 35 d_X9_worstBeginningWith_27 rfl (fun c27 => ?_) (fun c27 => ?_)
    · have hF := x_t hF c27
      refine g_ic (1) d_X9_worstBeginningWith_35 ic_1 ?_
      refine g_aloadn d_X9_worstBeginningWith_36 rfl ?_
      obtain ⟨v37, e37, hF⟩ := Option.bind_eq_some_iff.mp hF
      refine q_fR d_X9_worstBeginningWith_37 f_X9_28 e37 ?_
      refine g_iloadn d_X9_worstBeginningWith_40 rfl ?_
      obtain ⟨v41, e41, hF⟩ := Option.bind_eq_some_iff.mp hF
      refine q_aB d_X9_worstBeginningWith_41 e41 ?_
      refine g_aloadn d_X9_worstBeginningWith_42 rfl ?_
      obtain ⟨v43, e43, hF⟩ := Option.bind_eq_some_iff.mp hF
      refine q_fR d_X9_worstBeginningWith_43 f_X9_28 e43 ?_
      refine g_iload d_X9_worstBeginningWith_46 rfl ?_
      obtain ⟨v48, e48, hF⟩ := Option.bind_eq_some_iff.mp hF
      refine q_aB d_X9_worstBeginningWith_48 e48 ?_
      obtain ⟨⟨r49, h49⟩, e49, hF⟩ := Option.bind_eq_some_iff.mp hF
      try dsimp only at hF
      refine q_callS [.int v41, .int v48] [.int 1] rfl d_X9_worstBeginningWith_49 s_X9_77 (by omega) rfl (Nat.le_of_ble_eq_true rfl) (R_J9_max_7cf53 _ _ _ (by omega) e49) ?_
      refine g_iadd d_X9_worstBeginningWith_52 ?_
      obtain ⟨rfl, rfl⟩ := x_inj hF
      exact g_iret d_X9_worstBeginningWith_53 rfl hq
    · have hF := x_f hF (not_not_intro c27)
      refine g_bi (10) d_X9_worstBeginningWith_30 bi_10 ?_
      refine g_goto 53 d_X9_worstBeginningWith_32 rfl ?_
      obtain ⟨rfl, rfl⟩ := x_inj hF
      exact g_iret d_X9_worstBeginningWith_53 rfl hq
theorem d_X9_fewestAtWorst_0 : decode cX9_fewestAtWorst 0 = .ok (.iconst 1, 1) := by decide +kernel
theorem d_X9_fewestAtWorst_1 : decode cX9_fewestAtWorst 1 = .ok (.aload_n 0, 1) := by decide +kernel
theorem d_X9_fewestAtWorst_2 : decode cX9_fewestAtWorst 2 = .ok (.getfield 22, 3) := by decide +kernel
theorem d_X9_fewestAtWorst_5 : decode cX9_fewestAtWorst 5 = .ok (.ishl, 1) := by decide +kernel
theorem d_X9_fewestAtWorst_6 : decode cX9_fewestAtWorst 6 = .ok (.iconst 1, 1) := by decide +kernel
theorem d_X9_fewestAtWorst_7 : decode cX9_fewestAtWorst 7 = .ok (.isub, 1) := by decide +kernel
theorem d_X9_fewestAtWorst_8 : decode cX9_fewestAtWorst 8 = .ok (.istore_n 1, 1) := by decide +kernel
theorem d_X9_fewestAtWorst_9 : decode cX9_fewestAtWorst 9 = .ok (.aload_n 0, 1) := by decide +kernel
theorem d_X9_fewestAtWorst_10 : decode cX9_fewestAtWorst 10 = .ok (.getfield 28, 3) := by decide +kernel
theorem d_X9_fewestAtWorst_13 : decode cX9_fewestAtWorst 13 = .ok (.iconst 0, 1) := by decide +kernel
theorem d_X9_fewestAtWorst_14 : decode cX9_fewestAtWorst 14 = .ok (.iconst 0, 1) := by decide +kernel
theorem d_X9_fewestAtWorst_15 : decode cX9_fewestAtWorst 15 = .ok (.bastore, 1) := by decide +kernel
theorem d_X9_fewestAtWorst_16 : decode cX9_fewestAtWorst 16 = .ok (.iconst 1, 1) := by decide +kernel
theorem d_X9_fewestAtWorst_17 : decode cX9_fewestAtWorst 17 = .ok (.istore_n 2, 1) := by decide +kernel
theorem d_X9_fewestAtWorst_18 : decode cX9_fewestAtWorst 18 = .ok (.iload_n 2, 1) := by decide +kernel
theorem d_X9_fewestAtWorst_19 : decode cX9_fewestAtWorst 19 = .ok (.iload_n 1, 1) := by decide +kernel
theorem d_X9_fewestAtWorst_20 : decode cX9_fewestAtWorst 20 = .ok (.if_icmp .gt 66, 3) := by decide +kernel
theorem d_X9_fewestAtWorst_23 : decode cX9_fewestAtWorst 23 = .ok (.iload_n 2, 1) := by decide +kernel
theorem d_X9_fewestAtWorst_24 : decode cX9_fewestAtWorst 24 = .ok (.iload_n 2, 1) := by decide +kernel
theorem d_X9_fewestAtWorst_25 : decode cX9_fewestAtWorst 25 = .ok (.iconst 1, 1) := by decide +kernel
theorem d_X9_fewestAtWorst_26 : decode cX9_fewestAtWorst 26 = .ok (.isub, 1) := by decide +kernel
theorem d_X9_fewestAtWorst_27 : decode cX9_fewestAtWorst 27 = .ok (.iand, 1) := by decide +kernel
theorem d_X9_fewestAtWorst_28 : decode cX9_fewestAtWorst 28 = .ok (.ifCond .ne 7, 3) := by decide +kernel
theorem d_X9_fewestAtWorst_31 : decode cX9_fewestAtWorst 31 = .ok (.iconst 0, 1) := by decide +kernel
theorem d_X9_fewestAtWorst_32 : decode cX9_fewestAtWorst 32 = .ok (.goto 5, 3) := by decide +kernel
theorem d_X9_fewestAtWorst_35 : decode cX9_fewestAtWorst 35 = .ok (.bipush 10, 2) := by decide +kernel
theorem d_X9_fewestAtWorst_37 : decode cX9_fewestAtWorst 37 = .ok (.istore_n 3, 1) := by decide +kernel
theorem d_X9_fewestAtWorst_38 : decode cX9_fewestAtWorst 38 = .ok (.iconst 0, 1) := by decide +kernel
theorem d_X9_fewestAtWorst_39 : decode cX9_fewestAtWorst 39 = .ok (.istore 4, 2) := by decide +kernel
theorem d_X9_fewestAtWorst_41 : decode cX9_fewestAtWorst 41 = .ok (.iload 4, 2) := by decide +kernel
theorem d_X9_fewestAtWorst_43 : decode cX9_fewestAtWorst 43 = .ok (.aload_n 0, 1) := by decide +kernel
theorem d_X9_fewestAtWorst_44 : decode cX9_fewestAtWorst 44 = .ok (.getfield 9, 3) := by decide +kernel
theorem d_X9_fewestAtWorst_47 : decode cX9_fewestAtWorst 47 = .ok (.if_icmp .ge 25, 3) := by decide +kernel
theorem d_X9_fewestAtWorst_50 : decode cX9_fewestAtWorst 50 = .ok (.iload_n 3, 1) := by decide +kernel
theorem d_X9_fewestAtWorst_51 : decode cX9_fewestAtWorst 51 = .ok (.ifCond .le 21, 3) := by decide +kernel
theorem d_X9_fewestAtWorst_54 : decode cX9_fewestAtWorst 54 = .ok (.iload_n 3, 1) := by decide +kernel
theorem d_X9_fewestAtWorst_55 : decode cX9_fewestAtWorst 55 = .ok (.aload_n 0, 1) := by decide +kernel
theorem d_X9_fewestAtWorst_56 : decode cX9_fewestAtWorst 56 = .ok (.iload 4, 2) := by decide +kernel
theorem d_X9_fewestAtWorst_58 : decode cX9_fewestAtWorst 58 = .ok (.iload_n 2, 1) := by decide +kernel
theorem d_X9_fewestAtWorst_59 : decode cX9_fewestAtWorst 59 = .ok (.invokevirtual 74, 3) := by decide +kernel
theorem d_X9_fewestAtWorst_62 : decode cX9_fewestAtWorst 62 = .ok (.invokestatic 68, 3) := by decide +kernel
theorem d_X9_fewestAtWorst_65 : decode cX9_fewestAtWorst 65 = .ok (.istore_n 3, 1) := by decide +kernel
theorem d_X9_fewestAtWorst_66 : decode cX9_fewestAtWorst 66 = .ok (.iinc 4 1, 3) := by decide +kernel
theorem d_X9_fewestAtWorst_69 : decode cX9_fewestAtWorst 69 = .ok (.goto (-28), 3) := by decide +kernel
theorem d_X9_fewestAtWorst_72 : decode cX9_fewestAtWorst 72 = .ok (.aload_n 0, 1) := by decide +kernel
theorem d_X9_fewestAtWorst_73 : decode cX9_fewestAtWorst 73 = .ok (.getfield 28, 3) := by decide +kernel
theorem d_X9_fewestAtWorst_76 : decode cX9_fewestAtWorst 76 = .ok (.iload_n 2, 1) := by decide +kernel
theorem d_X9_fewestAtWorst_77 : decode cX9_fewestAtWorst 77 = .ok (.iload_n 3, 1) := by decide +kernel
theorem d_X9_fewestAtWorst_78 : decode cX9_fewestAtWorst 78 = .ok (.i2b, 1) := by decide +kernel
theorem d_X9_fewestAtWorst_79 : decode cX9_fewestAtWorst 79 = .ok (.bastore, 1) := by decide +kernel
theorem d_X9_fewestAtWorst_80 : decode cX9_fewestAtWorst 80 = .ok (.iinc 2 1, 3) := by decide +kernel
theorem d_X9_fewestAtWorst_83 : decode cX9_fewestAtWorst 83 = .ok (.goto (-65), 3) := by decide +kernel
theorem d_X9_fewestAtWorst_86 : decode cX9_fewestAtWorst 86 = .ok (.aload_n 0, 1) := by decide +kernel
theorem d_X9_fewestAtWorst_87 : decode cX9_fewestAtWorst 87 = .ok (.getfield 28, 3) := by decide +kernel
theorem d_X9_fewestAtWorst_90 : decode cX9_fewestAtWorst 90 = .ok (.iload_n 1, 1) := by decide +kernel
theorem d_X9_fewestAtWorst_91 : decode cX9_fewestAtWorst 91 = .ok (.baload, 1) := by decide +kernel
theorem d_X9_fewestAtWorst_92 : decode cX9_fewestAtWorst 92 = .ok (.ireturn, 1) := by decide +kernel
def F_X9_fewestAtWorst_b72 (k18 : Nat → Int32 → Int32 → xH → Option (Int32 × xH)) (x0 : Nat) (x1 : Int32) (x2 : Int32) (x3 : Int32) (h : xH) : Option (Int32 × xH) := (fR h x0 8 5).bind fun v73 => (sB h v73 x2 x3.toInt8.toInt32).bind fun h79 => k18 x0 x1 (x2 + 1) h79
theorem R_X9_fewestAtWorst_b72 {Γ : xG} {l : Launch} {d : Nat} {Q : Option Value → xH → Prop} {r : Int32} {h' : xH} {k18 : Nat → Int32 → Int32 → xH → Option (Int32 × xH)} (K18 : ∀ (x0 : Nat) (x1 : Int32) (x2 : Int32)  (h : xH), k18 x0 x1 x2 h = some (r, h') → Gd Γ l d m_X9_fewestAtWorst 18 [.ref x0, .int x1, .int x2, xhole, xhole] [] h 0 0 Q) (hdp : 2 ≤ d) (hq : Q (some (.int r)) h') : ∀ (x0 : Nat) (x1 : Int32) (x2 : Int32) (x3 : Int32) (h : xH), F_X9_fewestAtWorst_b72 k18 x0 x1 x2 x3 h = some (r, h') → Gd Γ l d m_X9_fewestAtWorst 72 [.ref x0, .int x1, .int x2, .int x3, xhole] [] h 0 0 Q := by
  intro x0 x1 x2 x3 h hF
  unfold F_X9_fewestAtWorst_b72 at hF
  refine g_aloadn d_X9_fewestAtWorst_72 rfl ?_
  obtain ⟨v73, e73, hF⟩ := Option.bind_eq_some_iff.mp hF
  refine q_fR d_X9_fewestAtWorst_73 f_X9_28 e73 ?_
  refine g_iloadn d_X9_fewestAtWorst_76 rfl ?_
  refine g_iloadn d_X9_fewestAtWorst_77 rfl ?_
  refine g_i2b d_X9_fewestAtWorst_78 ?_
  obtain ⟨h79, e79, hF⟩ := Option.bind_eq_some_iff.mp hF
  refine q_sB d_X9_fewestAtWorst_79 e79 ?_
  refine q_iinc (1) [.ref x0, .int x1, .int (x2 + 1), .int x3, xhole] d_X9_fewestAtWorst_80 ic_1 rfl (by decide) rfl ?_
  refine g_goto 18 d_X9_fewestAtWorst_83 rfl ?_
  exact q_to (xs_r (xs_r (xs_r (xs_h (xs_h xs_n))))) (K18 _ _ _ _ hF)
def F_X9_fewestAtWorst_b41 (k18 : Nat → Int32 → Int32 → xH → Option (Int32 × xH)) : Nat → Nat → Int32 → Int32 → Int32 → Int32 → xH → Option (Int32 × xH)
  | 0, _, _, _, _, _, _ => none
  | n + 1, x0, x1, x2, x3, x4, h => (fI h x0 8 0).bind fun v44 => if v44 ≤ x4 then F_X9_fewestAtWorst_b72 k18 x0 x1 x2 x3 h else if x3 ≤ 0 then F_X9_fewestAtWorst_b72 k18 x0 x1 x2 x3 h else (rc h x0 8).bind fun _ => (F_X9_worstBeginningWith x0 x4 x2 h).bind fun z59 => (F_J9_min_7cf53 x3 z59.1 z59.2).bind fun z62 => F_X9_fewestAtWorst_b41 k18 n x0 x1 x2 z62.1 (x4 + 1) z62.2
theorem R_X9_fewestAtWorst_b41 {Γ : xG} {l : Launch} {d : Nat} {Q : Option Value → xH → Prop} {r : Int32} {h' : xH} {k18 : Nat → Int32 → Int32 → xH → Option (Int32 × xH)} (K18 : ∀ (x0 : Nat) (x1 : Int32) (x2 : Int32)  (h : xH), k18 x0 x1 x2 h = some (r, h') → Gd Γ l d m_X9_fewestAtWorst 18 [.ref x0, .int x1, .int x2, xhole, xhole] [] h 0 0 Q) (hdp : 2 ≤ d) (hq : Q (some (.int r)) h') : ∀ (n : Nat) (x0 : Nat) (x1 : Int32) (x2 : Int32) (x3 : Int32) (x4 : Int32) (h : xH), F_X9_fewestAtWorst_b41 k18 n x0 x1 x2 x3 x4 h = some (r, h') → Gd Γ l d m_X9_fewestAtWorst 41 [.ref x0, .int x1, .int x2, .int x3, .int x4] [] h 0 0 Q := by
  intro n
  induction n with
  | zero => intro x0 x1 x2 x3 x4 h hF; cases hF
  | succ n ih =>
  intro x0 x1 x2 x3 x4 h hF
  rw [F_X9_fewestAtWorst_b41] at hF
  refine g_iload d_X9_fewestAtWorst_41 rfl ?_
  refine g_aloadn d_X9_fewestAtWorst_43 rfl ?_
  obtain ⟨v44, e44, hF⟩ := Option.bind_eq_some_iff.mp hF
  refine q_fI d_X9_fewestAtWorst_44 f_X9_9 e44 ?_
  refine g_icmp_ge 72 d_X9_fewestAtWorst_47 rfl (fun c47 => ?_) (fun c47 => ?_)
  · have hF := x_t hF c47
    exact q_to (xs_r (xs_r (xs_r (xs_r (xs_h xs_n))))) (R_X9_fewestAtWorst_b72 K18 hdp hq _ _ _ _ _ hF)
  · have hF := x_f hF c47
    refine g_iloadn d_X9_fewestAtWorst_50 rfl ?_
    refine g_if_le 72 d_X9_fewestAtWorst_51 rfl (fun c51 => ?_) (fun c51 => ?_)
    · have hF := x_t hF c51
      exact q_to (xs_r (xs_r (xs_r (xs_r (xs_h xs_n))))) (R_X9_fewestAtWorst_b72 K18 hdp hq _ _ _ _ _ hF)
    · have hF := x_f hF c51
      refine g_iloadn d_X9_fewestAtWorst_54 rfl ?_
      refine g_aloadn d_X9_fewestAtWorst_55 rfl ?_
      refine g_iload d_X9_fewestAtWorst_56 rfl ?_
      refine g_iloadn d_X9_fewestAtWorst_58 rfl ?_
      obtain ⟨_, g59, hF⟩ := Option.bind_eq_some_iff.mp hF
      obtain ⟨⟨r59, h59⟩, e59, hF⟩ := Option.bind_eq_some_iff.mp hF
      try dsimp only at hF
      refine q_callV [.int x4, .int x2] [.int x3] rfl d_X9_fewestAtWorst_59 v_X9_74 (by omega) rfl (Nat.le_of_ble_eq_true rfl) (rc_rc g59 (by decide) rfl) (R_X9_worstBeginningWith _ _ _ _ (by omega) e59) ?_
      obtain ⟨⟨r62, h62⟩, e62, hF⟩ := Option.bind_eq_some_iff.mp hF
      try dsimp only at hF
      refine q_callS [.int x3, .int (r59)] [] rfl d_X9_fewestAtWorst_62 s_X9_68 (by omega) rfl (Nat.le_of_ble_eq_true rfl) (R_J9_min_7cf53 _ _ _ (by omega) e62) ?_
      refine q_istoren [.ref x0, .int x1, .int x2, .int (r62), .int x4] d_X9_fewestAtWorst_65 (by decide) rfl ?_
      refine q_iinc (1) [.ref x0, .int x1, .int x2, .int (r62), .int (x4 + 1)] d_X9_fewestAtWorst_66 ic_1 rfl (by decide) rfl ?_
      refine g_goto 41 d_X9_fewestAtWorst_69 rfl ?_
      exact q_to (xs_r (xs_r (xs_r (xs_r (xs_r xs_n))))) (ih _ _ _ _ _ _ hF)
def F_X9_fewestAtWorst_b37 (k18 : Nat → Int32 → Int32 → xH → Option (Int32 × xH)) (x0 : Nat) (x1 : Int32) (x2 : Int32) (s0 : Int32) (h : xH) : Option (Int32 × xH) := F_X9_fewestAtWorst_b41 k18 FU x0 x1 x2 s0 0 h
theorem R_X9_fewestAtWorst_b37 {Γ : xG} {l : Launch} {d : Nat} {Q : Option Value → xH → Prop} {r : Int32} {h' : xH} {k18 : Nat → Int32 → Int32 → xH → Option (Int32 × xH)} (K18 : ∀ (x0 : Nat) (x1 : Int32) (x2 : Int32)  (h : xH), k18 x0 x1 x2 h = some (r, h') → Gd Γ l d m_X9_fewestAtWorst 18 [.ref x0, .int x1, .int x2, xhole, xhole] [] h 0 0 Q) (hdp : 2 ≤ d) (hq : Q (some (.int r)) h') : ∀ (x0 : Nat) (x1 : Int32) (x2 : Int32) (s0 : Int32) (h : xH), F_X9_fewestAtWorst_b37 k18 x0 x1 x2 s0 h = some (r, h') → Gd Γ l d m_X9_fewestAtWorst 37 [.ref x0, .int x1, .int x2, xhole, xhole] [.int s0] h 0 0 Q := by
  intro x0 x1 x2 s0 h hF
  unfold F_X9_fewestAtWorst_b37 at hF
  refine q_istoren [.ref x0, .int x1, .int x2, .int s0, xhole] d_X9_fewestAtWorst_37 (by decide) rfl ?_
  refine g_ic (0) d_X9_fewestAtWorst_38 ic_0 ?_
  refine q_istore [.ref x0, .int x1, .int x2, .int s0, .int 0] d_X9_fewestAtWorst_39 (by decide) rfl ?_
  exact q_to (xs_r (xs_r (xs_r (xs_r (xs_r xs_n))))) (R_X9_fewestAtWorst_b41 K18 hdp hq FU _ _ _ _ _ _ hF)
def F_X9_fewestAtWorst_b18 : Nat → Nat → Int32 → Int32 → xH → Option (Int32 × xH)
  | 0, _, _, _, _ => none
  | n + 1, x0, x1, x2, h => if x1 < x2 then (fR h x0 8 5).bind fun v87 => (aB h v87 x1).bind fun v91 => some (v91, h) else if ¬ (x2 &&& (x2 - 1)) = 0 then F_X9_fewestAtWorst_b37 (F_X9_fewestAtWorst_b18 n) x0 x1 x2 10 h else F_X9_fewestAtWorst_b37 (F_X9_fewestAtWorst_b18 n) x0 x1 x2 0 h
theorem R_X9_fewestAtWorst_b18 {Γ : xG} {l : Launch} {d : Nat} {Q : Option Value → xH → Prop} {r : Int32} {h' : xH} (hdp : 2 ≤ d) (hq : Q (some (.int r)) h') : ∀ (n : Nat) (x0 : Nat) (x1 : Int32) (x2 : Int32) (h : xH), F_X9_fewestAtWorst_b18 n x0 x1 x2 h = some (r, h') → Gd Γ l d m_X9_fewestAtWorst 18 [.ref x0, .int x1, .int x2, xhole, xhole] [] h 0 0 Q := by
  intro n
  induction n with
  | zero => intro x0 x1 x2 h hF; cases hF
  | succ n ih =>
  intro x0 x1 x2 h hF
  rw [F_X9_fewestAtWorst_b18] at hF
  refine g_iloadn d_X9_fewestAtWorst_18 rfl ?_
  refine g_iloadn d_X9_fewestAtWorst_19 rfl ?_
  refine g_icmp_gt 86 d_X9_fewestAtWorst_20 rfl (fun c20 => ?_) (fun c20 => ?_)
  · have hF := x_t hF c20
    refine g_aloadn d_X9_fewestAtWorst_86 rfl ?_
    obtain ⟨v87, e87, hF⟩ := Option.bind_eq_some_iff.mp hF
    refine q_fR d_X9_fewestAtWorst_87 f_X9_28 e87 ?_
    refine g_iloadn d_X9_fewestAtWorst_90 rfl ?_
    obtain ⟨v91, e91, hF⟩ := Option.bind_eq_some_iff.mp hF
    refine q_aB d_X9_fewestAtWorst_91 e91 ?_
    obtain ⟨rfl, rfl⟩ := x_inj hF
    exact g_iret d_X9_fewestAtWorst_92 rfl hq
  · have hF := x_f hF c20
    refine g_iloadn d_X9_fewestAtWorst_23 rfl ?_
    refine g_iloadn d_X9_fewestAtWorst_24 rfl ?_
    refine g_ic (1) d_X9_fewestAtWorst_25 ic_1 ?_
    refine g_isub d_X9_fewestAtWorst_26 ?_
    refine g_iand d_X9_fewestAtWorst_27 ?_
    refine g_if_ne 35 d_X9_fewestAtWorst_28 rfl (fun c28 => ?_) (fun c28 => ?_)
    · have hF := x_t hF c28
      refine g_bi (10) d_X9_fewestAtWorst_35 bi_10 ?_
      exact q_to (xs_r (xs_r (xs_r (xs_h (xs_h xs_n))))) (R_X9_fewestAtWorst_b37 ih hdp hq _ _ _ _ _ hF)
    · have hF := x_f hF (not_not_intro c28)
      refine g_ic (0) d_X9_fewestAtWorst_31 ic_0 ?_
      refine g_goto 37 d_X9_fewestAtWorst_32 rfl ?_
      exact q_to (xs_r (xs_r (xs_r (xs_h (xs_h xs_n))))) (R_X9_fewestAtWorst_b37 ih hdp hq _ _ _ _ _ hF)
def F_X9_fewestAtWorst (x0 : Nat) (h : xH) : Option (Int32 × xH) := (fI h x0 8 3).bind fun v2 => (fR h x0 8 5).bind fun v10 => (sB h v10 0 0).bind fun h15 => F_X9_fewestAtWorst_b18 FU x0 ((((1 : Int32)) <<< (v2 &&& 31)) - 1) 1 h15
theorem R_X9_fewestAtWorst {Γ : xG} {l : Launch} {d : Nat} {r : Int32} {h' : xH} (x0 : Nat) (h : xH) (hdp : 2 ≤ d) (hF : F_X9_fewestAtWorst x0 h = some (r, h')) : Gm Γ l d 0 0 m_X9_fewestAtWorst [.ref x0] h (fun a u => a = some (.int r) ∧ u = h') := by
  refine Gm.of pn_X9 (Nat.le_of_ble_eq_true rfl) ?_
  show Gd Γ l d m_X9_fewestAtWorst 0 [.ref x0, xhole, xhole, xhole, xhole] [] h 0 0 _
  generalize hQ : (fun (a : Option Value) (u : xH) => a = some (.int r) ∧ u = h') = Q
  have hq : Q (some (.int r)) h' := by rw [← hQ]; exact ⟨rfl, rfl⟩
  clear hQ
  unfold F_X9_fewestAtWorst at hF
  refine g_ic (1) d_X9_fewestAtWorst_0 ic_1 ?_
  refine g_aloadn d_X9_fewestAtWorst_1 rfl ?_
  obtain ⟨v2, e2, hF⟩ := Option.bind_eq_some_iff.mp hF
  refine q_fI d_X9_fewestAtWorst_2 f_X9_22 e2 ?_
  refine g_ishl d_X9_fewestAtWorst_5 ?_
  refine g_ic (1) d_X9_fewestAtWorst_6 ic_1 ?_
  refine g_isub d_X9_fewestAtWorst_7 ?_
  refine q_istoren [.ref x0, .int ((((1 : Int32)) <<< (v2 &&& 31)) - 1), xhole, xhole, xhole] d_X9_fewestAtWorst_8 (by decide) rfl ?_
  refine g_aloadn d_X9_fewestAtWorst_9 rfl ?_
  obtain ⟨v10, e10, hF⟩ := Option.bind_eq_some_iff.mp hF
  refine q_fR d_X9_fewestAtWorst_10 f_X9_28 e10 ?_
  refine g_ic (0) d_X9_fewestAtWorst_13 ic_0 ?_
  refine g_ic (0) d_X9_fewestAtWorst_14 ic_0 ?_
  obtain ⟨h15, e15, hF⟩ := Option.bind_eq_some_iff.mp hF
  refine q_sB d_X9_fewestAtWorst_15 e15 ?_
  refine g_ic (1) d_X9_fewestAtWorst_16 ic_1 ?_
  refine q_istoren [.ref x0, .int ((((1 : Int32)) <<< (v2 &&& 31)) - 1), .int 1, xhole, xhole] d_X9_fewestAtWorst_17 (by decide) rfl ?_
  exact q_to (xs_r (xs_r (xs_r (xs_h (xs_h xs_n))))) (R_X9_fewestAtWorst_b18 hdp hq FU _ _ _ _ hF)
theorem d_X9_firstNote_0 : decode cX9_firstNote 0 = .ok (.iconst 1, 1) := by decide +kernel
theorem d_X9_firstNote_1 : decode cX9_firstNote 1 = .ok (.aload_n 0, 1) := by decide +kernel
theorem d_X9_firstNote_2 : decode cX9_firstNote 2 = .ok (.getfield 22, 3) := by decide +kernel
theorem d_X9_firstNote_5 : decode cX9_firstNote 5 = .ok (.ishl, 1) := by decide +kernel
theorem d_X9_firstNote_6 : decode cX9_firstNote 6 = .ok (.iconst 1, 1) := by decide +kernel
theorem d_X9_firstNote_7 : decode cX9_firstNote 7 = .ok (.isub, 1) := by decide +kernel
theorem d_X9_firstNote_8 : decode cX9_firstNote 8 = .ok (.istore_n 1, 1) := by decide +kernel
theorem d_X9_firstNote_9 : decode cX9_firstNote 9 = .ok (.aload_n 0, 1) := by decide +kernel
theorem d_X9_firstNote_10 : decode cX9_firstNote 10 = .ok (.invokevirtual 80, 3) := by decide +kernel
theorem d_X9_firstNote_13 : decode cX9_firstNote 13 = .ok (.istore_n 2, 1) := by decide +kernel
theorem d_X9_firstNote_14 : decode cX9_firstNote 14 = .ok (.iconst 0, 1) := by decide +kernel
theorem d_X9_firstNote_15 : decode cX9_firstNote 15 = .ok (.istore_n 3, 1) := by decide +kernel
theorem d_X9_firstNote_16 : decode cX9_firstNote 16 = .ok (.iload_n 3, 1) := by decide +kernel
theorem d_X9_firstNote_17 : decode cX9_firstNote 17 = .ok (.aload_n 0, 1) := by decide +kernel
theorem d_X9_firstNote_18 : decode cX9_firstNote 18 = .ok (.getfield 9, 3) := by decide +kernel
theorem d_X9_firstNote_21 : decode cX9_firstNote 21 = .ok (.if_icmp .ge 25, 3) := by decide +kernel
theorem d_X9_firstNote_24 : decode cX9_firstNote 24 = .ok (.iload_n 2, 1) := by decide +kernel
theorem d_X9_firstNote_25 : decode cX9_firstNote 25 = .ok (.ifCond .le 21, 3) := by decide +kernel
theorem d_X9_firstNote_28 : decode cX9_firstNote 28 = .ok (.aload_n 0, 1) := by decide +kernel
theorem d_X9_firstNote_29 : decode cX9_firstNote 29 = .ok (.iload_n 3, 1) := by decide +kernel
theorem d_X9_firstNote_30 : decode cX9_firstNote 30 = .ok (.iload_n 1, 1) := by decide +kernel
theorem d_X9_firstNote_31 : decode cX9_firstNote 31 = .ok (.invokevirtual 74, 3) := by decide +kernel
theorem d_X9_firstNote_34 : decode cX9_firstNote 34 = .ok (.iload_n 2, 1) := by decide +kernel
theorem d_X9_firstNote_35 : decode cX9_firstNote 35 = .ok (.if_icmp .ne 5, 3) := by decide +kernel
theorem d_X9_firstNote_38 : decode cX9_firstNote 38 = .ok (.iload_n 3, 1) := by decide +kernel
theorem d_X9_firstNote_39 : decode cX9_firstNote 39 = .ok (.ireturn, 1) := by decide +kernel
theorem d_X9_firstNote_40 : decode cX9_firstNote 40 = .ok (.iinc 3 1, 3) := by decide +kernel
theorem d_X9_firstNote_43 : decode cX9_firstNote 43 = .ok (.goto (-27), 3) := by decide +kernel
theorem d_X9_firstNote_46 : decode cX9_firstNote 46 = .ok (.iconst (-1), 1) := by decide +kernel
theorem d_X9_firstNote_47 : decode cX9_firstNote 47 = .ok (.ireturn, 1) := by decide +kernel
def F_X9_firstNote_b16 : Nat → Nat → Int32 → Int32 → Int32 → xH → Option (Int32 × xH)
  | 0, _, _, _, _, _ => none
  | n + 1, x0, x1, x2, x3, h => (fI h x0 8 0).bind fun v18 => if v18 ≤ x3 then some ((-1), h) else if x2 ≤ 0 then some ((-1), h) else (rc h x0 8).bind fun _ => (F_X9_worstBeginningWith x0 x3 x1 h).bind fun z31 => if ¬ z31.1 = x2 then F_X9_firstNote_b16 n x0 x1 x2 (x3 + 1) z31.2 else some (x3, z31.2)
theorem R_X9_firstNote_b16 {Γ : xG} {l : Launch} {d : Nat} {Q : Option Value → xH → Prop} {r : Int32} {h' : xH} (hdp : 3 ≤ d) (hq : Q (some (.int r)) h') : ∀ (n : Nat) (x0 : Nat) (x1 : Int32) (x2 : Int32) (x3 : Int32) (h : xH), F_X9_firstNote_b16 n x0 x1 x2 x3 h = some (r, h') → Gd Γ l d m_X9_firstNote 16 [.ref x0, .int x1, .int x2, .int x3] [] h 0 0 Q := by
  intro n
  induction n with
  | zero => intro x0 x1 x2 x3 h hF; cases hF
  | succ n ih =>
  intro x0 x1 x2 x3 h hF
  rw [F_X9_firstNote_b16] at hF
  refine g_iloadn d_X9_firstNote_16 rfl ?_
  refine g_aloadn d_X9_firstNote_17 rfl ?_
  obtain ⟨v18, e18, hF⟩ := Option.bind_eq_some_iff.mp hF
  refine q_fI d_X9_firstNote_18 f_X9_9 e18 ?_
  refine g_icmp_ge 46 d_X9_firstNote_21 rfl (fun c21 => ?_) (fun c21 => ?_)
  · have hF := x_t hF c21
    refine g_ic (-1) d_X9_firstNote_46 ic_m1 ?_
    obtain ⟨rfl, rfl⟩ := x_inj hF
    exact g_iret d_X9_firstNote_47 rfl hq
  · have hF := x_f hF c21
    refine g_iloadn d_X9_firstNote_24 rfl ?_
    refine g_if_le 46 d_X9_firstNote_25 rfl (fun c25 => ?_) (fun c25 => ?_)
    · have hF := x_t hF c25
      refine g_ic (-1) d_X9_firstNote_46 ic_m1 ?_
      obtain ⟨rfl, rfl⟩ := x_inj hF
      exact g_iret d_X9_firstNote_47 rfl hq
    · have hF := x_f hF c25
      refine g_aloadn d_X9_firstNote_28 rfl ?_
      refine g_iloadn d_X9_firstNote_29 rfl ?_
      refine g_iloadn d_X9_firstNote_30 rfl ?_
      obtain ⟨_, g31, hF⟩ := Option.bind_eq_some_iff.mp hF
      obtain ⟨⟨r31, h31⟩, e31, hF⟩ := Option.bind_eq_some_iff.mp hF
      try dsimp only at hF
      refine q_callV [.int x3, .int x1] [] rfl d_X9_firstNote_31 v_X9_74 (by omega) rfl (Nat.le_of_ble_eq_true rfl) (rc_rc g31 (by decide) rfl) (R_X9_worstBeginningWith _ _ _ _ (by omega) e31) ?_
      refine g_iloadn d_X9_firstNote_34 rfl ?_
      refine g_icmp_ne 40 d_X9_firstNote_35 rfl (fun c35 => ?_) (fun c35 => ?_)
      · have hF := x_t hF c35
        refine q_iinc (1) [.ref x0, .int x1, .int x2, .int (x3 + 1)] d_X9_firstNote_40 ic_1 rfl (by decide) rfl ?_
        refine g_goto 16 d_X9_firstNote_43 rfl ?_
        exact q_to (xs_r (xs_r (xs_r (xs_r xs_n)))) (ih _ _ _ _ _ hF)
      · have hF := x_f hF (not_not_intro c35)
        refine g_iloadn d_X9_firstNote_38 rfl ?_
        obtain ⟨rfl, rfl⟩ := x_inj hF
        exact g_iret d_X9_firstNote_39 rfl hq
def F_X9_firstNote (x0 : Nat) (h : xH) : Option (Int32 × xH) := (fI h x0 8 3).bind fun v2 => (rc h x0 8).bind fun _ => (F_X9_fewestAtWorst x0 h).bind fun z10 => F_X9_firstNote_b16 FU x0 ((((1 : Int32)) <<< (v2 &&& 31)) - 1) z10.1 0 z10.2
theorem R_X9_firstNote {Γ : xG} {l : Launch} {d : Nat} {r : Int32} {h' : xH} (x0 : Nat) (h : xH) (hdp : 3 ≤ d) (hF : F_X9_firstNote x0 h = some (r, h')) : Gm Γ l d 0 0 m_X9_firstNote [.ref x0] h (fun a u => a = some (.int r) ∧ u = h') := by
  refine Gm.of pn_X9 (Nat.le_of_ble_eq_true rfl) ?_
  show Gd Γ l d m_X9_firstNote 0 [.ref x0, xhole, xhole, xhole] [] h 0 0 _
  generalize hQ : (fun (a : Option Value) (u : xH) => a = some (.int r) ∧ u = h') = Q
  have hq : Q (some (.int r)) h' := by rw [← hQ]; exact ⟨rfl, rfl⟩
  clear hQ
  unfold F_X9_firstNote at hF
  refine g_ic (1) d_X9_firstNote_0 ic_1 ?_
  refine g_aloadn d_X9_firstNote_1 rfl ?_
  obtain ⟨v2, e2, hF⟩ := Option.bind_eq_some_iff.mp hF
  refine q_fI d_X9_firstNote_2 f_X9_22 e2 ?_
  refine g_ishl d_X9_firstNote_5 ?_
  refine g_ic (1) d_X9_firstNote_6 ic_1 ?_
  refine g_isub d_X9_firstNote_7 ?_
  refine q_istoren [.ref x0, .int ((((1 : Int32)) <<< (v2 &&& 31)) - 1), xhole, xhole] d_X9_firstNote_8 (by decide) rfl ?_
  refine g_aloadn d_X9_firstNote_9 rfl ?_
  obtain ⟨_, g10, hF⟩ := Option.bind_eq_some_iff.mp hF
  obtain ⟨⟨r10, h10⟩, e10, hF⟩ := Option.bind_eq_some_iff.mp hF
  try dsimp only at hF
  refine q_callV [] [] rfl d_X9_firstNote_10 v_X9_80 (by omega) rfl (Nat.le_of_ble_eq_true rfl) (rc_rc g10 (by decide) rfl) (R_X9_fewestAtWorst _ _ (by omega) e10) ?_
  refine q_istoren [.ref x0, .int ((((1 : Int32)) <<< (v2 &&& 31)) - 1), .int (r10), xhole] d_X9_firstNote_13 (by decide) rfl ?_
  refine g_ic (0) d_X9_firstNote_14 ic_0 ?_
  refine q_istoren [.ref x0, .int ((((1 : Int32)) <<< (v2 &&& 31)) - 1), .int (r10), .int 0] d_X9_firstNote_15 (by decide) rfl ?_
  exact q_to (xs_r (xs_r (xs_r (xs_r xs_n)))) (R_X9_firstNote_b16 hdp hq FU _ _ _ _ _ hF)
theorem d_X9_tellsApart_0 : decode cX9_tellsApart 0 = .ok (.iconst 0, 1) := by decide +kernel
theorem d_X9_tellsApart_1 : decode cX9_tellsApart 1 = .ok (.istore_n 2, 1) := by decide +kernel
theorem d_X9_tellsApart_2 : decode cX9_tellsApart 2 = .ok (.iload_n 2, 1) := by decide +kernel
theorem d_X9_tellsApart_3 : decode cX9_tellsApart 3 = .ok (.aload_n 0, 1) := by decide +kernel
theorem d_X9_tellsApart_4 : decode cX9_tellsApart 4 = .ok (.getfield 22, 3) := by decide +kernel
theorem d_X9_tellsApart_7 : decode cX9_tellsApart 7 = .ok (.if_icmp .ge 42, 3) := by decide +kernel
theorem d_X9_tellsApart_10 : decode cX9_tellsApart 10 = .ok (.iconst 0, 1) := by decide +kernel
theorem d_X9_tellsApart_11 : decode cX9_tellsApart 11 = .ok (.istore_n 3, 1) := by decide +kernel
theorem d_X9_tellsApart_12 : decode cX9_tellsApart 12 = .ok (.iload_n 3, 1) := by decide +kernel
theorem d_X9_tellsApart_13 : decode cX9_tellsApart 13 = .ok (.iload_n 2, 1) := by decide +kernel
theorem d_X9_tellsApart_14 : decode cX9_tellsApart 14 = .ok (.if_icmp .ge 29, 3) := by decide +kernel
theorem d_X9_tellsApart_17 : decode cX9_tellsApart 17 = .ok (.aload_n 0, 1) := by decide +kernel
theorem d_X9_tellsApart_18 : decode cX9_tellsApart 18 = .ok (.getfield 19, 3) := by decide +kernel
theorem d_X9_tellsApart_21 : decode cX9_tellsApart 21 = .ok (.iload_n 2, 1) := by decide +kernel
theorem d_X9_tellsApart_22 : decode cX9_tellsApart 22 = .ok (.iaload, 1) := by decide +kernel
theorem d_X9_tellsApart_23 : decode cX9_tellsApart 23 = .ok (.aload_n 0, 1) := by decide +kernel
theorem d_X9_tellsApart_24 : decode cX9_tellsApart 24 = .ok (.getfield 19, 3) := by decide +kernel
theorem d_X9_tellsApart_27 : decode cX9_tellsApart 27 = .ok (.iload_n 3, 1) := by decide +kernel
theorem d_X9_tellsApart_28 : decode cX9_tellsApart 28 = .ok (.iaload, 1) := by decide +kernel
theorem d_X9_tellsApart_29 : decode cX9_tellsApart 29 = .ok (.ixor, 1) := by decide +kernel
theorem d_X9_tellsApart_30 : decode cX9_tellsApart 30 = .ok (.iload_n 1, 1) := by decide +kernel
theorem d_X9_tellsApart_31 : decode cX9_tellsApart 31 = .ok (.iand, 1) := by decide +kernel
theorem d_X9_tellsApart_32 : decode cX9_tellsApart 32 = .ok (.ifCond .ne 5, 3) := by decide +kernel
theorem d_X9_tellsApart_35 : decode cX9_tellsApart 35 = .ok (.iconst 0, 1) := by decide +kernel
theorem d_X9_tellsApart_36 : decode cX9_tellsApart 36 = .ok (.ireturn, 1) := by decide +kernel
theorem d_X9_tellsApart_37 : decode cX9_tellsApart 37 = .ok (.iinc 3 1, 3) := by decide +kernel
theorem d_X9_tellsApart_40 : decode cX9_tellsApart 40 = .ok (.goto (-28), 3) := by decide +kernel
theorem d_X9_tellsApart_43 : decode cX9_tellsApart 43 = .ok (.iinc 2 1, 3) := by decide +kernel
theorem d_X9_tellsApart_46 : decode cX9_tellsApart 46 = .ok (.goto (-44), 3) := by decide +kernel
theorem d_X9_tellsApart_49 : decode cX9_tellsApart 49 = .ok (.iconst 1, 1) := by decide +kernel
theorem d_X9_tellsApart_50 : decode cX9_tellsApart 50 = .ok (.ireturn, 1) := by decide +kernel
def F_X9_tellsApart_b12 (k2 : Nat → Int32 → Int32 → xH → Option (Int32 × xH)) : Nat → Nat → Int32 → Int32 → Int32 → xH → Option (Int32 × xH)
  | 0, _, _, _, _, _ => none
  | n + 1, x0, x1, x2, x3, h => if x2 ≤ x3 then k2 x0 x1 (x2 + 1) h else (fR h x0 8 2).bind fun v18 => (aI h v18 x2).bind fun v22 => (fR h x0 8 2).bind fun v24 => (aI h v24 x3).bind fun v28 => if ¬ ((v22 ^^^ v28) &&& x1) = 0 then F_X9_tellsApart_b12 k2 n x0 x1 x2 (x3 + 1) h else some (0, h)
theorem R_X9_tellsApart_b12 {Γ : xG} {l : Launch} {d : Nat} {Q : Option Value → xH → Prop} {r : Int32} {h' : xH} {k2 : Nat → Int32 → Int32 → xH → Option (Int32 × xH)} (K2 : ∀ (x0 : Nat) (x1 : Int32) (x2 : Int32)  (h : xH), k2 x0 x1 x2 h = some (r, h') → Gd Γ l d m_X9_tellsApart 2 [.ref x0, .int x1, .int x2, xhole] [] h 0 0 Q) (hdp : 0 ≤ d) (hq : Q (some (.int r)) h') : ∀ (n : Nat) (x0 : Nat) (x1 : Int32) (x2 : Int32) (x3 : Int32) (h : xH), F_X9_tellsApart_b12 k2 n x0 x1 x2 x3 h = some (r, h') → Gd Γ l d m_X9_tellsApart 12 [.ref x0, .int x1, .int x2, .int x3] [] h 0 0 Q := by
  intro n
  induction n with
  | zero => intro x0 x1 x2 x3 h hF; cases hF
  | succ n ih =>
  intro x0 x1 x2 x3 h hF
  rw [F_X9_tellsApart_b12] at hF
  refine g_iloadn d_X9_tellsApart_12 rfl ?_
  refine g_iloadn d_X9_tellsApart_13 rfl ?_
  refine g_icmp_ge 43 d_X9_tellsApart_14 rfl (fun c14 => ?_) (fun c14 => ?_)
  · have hF := x_t hF c14
    refine q_iinc (1) [.ref x0, .int x1, .int (x2 + 1), .int x3] d_X9_tellsApart_43 ic_1 rfl (by decide) rfl ?_
    refine g_goto 2 d_X9_tellsApart_46 rfl ?_
    exact q_to (xs_r (xs_r (xs_r (xs_h xs_n)))) (K2 _ _ _ _ hF)
  · have hF := x_f hF c14
    refine g_aloadn d_X9_tellsApart_17 rfl ?_
    obtain ⟨v18, e18, hF⟩ := Option.bind_eq_some_iff.mp hF
    refine q_fR d_X9_tellsApart_18 f_X9_19 e18 ?_
    refine g_iloadn d_X9_tellsApart_21 rfl ?_
    obtain ⟨v22, e22, hF⟩ := Option.bind_eq_some_iff.mp hF
    refine q_aI d_X9_tellsApart_22 e22 ?_
    refine g_aloadn d_X9_tellsApart_23 rfl ?_
    obtain ⟨v24, e24, hF⟩ := Option.bind_eq_some_iff.mp hF
    refine q_fR d_X9_tellsApart_24 f_X9_19 e24 ?_
    refine g_iloadn d_X9_tellsApart_27 rfl ?_
    obtain ⟨v28, e28, hF⟩ := Option.bind_eq_some_iff.mp hF
    refine q_aI d_X9_tellsApart_28 e28 ?_
    refine g_ixor d_X9_tellsApart_29 ?_
    refine g_iloadn d_X9_tellsApart_30 rfl ?_
    refine g_iand d_X9_tellsApart_31 ?_
    refine g_if_ne 37 d_X9_tellsApart_32 rfl (fun c32 => ?_) (fun c32 => ?_)
    · have hF := x_t hF c32
      refine q_iinc (1) [.ref x0, .int x1, .int x2, .int (x3 + 1)] d_X9_tellsApart_37 ic_1 rfl (by decide) rfl ?_
      refine g_goto 12 d_X9_tellsApart_40 rfl ?_
      exact q_to (xs_r (xs_r (xs_r (xs_r xs_n)))) (ih _ _ _ _ _ hF)
    · have hF := x_f hF (not_not_intro c32)
      refine g_ic (0) d_X9_tellsApart_35 ic_0 ?_
      obtain ⟨rfl, rfl⟩ := x_inj hF
      exact g_zret d_X9_tellsApart_36 rfl rfl hq
def F_X9_tellsApart_b2 : Nat → Nat → Int32 → Int32 → xH → Option (Int32 × xH)
  | 0, _, _, _, _ => none
  | n + 1, x0, x1, x2, h => (fI h x0 8 3).bind fun v4 => if v4 ≤ x2 then some (1, h) else F_X9_tellsApart_b12 (F_X9_tellsApart_b2 n) FU x0 x1 x2 0 h
theorem R_X9_tellsApart_b2 {Γ : xG} {l : Launch} {d : Nat} {Q : Option Value → xH → Prop} {r : Int32} {h' : xH} (hdp : 0 ≤ d) (hq : Q (some (.int r)) h') : ∀ (n : Nat) (x0 : Nat) (x1 : Int32) (x2 : Int32) (h : xH), F_X9_tellsApart_b2 n x0 x1 x2 h = some (r, h') → Gd Γ l d m_X9_tellsApart 2 [.ref x0, .int x1, .int x2, xhole] [] h 0 0 Q := by
  intro n
  induction n with
  | zero => intro x0 x1 x2 h hF; cases hF
  | succ n ih =>
  intro x0 x1 x2 h hF
  rw [F_X9_tellsApart_b2] at hF
  refine g_iloadn d_X9_tellsApart_2 rfl ?_
  refine g_aloadn d_X9_tellsApart_3 rfl ?_
  obtain ⟨v4, e4, hF⟩ := Option.bind_eq_some_iff.mp hF
  refine q_fI d_X9_tellsApart_4 f_X9_22 e4 ?_
  refine g_icmp_ge 49 d_X9_tellsApart_7 rfl (fun c7 => ?_) (fun c7 => ?_)
  · have hF := x_t hF c7
    refine g_ic (1) d_X9_tellsApart_49 ic_1 ?_
    obtain ⟨rfl, rfl⟩ := x_inj hF
    exact g_zret d_X9_tellsApart_50 rfl rfl hq
  · have hF := x_f hF c7
    refine g_ic (0) d_X9_tellsApart_10 ic_0 ?_
    refine q_istoren [.ref x0, .int x1, .int x2, .int 0] d_X9_tellsApart_11 (by decide) rfl ?_
    exact q_to (xs_r (xs_r (xs_r (xs_r xs_n)))) (R_X9_tellsApart_b12 ih hdp hq FU _ _ _ _ _ hF)
def F_X9_tellsApart (x0 : Nat) (x1 : Int32) (h : xH) : Option (Int32 × xH) := F_X9_tellsApart_b2 FU x0 x1 0 h
theorem R_X9_tellsApart {Γ : xG} {l : Launch} {d : Nat} {r : Int32} {h' : xH} (x0 : Nat) (x1 : Int32) (h : xH) (hdp : 0 ≤ d) (hF : F_X9_tellsApart x0 x1 h = some (r, h')) : Gm Γ l d 0 0 m_X9_tellsApart [.ref x0, .int x1] h (fun a u => a = some (.int r) ∧ u = h') := by
  refine Gm.of pn_X9 (Nat.le_of_ble_eq_true rfl) ?_
  show Gd Γ l d m_X9_tellsApart 0 [.ref x0, .int x1, xhole, xhole] [] h 0 0 _
  generalize hQ : (fun (a : Option Value) (u : xH) => a = some (.int r) ∧ u = h') = Q
  have hq : Q (some (.int r)) h' := by rw [← hQ]; exact ⟨rfl, rfl⟩
  clear hQ
  unfold F_X9_tellsApart at hF
  refine g_ic (0) d_X9_tellsApart_0 ic_0 ?_
  refine q_istoren [.ref x0, .int x1, .int 0, xhole] d_X9_tellsApart_1 (by decide) rfl ?_
  exact q_to (xs_r (xs_r (xs_r (xs_h xs_n)))) (R_X9_tellsApart_b2 hdp hq FU _ _ _ _ hF)
theorem d_X9_leastSet_0 : decode cX9_leastSet 0 = .ok (.iconst 1, 1) := by decide +kernel
theorem d_X9_leastSet_1 : decode cX9_leastSet 1 = .ok (.aload_n 0, 1) := by decide +kernel
theorem d_X9_leastSet_2 : decode cX9_leastSet 2 = .ok (.getfield 9, 3) := by decide +kernel
theorem d_X9_leastSet_5 : decode cX9_leastSet 5 = .ok (.ishl, 1) := by decide +kernel
theorem d_X9_leastSet_6 : decode cX9_leastSet 6 = .ok (.iconst 1, 1) := by decide +kernel
theorem d_X9_leastSet_7 : decode cX9_leastSet 7 = .ok (.isub, 1) := by decide +kernel
theorem d_X9_leastSet_8 : decode cX9_leastSet 8 = .ok (.istore_n 1, 1) := by decide +kernel
theorem d_X9_leastSet_9 : decode cX9_leastSet 9 = .ok (.iconst 0, 1) := by decide +kernel
theorem d_X9_leastSet_10 : decode cX9_leastSet 10 = .ok (.istore_n 2, 1) := by decide +kernel
theorem d_X9_leastSet_11 : decode cX9_leastSet 11 = .ok (.iload_n 2, 1) := by decide +kernel
theorem d_X9_leastSet_12 : decode cX9_leastSet 12 = .ok (.iconst 1, 1) := by decide +kernel
theorem d_X9_leastSet_13 : decode cX9_leastSet 13 = .ok (.aload_n 0, 1) := by decide +kernel
theorem d_X9_leastSet_14 : decode cX9_leastSet 14 = .ok (.getfield 9, 3) := by decide +kernel
theorem d_X9_leastSet_17 : decode cX9_leastSet 17 = .ok (.ishl, 1) := by decide +kernel
theorem d_X9_leastSet_18 : decode cX9_leastSet 18 = .ok (.if_icmp .ge 30, 3) := by decide +kernel
theorem d_X9_leastSet_21 : decode cX9_leastSet 21 = .ok (.iload_n 2, 1) := by decide +kernel
theorem d_X9_leastSet_22 : decode cX9_leastSet 22 = .ok (.invokestatic 62, 3) := by decide +kernel
theorem d_X9_leastSet_25 : decode cX9_leastSet 25 = .ok (.iload_n 1, 1) := by decide +kernel
theorem d_X9_leastSet_26 : decode cX9_leastSet 26 = .ok (.invokestatic 62, 3) := by decide +kernel
theorem d_X9_leastSet_29 : decode cX9_leastSet 29 = .ok (.if_icmp .ge 13, 3) := by decide +kernel
theorem d_X9_leastSet_32 : decode cX9_leastSet 32 = .ok (.aload_n 0, 1) := by decide +kernel
theorem d_X9_leastSet_33 : decode cX9_leastSet 33 = .ok (.iload_n 2, 1) := by decide +kernel
theorem d_X9_leastSet_34 : decode cX9_leastSet 34 = .ok (.invokevirtual 84, 3) := by decide +kernel
theorem d_X9_leastSet_37 : decode cX9_leastSet 37 = .ok (.ifCond .eq 5, 3) := by decide +kernel
theorem d_X9_leastSet_40 : decode cX9_leastSet 40 = .ok (.iload_n 2, 1) := by decide +kernel
theorem d_X9_leastSet_41 : decode cX9_leastSet 41 = .ok (.istore_n 1, 1) := by decide +kernel
theorem d_X9_leastSet_42 : decode cX9_leastSet 42 = .ok (.iinc 2 1, 3) := by decide +kernel
theorem d_X9_leastSet_45 : decode cX9_leastSet 45 = .ok (.goto (-34), 3) := by decide +kernel
theorem d_X9_leastSet_48 : decode cX9_leastSet 48 = .ok (.iload_n 1, 1) := by decide +kernel
theorem d_X9_leastSet_49 : decode cX9_leastSet 49 = .ok (.ireturn, 1) := by decide +kernel
def F_X9_leastSet_b11 : Nat → Nat → Int32 → Int32 → xH → Option (Int32 × xH)
  | 0, _, _, _, _ => none
  | n + 1, x0, x1, x2, h => (fI h x0 8 0).bind fun v14 => if (((1 : Int32)) <<< (v14 &&& 31)) ≤ x2 then some (x1, h) else (F_J6_bitCount_0f7a4 x2 h).bind fun z22 => (F_J6_bitCount_0f7a4 x1 z22.2).bind fun z26 => if z26.1 ≤ z22.1 then F_X9_leastSet_b11 n x0 x1 (x2 + 1) z26.2 else (rc z26.2 x0 8).bind fun _ => (F_X9_tellsApart x0 x2 z26.2).bind fun z34 => if z34.1 = 0 then F_X9_leastSet_b11 n x0 x1 (x2 + 1) z34.2 else F_X9_leastSet_b11 n x0 x2 (x2 + 1) z34.2
theorem R_X9_leastSet_b11 {Γ : xG} {l : Launch} {d : Nat} {Q : Option Value → xH → Prop} {r : Int32} {h' : xH} (hdp : 1 ≤ d) (hq : Q (some (.int r)) h') : ∀ (n : Nat) (x0 : Nat) (x1 : Int32) (x2 : Int32) (h : xH), F_X9_leastSet_b11 n x0 x1 x2 h = some (r, h') → Gd Γ l d m_X9_leastSet 11 [.ref x0, .int x1, .int x2] [] h 0 0 Q := by
  intro n
  induction n with
  | zero => intro x0 x1 x2 h hF; cases hF
  | succ n ih =>
  intro x0 x1 x2 h hF
  rw [F_X9_leastSet_b11] at hF
  refine g_iloadn d_X9_leastSet_11 rfl ?_
  refine g_ic (1) d_X9_leastSet_12 ic_1 ?_
  refine g_aloadn d_X9_leastSet_13 rfl ?_
  obtain ⟨v14, e14, hF⟩ := Option.bind_eq_some_iff.mp hF
  refine q_fI d_X9_leastSet_14 f_X9_9 e14 ?_
  refine g_ishl d_X9_leastSet_17 ?_
  refine g_icmp_ge 48 d_X9_leastSet_18 rfl (fun c18 => ?_) (fun c18 => ?_)
  · have hF := x_t hF c18
    refine g_iloadn d_X9_leastSet_48 rfl ?_
    obtain ⟨rfl, rfl⟩ := x_inj hF
    exact g_iret d_X9_leastSet_49 rfl hq
  · have hF := x_f hF c18
    refine g_iloadn d_X9_leastSet_21 rfl ?_
    obtain ⟨⟨r22, h22⟩, e22, hF⟩ := Option.bind_eq_some_iff.mp hF
    try dsimp only at hF
    refine q_callS [.int x2] [] rfl d_X9_leastSet_22 s_X9_62 (by omega) rfl (Nat.le_of_ble_eq_true rfl) (R_J6_bitCount_0f7a4 _ _ (by omega) e22) ?_
    refine g_iloadn d_X9_leastSet_25 rfl ?_
    obtain ⟨⟨r26, h26⟩, e26, hF⟩ := Option.bind_eq_some_iff.mp hF
    try dsimp only at hF
    refine q_callS [.int x1] [.int (r22)] rfl d_X9_leastSet_26 s_X9_62 (by omega) rfl (Nat.le_of_ble_eq_true rfl) (R_J6_bitCount_0f7a4 _ _ (by omega) e26) ?_
    refine g_icmp_ge 42 d_X9_leastSet_29 rfl (fun c29 => ?_) (fun c29 => ?_)
    · have hF := x_t hF c29
      refine q_iinc (1) [.ref x0, .int x1, .int (x2 + 1)] d_X9_leastSet_42 ic_1 rfl (by decide) rfl ?_
      refine g_goto 11 d_X9_leastSet_45 rfl ?_
      exact q_to (xs_r (xs_r (xs_r xs_n))) (ih _ _ _ _ hF)
    · have hF := x_f hF c29
      refine g_aloadn d_X9_leastSet_32 rfl ?_
      refine g_iloadn d_X9_leastSet_33 rfl ?_
      obtain ⟨_, g34, hF⟩ := Option.bind_eq_some_iff.mp hF
      obtain ⟨⟨r34, h34⟩, e34, hF⟩ := Option.bind_eq_some_iff.mp hF
      try dsimp only at hF
      refine q_callV [.int x2] [] rfl d_X9_leastSet_34 v_X9_84 (by omega) rfl (Nat.le_of_ble_eq_true rfl) (rc_rc g34 (by decide) rfl) (R_X9_tellsApart _ _ _ (by omega) e34) ?_
      refine g_if_eq 42 d_X9_leastSet_37 rfl (fun c37 => ?_) (fun c37 => ?_)
      · have hF := x_t hF c37
        refine q_iinc (1) [.ref x0, .int x1, .int (x2 + 1)] d_X9_leastSet_42 ic_1 rfl (by decide) rfl ?_
        refine g_goto 11 d_X9_leastSet_45 rfl ?_
        exact q_to (xs_r (xs_r (xs_r xs_n))) (ih _ _ _ _ hF)
      · have hF := x_f hF c37
        refine g_iloadn d_X9_leastSet_40 rfl ?_
        refine q_istoren [.ref x0, .int x2, .int x2] d_X9_leastSet_41 (by decide) rfl ?_
        refine q_iinc (1) [.ref x0, .int x2, .int (x2 + 1)] d_X9_leastSet_42 ic_1 rfl (by decide) rfl ?_
        refine g_goto 11 d_X9_leastSet_45 rfl ?_
        exact q_to (xs_r (xs_r (xs_r xs_n))) (ih _ _ _ _ hF)
def F_X9_leastSet (x0 : Nat) (h : xH) : Option (Int32 × xH) := (fI h x0 8 0).bind fun v2 => F_X9_leastSet_b11 FU x0 ((((1 : Int32)) <<< (v2 &&& 31)) - 1) 0 h
theorem R_X9_leastSet {Γ : xG} {l : Launch} {d : Nat} {r : Int32} {h' : xH} (x0 : Nat) (h : xH) (hdp : 1 ≤ d) (hF : F_X9_leastSet x0 h = some (r, h')) : Gm Γ l d 0 0 m_X9_leastSet [.ref x0] h (fun a u => a = some (.int r) ∧ u = h') := by
  refine Gm.of pn_X9 (Nat.le_of_ble_eq_true rfl) ?_
  show Gd Γ l d m_X9_leastSet 0 [.ref x0, xhole, xhole] [] h 0 0 _
  generalize hQ : (fun (a : Option Value) (u : xH) => a = some (.int r) ∧ u = h') = Q
  have hq : Q (some (.int r)) h' := by rw [← hQ]; exact ⟨rfl, rfl⟩
  clear hQ
  unfold F_X9_leastSet at hF
  refine g_ic (1) d_X9_leastSet_0 ic_1 ?_
  refine g_aloadn d_X9_leastSet_1 rfl ?_
  obtain ⟨v2, e2, hF⟩ := Option.bind_eq_some_iff.mp hF
  refine q_fI d_X9_leastSet_2 f_X9_9 e2 ?_
  refine g_ishl d_X9_leastSet_5 ?_
  refine g_ic (1) d_X9_leastSet_6 ic_1 ?_
  refine g_isub d_X9_leastSet_7 ?_
  refine q_istoren [.ref x0, .int ((((1 : Int32)) <<< (v2 &&& 31)) - 1), xhole] d_X9_leastSet_8 (by decide) rfl ?_
  refine g_ic (0) d_X9_leastSet_9 ic_0 ?_
  refine q_istoren [.ref x0, .int ((((1 : Int32)) <<< (v2 &&& 31)) - 1), .int 0] d_X9_leastSet_10 (by decide) rfl ?_
  exact q_to (xs_r (xs_r (xs_r xs_n))) (R_X9_leastSet_b11 hdp hq FU _ _ _ _ hF)
theorem d_X10_hasTune_0 : decode cX10_hasTune 0 = .ok (.iload_n 1, 1) := by decide +kernel
theorem d_X10_hasTune_1 : decode cX10_hasTune 1 = .ok (.ifCond .lt 15, 3) := by decide +kernel
theorem d_X10_hasTune_4 : decode cX10_hasTune 4 = .ok (.iload_n 1, 1) := by decide +kernel
theorem d_X10_hasTune_5 : decode cX10_hasTune 5 = .ok (.aload_n 0, 1) := by decide +kernel
theorem d_X10_hasTune_6 : decode cX10_hasTune 6 = .ok (.getfield 18, 3) := by decide +kernel
theorem d_X10_hasTune_9 : decode cX10_hasTune 9 = .ok (.if_icmp .ge 7, 3) := by decide +kernel
theorem d_X10_hasTune_12 : decode cX10_hasTune 12 = .ok (.iconst 1, 1) := by decide +kernel
theorem d_X10_hasTune_13 : decode cX10_hasTune 13 = .ok (.goto 4, 3) := by decide +kernel
theorem d_X10_hasTune_16 : decode cX10_hasTune 16 = .ok (.iconst 0, 1) := by decide +kernel
theorem d_X10_hasTune_17 : decode cX10_hasTune 17 = .ok (.ireturn, 1) := by decide +kernel
def F_X10_hasTune (x0 : Nat) (x1 : Int32) (h : xH) : Option (Int32 × xH) := if x1 < 0 then some (0, h) else (fI h x0 9 2).bind fun v6 => if v6 ≤ x1 then some (0, h) else some (1, h)
theorem R_X10_hasTune {Γ : xG} {l : Launch} {d : Nat} {r : Int32} {h' : xH} (x0 : Nat) (x1 : Int32) (h : xH) (hdp : 0 ≤ d) (hF : F_X10_hasTune x0 x1 h = some (r, h')) : Gm Γ l d 0 0 m_X10_hasTune [.ref x0, .int x1] h (fun a u => a = some (.int r) ∧ u = h') := by
  refine Gm.of pn_X10 (Nat.le_of_ble_eq_true rfl) ?_
  show Gd Γ l d m_X10_hasTune 0 [.ref x0, .int x1] [] h 0 0 _
  generalize hQ : (fun (a : Option Value) (u : xH) => a = some (.int r) ∧ u = h') = Q
  have hq : Q (some (.int r)) h' := by rw [← hQ]; exact ⟨rfl, rfl⟩
  clear hQ
  unfold F_X10_hasTune at hF
  refine g_iloadn d_X10_hasTune_0 rfl ?_
  refine g_if_lt 16 d_X10_hasTune_1 rfl (fun c1 => ?_) (fun c1 => ?_)
  · have hF := x_t hF c1
    refine g_ic (0) d_X10_hasTune_16 ic_0 ?_
    obtain ⟨rfl, rfl⟩ := x_inj hF
    exact g_zret d_X10_hasTune_17 rfl rfl hq
  · have hF := x_f hF c1
    refine g_iloadn d_X10_hasTune_4 rfl ?_
    refine g_aloadn d_X10_hasTune_5 rfl ?_
    obtain ⟨v6, e6, hF⟩ := Option.bind_eq_some_iff.mp hF
    refine q_fI d_X10_hasTune_6 f_X10_18 e6 ?_
    refine g_icmp_ge 16 d_X10_hasTune_9 rfl (fun c9 => ?_) (fun c9 => ?_)
    · have hF := x_t hF c9
      refine g_ic (0) d_X10_hasTune_16 ic_0 ?_
      obtain ⟨rfl, rfl⟩ := x_inj hF
      exact g_zret d_X10_hasTune_17 rfl rfl hq
    · have hF := x_f hF c9
      refine g_ic (1) d_X10_hasTune_12 ic_1 ?_
      refine g_goto 17 d_X10_hasTune_13 rfl ?_
      obtain ⟨rfl, rfl⟩ := x_inj hF
      exact g_zret d_X10_hasTune_17 rfl rfl hq
theorem d_X10_isPeople_0 : decode cX10_isPeople 0 = .ok (.iload_n 1, 1) := by decide +kernel
theorem d_X10_isPeople_1 : decode cX10_isPeople 1 = .ok (.aload_n 0, 1) := by decide +kernel
theorem d_X10_isPeople_2 : decode cX10_isPeople 2 = .ok (.getfield 24, 3) := by decide +kernel
theorem d_X10_isPeople_5 : decode cX10_isPeople 5 = .ok (.iushr, 1) := by decide +kernel
theorem d_X10_isPeople_6 : decode cX10_isPeople 6 = .ok (.ifCond .ne 7, 3) := by decide +kernel
theorem d_X10_isPeople_9 : decode cX10_isPeople 9 = .ok (.iconst 1, 1) := by decide +kernel
theorem d_X10_isPeople_10 : decode cX10_isPeople 10 = .ok (.goto 4, 3) := by decide +kernel
theorem d_X10_isPeople_13 : decode cX10_isPeople 13 = .ok (.iconst 0, 1) := by decide +kernel
theorem d_X10_isPeople_14 : decode cX10_isPeople 14 = .ok (.ireturn, 1) := by decide +kernel
def F_X10_isPeople (x0 : Nat) (x1 : Int32) (h : xH) : Option (Int32 × xH) := (fI h x0 9 4).bind fun v2 => if ¬ (ush x1 v2) = 0 then some (0, h) else some (1, h)
theorem R_X10_isPeople {Γ : xG} {l : Launch} {d : Nat} {r : Int32} {h' : xH} (x0 : Nat) (x1 : Int32) (h : xH) (hdp : 0 ≤ d) (hF : F_X10_isPeople x0 x1 h = some (r, h')) : Gm Γ l d 0 0 m_X10_isPeople [.ref x0, .int x1] h (fun a u => a = some (.int r) ∧ u = h') := by
  refine Gm.of pn_X10 (Nat.le_of_ble_eq_true rfl) ?_
  show Gd Γ l d m_X10_isPeople 0 [.ref x0, .int x1] [] h 0 0 _
  generalize hQ : (fun (a : Option Value) (u : xH) => a = some (.int r) ∧ u = h') = Q
  have hq : Q (some (.int r)) h' := by rw [← hQ]; exact ⟨rfl, rfl⟩
  clear hQ
  unfold F_X10_isPeople at hF
  refine g_iloadn d_X10_isPeople_0 rfl ?_
  refine g_aloadn d_X10_isPeople_1 rfl ?_
  obtain ⟨v2, e2, hF⟩ := Option.bind_eq_some_iff.mp hF
  refine q_fI d_X10_isPeople_2 f_X10_24 e2 ?_
  refine q_iushr d_X10_isPeople_5 ?_
  refine g_if_ne 13 d_X10_isPeople_6 rfl (fun c6 => ?_) (fun c6 => ?_)
  · have hF := x_t hF c6
    refine g_ic (0) d_X10_isPeople_13 ic_0 ?_
    obtain ⟨rfl, rfl⟩ := x_inj hF
    exact g_zret d_X10_isPeople_14 rfl rfl hq
  · have hF := x_f hF (not_not_intro c6)
    refine g_ic (1) d_X10_isPeople_9 ic_1 ?_
    refine g_goto 14 d_X10_isPeople_10 rfl ?_
    obtain ⟨rfl, rfl⟩ := x_inj hF
    exact g_zret d_X10_isPeople_14 rfl rfl hq
theorem d_X10_isNotes_0 : decode cX10_isNotes 0 = .ok (.iload_n 1, 1) := by decide +kernel
theorem d_X10_isNotes_1 : decode cX10_isNotes 1 = .ok (.aload_n 0, 1) := by decide +kernel
theorem d_X10_isNotes_2 : decode cX10_isNotes 2 = .ok (.getfield 9, 3) := by decide +kernel
theorem d_X10_isNotes_5 : decode cX10_isNotes 5 = .ok (.iushr, 1) := by decide +kernel
theorem d_X10_isNotes_6 : decode cX10_isNotes 6 = .ok (.ifCond .ne 7, 3) := by decide +kernel
theorem d_X10_isNotes_9 : decode cX10_isNotes 9 = .ok (.iconst 1, 1) := by decide +kernel
theorem d_X10_isNotes_10 : decode cX10_isNotes 10 = .ok (.goto 4, 3) := by decide +kernel
theorem d_X10_isNotes_13 : decode cX10_isNotes 13 = .ok (.iconst 0, 1) := by decide +kernel
theorem d_X10_isNotes_14 : decode cX10_isNotes 14 = .ok (.ireturn, 1) := by decide +kernel
def F_X10_isNotes (x0 : Nat) (x1 : Int32) (h : xH) : Option (Int32 × xH) := (fI h x0 9 0).bind fun v2 => if ¬ (ush x1 v2) = 0 then some (0, h) else some (1, h)
theorem R_X10_isNotes {Γ : xG} {l : Launch} {d : Nat} {r : Int32} {h' : xH} (x0 : Nat) (x1 : Int32) (h : xH) (hdp : 0 ≤ d) (hF : F_X10_isNotes x0 x1 h = some (r, h')) : Gm Γ l d 0 0 m_X10_isNotes [.ref x0, .int x1] h (fun a u => a = some (.int r) ∧ u = h') := by
  refine Gm.of pn_X10 (Nat.le_of_ble_eq_true rfl) ?_
  show Gd Γ l d m_X10_isNotes 0 [.ref x0, .int x1] [] h 0 0 _
  generalize hQ : (fun (a : Option Value) (u : xH) => a = some (.int r) ∧ u = h') = Q
  have hq : Q (some (.int r)) h' := by rw [← hQ]; exact ⟨rfl, rfl⟩
  clear hQ
  unfold F_X10_isNotes at hF
  refine g_iloadn d_X10_isNotes_0 rfl ?_
  refine g_aloadn d_X10_isNotes_1 rfl ?_
  obtain ⟨v2, e2, hF⟩ := Option.bind_eq_some_iff.mp hF
  refine q_fI d_X10_isNotes_2 f_X10_9 e2 ?_
  refine q_iushr d_X10_isNotes_5 ?_
  refine g_if_ne 13 d_X10_isNotes_6 rfl (fun c6 => ?_) (fun c6 => ?_)
  · have hF := x_t hF c6
    refine g_ic (0) d_X10_isNotes_13 ic_0 ?_
    obtain ⟨rfl, rfl⟩ := x_inj hF
    exact g_zret d_X10_isNotes_14 rfl rfl hq
  · have hF := x_f hF (not_not_intro c6)
    refine g_ic (1) d_X10_isNotes_9 ic_1 ?_
    refine g_goto 14 d_X10_isNotes_10 rfl ?_
    obtain ⟨rfl, rfl⟩ := x_inj hF
    exact g_zret d_X10_isNotes_14 rfl rfl hq
theorem d_J9_abs_0f7a4_0 : decode cJ9_abs_0f7a4 0 = .ok (.iload_n 0, 1) := by decide +kernel
theorem d_J9_abs_0f7a4_1 : decode cJ9_abs_0f7a4 1 = .ok (.ifCond .ge 8, 3) := by decide +kernel
theorem d_J9_abs_0f7a4_4 : decode cJ9_abs_0f7a4 4 = .ok (.iload_n 0, 1) := by decide +kernel
theorem d_J9_abs_0f7a4_5 : decode cJ9_abs_0f7a4 5 = .ok (.ineg, 1) := by decide +kernel
theorem d_J9_abs_0f7a4_6 : decode cJ9_abs_0f7a4 6 = .ok (.goto 4, 3) := by decide +kernel
theorem d_J9_abs_0f7a4_9 : decode cJ9_abs_0f7a4 9 = .ok (.iload_n 0, 1) := by decide +kernel
theorem d_J9_abs_0f7a4_10 : decode cJ9_abs_0f7a4 10 = .ok (.ireturn, 1) := by decide +kernel
def F_J9_abs_0f7a4 (x0 : Int32) (h : xH) : Option (Int32 × xH) := if 0 ≤ x0 then some (x0, h) else some (-x0, h)
theorem R_J9_abs_0f7a4 {Γ : xG} {l : Launch} {d : Nat} {r : Int32} {h' : xH} (x0 : Int32) (h : xH) (hdp : 0 ≤ d) (hF : F_J9_abs_0f7a4 x0 h = some (r, h')) : Gm Γ l d 0 0 m_J9_abs_0f7a4 [.int x0] h (fun a u => a = some (.int r) ∧ u = h') := by
  refine Gm.ofF (by decide +kernel) (Nat.le_of_ble_eq_true rfl) ?_
  show Gd Γ l d m_J9_abs_0f7a4 0 [.int x0] [] h 0 0 _
  generalize hQ : (fun (a : Option Value) (u : xH) => a = some (.int r) ∧ u = h') = Q
  have hq : Q (some (.int r)) h' := by rw [← hQ]; exact ⟨rfl, rfl⟩
  clear hQ
  unfold F_J9_abs_0f7a4 at hF
  refine g_iloadn d_J9_abs_0f7a4_0 rfl ?_
  refine g_if_ge 9 d_J9_abs_0f7a4_1 rfl (fun c1 => ?_) (fun c1 => ?_)
  · have hF := x_t hF c1
    refine g_iloadn d_J9_abs_0f7a4_9 rfl ?_
    obtain ⟨rfl, rfl⟩ := x_inj hF
    exact g_iret d_J9_abs_0f7a4_10 rfl hq
  · have hF := x_f hF c1
    refine g_iloadn d_J9_abs_0f7a4_4 rfl ?_
    refine g_ineg d_J9_abs_0f7a4_5 ?_
    refine g_goto 10 d_J9_abs_0f7a4_6 rfl ?_
    obtain ⟨rfl, rfl⟩ := x_inj hF
    exact g_iret d_J9_abs_0f7a4_10 rfl hq
theorem d_X10_settle_0 : decode cX10_settle 0 = .ok (.iconst 0, 1) := by decide +kernel
theorem d_X10_settle_1 : decode cX10_settle 1 = .ok (.istore_n 1, 1) := by decide +kernel
theorem d_X10_settle_2 : decode cX10_settle 2 = .ok (.iload_n 1, 1) := by decide +kernel
theorem d_X10_settle_3 : decode cX10_settle 3 = .ok (.aload_n 0, 1) := by decide +kernel
theorem d_X10_settle_4 : decode cX10_settle 4 = .ok (.getfield 9, 3) := by decide +kernel
theorem d_X10_settle_7 : decode cX10_settle 7 = .ok (.if_icmp .ge 71, 3) := by decide +kernel
theorem d_X10_settle_10 : decode cX10_settle 10 = .ok (.aload_n 0, 1) := by decide +kernel
theorem d_X10_settle_11 : decode cX10_settle 11 = .ok (.getfield 43, 3) := by decide +kernel
theorem d_X10_settle_14 : decode cX10_settle 14 = .ok (.iload_n 1, 1) := by decide +kernel
theorem d_X10_settle_15 : decode cX10_settle 15 = .ok (.iconst 0, 1) := by decide +kernel
theorem d_X10_settle_16 : decode cX10_settle 16 = .ok (.iastore, 1) := by decide +kernel
theorem d_X10_settle_17 : decode cX10_settle 17 = .ok (.iconst 0, 1) := by decide +kernel
theorem d_X10_settle_18 : decode cX10_settle 18 = .ok (.istore_n 2, 1) := by decide +kernel
theorem d_X10_settle_19 : decode cX10_settle 19 = .ok (.iload_n 2, 1) := by decide +kernel
theorem d_X10_settle_20 : decode cX10_settle 20 = .ok (.aload_n 0, 1) := by decide +kernel
theorem d_X10_settle_21 : decode cX10_settle 21 = .ok (.getfield 9, 3) := by decide +kernel
theorem d_X10_settle_24 : decode cX10_settle 24 = .ok (.if_icmp .ge 48, 3) := by decide +kernel
theorem d_X10_settle_27 : decode cX10_settle 27 = .ok (.aload_n 0, 1) := by decide +kernel
theorem d_X10_settle_28 : decode cX10_settle 28 = .ok (.getfield 57, 3) := by decide +kernel
theorem d_X10_settle_31 : decode cX10_settle 31 = .ok (.ifnull 23, 3) := by decide +kernel
theorem d_X10_settle_34 : decode cX10_settle 34 = .ok (.aload_n 0, 1) := by decide +kernel
theorem d_X10_settle_35 : decode cX10_settle 35 = .ok (.getfield 57, 3) := by decide +kernel
theorem d_X10_settle_38 : decode cX10_settle 38 = .ok (.iload_n 1, 1) := by decide +kernel
theorem d_X10_settle_39 : decode cX10_settle 39 = .ok (.iload_n 2, 1) := by decide +kernel
theorem d_X10_settle_40 : decode cX10_settle 40 = .ok (.iload_n 1, 1) := by decide +kernel
theorem d_X10_settle_41 : decode cX10_settle 41 = .ok (.iload_n 2, 1) := by decide +kernel
theorem d_X10_settle_42 : decode cX10_settle 42 = .ok (.isub, 1) := by decide +kernel
theorem d_X10_settle_43 : decode cX10_settle 43 = .ok (.invokestatic 60, 3) := by decide +kernel
theorem d_X10_settle_46 : decode cX10_settle 46 = .ok (.iconst 0, 1) := by decide +kernel
theorem d_X10_settle_47 : decode cX10_settle 47 = .ok (.iconst 0, 1) := by decide +kernel
theorem d_X10_settle_48 : decode cX10_settle 48 = .ok (.invokevirtual 66, 3) := by decide +kernel
theorem d_X10_settle_51 : decode cX10_settle 51 = .ok (.ifCond .eq 15, 3) := by decide +kernel
theorem d_X10_settle_54 : decode cX10_settle 54 = .ok (.aload_n 0, 1) := by decide +kernel
theorem d_X10_settle_55 : decode cX10_settle 55 = .ok (.getfield 43, 3) := by decide +kernel
theorem d_X10_settle_58 : decode cX10_settle 58 = .ok (.iload_n 1, 1) := by decide +kernel
theorem d_X10_settle_59 : decode cX10_settle 59 = .ok (.dup2, 1) := by decide +kernel
theorem d_X10_settle_60 : decode cX10_settle 60 = .ok (.iaload, 1) := by decide +kernel
theorem d_X10_settle_61 : decode cX10_settle 61 = .ok (.iconst 1, 1) := by decide +kernel
theorem d_X10_settle_62 : decode cX10_settle 62 = .ok (.iload_n 2, 1) := by decide +kernel
theorem d_X10_settle_63 : decode cX10_settle 63 = .ok (.ishl, 1) := by decide +kernel
theorem d_X10_settle_64 : decode cX10_settle 64 = .ok (.ior, 1) := by decide +kernel
theorem d_X10_settle_65 : decode cX10_settle 65 = .ok (.iastore, 1) := by decide +kernel
theorem d_X10_settle_66 : decode cX10_settle 66 = .ok (.iinc 2 1, 3) := by decide +kernel
theorem d_X10_settle_69 : decode cX10_settle 69 = .ok (.goto (-50), 3) := by decide +kernel
theorem d_X10_settle_72 : decode cX10_settle 72 = .ok (.iinc 1 1, 3) := by decide +kernel
theorem d_X10_settle_75 : decode cX10_settle 75 = .ok (.goto (-73), 3) := by decide +kernel
theorem d_X10_settle_78 : decode cX10_settle 78 = .ok (.return_, 1) := by decide +kernel
def F_X10_settle_b54 (k2 : Nat → Int32 → xH → Option (Unit × xH)) (k19 : Nat → Int32 → Int32 → xH → Option (Unit × xH)) (x0 : Nat) (x1 : Int32) (x2 : Int32) (h : xH) : Option (Unit × xH) := (fR h x0 9 10).bind fun v55 => (aI h v55 x1).bind fun v60 => (sI h v55 x1 (v60 ||| (((1 : Int32)) <<< (x2 &&& 31)))).bind fun h65 => k19 x0 x1 (x2 + 1) h65
theorem R_X10_settle_b54 {Γ : xG} {l : Launch} {d : Nat} {Q : Option Value → xH → Prop} {r : Unit} {h' : xH} {k2 : Nat → Int32 → xH → Option (Unit × xH)} {k19 : Nat → Int32 → Int32 → xH → Option (Unit × xH)} (K2 : ∀ (x0 : Nat) (x1 : Int32)  (h : xH), k2 x0 x1 h = some (r, h') → Gd Γ l d m_X10_settle 2 [.ref x0, .int x1, xhole] [] h 0 0 Q) (K19 : ∀ (x0 : Nat) (x1 : Int32) (x2 : Int32)  (h : xH), k19 x0 x1 x2 h = some (r, h') → Gd Γ l d m_X10_settle 19 [.ref x0, .int x1, .int x2] [] h 0 0 Q) (hdp : 4 ≤ d) (hq : Q (none) h') : ∀ (x0 : Nat) (x1 : Int32) (x2 : Int32) (h : xH), F_X10_settle_b54 k2 k19 x0 x1 x2 h = some (r, h') → Gd Γ l d m_X10_settle 54 [.ref x0, .int x1, .int x2] [] h 0 0 Q := by
  intro x0 x1 x2 h hF
  unfold F_X10_settle_b54 at hF
  refine g_aloadn d_X10_settle_54 rfl ?_
  obtain ⟨v55, e55, hF⟩ := Option.bind_eq_some_iff.mp hF
  refine q_fR d_X10_settle_55 f_X10_43 e55 ?_
  refine g_iloadn d_X10_settle_58 rfl ?_
  refine g_dup2 d_X10_settle_59 rfl rfl ?_
  obtain ⟨v60, e60, hF⟩ := Option.bind_eq_some_iff.mp hF
  refine q_aI d_X10_settle_60 e60 ?_
  refine g_ic (1) d_X10_settle_61 ic_1 ?_
  refine g_iloadn d_X10_settle_62 rfl ?_
  refine g_ishl d_X10_settle_63 ?_
  refine g_ior d_X10_settle_64 ?_
  obtain ⟨h65, e65, hF⟩ := Option.bind_eq_some_iff.mp hF
  refine q_sI d_X10_settle_65 e65 ?_
  refine q_iinc (1) [.ref x0, .int x1, .int (x2 + 1)] d_X10_settle_66 ic_1 rfl (by decide) rfl ?_
  refine g_goto 19 d_X10_settle_69 rfl ?_
  exact q_to (xs_r (xs_r (xs_r xs_n))) (K19 _ _ _ _ hF)
def F_X10_settle_b19 (k2 : Nat → Int32 → xH → Option (Unit × xH)) : Nat → Nat → Int32 → Int32 → xH → Option (Unit × xH)
  | 0, _, _, _, _ => none
  | n + 1, x0, x1, x2, h => (fI h x0 9 0).bind fun v21 => if v21 ≤ x2 then k2 x0 (x1 + 1) h else (fQ h x0 9 13).bind fun v28 => (match v28 with | none => F_X10_settle_b54 k2 (F_X10_settle_b19 k2 n) x0 x1 x2 h | some q31 => (fR h x0 9 13).bind fun v35 => (F_J9_abs_0f7a4 (x1 - x2) h).bind fun z43 => (rc z43.2 v35 2).bind fun _ => (F_X3_holds v35 x1 x2 z43.1 0 0 z43.2).bind fun z48 => if z48.1 = 0 then F_X10_settle_b19 k2 n x0 x1 (x2 + 1) z48.2 else F_X10_settle_b54 k2 (F_X10_settle_b19 k2 n) x0 x1 x2 z48.2)
theorem R_X10_settle_b19 {Γ : xG} {l : Launch} {d : Nat} {Q : Option Value → xH → Prop} {r : Unit} {h' : xH} {k2 : Nat → Int32 → xH → Option (Unit × xH)} (K2 : ∀ (x0 : Nat) (x1 : Int32)  (h : xH), k2 x0 x1 h = some (r, h') → Gd Γ l d m_X10_settle 2 [.ref x0, .int x1, xhole] [] h 0 0 Q) (hdp : 4 ≤ d) (hq : Q (none) h') : ∀ (n : Nat) (x0 : Nat) (x1 : Int32) (x2 : Int32) (h : xH), F_X10_settle_b19 k2 n x0 x1 x2 h = some (r, h') → Gd Γ l d m_X10_settle 19 [.ref x0, .int x1, .int x2] [] h 0 0 Q := by
  intro n
  induction n with
  | zero => intro x0 x1 x2 h hF; cases hF
  | succ n ih =>
  intro x0 x1 x2 h hF
  rw [F_X10_settle_b19] at hF
  refine g_iloadn d_X10_settle_19 rfl ?_
  refine g_aloadn d_X10_settle_20 rfl ?_
  obtain ⟨v21, e21, hF⟩ := Option.bind_eq_some_iff.mp hF
  refine q_fI d_X10_settle_21 f_X10_9 e21 ?_
  refine g_icmp_ge 72 d_X10_settle_24 rfl (fun c24 => ?_) (fun c24 => ?_)
  · have hF := x_t hF c24
    refine q_iinc (1) [.ref x0, .int (x1 + 1), .int x2] d_X10_settle_72 ic_1 rfl (by decide) rfl ?_
    refine g_goto 2 d_X10_settle_75 rfl ?_
    exact q_to (xs_r (xs_r (xs_h xs_n))) (K2 _ _ _ hF)
  · have hF := x_f hF c24
    refine g_aloadn d_X10_settle_27 rfl ?_
    obtain ⟨v28, e28, hF⟩ := Option.bind_eq_some_iff.mp hF
    refine q_fQ d_X10_settle_28 f_X10_57 e28 ?_
    cases v28 with
    | none =>
      try dsimp only at hF
      refine g_ifnullN 54 d_X10_settle_31 rfl ?_
      exact q_to (xs_r (xs_r (xs_r xs_n))) (R_X10_settle_b54 K2 ih hdp hq _ _ _ _ hF)
    | some q31 =>
      try dsimp only at hF
      refine g_ifnull d_X10_settle_31 ?_
      refine g_aloadn d_X10_settle_34 rfl ?_
      obtain ⟨v35, e35, hF⟩ := Option.bind_eq_some_iff.mp hF
      refine q_fR d_X10_settle_35 f_X10_57 e35 ?_
      refine g_iloadn d_X10_settle_38 rfl ?_
      refine g_iloadn d_X10_settle_39 rfl ?_
      refine g_iloadn d_X10_settle_40 rfl ?_
      refine g_iloadn d_X10_settle_41 rfl ?_
      refine g_isub d_X10_settle_42 ?_
      obtain ⟨⟨r43, h43⟩, e43, hF⟩ := Option.bind_eq_some_iff.mp hF
      try dsimp only at hF
      refine q_callS [.int (x1 - x2)] [.int x2, .int x1, .ref v35] rfl d_X10_settle_43 s_X10_60 (by omega) rfl (Nat.le_of_ble_eq_true rfl) (R_J9_abs_0f7a4 _ _ (by omega) e43) ?_
      refine g_ic (0) d_X10_settle_46 ic_0 ?_
      refine g_ic (0) d_X10_settle_47 ic_0 ?_
      obtain ⟨_, g48, hF⟩ := Option.bind_eq_some_iff.mp hF
      obtain ⟨⟨r48, h48⟩, e48, hF⟩ := Option.bind_eq_some_iff.mp hF
      try dsimp only at hF
      refine q_callV [.int x1, .int x2, .int (r43), .int 0, .int 0] [] rfl d_X10_settle_48 v_X10_66 (by omega) rfl (Nat.le_of_ble_eq_true rfl) (rc_rc g48 (by decide) rfl) (R_X3_holds _ _ _ _ _ _ _ (by omega) e48) ?_
      refine g_if_eq 66 d_X10_settle_51 rfl (fun c51 => ?_) (fun c51 => ?_)
      · have hF := x_t hF c51
        refine q_iinc (1) [.ref x0, .int x1, .int (x2 + 1)] d_X10_settle_66 ic_1 rfl (by decide) rfl ?_
        refine g_goto 19 d_X10_settle_69 rfl ?_
        exact q_to (xs_r (xs_r (xs_r xs_n))) (ih _ _ _ _ hF)
      · have hF := x_f hF c51
        exact q_to (xs_r (xs_r (xs_r xs_n))) (R_X10_settle_b54 K2 ih hdp hq _ _ _ _ hF)
def F_X10_settle_b2 : Nat → Nat → Int32 → xH → Option (Unit × xH)
  | 0, _, _, _ => none
  | n + 1, x0, x1, h => (fI h x0 9 0).bind fun v4 => if v4 ≤ x1 then some ((), h) else (fR h x0 9 10).bind fun v11 => (sI h v11 x1 0).bind fun h16 => F_X10_settle_b19 (F_X10_settle_b2 n) FU x0 x1 0 h16
theorem R_X10_settle_b2 {Γ : xG} {l : Launch} {d : Nat} {Q : Option Value → xH → Prop} {r : Unit} {h' : xH} (hdp : 4 ≤ d) (hq : Q (none) h') : ∀ (n : Nat) (x0 : Nat) (x1 : Int32) (h : xH), F_X10_settle_b2 n x0 x1 h = some (r, h') → Gd Γ l d m_X10_settle 2 [.ref x0, .int x1, xhole] [] h 0 0 Q := by
  intro n
  induction n with
  | zero => intro x0 x1 h hF; cases hF
  | succ n ih =>
  intro x0 x1 h hF
  rw [F_X10_settle_b2] at hF
  refine g_iloadn d_X10_settle_2 rfl ?_
  refine g_aloadn d_X10_settle_3 rfl ?_
  obtain ⟨v4, e4, hF⟩ := Option.bind_eq_some_iff.mp hF
  refine q_fI d_X10_settle_4 f_X10_9 e4 ?_
  refine g_icmp_ge 78 d_X10_settle_7 rfl (fun c7 => ?_) (fun c7 => ?_)
  · have hF := x_t hF c7
    obtain ⟨rfl, rfl⟩ := x_inj hF
    exact g_vret d_X10_settle_78 rfl hq
  · have hF := x_f hF c7
    refine g_aloadn d_X10_settle_10 rfl ?_
    obtain ⟨v11, e11, hF⟩ := Option.bind_eq_some_iff.mp hF
    refine q_fR d_X10_settle_11 f_X10_43 e11 ?_
    refine g_iloadn d_X10_settle_14 rfl ?_
    refine g_ic (0) d_X10_settle_15 ic_0 ?_
    obtain ⟨h16, e16, hF⟩ := Option.bind_eq_some_iff.mp hF
    refine q_sI d_X10_settle_16 e16 ?_
    refine g_ic (0) d_X10_settle_17 ic_0 ?_
    refine q_istoren [.ref x0, .int x1, .int 0] d_X10_settle_18 (by decide) rfl ?_
    exact q_to (xs_r (xs_r (xs_r xs_n))) (R_X10_settle_b19 ih hdp hq FU _ _ _ _ hF)
def F_X10_settle (x0 : Nat) (h : xH) : Option (Unit × xH) := F_X10_settle_b2 FU x0 0 h
theorem R_X10_settle {Γ : xG} {l : Launch} {d : Nat} {r : Unit} {h' : xH} (x0 : Nat) (h : xH) (hdp : 4 ≤ d) (hF : F_X10_settle x0 h = some (r, h')) : Gm Γ l d 0 0 m_X10_settle [.ref x0] h (fun a u => a = none ∧ u = h') := by
  refine Gm.of pn_X10 (Nat.le_of_ble_eq_true rfl) ?_
  show Gd Γ l d m_X10_settle 0 [.ref x0, xhole, xhole] [] h 0 0 _
  generalize hQ : (fun (a : Option Value) (u : xH) => a = none ∧ u = h') = Q
  have hq : Q (none) h' := by rw [← hQ]; exact ⟨rfl, rfl⟩
  clear hQ
  unfold F_X10_settle at hF
  refine g_ic (0) d_X10_settle_0 ic_0 ?_
  refine q_istoren [.ref x0, .int 0, xhole] d_X10_settle_1 (by decide) rfl ?_
  exact q_to (xs_r (xs_r (xs_h xs_n))) (R_X10_settle_b2 hdp hq FU _ _ _ hF)
theorem d_X10_tuneNote_0 : decode cX10_tuneNote 0 = .ok (.aload_n 0, 1) := by decide +kernel
theorem d_X10_tuneNote_1 : decode cX10_tuneNote 1 = .ok (.getfield 27, 3) := by decide +kernel
theorem d_X10_tuneNote_4 : decode cX10_tuneNote 4 = .ok (.iload_n 1, 1) := by decide +kernel
theorem d_X10_tuneNote_5 : decode cX10_tuneNote 5 = .ok (.bipush 9, 2) := by decide +kernel
theorem d_X10_tuneNote_7 : decode cX10_tuneNote 7 = .ok (.imul, 1) := by decide +kernel
theorem d_X10_tuneNote_8 : decode cX10_tuneNote 8 = .ok (.iload_n 2, 1) := by decide +kernel
theorem d_X10_tuneNote_9 : decode cX10_tuneNote 9 = .ok (.iadd, 1) := by decide +kernel
theorem d_X10_tuneNote_10 : decode cX10_tuneNote 10 = .ok (.iaload, 1) := by decide +kernel
theorem d_X10_tuneNote_11 : decode cX10_tuneNote 11 = .ok (.ireturn, 1) := by decide +kernel
def F_X10_tuneNote (x0 : Nat) (x1 : Int32) (x2 : Int32) (h : xH) : Option (Int32 × xH) := (fR h x0 9 5).bind fun v1 => (aI h v1 ((x1 * 9) + x2)).bind fun v10 => some (v10, h)
theorem R_X10_tuneNote {Γ : xG} {l : Launch} {d : Nat} {r : Int32} {h' : xH} (x0 : Nat) (x1 : Int32) (x2 : Int32) (h : xH) (hdp : 0 ≤ d) (hF : F_X10_tuneNote x0 x1 x2 h = some (r, h')) : Gm Γ l d 0 0 m_X10_tuneNote [.ref x0, .int x1, .int x2] h (fun a u => a = some (.int r) ∧ u = h') := by
  refine Gm.of pn_X10 (Nat.le_of_ble_eq_true rfl) ?_
  show Gd Γ l d m_X10_tuneNote 0 [.ref x0, .int x1, .int x2] [] h 0 0 _
  generalize hQ : (fun (a : Option Value) (u : xH) => a = some (.int r) ∧ u = h') = Q
  have hq : Q (some (.int r)) h' := by rw [← hQ]; exact ⟨rfl, rfl⟩
  clear hQ
  unfold F_X10_tuneNote at hF
  refine g_aloadn d_X10_tuneNote_0 rfl ?_
  obtain ⟨v1, e1, hF⟩ := Option.bind_eq_some_iff.mp hF
  refine q_fR d_X10_tuneNote_1 f_X10_27 e1 ?_
  refine g_iloadn d_X10_tuneNote_4 rfl ?_
  refine g_bi (9) d_X10_tuneNote_5 bi_9 ?_
  refine g_imul d_X10_tuneNote_7 ?_
  refine g_iloadn d_X10_tuneNote_8 rfl ?_
  refine g_iadd d_X10_tuneNote_9 ?_
  obtain ⟨v10, e10, hF⟩ := Option.bind_eq_some_iff.mp hF
  refine q_aI d_X10_tuneNote_10 e10 ?_
  obtain ⟨rfl, rfl⟩ := x_inj hF
  exact g_iret d_X10_tuneNote_11 rfl hq
theorem d_X10_steppedOver_0 : decode cX10_steppedOver 0 = .ok (.iconst 0, 1) := by decide +kernel
theorem d_X10_steppedOver_1 : decode cX10_steppedOver 1 = .ok (.istore_n 3, 1) := by decide +kernel
theorem d_X10_steppedOver_2 : decode cX10_steppedOver 2 = .ok (.iconst 0, 1) := by decide +kernel
theorem d_X10_steppedOver_3 : decode cX10_steppedOver 3 = .ok (.istore 4, 2) := by decide +kernel
theorem d_X10_steppedOver_5 : decode cX10_steppedOver 5 = .ok (.iload 4, 2) := by decide +kernel
theorem d_X10_steppedOver_7 : decode cX10_steppedOver 7 = .ok (.aload_n 0, 1) := by decide +kernel
theorem d_X10_steppedOver_8 : decode cX10_steppedOver 8 = .ok (.getfield 31, 3) := by decide +kernel
theorem d_X10_steppedOver_11 : decode cX10_steppedOver 11 = .ok (.iload_n 1, 1) := by decide +kernel
theorem d_X10_steppedOver_12 : decode cX10_steppedOver 12 = .ok (.iaload, 1) := by decide +kernel
theorem d_X10_steppedOver_13 : decode cX10_steppedOver 13 = .ok (.if_icmp .ge 30, 3) := by decide +kernel
theorem d_X10_steppedOver_16 : decode cX10_steppedOver 16 = .ok (.iload_n 2, 1) := by decide +kernel
theorem d_X10_steppedOver_17 : decode cX10_steppedOver 17 = .ok (.aload_n 0, 1) := by decide +kernel
theorem d_X10_steppedOver_18 : decode cX10_steppedOver 18 = .ok (.iload_n 1, 1) := by decide +kernel
theorem d_X10_steppedOver_19 : decode cX10_steppedOver 19 = .ok (.iload 4, 2) := by decide +kernel
theorem d_X10_steppedOver_21 : decode cX10_steppedOver 21 = .ok (.invokevirtual 72, 3) := by decide +kernel
theorem d_X10_steppedOver_24 : decode cX10_steppedOver 24 = .ok (.ishr, 1) := by decide +kernel
theorem d_X10_steppedOver_25 : decode cX10_steppedOver 25 = .ok (.iconst 1, 1) := by decide +kernel
theorem d_X10_steppedOver_26 : decode cX10_steppedOver 26 = .ok (.iand, 1) := by decide +kernel
theorem d_X10_steppedOver_27 : decode cX10_steppedOver 27 = .ok (.ifCond .ne 10, 3) := by decide +kernel
theorem d_X10_steppedOver_30 : decode cX10_steppedOver 30 = .ok (.iload_n 3, 1) := by decide +kernel
theorem d_X10_steppedOver_31 : decode cX10_steppedOver 31 = .ok (.iconst 1, 1) := by decide +kernel
theorem d_X10_steppedOver_32 : decode cX10_steppedOver 32 = .ok (.iload 4, 2) := by decide +kernel
theorem d_X10_steppedOver_34 : decode cX10_steppedOver 34 = .ok (.ishl, 1) := by decide +kernel
theorem d_X10_steppedOver_35 : decode cX10_steppedOver 35 = .ok (.ior, 1) := by decide +kernel
theorem d_X10_steppedOver_36 : decode cX10_steppedOver 36 = .ok (.istore_n 3, 1) := by decide +kernel
theorem d_X10_steppedOver_37 : decode cX10_steppedOver 37 = .ok (.iinc 4 1, 3) := by decide +kernel
theorem d_X10_steppedOver_40 : decode cX10_steppedOver 40 = .ok (.goto (-35), 3) := by decide +kernel
theorem d_X10_steppedOver_43 : decode cX10_steppedOver 43 = .ok (.iload_n 3, 1) := by decide +kernel
theorem d_X10_steppedOver_44 : decode cX10_steppedOver 44 = .ok (.ireturn, 1) := by decide +kernel
def F_X10_steppedOver_b5 : Nat → Nat → Int32 → Int32 → Int32 → Int32 → xH → Option (Int32 × xH)
  | 0, _, _, _, _, _, _ => none
  | n + 1, x0, x1, x2, x3, x4, h => (fR h x0 9 6).bind fun v8 => (aI h v8 x1).bind fun v12 => if v12 ≤ x4 then some (x3, h) else (rc h x0 9).bind fun _ => (F_X10_tuneNote x0 x1 x4 h).bind fun z21 => if ¬ ((x2 >>> (z21.1 &&& 31)) &&& 1) = 0 then F_X10_steppedOver_b5 n x0 x1 x2 x3 (x4 + 1) z21.2 else F_X10_steppedOver_b5 n x0 x1 x2 (x3 ||| (((1 : Int32)) <<< (x4 &&& 31))) (x4 + 1) z21.2
theorem R_X10_steppedOver_b5 {Γ : xG} {l : Launch} {d : Nat} {Q : Option Value → xH → Prop} {r : Int32} {h' : xH} (hdp : 1 ≤ d) (hq : Q (some (.int r)) h') : ∀ (n : Nat) (x0 : Nat) (x1 : Int32) (x2 : Int32) (x3 : Int32) (x4 : Int32) (h : xH), F_X10_steppedOver_b5 n x0 x1 x2 x3 x4 h = some (r, h') → Gd Γ l d m_X10_steppedOver 5 [.ref x0, .int x1, .int x2, .int x3, .int x4] [] h 0 0 Q := by
  intro n
  induction n with
  | zero => intro x0 x1 x2 x3 x4 h hF; cases hF
  | succ n ih =>
  intro x0 x1 x2 x3 x4 h hF
  rw [F_X10_steppedOver_b5] at hF
  refine g_iload d_X10_steppedOver_5 rfl ?_
  refine g_aloadn d_X10_steppedOver_7 rfl ?_
  obtain ⟨v8, e8, hF⟩ := Option.bind_eq_some_iff.mp hF
  refine q_fR d_X10_steppedOver_8 f_X10_31 e8 ?_
  refine g_iloadn d_X10_steppedOver_11 rfl ?_
  obtain ⟨v12, e12, hF⟩ := Option.bind_eq_some_iff.mp hF
  refine q_aI d_X10_steppedOver_12 e12 ?_
  refine g_icmp_ge 43 d_X10_steppedOver_13 rfl (fun c13 => ?_) (fun c13 => ?_)
  · have hF := x_t hF c13
    refine g_iloadn d_X10_steppedOver_43 rfl ?_
    obtain ⟨rfl, rfl⟩ := x_inj hF
    exact g_iret d_X10_steppedOver_44 rfl hq
  · have hF := x_f hF c13
    refine g_iloadn d_X10_steppedOver_16 rfl ?_
    refine g_aloadn d_X10_steppedOver_17 rfl ?_
    refine g_iloadn d_X10_steppedOver_18 rfl ?_
    refine g_iload d_X10_steppedOver_19 rfl ?_
    obtain ⟨_, g21, hF⟩ := Option.bind_eq_some_iff.mp hF
    obtain ⟨⟨r21, h21⟩, e21, hF⟩ := Option.bind_eq_some_iff.mp hF
    try dsimp only at hF
    refine q_callV [.int x1, .int x4] [.int x2] rfl d_X10_steppedOver_21 v_X10_72 (by omega) rfl (Nat.le_of_ble_eq_true rfl) (rc_rc g21 (by decide) rfl) (R_X10_tuneNote _ _ _ _ (by omega) e21) ?_
    refine g_ishr d_X10_steppedOver_24 ?_
    refine g_ic (1) d_X10_steppedOver_25 ic_1 ?_
    refine g_iand d_X10_steppedOver_26 ?_
    refine g_if_ne 37 d_X10_steppedOver_27 rfl (fun c27 => ?_) (fun c27 => ?_)
    · have hF := x_t hF c27
      refine q_iinc (1) [.ref x0, .int x1, .int x2, .int x3, .int (x4 + 1)] d_X10_steppedOver_37 ic_1 rfl (by decide) rfl ?_
      refine g_goto 5 d_X10_steppedOver_40 rfl ?_
      exact q_to (xs_r (xs_r (xs_r (xs_r (xs_r xs_n))))) (ih _ _ _ _ _ _ hF)
    · have hF := x_f hF (not_not_intro c27)
      refine g_iloadn d_X10_steppedOver_30 rfl ?_
      refine g_ic (1) d_X10_steppedOver_31 ic_1 ?_
      refine g_iload d_X10_steppedOver_32 rfl ?_
      refine g_ishl d_X10_steppedOver_34 ?_
      refine g_ior d_X10_steppedOver_35 ?_
      refine q_istoren [.ref x0, .int x1, .int x2, .int (x3 ||| (((1 : Int32)) <<< (x4 &&& 31))), .int x4] d_X10_steppedOver_36 (by decide) rfl ?_
      refine q_iinc (1) [.ref x0, .int x1, .int x2, .int (x3 ||| (((1 : Int32)) <<< (x4 &&& 31))), .int (x4 + 1)] d_X10_steppedOver_37 ic_1 rfl (by decide) rfl ?_
      refine g_goto 5 d_X10_steppedOver_40 rfl ?_
      exact q_to (xs_r (xs_r (xs_r (xs_r (xs_r xs_n))))) (ih _ _ _ _ _ _ hF)
def F_X10_steppedOver (x0 : Nat) (x1 : Int32) (x2 : Int32) (h : xH) : Option (Int32 × xH) := F_X10_steppedOver_b5 FU x0 x1 x2 0 0 h
theorem R_X10_steppedOver {Γ : xG} {l : Launch} {d : Nat} {r : Int32} {h' : xH} (x0 : Nat) (x1 : Int32) (x2 : Int32) (h : xH) (hdp : 1 ≤ d) (hF : F_X10_steppedOver x0 x1 x2 h = some (r, h')) : Gm Γ l d 0 0 m_X10_steppedOver [.ref x0, .int x1, .int x2] h (fun a u => a = some (.int r) ∧ u = h') := by
  refine Gm.of pn_X10 (Nat.le_of_ble_eq_true rfl) ?_
  show Gd Γ l d m_X10_steppedOver 0 [.ref x0, .int x1, .int x2, xhole, xhole] [] h 0 0 _
  generalize hQ : (fun (a : Option Value) (u : xH) => a = some (.int r) ∧ u = h') = Q
  have hq : Q (some (.int r)) h' := by rw [← hQ]; exact ⟨rfl, rfl⟩
  clear hQ
  unfold F_X10_steppedOver at hF
  refine g_ic (0) d_X10_steppedOver_0 ic_0 ?_
  refine q_istoren [.ref x0, .int x1, .int x2, .int 0, xhole] d_X10_steppedOver_1 (by decide) rfl ?_
  refine g_ic (0) d_X10_steppedOver_2 ic_0 ?_
  refine q_istore [.ref x0, .int x1, .int x2, .int 0, .int 0] d_X10_steppedOver_3 (by decide) rfl ?_
  exact q_to (xs_r (xs_r (xs_r (xs_r (xs_r xs_n))))) (R_X10_steppedOver_b5 hdp hq FU _ _ _ _ _ _ hF)
theorem d_X10_countWays_0 : decode cX10_countWays 0 = .ok (.iconst 0, 1) := by decide +kernel
theorem d_X10_countWays_1 : decode cX10_countWays 1 = .ok (.istore_n 1, 1) := by decide +kernel
theorem d_X10_countWays_2 : decode cX10_countWays 2 = .ok (.iconst 0, 1) := by decide +kernel
theorem d_X10_countWays_3 : decode cX10_countWays 3 = .ok (.istore_n 2, 1) := by decide +kernel
theorem d_X10_countWays_4 : decode cX10_countWays 4 = .ok (.iload_n 2, 1) := by decide +kernel
theorem d_X10_countWays_5 : decode cX10_countWays 5 = .ok (.aload_n 0, 1) := by decide +kernel
theorem d_X10_countWays_6 : decode cX10_countWays 6 = .ok (.getfield 21, 3) := by decide +kernel
theorem d_X10_countWays_9 : decode cX10_countWays 9 = .ok (.if_icmp .ge 21, 3) := by decide +kernel
theorem d_X10_countWays_12 : decode cX10_countWays 12 = .ok (.iload_n 1, 1) := by decide +kernel
theorem d_X10_countWays_13 : decode cX10_countWays 13 = .ok (.aload_n 0, 1) := by decide +kernel
theorem d_X10_countWays_14 : decode cX10_countWays 14 = .ok (.getfield 40, 3) := by decide +kernel
theorem d_X10_countWays_17 : decode cX10_countWays 17 = .ok (.iload_n 2, 1) := by decide +kernel
theorem d_X10_countWays_18 : decode cX10_countWays 18 = .ok (.iaload, 1) := by decide +kernel
theorem d_X10_countWays_19 : decode cX10_countWays 19 = .ok (.invokestatic 76, 3) := by decide +kernel
theorem d_X10_countWays_22 : decode cX10_countWays 22 = .ok (.iadd, 1) := by decide +kernel
theorem d_X10_countWays_23 : decode cX10_countWays 23 = .ok (.istore_n 1, 1) := by decide +kernel
theorem d_X10_countWays_24 : decode cX10_countWays 24 = .ok (.iinc 2 1, 3) := by decide +kernel
theorem d_X10_countWays_27 : decode cX10_countWays 27 = .ok (.goto (-23), 3) := by decide +kernel
theorem d_X10_countWays_30 : decode cX10_countWays 30 = .ok (.iload_n 1, 1) := by decide +kernel
theorem d_X10_countWays_31 : decode cX10_countWays 31 = .ok (.iconst 2, 1) := by decide +kernel
theorem d_X10_countWays_32 : decode cX10_countWays 32 = .ok (.idiv, 1) := by decide +kernel
theorem d_X10_countWays_33 : decode cX10_countWays 33 = .ok (.ireturn, 1) := by decide +kernel
def F_X10_countWays_b4 : Nat → Nat → Int32 → Int32 → xH → Option (Int32 × xH)
  | 0, _, _, _, _ => none
  | n + 1, x0, x1, x2, h => (fI h x0 9 3).bind fun v6 => if v6 ≤ x2 then some (idv x1 2, h) else (fR h x0 9 9).bind fun v14 => (aI h v14 x2).bind fun v18 => (F_J6_bitCount_0f7a4 v18 h).bind fun z19 => F_X10_countWays_b4 n x0 (x1 + z19.1) (x2 + 1) z19.2
theorem R_X10_countWays_b4 {Γ : xG} {l : Launch} {d : Nat} {Q : Option Value → xH → Prop} {r : Int32} {h' : xH} (hdp : 1 ≤ d) (hq : Q (some (.int r)) h') : ∀ (n : Nat) (x0 : Nat) (x1 : Int32) (x2 : Int32) (h : xH), F_X10_countWays_b4 n x0 x1 x2 h = some (r, h') → Gd Γ l d m_X10_countWays 4 [.ref x0, .int x1, .int x2] [] h 0 0 Q := by
  intro n
  induction n with
  | zero => intro x0 x1 x2 h hF; cases hF
  | succ n ih =>
  intro x0 x1 x2 h hF
  rw [F_X10_countWays_b4] at hF
  refine g_iloadn d_X10_countWays_4 rfl ?_
  refine g_aloadn d_X10_countWays_5 rfl ?_
  obtain ⟨v6, e6, hF⟩ := Option.bind_eq_some_iff.mp hF
  refine q_fI d_X10_countWays_6 f_X10_21 e6 ?_
  refine g_icmp_ge 30 d_X10_countWays_9 rfl (fun c9 => ?_) (fun c9 => ?_)
  · have hF := x_t hF c9
    refine g_iloadn d_X10_countWays_30 rfl ?_
    refine g_ic (2) d_X10_countWays_31 ic_2 ?_
    refine q_idiv d_X10_countWays_32 (by decide) ?_
    obtain ⟨rfl, rfl⟩ := x_inj hF
    exact g_iret d_X10_countWays_33 rfl hq
  · have hF := x_f hF c9
    refine g_iloadn d_X10_countWays_12 rfl ?_
    refine g_aloadn d_X10_countWays_13 rfl ?_
    obtain ⟨v14, e14, hF⟩ := Option.bind_eq_some_iff.mp hF
    refine q_fR d_X10_countWays_14 f_X10_40 e14 ?_
    refine g_iloadn d_X10_countWays_17 rfl ?_
    obtain ⟨v18, e18, hF⟩ := Option.bind_eq_some_iff.mp hF
    refine q_aI d_X10_countWays_18 e18 ?_
    obtain ⟨⟨r19, h19⟩, e19, hF⟩ := Option.bind_eq_some_iff.mp hF
    try dsimp only at hF
    refine q_callS [.int v18] [.int x1] rfl d_X10_countWays_19 s_X10_76 (by omega) rfl (Nat.le_of_ble_eq_true rfl) (R_J6_bitCount_0f7a4 _ _ (by omega) e19) ?_
    refine g_iadd d_X10_countWays_22 ?_
    refine q_istoren [.ref x0, .int (x1 + r19), .int x2] d_X10_countWays_23 (by decide) rfl ?_
    refine q_iinc (1) [.ref x0, .int (x1 + r19), .int (x2 + 1)] d_X10_countWays_24 ic_1 rfl (by decide) rfl ?_
    refine g_goto 4 d_X10_countWays_27 rfl ?_
    exact q_to (xs_r (xs_r (xs_r xs_n))) (ih _ _ _ _ hF)
def F_X10_countWays (x0 : Nat) (h : xH) : Option (Int32 × xH) := F_X10_countWays_b4 FU x0 0 0 h
theorem R_X10_countWays {Γ : xG} {l : Launch} {d : Nat} {r : Int32} {h' : xH} (x0 : Nat) (h : xH) (hdp : 1 ≤ d) (hF : F_X10_countWays x0 h = some (r, h')) : Gm Γ l d 0 0 m_X10_countWays [.ref x0] h (fun a u => a = some (.int r) ∧ u = h') := by
  refine Gm.of pn_X10 (Nat.le_of_ble_eq_true rfl) ?_
  show Gd Γ l d m_X10_countWays 0 [.ref x0, xhole, xhole] [] h 0 0 _
  generalize hQ : (fun (a : Option Value) (u : xH) => a = some (.int r) ∧ u = h') = Q
  have hq : Q (some (.int r)) h' := by rw [← hQ]; exact ⟨rfl, rfl⟩
  clear hQ
  unfold F_X10_countWays at hF
  refine g_ic (0) d_X10_countWays_0 ic_0 ?_
  refine q_istoren [.ref x0, .int 0, xhole] d_X10_countWays_1 (by decide) rfl ?_
  refine g_ic (0) d_X10_countWays_2 ic_0 ?_
  refine q_istoren [.ref x0, .int 0, .int 0] d_X10_countWays_3 (by decide) rfl ?_
  exact q_to (xs_r (xs_r (xs_r xs_n))) (R_X10_countWays_b4 hdp hq FU _ _ _ _ hF)
theorem d_X10_heardByAll_0 : decode cX10_heardByAll 0 = .ok (.iconst 1, 1) := by decide +kernel
theorem d_X10_heardByAll_1 : decode cX10_heardByAll 1 = .ok (.aload_n 0, 1) := by decide +kernel
theorem d_X10_heardByAll_2 : decode cX10_heardByAll 2 = .ok (.getfield 9, 3) := by decide +kernel
theorem d_X10_heardByAll_5 : decode cX10_heardByAll 5 = .ok (.ishl, 1) := by decide +kernel
theorem d_X10_heardByAll_6 : decode cX10_heardByAll 6 = .ok (.iconst 1, 1) := by decide +kernel
theorem d_X10_heardByAll_7 : decode cX10_heardByAll 7 = .ok (.isub, 1) := by decide +kernel
theorem d_X10_heardByAll_8 : decode cX10_heardByAll 8 = .ok (.istore_n 3, 1) := by decide +kernel
theorem d_X10_heardByAll_9 : decode cX10_heardByAll 9 = .ok (.iconst 0, 1) := by decide +kernel
theorem d_X10_heardByAll_10 : decode cX10_heardByAll 10 = .ok (.istore 4, 2) := by decide +kernel
theorem d_X10_heardByAll_12 : decode cX10_heardByAll 12 = .ok (.iload 4, 2) := by decide +kernel
theorem d_X10_heardByAll_14 : decode cX10_heardByAll 14 = .ok (.aload_n 0, 1) := by decide +kernel
theorem d_X10_heardByAll_15 : decode cX10_heardByAll 15 = .ok (.getfield 24, 3) := by decide +kernel
theorem d_X10_heardByAll_18 : decode cX10_heardByAll 18 = .ok (.if_icmp .ge 29, 3) := by decide +kernel
theorem d_X10_heardByAll_21 : decode cX10_heardByAll 21 = .ok (.iload_n 2, 1) := by decide +kernel
theorem d_X10_heardByAll_22 : decode cX10_heardByAll 22 = .ok (.iload 4, 2) := by decide +kernel
theorem d_X10_heardByAll_24 : decode cX10_heardByAll 24 = .ok (.ishr, 1) := by decide +kernel
theorem d_X10_heardByAll_25 : decode cX10_heardByAll 25 = .ok (.iconst 1, 1) := by decide +kernel
theorem d_X10_heardByAll_26 : decode cX10_heardByAll 26 = .ok (.iand, 1) := by decide +kernel
theorem d_X10_heardByAll_27 : decode cX10_heardByAll 27 = .ok (.iconst 1, 1) := by decide +kernel
theorem d_X10_heardByAll_28 : decode cX10_heardByAll 28 = .ok (.if_icmp .ne 13, 3) := by decide +kernel
theorem d_X10_heardByAll_31 : decode cX10_heardByAll 31 = .ok (.iload_n 3, 1) := by decide +kernel
theorem d_X10_heardByAll_32 : decode cX10_heardByAll 32 = .ok (.aload_n 0, 1) := by decide +kernel
theorem d_X10_heardByAll_33 : decode cX10_heardByAll 33 = .ok (.aload_n 1, 1) := by decide +kernel
theorem d_X10_heardByAll_34 : decode cX10_heardByAll 34 = .ok (.iload 4, 2) := by decide +kernel
theorem d_X10_heardByAll_36 : decode cX10_heardByAll 36 = .ok (.invokevirtual 98, 3) := by decide +kernel
theorem d_X10_heardByAll_39 : decode cX10_heardByAll 39 = .ok (.iand, 1) := by decide +kernel
theorem d_X10_heardByAll_40 : decode cX10_heardByAll 40 = .ok (.istore_n 3, 1) := by decide +kernel
theorem d_X10_heardByAll_41 : decode cX10_heardByAll 41 = .ok (.iinc 4 1, 3) := by decide +kernel
theorem d_X10_heardByAll_44 : decode cX10_heardByAll 44 = .ok (.goto (-32), 3) := by decide +kernel
theorem d_X10_heardByAll_47 : decode cX10_heardByAll 47 = .ok (.iload_n 3, 1) := by decide +kernel
theorem d_X10_heardByAll_48 : decode cX10_heardByAll 48 = .ok (.ireturn, 1) := by decide +kernel
def F_X10_heardByAll_b12 : Nat → Nat → Nat → Int32 → Int32 → Int32 → xH → Option (Int32 × xH)
  | 0, _, _, _, _, _, _ => none
  | n + 1, x0, x1, x2, x3, x4, h => (fI h x0 9 4).bind fun v15 => if v15 ≤ x4 then some (x3, h) else if ¬ ((x2 >>> (x4 &&& 31)) &&& 1) = ((1 : Int32)) then F_X10_heardByAll_b12 n x0 x1 x2 x3 (x4 + 1) h else (rc h x0 9).bind fun _ => (F_X10_heardBy x0 x1 x4 h).bind fun z36 => F_X10_heardByAll_b12 n x0 x1 x2 (x3 &&& z36.1) (x4 + 1) z36.2
theorem R_X10_heardByAll_b12 {Γ : xG} {l : Launch} {d : Nat} {Q : Option Value → xH → Prop} {r : Int32} {h' : xH} (hdp : 6 ≤ d) (hq : Q (some (.int r)) h') : ∀ (n : Nat) (x0 : Nat) (x1 : Nat) (x2 : Int32) (x3 : Int32) (x4 : Int32) (h : xH), F_X10_heardByAll_b12 n x0 x1 x2 x3 x4 h = some (r, h') → Gd Γ l d m_X10_heardByAll 12 [.ref x0, .ref x1, .int x2, .int x3, .int x4] [] h 0 0 Q := by
  intro n
  induction n with
  | zero => intro x0 x1 x2 x3 x4 h hF; cases hF
  | succ n ih =>
  intro x0 x1 x2 x3 x4 h hF
  rw [F_X10_heardByAll_b12] at hF
  refine g_iload d_X10_heardByAll_12 rfl ?_
  refine g_aloadn d_X10_heardByAll_14 rfl ?_
  obtain ⟨v15, e15, hF⟩ := Option.bind_eq_some_iff.mp hF
  refine q_fI d_X10_heardByAll_15 f_X10_24 e15 ?_
  refine g_icmp_ge 47 d_X10_heardByAll_18 rfl (fun c18 => ?_) (fun c18 => ?_)
  · have hF := x_t hF c18
    refine g_iloadn d_X10_heardByAll_47 rfl ?_
    obtain ⟨rfl, rfl⟩ := x_inj hF
    exact g_iret d_X10_heardByAll_48 rfl hq
  · have hF := x_f hF c18
    refine g_iloadn d_X10_heardByAll_21 rfl ?_
    refine g_iload d_X10_heardByAll_22 rfl ?_
    refine g_ishr d_X10_heardByAll_24 ?_
    refine g_ic (1) d_X10_heardByAll_25 ic_1 ?_
    refine g_iand d_X10_heardByAll_26 ?_
    refine g_ic (1) d_X10_heardByAll_27 ic_1 ?_
    refine g_icmp_ne 41 d_X10_heardByAll_28 rfl (fun c28 => ?_) (fun c28 => ?_)
    · have hF := x_t hF c28
      refine q_iinc (1) [.ref x0, .ref x1, .int x2, .int x3, .int (x4 + 1)] d_X10_heardByAll_41 ic_1 rfl (by decide) rfl ?_
      refine g_goto 12 d_X10_heardByAll_44 rfl ?_
      exact q_to (xs_r (xs_r (xs_r (xs_r (xs_r xs_n))))) (ih _ _ _ _ _ _ hF)
    · have hF := x_f hF (not_not_intro c28)
      refine g_iloadn d_X10_heardByAll_31 rfl ?_
      refine g_aloadn d_X10_heardByAll_32 rfl ?_
      refine g_aloadn d_X10_heardByAll_33 rfl ?_
      refine g_iload d_X10_heardByAll_34 rfl ?_
      obtain ⟨_, g36, hF⟩ := Option.bind_eq_some_iff.mp hF
      obtain ⟨⟨r36, h36⟩, e36, hF⟩ := Option.bind_eq_some_iff.mp hF
      try dsimp only at hF
      refine q_callV [.ref x1, .int x4] [.int x3] rfl d_X10_heardByAll_36 v_X10_98 (by omega) rfl (Nat.le_of_ble_eq_true rfl) (rc_rc g36 (by decide) rfl) (R_X10_heardBy _ _ _ _ (by omega) e36) ?_
      refine g_iand d_X10_heardByAll_39 ?_
      refine q_istoren [.ref x0, .ref x1, .int x2, .int (x3 &&& r36), .int x4] d_X10_heardByAll_40 (by decide) rfl ?_
      refine q_iinc (1) [.ref x0, .ref x1, .int x2, .int (x3 &&& r36), .int (x4 + 1)] d_X10_heardByAll_41 ic_1 rfl (by decide) rfl ?_
      refine g_goto 12 d_X10_heardByAll_44 rfl ?_
      exact q_to (xs_r (xs_r (xs_r (xs_r (xs_r xs_n))))) (ih _ _ _ _ _ _ hF)
def F_X10_heardByAll (x0 : Nat) (x1 : Nat) (x2 : Int32) (h : xH) : Option (Int32 × xH) := (fI h x0 9 0).bind fun v2 => F_X10_heardByAll_b12 FU x0 x1 x2 ((((1 : Int32)) <<< (v2 &&& 31)) - 1) 0 h
theorem R_X10_heardByAll {Γ : xG} {l : Launch} {d : Nat} {r : Int32} {h' : xH} (x0 : Nat) (x1 : Nat) (x2 : Int32) (h : xH) (hdp : 6 ≤ d) (hF : F_X10_heardByAll x0 x1 x2 h = some (r, h')) : Gm Γ l d 0 0 m_X10_heardByAll [.ref x0, .ref x1, .int x2] h (fun a u => a = some (.int r) ∧ u = h') := by
  refine Gm.of pn_X10 (Nat.le_of_ble_eq_true rfl) ?_
  show Gd Γ l d m_X10_heardByAll 0 [.ref x0, .ref x1, .int x2, xhole, xhole] [] h 0 0 _
  generalize hQ : (fun (a : Option Value) (u : xH) => a = some (.int r) ∧ u = h') = Q
  have hq : Q (some (.int r)) h' := by rw [← hQ]; exact ⟨rfl, rfl⟩
  clear hQ
  unfold F_X10_heardByAll at hF
  refine g_ic (1) d_X10_heardByAll_0 ic_1 ?_
  refine g_aloadn d_X10_heardByAll_1 rfl ?_
  obtain ⟨v2, e2, hF⟩ := Option.bind_eq_some_iff.mp hF
  refine q_fI d_X10_heardByAll_2 f_X10_9 e2 ?_
  refine g_ishl d_X10_heardByAll_5 ?_
  refine g_ic (1) d_X10_heardByAll_6 ic_1 ?_
  refine g_isub d_X10_heardByAll_7 ?_
  refine q_istoren [.ref x0, .ref x1, .int x2, .int ((((1 : Int32)) <<< (v2 &&& 31)) - 1), xhole] d_X10_heardByAll_8 (by decide) rfl ?_
  refine g_ic (0) d_X10_heardByAll_9 ic_0 ?_
  refine q_istore [.ref x0, .ref x1, .int x2, .int ((((1 : Int32)) <<< (v2 &&& 31)) - 1), .int 0] d_X10_heardByAll_10 (by decide) rfl ?_
  exact q_to (xs_r (xs_r (xs_r (xs_r (xs_r xs_n))))) (R_X10_heardByAll_b12 hdp hq FU _ _ _ _ _ _ hF)
theorem d_X11_feed_0 : decode cX11_feed 0 = .ok (.aload_n 0, 1) := by decide +kernel
theorem d_X11_feed_1 : decode cX11_feed 1 = .ok (.getfield 10, 3) := by decide +kernel
theorem d_X11_feed_4 : decode cX11_feed 4 = .ok (.getfield 86, 3) := by decide +kernel
theorem d_X11_feed_7 : decode cX11_feed 7 = .ok (.bipush 20, 2) := by decide +kernel
theorem d_X11_feed_9 : decode cX11_feed 9 = .ok (.iadd, 1) := by decide +kernel
theorem d_X11_feed_10 : decode cX11_feed 10 = .ok (.sipush 900, 3) := by decide +kernel
theorem d_X11_feed_13 : decode cX11_feed 13 = .ok (.if_icmp .le 6, 3) := by decide +kernel
theorem d_X11_feed_16 : decode cX11_feed 16 = .ok (.bipush (-5), 2) := by decide +kernel
theorem d_X11_feed_18 : decode cX11_feed 18 = .ok (.ireturn, 1) := by decide +kernel
theorem d_X11_feed_19 : decode cX11_feed 19 = .ok (.aload_n 0, 1) := by decide +kernel
theorem d_X11_feed_20 : decode cX11_feed 20 = .ok (.getfield 10, 3) := by decide +kernel
theorem d_X11_feed_23 : decode cX11_feed 23 = .ok (.iload_n 1, 1) := by decide +kernel
theorem d_X11_feed_24 : decode cX11_feed 24 = .ok (.invokevirtual 90, 3) := by decide +kernel
theorem d_X11_feed_27 : decode cX11_feed 27 = .ok (.aload_n 0, 1) := by decide +kernel
theorem d_X11_feed_28 : decode cX11_feed 28 = .ok (.getfield 10, 3) := by decide +kernel
theorem d_X11_feed_31 : decode cX11_feed 31 = .ok (.iload_n 2, 1) := by decide +kernel
theorem d_X11_feed_32 : decode cX11_feed 32 = .ok (.invokevirtual 90, 3) := by decide +kernel
theorem d_X11_feed_35 : decode cX11_feed 35 = .ok (.aload_n 0, 1) := by decide +kernel
theorem d_X11_feed_36 : decode cX11_feed 36 = .ok (.getfield 10, 3) := by decide +kernel
theorem d_X11_feed_39 : decode cX11_feed 39 = .ok (.iload_n 3, 1) := by decide +kernel
theorem d_X11_feed_40 : decode cX11_feed 40 = .ok (.invokevirtual 90, 3) := by decide +kernel
theorem d_X11_feed_43 : decode cX11_feed 43 = .ok (.aload_n 0, 1) := by decide +kernel
theorem d_X11_feed_44 : decode cX11_feed 44 = .ok (.getfield 10, 3) := by decide +kernel
theorem d_X11_feed_47 : decode cX11_feed 47 = .ok (.iload 4, 2) := by decide +kernel
theorem d_X11_feed_49 : decode cX11_feed 49 = .ok (.invokevirtual 90, 3) := by decide +kernel
theorem d_X11_feed_52 : decode cX11_feed 52 = .ok (.aload_n 0, 1) := by decide +kernel
theorem d_X11_feed_53 : decode cX11_feed 53 = .ok (.getfield 10, 3) := by decide +kernel
theorem d_X11_feed_56 : decode cX11_feed 56 = .ok (.iload 5, 2) := by decide +kernel
theorem d_X11_feed_58 : decode cX11_feed 58 = .ok (.invokevirtual 90, 3) := by decide +kernel
theorem d_X11_feed_61 : decode cX11_feed 61 = .ok (.aload_n 0, 1) := by decide +kernel
theorem d_X11_feed_62 : decode cX11_feed 62 = .ok (.getfield 10, 3) := by decide +kernel
theorem d_X11_feed_65 : decode cX11_feed 65 = .ok (.getfield 86, 3) := by decide +kernel
theorem d_X11_feed_68 : decode cX11_feed 68 = .ok (.ireturn, 1) := by decide +kernel
def F_X11_feed (x0 : Nat) (x1 : Int32) (x2 : Int32) (x3 : Int32) (x4 : Int32) (x5 : Int32) (h : xH) : Option (Int32 × xH) := (fR h x0 10 0).bind fun v1 => (fI h v1 3 1).bind fun v4 => if (v4 + 20) ≤ ((900 : Int32)) then (fR h x0 10 0).bind fun v20 => (rc h v20 3).bind fun _ => (F_X4_addBytes v20 x1 h).bind fun z24 => (fR z24.2 x0 10 0).bind fun v28 => (rc z24.2 v28 3).bind fun _ => (F_X4_addBytes v28 x2 z24.2).bind fun z32 => (fR z32.2 x0 10 0).bind fun v36 => (rc z32.2 v36 3).bind fun _ => (F_X4_addBytes v36 x3 z32.2).bind fun z40 => (fR z40.2 x0 10 0).bind fun v44 => (rc z40.2 v44 3).bind fun _ => (F_X4_addBytes v44 x4 z40.2).bind fun z49 => (fR z49.2 x0 10 0).bind fun v53 => (rc z49.2 v53 3).bind fun _ => (F_X4_addBytes v53 x5 z49.2).bind fun z58 => (fR z58.2 x0 10 0).bind fun v62 => (fI z58.2 v62 3 1).bind fun v65 => some (v65, z58.2) else some ((-5), h)
theorem R_X11_feed {Γ : xG} {l : Launch} {d : Nat} {r : Int32} {h' : xH} (x0 : Nat) (x1 : Int32) (x2 : Int32) (x3 : Int32) (x4 : Int32) (x5 : Int32) (h : xH) (hdp : 1 ≤ d) (hF : F_X11_feed x0 x1 x2 x3 x4 x5 h = some (r, h')) : Gm Γ l d 0 0 m_X11_feed [.ref x0, .int x1, .int x2, .int x3, .int x4, .int x5] h (fun a u => a = some (.int r) ∧ u = h') := by
  refine Gm.of pn_X11 (Nat.le_of_ble_eq_true rfl) ?_
  show Gd Γ l d m_X11_feed 0 [.ref x0, .int x1, .int x2, .int x3, .int x4, .int x5] [] h 0 0 _
  generalize hQ : (fun (a : Option Value) (u : xH) => a = some (.int r) ∧ u = h') = Q
  have hq : Q (some (.int r)) h' := by rw [← hQ]; exact ⟨rfl, rfl⟩
  clear hQ
  unfold F_X11_feed at hF
  refine g_aloadn d_X11_feed_0 rfl ?_
  obtain ⟨v1, e1, hF⟩ := Option.bind_eq_some_iff.mp hF
  refine q_fR d_X11_feed_1 f_X11_10 e1 ?_
  obtain ⟨v4, e4, hF⟩ := Option.bind_eq_some_iff.mp hF
  refine q_fI d_X11_feed_4 f_X11_86 e4 ?_
  refine g_bi (20) d_X11_feed_7 bi_20 ?_
  refine g_iadd d_X11_feed_9 ?_
  refine g_si (900) d_X11_feed_10 si_900 ?_
  refine g_icmp_le 19 d_X11_feed_13 rfl (fun c13 => ?_) (fun c13 => ?_)
  · have hF := x_t hF c13
    refine g_aloadn d_X11_feed_19 rfl ?_
    obtain ⟨v20, e20, hF⟩ := Option.bind_eq_some_iff.mp hF
    refine q_fR d_X11_feed_20 f_X11_10 e20 ?_
    refine g_iloadn d_X11_feed_23 rfl ?_
    obtain ⟨_, g24, hF⟩ := Option.bind_eq_some_iff.mp hF
    obtain ⟨⟨r24, h24⟩, e24, hF⟩ := Option.bind_eq_some_iff.mp hF
    try dsimp only at hF
    refine q_callV [.int x1] [] rfl d_X11_feed_24 v_X11_90 (by omega) rfl (Nat.le_of_ble_eq_true rfl) (rc_rc g24 (by decide) rfl) (R_X4_addBytes _ _ _ (by omega) e24) ?_
    refine g_aloadn d_X11_feed_27 rfl ?_
    obtain ⟨v28, e28, hF⟩ := Option.bind_eq_some_iff.mp hF
    refine q_fR d_X11_feed_28 f_X11_10 e28 ?_
    refine g_iloadn d_X11_feed_31 rfl ?_
    obtain ⟨_, g32, hF⟩ := Option.bind_eq_some_iff.mp hF
    obtain ⟨⟨r32, h32⟩, e32, hF⟩ := Option.bind_eq_some_iff.mp hF
    try dsimp only at hF
    refine q_callV [.int x2] [] rfl d_X11_feed_32 v_X11_90 (by omega) rfl (Nat.le_of_ble_eq_true rfl) (rc_rc g32 (by decide) rfl) (R_X4_addBytes _ _ _ (by omega) e32) ?_
    refine g_aloadn d_X11_feed_35 rfl ?_
    obtain ⟨v36, e36, hF⟩ := Option.bind_eq_some_iff.mp hF
    refine q_fR d_X11_feed_36 f_X11_10 e36 ?_
    refine g_iloadn d_X11_feed_39 rfl ?_
    obtain ⟨_, g40, hF⟩ := Option.bind_eq_some_iff.mp hF
    obtain ⟨⟨r40, h40⟩, e40, hF⟩ := Option.bind_eq_some_iff.mp hF
    try dsimp only at hF
    refine q_callV [.int x3] [] rfl d_X11_feed_40 v_X11_90 (by omega) rfl (Nat.le_of_ble_eq_true rfl) (rc_rc g40 (by decide) rfl) (R_X4_addBytes _ _ _ (by omega) e40) ?_
    refine g_aloadn d_X11_feed_43 rfl ?_
    obtain ⟨v44, e44, hF⟩ := Option.bind_eq_some_iff.mp hF
    refine q_fR d_X11_feed_44 f_X11_10 e44 ?_
    refine g_iload d_X11_feed_47 rfl ?_
    obtain ⟨_, g49, hF⟩ := Option.bind_eq_some_iff.mp hF
    obtain ⟨⟨r49, h49⟩, e49, hF⟩ := Option.bind_eq_some_iff.mp hF
    try dsimp only at hF
    refine q_callV [.int x4] [] rfl d_X11_feed_49 v_X11_90 (by omega) rfl (Nat.le_of_ble_eq_true rfl) (rc_rc g49 (by decide) rfl) (R_X4_addBytes _ _ _ (by omega) e49) ?_
    refine g_aloadn d_X11_feed_52 rfl ?_
    obtain ⟨v53, e53, hF⟩ := Option.bind_eq_some_iff.mp hF
    refine q_fR d_X11_feed_53 f_X11_10 e53 ?_
    refine g_iload d_X11_feed_56 rfl ?_
    obtain ⟨_, g58, hF⟩ := Option.bind_eq_some_iff.mp hF
    obtain ⟨⟨r58, h58⟩, e58, hF⟩ := Option.bind_eq_some_iff.mp hF
    try dsimp only at hF
    refine q_callV [.int x5] [] rfl d_X11_feed_58 v_X11_90 (by omega) rfl (Nat.le_of_ble_eq_true rfl) (rc_rc g58 (by decide) rfl) (R_X4_addBytes _ _ _ (by omega) e58) ?_
    refine g_aloadn d_X11_feed_61 rfl ?_
    obtain ⟨v62, e62, hF⟩ := Option.bind_eq_some_iff.mp hF
    refine q_fR d_X11_feed_62 f_X11_10 e62 ?_
    obtain ⟨v65, e65, hF⟩ := Option.bind_eq_some_iff.mp hF
    refine q_fI d_X11_feed_65 f_X11_86 e65 ?_
    obtain ⟨rfl, rfl⟩ := x_inj hF
    exact g_iret d_X11_feed_68 rfl hq
  · have hF := x_f hF c13
    refine g_bi (-5) d_X11_feed_16 bi_m5 ?_
    obtain ⟨rfl, rfl⟩ := x_inj hF
    exact g_iret d_X11_feed_18 rfl hq
theorem d_X11_fault_0 : decode cX11_fault 0 = .ok (.iload_n 1, 1) := by decide +kernel
theorem d_X11_fault_1 : decode cX11_fault 1 = .ok (.ifCond .ne 11, 3) := by decide +kernel
theorem d_X11_fault_4 : decode cX11_fault 4 = .ok (.aload_n 0, 1) := by decide +kernel
theorem d_X11_fault_5 : decode cX11_fault 5 = .ok (.getfield 10, 3) := by decide +kernel
theorem d_X11_fault_8 : decode cX11_fault 8 = .ok (.getfield 98, 3) := by decide +kernel
theorem d_X11_fault_11 : decode cX11_fault 11 = .ok (.ireturn, 1) := by decide +kernel
theorem d_X11_fault_12 : decode cX11_fault 12 = .ok (.iload_n 1, 1) := by decide +kernel
theorem d_X11_fault_13 : decode cX11_fault 13 = .ok (.iconst 1, 1) := by decide +kernel
theorem d_X11_fault_14 : decode cX11_fault 14 = .ok (.if_icmp .ne 13, 3) := by decide +kernel
theorem d_X11_fault_17 : decode cX11_fault 17 = .ok (.aload_n 0, 1) := by decide +kernel
theorem d_X11_fault_18 : decode cX11_fault 18 = .ok (.getfield 10, 3) := by decide +kernel
theorem d_X11_fault_21 : decode cX11_fault 21 = .ok (.getfield 114, 3) := by decide +kernel
theorem d_X11_fault_24 : decode cX11_fault 24 = .ok (.goto 4, 3) := by decide +kernel
theorem d_X11_fault_27 : decode cX11_fault 27 = .ok (.iconst (-1), 1) := by decide +kernel
theorem d_X11_fault_28 : decode cX11_fault 28 = .ok (.ireturn, 1) := by decide +kernel
def F_X11_fault (x0 : Nat) (x1 : Int32) (h : xH) : Option (Int32 × xH) := if ¬ x1 = 0 then if ¬ x1 = ((1 : Int32)) then some ((-1), h) else (fR h x0 10 0).bind fun v18 => (fI h v18 3 12).bind fun v21 => some (v21, h) else (fR h x0 10 0).bind fun v5 => (fI h v5 3 11).bind fun v8 => some (v8, h)
theorem R_X11_fault {Γ : xG} {l : Launch} {d : Nat} {r : Int32} {h' : xH} (x0 : Nat) (x1 : Int32) (h : xH) (hdp : 0 ≤ d) (hF : F_X11_fault x0 x1 h = some (r, h')) : Gm Γ l d 0 0 m_X11_fault [.ref x0, .int x1] h (fun a u => a = some (.int r) ∧ u = h') := by
  refine Gm.of pn_X11 (Nat.le_of_ble_eq_true rfl) ?_
  show Gd Γ l d m_X11_fault 0 [.ref x0, .int x1] [] h 0 0 _
  generalize hQ : (fun (a : Option Value) (u : xH) => a = some (.int r) ∧ u = h') = Q
  have hq : Q (some (.int r)) h' := by rw [← hQ]; exact ⟨rfl, rfl⟩
  clear hQ
  unfold F_X11_fault at hF
  refine g_iloadn d_X11_fault_0 rfl ?_
  refine g_if_ne 12 d_X11_fault_1 rfl (fun c1 => ?_) (fun c1 => ?_)
  · have hF := x_t hF c1
    refine g_iloadn d_X11_fault_12 rfl ?_
    refine g_ic (1) d_X11_fault_13 ic_1 ?_
    refine g_icmp_ne 27 d_X11_fault_14 rfl (fun c14 => ?_) (fun c14 => ?_)
    · have hF := x_t hF c14
      refine g_ic (-1) d_X11_fault_27 ic_m1 ?_
      obtain ⟨rfl, rfl⟩ := x_inj hF
      exact g_iret d_X11_fault_28 rfl hq
    · have hF := x_f hF (not_not_intro c14)
      refine g_aloadn d_X11_fault_17 rfl ?_
      obtain ⟨v18, e18, hF⟩ := Option.bind_eq_some_iff.mp hF
      refine q_fR d_X11_fault_18 f_X11_10 e18 ?_
      obtain ⟨v21, e21, hF⟩ := Option.bind_eq_some_iff.mp hF
      refine q_fI d_X11_fault_21 f_X11_114 e21 ?_
      refine g_goto 28 d_X11_fault_24 rfl ?_
      obtain ⟨rfl, rfl⟩ := x_inj hF
      exact g_iret d_X11_fault_28 rfl hq
  · have hF := x_f hF (not_not_intro c1)
    refine g_aloadn d_X11_fault_4 rfl ?_
    obtain ⟨v5, e5, hF⟩ := Option.bind_eq_some_iff.mp hF
    refine q_fR d_X11_fault_5 f_X11_10 e5 ?_
    obtain ⟨v8, e8, hF⟩ := Option.bind_eq_some_iff.mp hF
    refine q_fI d_X11_fault_8 f_X11_98 e8 ?_
    obtain ⟨rfl, rfl⟩ := x_inj hF
    exact g_iret d_X11_fault_11 rfl hq
theorem d_X11_person_0 : decode cX11_person 0 = .ok (.aload_n 0, 1) := by decide +kernel
theorem d_X11_person_1 : decode cX11_person 1 = .ok (.getfield 19, 3) := by decide +kernel
theorem d_X11_person_4 : decode cX11_person 4 = .ok (.iload_n 1, 1) := by decide +kernel
theorem d_X11_person_5 : decode cX11_person 5 = .ok (.invokevirtual 117, 3) := by decide +kernel
theorem d_X11_person_8 : decode cX11_person 8 = .ok (.ifCond .ne 6, 3) := by decide +kernel
theorem d_X11_person_11 : decode cX11_person 11 = .ok (.bipush (-2), 2) := by decide +kernel
theorem d_X11_person_13 : decode cX11_person 13 = .ok (.ireturn, 1) := by decide +kernel
theorem d_X11_person_14 : decode cX11_person 14 = .ok (.iload_n 2, 1) := by decide +kernel
theorem d_X11_person_15 : decode cX11_person 15 = .ok (.tableswitch 88 0 4 #[33, 43, 53, 63, 75], 33) := by decide +kernel
theorem d_X11_person_48 : decode cX11_person 48 = .ok (.aload_n 0, 1) := by decide +kernel
theorem d_X11_person_49 : decode cX11_person 49 = .ok (.getfield 26, 3) := by decide +kernel
theorem d_X11_person_52 : decode cX11_person 52 = .ok (.getfield 121, 3) := by decide +kernel
theorem d_X11_person_55 : decode cX11_person 55 = .ok (.iload_n 1, 1) := by decide +kernel
theorem d_X11_person_56 : decode cX11_person 56 = .ok (.iaload, 1) := by decide +kernel
theorem d_X11_person_57 : decode cX11_person 57 = .ok (.ireturn, 1) := by decide +kernel
theorem d_X11_person_58 : decode cX11_person 58 = .ok (.aload_n 0, 1) := by decide +kernel
theorem d_X11_person_59 : decode cX11_person 59 = .ok (.getfield 26, 3) := by decide +kernel
theorem d_X11_person_62 : decode cX11_person 62 = .ok (.getfield 125, 3) := by decide +kernel
theorem d_X11_person_65 : decode cX11_person 65 = .ok (.iload_n 1, 1) := by decide +kernel
theorem d_X11_person_66 : decode cX11_person 66 = .ok (.iaload, 1) := by decide +kernel
theorem d_X11_person_67 : decode cX11_person 67 = .ok (.ireturn, 1) := by decide +kernel
theorem d_X11_person_68 : decode cX11_person 68 = .ok (.aload_n 0, 1) := by decide +kernel
theorem d_X11_person_69 : decode cX11_person 69 = .ok (.getfield 26, 3) := by decide +kernel
theorem d_X11_person_72 : decode cX11_person 72 = .ok (.getfield 128, 3) := by decide +kernel
theorem d_X11_person_75 : decode cX11_person 75 = .ok (.iload_n 1, 1) := by decide +kernel
theorem d_X11_person_76 : decode cX11_person 76 = .ok (.iaload, 1) := by decide +kernel
theorem d_X11_person_77 : decode cX11_person 77 = .ok (.ireturn, 1) := by decide +kernel
theorem d_X11_person_78 : decode cX11_person 78 = .ok (.aload_n 0, 1) := by decide +kernel
theorem d_X11_person_79 : decode cX11_person 79 = .ok (.getfield 26, 3) := by decide +kernel
theorem d_X11_person_82 : decode cX11_person 82 = .ok (.getfield 131, 3) := by decide +kernel
theorem d_X11_person_85 : decode cX11_person 85 = .ok (.iload_n 1, 1) := by decide +kernel
theorem d_X11_person_86 : decode cX11_person 86 = .ok (.ishr, 1) := by decide +kernel
theorem d_X11_person_87 : decode cX11_person 87 = .ok (.iconst 1, 1) := by decide +kernel
theorem d_X11_person_88 : decode cX11_person 88 = .ok (.iand, 1) := by decide +kernel
theorem d_X11_person_89 : decode cX11_person 89 = .ok (.ireturn, 1) := by decide +kernel
theorem d_X11_person_90 : decode cX11_person 90 = .ok (.aload_n 0, 1) := by decide +kernel
theorem d_X11_person_91 : decode cX11_person 91 = .ok (.getfield 19, 3) := by decide +kernel
theorem d_X11_person_94 : decode cX11_person 94 = .ok (.aload_n 0, 1) := by decide +kernel
theorem d_X11_person_95 : decode cX11_person 95 = .ok (.getfield 26, 3) := by decide +kernel
theorem d_X11_person_98 : decode cX11_person 98 = .ok (.iload_n 1, 1) := by decide +kernel
theorem d_X11_person_99 : decode cX11_person 99 = .ok (.invokevirtual 134, 3) := by decide +kernel
theorem d_X11_person_102 : decode cX11_person 102 = .ok (.ireturn, 1) := by decide +kernel
theorem d_X11_person_103 : decode cX11_person 103 = .ok (.bipush (-2), 2) := by decide +kernel
theorem d_X11_person_105 : decode cX11_person 105 = .ok (.ireturn, 1) := by decide +kernel
def F_X11_person (x0 : Nat) (x1 : Int32) (x2 : Int32) (h : xH) : Option (Int32 × xH) := (fR h x0 10 1).bind fun v1 => (rc h v1 9).bind fun _ => (F_X10_hasPerson v1 x1 h).bind fun z5 => if ¬ z5.1 = 0 then if x2 = 0 then (fR z5.2 x0 10 2).bind fun v49 => (fR z5.2 v49 5 0).bind fun v52 => (aI z5.2 v52 x1).bind fun v56 => some (v56, z5.2) else if x2 = 1 then (fR z5.2 x0 10 2).bind fun v59 => (fR z5.2 v59 5 2).bind fun v62 => (aI z5.2 v62 x1).bind fun v66 => some (v66, z5.2) else if x2 = 2 then (fR z5.2 x0 10 2).bind fun v69 => (fR z5.2 v69 5 1).bind fun v72 => (aI z5.2 v72 x1).bind fun v76 => some (v76, z5.2) else if x2 = 3 then (fR z5.2 x0 10 2).bind fun v79 => (fI z5.2 v79 5 3).bind fun v82 => some ((v82 >>> (x1 &&& 31)) &&& 1, z5.2) else if x2 = 4 then (fR z5.2 x0 10 1).bind fun v91 => (fR z5.2 x0 10 2).bind fun v95 => (rc z5.2 v91 9).bind fun _ => (F_X10_heardBy v91 v95 x1 z5.2).bind fun z99 => some (z99.1, z99.2) else some ((-2), z5.2) else some ((-2), z5.2)
theorem R_X11_person {Γ : xG} {l : Launch} {d : Nat} {r : Int32} {h' : xH} (x0 : Nat) (x1 : Int32) (x2 : Int32) (h : xH) (hdp : 6 ≤ d) (hF : F_X11_person x0 x1 x2 h = some (r, h')) : Gm Γ l d 0 0 m_X11_person [.ref x0, .int x1, .int x2] h (fun a u => a = some (.int r) ∧ u = h') := by
  refine Gm.of pn_X11 (Nat.le_of_ble_eq_true rfl) ?_
  show Gd Γ l d m_X11_person 0 [.ref x0, .int x1, .int x2] [] h 0 0 _
  generalize hQ : (fun (a : Option Value) (u : xH) => a = some (.int r) ∧ u = h') = Q
  have hq : Q (some (.int r)) h' := by rw [← hQ]; exact ⟨rfl, rfl⟩
  clear hQ
  unfold F_X11_person at hF
  refine g_aloadn d_X11_person_0 rfl ?_
  obtain ⟨v1, e1, hF⟩ := Option.bind_eq_some_iff.mp hF
  refine q_fR d_X11_person_1 f_X11_19 e1 ?_
  refine g_iloadn d_X11_person_4 rfl ?_
  obtain ⟨_, g5, hF⟩ := Option.bind_eq_some_iff.mp hF
  obtain ⟨⟨r5, h5⟩, e5, hF⟩ := Option.bind_eq_some_iff.mp hF
  try dsimp only at hF
  refine q_callV [.int x1] [] rfl d_X11_person_5 v_X11_117 (by omega) rfl (Nat.le_of_ble_eq_true rfl) (rc_rc g5 (by decide) rfl) (R_X10_hasPerson _ _ _ (by omega) e5) ?_
  refine g_if_ne 14 d_X11_person_8 rfl (fun c8 => ?_) (fun c8 => ?_)
  · have hF := x_t hF c8
    refine g_iloadn d_X11_person_14 rfl ?_
    rcases Classical.em (x2 = 0) with c15_0 | c15_0
    · have hF := x_t hF c15_0
      refine q_tabIn 48 d_X11_person_15 c15_0 (by decide) (by decide) rfl rfl ?_
      refine g_aloadn d_X11_person_48 rfl ?_
      obtain ⟨v49, e49, hF⟩ := Option.bind_eq_some_iff.mp hF
      refine q_fR d_X11_person_49 f_X11_26 e49 ?_
      obtain ⟨v52, e52, hF⟩ := Option.bind_eq_some_iff.mp hF
      refine q_fR d_X11_person_52 f_X11_121 e52 ?_
      refine g_iloadn d_X11_person_55 rfl ?_
      obtain ⟨v56, e56, hF⟩ := Option.bind_eq_some_iff.mp hF
      refine q_aI d_X11_person_56 e56 ?_
      obtain ⟨rfl, rfl⟩ := x_inj hF
      exact g_iret d_X11_person_57 rfl hq
    have hF := x_f hF c15_0
    rcases Classical.em (x2 = 1) with c15_1 | c15_1
    · have hF := x_t hF c15_1
      refine q_tabIn 58 d_X11_person_15 c15_1 (by decide) (by decide) rfl rfl ?_
      refine g_aloadn d_X11_person_58 rfl ?_
      obtain ⟨v59, e59, hF⟩ := Option.bind_eq_some_iff.mp hF
      refine q_fR d_X11_person_59 f_X11_26 e59 ?_
      obtain ⟨v62, e62, hF⟩ := Option.bind_eq_some_iff.mp hF
      refine q_fR d_X11_person_62 f_X11_125 e62 ?_
      refine g_iloadn d_X11_person_65 rfl ?_
      obtain ⟨v66, e66, hF⟩ := Option.bind_eq_some_iff.mp hF
      refine q_aI d_X11_person_66 e66 ?_
      obtain ⟨rfl, rfl⟩ := x_inj hF
      exact g_iret d_X11_person_67 rfl hq
    have hF := x_f hF c15_1
    rcases Classical.em (x2 = 2) with c15_2 | c15_2
    · have hF := x_t hF c15_2
      refine q_tabIn 68 d_X11_person_15 c15_2 (by decide) (by decide) rfl rfl ?_
      refine g_aloadn d_X11_person_68 rfl ?_
      obtain ⟨v69, e69, hF⟩ := Option.bind_eq_some_iff.mp hF
      refine q_fR d_X11_person_69 f_X11_26 e69 ?_
      obtain ⟨v72, e72, hF⟩ := Option.bind_eq_some_iff.mp hF
      refine q_fR d_X11_person_72 f_X11_128 e72 ?_
      refine g_iloadn d_X11_person_75 rfl ?_
      obtain ⟨v76, e76, hF⟩ := Option.bind_eq_some_iff.mp hF
      refine q_aI d_X11_person_76 e76 ?_
      obtain ⟨rfl, rfl⟩ := x_inj hF
      exact g_iret d_X11_person_77 rfl hq
    have hF := x_f hF c15_2
    rcases Classical.em (x2 = 3) with c15_3 | c15_3
    · have hF := x_t hF c15_3
      refine q_tabIn 78 d_X11_person_15 c15_3 (by decide) (by decide) rfl rfl ?_
      refine g_aloadn d_X11_person_78 rfl ?_
      obtain ⟨v79, e79, hF⟩ := Option.bind_eq_some_iff.mp hF
      refine q_fR d_X11_person_79 f_X11_26 e79 ?_
      obtain ⟨v82, e82, hF⟩ := Option.bind_eq_some_iff.mp hF
      refine q_fI d_X11_person_82 f_X11_131 e82 ?_
      refine g_iloadn d_X11_person_85 rfl ?_
      refine g_ishr d_X11_person_86 ?_
      refine g_ic (1) d_X11_person_87 ic_1 ?_
      refine g_iand d_X11_person_88 ?_
      obtain ⟨rfl, rfl⟩ := x_inj hF
      exact g_iret d_X11_person_89 rfl hq
    have hF := x_f hF c15_3
    rcases Classical.em (x2 = 4) with c15_4 | c15_4
    · have hF := x_t hF c15_4
      refine q_tabIn 90 d_X11_person_15 c15_4 (by decide) (by decide) rfl rfl ?_
      refine g_aloadn d_X11_person_90 rfl ?_
      obtain ⟨v91, e91, hF⟩ := Option.bind_eq_some_iff.mp hF
      refine q_fR d_X11_person_91 f_X11_19 e91 ?_
      refine g_aloadn d_X11_person_94 rfl ?_
      obtain ⟨v95, e95, hF⟩ := Option.bind_eq_some_iff.mp hF
      refine q_fR d_X11_person_95 f_X11_26 e95 ?_
      refine g_iloadn d_X11_person_98 rfl ?_
      obtain ⟨_, g99, hF⟩ := Option.bind_eq_some_iff.mp hF
      obtain ⟨⟨r99, h99⟩, e99, hF⟩ := Option.bind_eq_some_iff.mp hF
      try dsimp only at hF
      refine q_callV [.ref v95, .int x1] [] rfl d_X11_person_99 v_X11_134 (by omega) rfl (Nat.le_of_ble_eq_true rfl) (rc_rc g99 (by decide) rfl) (R_X10_heardBy _ _ _ _ (by omega) e99) ?_
      obtain ⟨rfl, rfl⟩ := x_inj hF
      exact g_iret d_X11_person_102 rfl hq
    have hF := x_f hF c15_4
    refine g_tabOut 103 d_X11_person_15 (by have a0 := sw_ne c15_0 (k := 0) (by decide); have a1 := sw_ne c15_1 (k := 1) (by decide); have a2 := sw_ne c15_2 (k := 2) (by decide); have a3 := sw_ne c15_3 (k := 3) (by decide); have a4 := sw_ne c15_4 (k := 4) (by decide); omega) rfl ?_
    refine g_bi (-2) d_X11_person_103 bi_m2 ?_
    obtain ⟨rfl, rfl⟩ := x_inj hF
    exact g_iret d_X11_person_105 rfl hq
  · have hF := x_f hF (not_not_intro c8)
    refine g_bi (-2) d_X11_person_11 bi_m2 ?_
    obtain ⟨rfl, rfl⟩ := x_inj hF
    exact g_iret d_X11_person_13 rfl hq
theorem d_X11_sounds_0 : decode cX11_sounds 0 = .ok (.aload_n 0, 1) := by decide +kernel
theorem d_X11_sounds_1 : decode cX11_sounds 1 = .ok (.getfield 19, 3) := by decide +kernel
theorem d_X11_sounds_4 : decode cX11_sounds 4 = .ok (.iload_n 1, 1) := by decide +kernel
theorem d_X11_sounds_5 : decode cX11_sounds 5 = .ok (.invokevirtual 138, 3) := by decide +kernel
theorem d_X11_sounds_8 : decode cX11_sounds 8 = .ok (.ifCond .ne 6, 3) := by decide +kernel
theorem d_X11_sounds_11 : decode cX11_sounds 11 = .ok (.bipush (-2), 2) := by decide +kernel
theorem d_X11_sounds_13 : decode cX11_sounds 13 = .ok (.ireturn, 1) := by decide +kernel
theorem d_X11_sounds_14 : decode cX11_sounds 14 = .ok (.iload_n 2, 1) := by decide +kernel
theorem d_X11_sounds_15 : decode cX11_sounds 15 = .ok (.ifCond .ge 8, 3) := by decide +kernel
theorem d_X11_sounds_18 : decode cX11_sounds 18 = .ok (.bipush (-3), 2) := by decide +kernel
theorem d_X11_sounds_20 : decode cX11_sounds 20 = .ok (.goto 12, 3) := by decide +kernel
theorem d_X11_sounds_23 : decode cX11_sounds 23 = .ok (.aload_n 0, 1) := by decide +kernel
theorem d_X11_sounds_24 : decode cX11_sounds 24 = .ok (.getfield 19, 3) := by decide +kernel
theorem d_X11_sounds_27 : decode cX11_sounds 27 = .ok (.iload_n 1, 1) := by decide +kernel
theorem d_X11_sounds_28 : decode cX11_sounds 28 = .ok (.iload_n 2, 1) := by decide +kernel
theorem d_X11_sounds_29 : decode cX11_sounds 29 = .ok (.invokevirtual 141, 3) := by decide +kernel
theorem d_X11_sounds_32 : decode cX11_sounds 32 = .ok (.ireturn, 1) := by decide +kernel
def F_X11_sounds (x0 : Nat) (x1 : Int32) (x2 : Int32) (h : xH) : Option (Int32 × xH) := (fR h x0 10 1).bind fun v1 => (rc h v1 9).bind fun _ => (F_X10_hasPlace v1 x1 h).bind fun z5 => if ¬ z5.1 = 0 then if 0 ≤ x2 then (fR z5.2 x0 10 1).bind fun v24 => (rc z5.2 v24 9).bind fun _ => (F_X10_soundOn v24 x1 x2 z5.2).bind fun z29 => some (z29.1, z29.2) else some ((-3), z5.2) else some ((-2), z5.2)
theorem R_X11_sounds {Γ : xG} {l : Launch} {d : Nat} {r : Int32} {h' : xH} (x0 : Nat) (x1 : Int32) (x2 : Int32) (h : xH) (hdp : 1 ≤ d) (hF : F_X11_sounds x0 x1 x2 h = some (r, h')) : Gm Γ l d 0 0 m_X11_sounds [.ref x0, .int x1, .int x2] h (fun a u => a = some (.int r) ∧ u = h') := by
  refine Gm.of pn_X11 (Nat.le_of_ble_eq_true rfl) ?_
  show Gd Γ l d m_X11_sounds 0 [.ref x0, .int x1, .int x2] [] h 0 0 _
  generalize hQ : (fun (a : Option Value) (u : xH) => a = some (.int r) ∧ u = h') = Q
  have hq : Q (some (.int r)) h' := by rw [← hQ]; exact ⟨rfl, rfl⟩
  clear hQ
  unfold F_X11_sounds at hF
  refine g_aloadn d_X11_sounds_0 rfl ?_
  obtain ⟨v1, e1, hF⟩ := Option.bind_eq_some_iff.mp hF
  refine q_fR d_X11_sounds_1 f_X11_19 e1 ?_
  refine g_iloadn d_X11_sounds_4 rfl ?_
  obtain ⟨_, g5, hF⟩ := Option.bind_eq_some_iff.mp hF
  obtain ⟨⟨r5, h5⟩, e5, hF⟩ := Option.bind_eq_some_iff.mp hF
  try dsimp only at hF
  refine q_callV [.int x1] [] rfl d_X11_sounds_5 v_X11_138 (by omega) rfl (Nat.le_of_ble_eq_true rfl) (rc_rc g5 (by decide) rfl) (R_X10_hasPlace _ _ _ (by omega) e5) ?_
  refine g_if_ne 14 d_X11_sounds_8 rfl (fun c8 => ?_) (fun c8 => ?_)
  · have hF := x_t hF c8
    refine g_iloadn d_X11_sounds_14 rfl ?_
    refine g_if_ge 23 d_X11_sounds_15 rfl (fun c15 => ?_) (fun c15 => ?_)
    · have hF := x_t hF c15
      refine g_aloadn d_X11_sounds_23 rfl ?_
      obtain ⟨v24, e24, hF⟩ := Option.bind_eq_some_iff.mp hF
      refine q_fR d_X11_sounds_24 f_X11_19 e24 ?_
      refine g_iloadn d_X11_sounds_27 rfl ?_
      refine g_iloadn d_X11_sounds_28 rfl ?_
      obtain ⟨_, g29, hF⟩ := Option.bind_eq_some_iff.mp hF
      obtain ⟨⟨r29, h29⟩, e29, hF⟩ := Option.bind_eq_some_iff.mp hF
      try dsimp only at hF
      refine q_callV [.int x1, .int x2] [] rfl d_X11_sounds_29 v_X11_141 (by omega) rfl (Nat.le_of_ble_eq_true rfl) (rc_rc g29 (by decide) rfl) (R_X10_soundOn _ _ _ _ (by omega) e29) ?_
      obtain ⟨rfl, rfl⟩ := x_inj hF
      exact g_iret d_X11_sounds_32 rfl hq
    · have hF := x_f hF c15
      refine g_bi (-3) d_X11_sounds_18 bi_m3 ?_
      refine g_goto 32 d_X11_sounds_20 rfl ?_
      obtain ⟨rfl, rfl⟩ := x_inj hF
      exact g_iret d_X11_sounds_32 rfl hq
  · have hF := x_f hF (not_not_intro c8)
    refine g_bi (-2) d_X11_sounds_11 bi_m2 ?_
    obtain ⟨rfl, rfl⟩ := x_inj hF
    exact g_iret d_X11_sounds_13 rfl hq
theorem d_X11_place_0 : decode cX11_place 0 = .ok (.aload_n 0, 1) := by decide +kernel
theorem d_X11_place_1 : decode cX11_place 1 = .ok (.getfield 19, 3) := by decide +kernel
theorem d_X11_place_4 : decode cX11_place 4 = .ok (.iload_n 1, 1) := by decide +kernel
theorem d_X11_place_5 : decode cX11_place 5 = .ok (.invokevirtual 138, 3) := by decide +kernel
theorem d_X11_place_8 : decode cX11_place 8 = .ok (.ifCond .ne 6, 3) := by decide +kernel
theorem d_X11_place_11 : decode cX11_place 11 = .ok (.bipush (-2), 2) := by decide +kernel
theorem d_X11_place_13 : decode cX11_place 13 = .ok (.ireturn, 1) := by decide +kernel
theorem d_X11_place_14 : decode cX11_place 14 = .ok (.iload_n 2, 1) := by decide +kernel
theorem d_X11_place_15 : decode cX11_place 15 = .ok (.tableswitch 61 0 2 #[25, 35, 51], 25) := by decide +kernel
theorem d_X11_place_40 : decode cX11_place 40 = .ok (.aload_n 0, 1) := by decide +kernel
theorem d_X11_place_41 : decode cX11_place 41 = .ok (.getfield 19, 3) := by decide +kernel
theorem d_X11_place_44 : decode cX11_place 44 = .ok (.getfield 145, 3) := by decide +kernel
theorem d_X11_place_47 : decode cX11_place 47 = .ok (.iload_n 1, 1) := by decide +kernel
theorem d_X11_place_48 : decode cX11_place 48 = .ok (.iaload, 1) := by decide +kernel
theorem d_X11_place_49 : decode cX11_place 49 = .ok (.ireturn, 1) := by decide +kernel
theorem d_X11_place_50 : decode cX11_place 50 = .ok (.aload_n 0, 1) := by decide +kernel
theorem d_X11_place_51 : decode cX11_place 51 = .ok (.getfield 26, 3) := by decide +kernel
theorem d_X11_place_54 : decode cX11_place 54 = .ok (.iload_n 1, 1) := by decide +kernel
theorem d_X11_place_55 : decode cX11_place 55 = .ok (.aload_n 0, 1) := by decide +kernel
theorem d_X11_place_56 : decode cX11_place 56 = .ok (.getfield 19, 3) := by decide +kernel
theorem d_X11_place_59 : decode cX11_place 59 = .ok (.getfield 148, 3) := by decide +kernel
theorem d_X11_place_62 : decode cX11_place 62 = .ok (.invokevirtual 151, 3) := by decide +kernel
theorem d_X11_place_65 : decode cX11_place 65 = .ok (.ireturn, 1) := by decide +kernel
theorem d_X11_place_66 : decode cX11_place 66 = .ok (.aload_n 0, 1) := by decide +kernel
theorem d_X11_place_67 : decode cX11_place 67 = .ok (.getfield 19, 3) := by decide +kernel
theorem d_X11_place_70 : decode cX11_place 70 = .ok (.getfield 154, 3) := by decide +kernel
theorem d_X11_place_73 : decode cX11_place 73 = .ok (.iload_n 1, 1) := by decide +kernel
theorem d_X11_place_74 : decode cX11_place 74 = .ok (.iaload, 1) := by decide +kernel
theorem d_X11_place_75 : decode cX11_place 75 = .ok (.ireturn, 1) := by decide +kernel
theorem d_X11_place_76 : decode cX11_place 76 = .ok (.bipush (-2), 2) := by decide +kernel
theorem d_X11_place_78 : decode cX11_place 78 = .ok (.ireturn, 1) := by decide +kernel
def F_X11_place (x0 : Nat) (x1 : Int32) (x2 : Int32) (h : xH) : Option (Int32 × xH) := (fR h x0 10 1).bind fun v1 => (rc h v1 9).bind fun _ => (F_X10_hasPlace v1 x1 h).bind fun z5 => if ¬ z5.1 = 0 then if x2 = 0 then (fR z5.2 x0 10 1).bind fun v41 => (fR z5.2 v41 9 9).bind fun v44 => (aI z5.2 v44 x1).bind fun v48 => some (v48, z5.2) else if x2 = 1 then (fR z5.2 x0 10 2).bind fun v51 => (fR z5.2 x0 10 1).bind fun v56 => (fI z5.2 v56 9 4).bind fun v59 => (rc z5.2 v51 5).bind fun _ => (F_X6_peopleAt v51 x1 v59 z5.2).bind fun z62 => some (z62.1, z62.2) else if x2 = 2 then (fR z5.2 x0 10 1).bind fun v67 => (fR z5.2 v67 9 8).bind fun v70 => (aI z5.2 v70 x1).bind fun v74 => some (v74, z5.2) else some ((-2), z5.2) else some ((-2), z5.2)
theorem R_X11_place {Γ : xG} {l : Launch} {d : Nat} {r : Int32} {h' : xH} (x0 : Nat) (x1 : Int32) (x2 : Int32) (h : xH) (hdp : 1 ≤ d) (hF : F_X11_place x0 x1 x2 h = some (r, h')) : Gm Γ l d 0 0 m_X11_place [.ref x0, .int x1, .int x2] h (fun a u => a = some (.int r) ∧ u = h') := by
  refine Gm.of pn_X11 (Nat.le_of_ble_eq_true rfl) ?_
  show Gd Γ l d m_X11_place 0 [.ref x0, .int x1, .int x2] [] h 0 0 _
  generalize hQ : (fun (a : Option Value) (u : xH) => a = some (.int r) ∧ u = h') = Q
  have hq : Q (some (.int r)) h' := by rw [← hQ]; exact ⟨rfl, rfl⟩
  clear hQ
  unfold F_X11_place at hF
  refine g_aloadn d_X11_place_0 rfl ?_
  obtain ⟨v1, e1, hF⟩ := Option.bind_eq_some_iff.mp hF
  refine q_fR d_X11_place_1 f_X11_19 e1 ?_
  refine g_iloadn d_X11_place_4 rfl ?_
  obtain ⟨_, g5, hF⟩ := Option.bind_eq_some_iff.mp hF
  obtain ⟨⟨r5, h5⟩, e5, hF⟩ := Option.bind_eq_some_iff.mp hF
  try dsimp only at hF
  refine q_callV [.int x1] [] rfl d_X11_place_5 v_X11_138 (by omega) rfl (Nat.le_of_ble_eq_true rfl) (rc_rc g5 (by decide) rfl) (R_X10_hasPlace _ _ _ (by omega) e5) ?_
  refine g_if_ne 14 d_X11_place_8 rfl (fun c8 => ?_) (fun c8 => ?_)
  · have hF := x_t hF c8
    refine g_iloadn d_X11_place_14 rfl ?_
    rcases Classical.em (x2 = 0) with c15_0 | c15_0
    · have hF := x_t hF c15_0
      refine q_tabIn 40 d_X11_place_15 c15_0 (by decide) (by decide) rfl rfl ?_
      refine g_aloadn d_X11_place_40 rfl ?_
      obtain ⟨v41, e41, hF⟩ := Option.bind_eq_some_iff.mp hF
      refine q_fR d_X11_place_41 f_X11_19 e41 ?_
      obtain ⟨v44, e44, hF⟩ := Option.bind_eq_some_iff.mp hF
      refine q_fR d_X11_place_44 f_X11_145 e44 ?_
      refine g_iloadn d_X11_place_47 rfl ?_
      obtain ⟨v48, e48, hF⟩ := Option.bind_eq_some_iff.mp hF
      refine q_aI d_X11_place_48 e48 ?_
      obtain ⟨rfl, rfl⟩ := x_inj hF
      exact g_iret d_X11_place_49 rfl hq
    have hF := x_f hF c15_0
    rcases Classical.em (x2 = 1) with c15_1 | c15_1
    · have hF := x_t hF c15_1
      refine q_tabIn 50 d_X11_place_15 c15_1 (by decide) (by decide) rfl rfl ?_
      refine g_aloadn d_X11_place_50 rfl ?_
      obtain ⟨v51, e51, hF⟩ := Option.bind_eq_some_iff.mp hF
      refine q_fR d_X11_place_51 f_X11_26 e51 ?_
      refine g_iloadn d_X11_place_54 rfl ?_
      refine g_aloadn d_X11_place_55 rfl ?_
      obtain ⟨v56, e56, hF⟩ := Option.bind_eq_some_iff.mp hF
      refine q_fR d_X11_place_56 f_X11_19 e56 ?_
      obtain ⟨v59, e59, hF⟩ := Option.bind_eq_some_iff.mp hF
      refine q_fI d_X11_place_59 f_X11_148 e59 ?_
      obtain ⟨_, g62, hF⟩ := Option.bind_eq_some_iff.mp hF
      obtain ⟨⟨r62, h62⟩, e62, hF⟩ := Option.bind_eq_some_iff.mp hF
      try dsimp only at hF
      refine q_callV [.int x1, .int v59] [] rfl d_X11_place_62 v_X11_151 (by omega) rfl (Nat.le_of_ble_eq_true rfl) (rc_rc g62 (by decide) rfl) (R_X6_peopleAt _ _ _ _ (by omega) e62) ?_
      obtain ⟨rfl, rfl⟩ := x_inj hF
      exact g_iret d_X11_place_65 rfl hq
    have hF := x_f hF c15_1
    rcases Classical.em (x2 = 2) with c15_2 | c15_2
    · have hF := x_t hF c15_2
      refine q_tabIn 66 d_X11_place_15 c15_2 (by decide) (by decide) rfl rfl ?_
      refine g_aloadn d_X11_place_66 rfl ?_
      obtain ⟨v67, e67, hF⟩ := Option.bind_eq_some_iff.mp hF
      refine q_fR d_X11_place_67 f_X11_19 e67 ?_
      obtain ⟨v70, e70, hF⟩ := Option.bind_eq_some_iff.mp hF
      refine q_fR d_X11_place_70 f_X11_154 e70 ?_
      refine g_iloadn d_X11_place_73 rfl ?_
      obtain ⟨v74, e74, hF⟩ := Option.bind_eq_some_iff.mp hF
      refine q_aI d_X11_place_74 e74 ?_
      obtain ⟨rfl, rfl⟩ := x_inj hF
      exact g_iret d_X11_place_75 rfl hq
    have hF := x_f hF c15_2
    refine g_tabOut 76 d_X11_place_15 (by have a0 := sw_ne c15_0 (k := 0) (by decide); have a1 := sw_ne c15_1 (k := 1) (by decide); have a2 := sw_ne c15_2 (k := 2) (by decide); omega) rfl ?_
    refine g_bi (-2) d_X11_place_76 bi_m2 ?_
    obtain ⟨rfl, rfl⟩ := x_inj hF
    exact g_iret d_X11_place_78 rfl hq
  · have hF := x_f hF (not_not_intro c8)
    refine g_bi (-2) d_X11_place_11 bi_m2 ?_
    obtain ⟨rfl, rfl⟩ := x_inj hF
    exact g_iret d_X11_place_13 rfl hq
theorem d_X11_note_0 : decode cX11_note 0 = .ok (.aload_n 0, 1) := by decide +kernel
theorem d_X11_note_1 : decode cX11_note 1 = .ok (.getfield 19, 3) := by decide +kernel
theorem d_X11_note_4 : decode cX11_note 4 = .ok (.iload_n 1, 1) := by decide +kernel
theorem d_X11_note_5 : decode cX11_note 5 = .ok (.invokevirtual 157, 3) := by decide +kernel
theorem d_X11_note_8 : decode cX11_note 8 = .ok (.ifCond .ne 6, 3) := by decide +kernel
theorem d_X11_note_11 : decode cX11_note 11 = .ok (.bipush (-2), 2) := by decide +kernel
theorem d_X11_note_13 : decode cX11_note 13 = .ok (.ireturn, 1) := by decide +kernel
theorem d_X11_note_14 : decode cX11_note 14 = .ok (.iload_n 2, 1) := by decide +kernel
theorem d_X11_note_15 : decode cX11_note 15 = .ok (.ifCond .ge 6, 3) := by decide +kernel
theorem d_X11_note_18 : decode cX11_note 18 = .ok (.bipush (-3), 2) := by decide +kernel
theorem d_X11_note_20 : decode cX11_note 20 = .ok (.ireturn, 1) := by decide +kernel
theorem d_X11_note_21 : decode cX11_note 21 = .ok (.iload_n 2, 1) := by decide +kernel
theorem d_X11_note_22 : decode cX11_note 22 = .ok (.aload_n 0, 1) := by decide +kernel
theorem d_X11_note_23 : decode cX11_note 23 = .ok (.getfield 19, 3) := by decide +kernel
theorem d_X11_note_26 : decode cX11_note 26 = .ok (.getfield 160, 3) := by decide +kernel
theorem d_X11_note_29 : decode cX11_note 29 = .ok (.iload_n 1, 1) := by decide +kernel
theorem d_X11_note_30 : decode cX11_note 30 = .ok (.iaload, 1) := by decide +kernel
theorem d_X11_note_31 : decode cX11_note 31 = .ok (.if_icmp .ge 15, 3) := by decide +kernel
theorem d_X11_note_34 : decode cX11_note 34 = .ok (.aload_n 0, 1) := by decide +kernel
theorem d_X11_note_35 : decode cX11_note 35 = .ok (.getfield 19, 3) := by decide +kernel
theorem d_X11_note_38 : decode cX11_note 38 = .ok (.iload_n 1, 1) := by decide +kernel
theorem d_X11_note_39 : decode cX11_note 39 = .ok (.iload_n 2, 1) := by decide +kernel
theorem d_X11_note_40 : decode cX11_note 40 = .ok (.invokevirtual 163, 3) := by decide +kernel
theorem d_X11_note_43 : decode cX11_note 43 = .ok (.goto 4, 3) := by decide +kernel
theorem d_X11_note_46 : decode cX11_note 46 = .ok (.iconst (-1), 1) := by decide +kernel
theorem d_X11_note_47 : decode cX11_note 47 = .ok (.ireturn, 1) := by decide +kernel
def F_X11_note (x0 : Nat) (x1 : Int32) (x2 : Int32) (h : xH) : Option (Int32 × xH) := (fR h x0 10 1).bind fun v1 => (rc h v1 9).bind fun _ => (F_X10_hasTune v1 x1 h).bind fun z5 => if ¬ z5.1 = 0 then if 0 ≤ x2 then (fR z5.2 x0 10 1).bind fun v23 => (fR z5.2 v23 9 6).bind fun v26 => (aI z5.2 v26 x1).bind fun v30 => if v30 ≤ x2 then some ((-1), z5.2) else (fR z5.2 x0 10 1).bind fun v35 => (rc z5.2 v35 9).bind fun _ => (F_X10_tuneNote v35 x1 x2 z5.2).bind fun z40 => some (z40.1, z40.2) else some ((-3), z5.2) else some ((-2), z5.2)
theorem R_X11_note {Γ : xG} {l : Launch} {d : Nat} {r : Int32} {h' : xH} (x0 : Nat) (x1 : Int32) (x2 : Int32) (h : xH) (hdp : 1 ≤ d) (hF : F_X11_note x0 x1 x2 h = some (r, h')) : Gm Γ l d 0 0 m_X11_note [.ref x0, .int x1, .int x2] h (fun a u => a = some (.int r) ∧ u = h') := by
  refine Gm.of pn_X11 (Nat.le_of_ble_eq_true rfl) ?_
  show Gd Γ l d m_X11_note 0 [.ref x0, .int x1, .int x2] [] h 0 0 _
  generalize hQ : (fun (a : Option Value) (u : xH) => a = some (.int r) ∧ u = h') = Q
  have hq : Q (some (.int r)) h' := by rw [← hQ]; exact ⟨rfl, rfl⟩
  clear hQ
  unfold F_X11_note at hF
  refine g_aloadn d_X11_note_0 rfl ?_
  obtain ⟨v1, e1, hF⟩ := Option.bind_eq_some_iff.mp hF
  refine q_fR d_X11_note_1 f_X11_19 e1 ?_
  refine g_iloadn d_X11_note_4 rfl ?_
  obtain ⟨_, g5, hF⟩ := Option.bind_eq_some_iff.mp hF
  obtain ⟨⟨r5, h5⟩, e5, hF⟩ := Option.bind_eq_some_iff.mp hF
  try dsimp only at hF
  refine q_callV [.int x1] [] rfl d_X11_note_5 v_X11_157 (by omega) rfl (Nat.le_of_ble_eq_true rfl) (rc_rc g5 (by decide) rfl) (R_X10_hasTune _ _ _ (by omega) e5) ?_
  refine g_if_ne 14 d_X11_note_8 rfl (fun c8 => ?_) (fun c8 => ?_)
  · have hF := x_t hF c8
    refine g_iloadn d_X11_note_14 rfl ?_
    refine g_if_ge 21 d_X11_note_15 rfl (fun c15 => ?_) (fun c15 => ?_)
    · have hF := x_t hF c15
      refine g_iloadn d_X11_note_21 rfl ?_
      refine g_aloadn d_X11_note_22 rfl ?_
      obtain ⟨v23, e23, hF⟩ := Option.bind_eq_some_iff.mp hF
      refine q_fR d_X11_note_23 f_X11_19 e23 ?_
      obtain ⟨v26, e26, hF⟩ := Option.bind_eq_some_iff.mp hF
      refine q_fR d_X11_note_26 f_X11_160 e26 ?_
      refine g_iloadn d_X11_note_29 rfl ?_
      obtain ⟨v30, e30, hF⟩ := Option.bind_eq_some_iff.mp hF
      refine q_aI d_X11_note_30 e30 ?_
      refine g_icmp_ge 46 d_X11_note_31 rfl (fun c31 => ?_) (fun c31 => ?_)
      · have hF := x_t hF c31
        refine g_ic (-1) d_X11_note_46 ic_m1 ?_
        obtain ⟨rfl, rfl⟩ := x_inj hF
        exact g_iret d_X11_note_47 rfl hq
      · have hF := x_f hF c31
        refine g_aloadn d_X11_note_34 rfl ?_
        obtain ⟨v35, e35, hF⟩ := Option.bind_eq_some_iff.mp hF
        refine q_fR d_X11_note_35 f_X11_19 e35 ?_
        refine g_iloadn d_X11_note_38 rfl ?_
        refine g_iloadn d_X11_note_39 rfl ?_
        obtain ⟨_, g40, hF⟩ := Option.bind_eq_some_iff.mp hF
        obtain ⟨⟨r40, h40⟩, e40, hF⟩ := Option.bind_eq_some_iff.mp hF
        try dsimp only at hF
        refine q_callV [.int x1, .int x2] [] rfl d_X11_note_40 v_X11_163 (by omega) rfl (Nat.le_of_ble_eq_true rfl) (rc_rc g40 (by decide) rfl) (R_X10_tuneNote _ _ _ _ (by omega) e40) ?_
        refine g_goto 47 d_X11_note_43 rfl ?_
        obtain ⟨rfl, rfl⟩ := x_inj hF
        exact g_iret d_X11_note_47 rfl hq
    · have hF := x_f hF c15
      refine g_bi (-3) d_X11_note_18 bi_m3 ?_
      obtain ⟨rfl, rfl⟩ := x_inj hF
      exact g_iret d_X11_note_20 rfl hq
  · have hF := x_f hF (not_not_intro c8)
    refine g_bi (-2) d_X11_note_11 bi_m2 ?_
    obtain ⟨rfl, rfl⟩ := x_inj hF
    exact g_iret d_X11_note_13 rfl hq
theorem d_X11_steps_0 : decode cX11_steps 0 = .ok (.aload_n 0, 1) := by decide +kernel
theorem d_X11_steps_1 : decode cX11_steps 1 = .ok (.getfield 19, 3) := by decide +kernel
theorem d_X11_steps_4 : decode cX11_steps 4 = .ok (.iload_n 1, 1) := by decide +kernel
theorem d_X11_steps_5 : decode cX11_steps 5 = .ok (.invokevirtual 157, 3) := by decide +kernel
theorem d_X11_steps_8 : decode cX11_steps 8 = .ok (.ifCond .eq 14, 3) := by decide +kernel
theorem d_X11_steps_11 : decode cX11_steps 11 = .ok (.aload_n 0, 1) := by decide +kernel
theorem d_X11_steps_12 : decode cX11_steps 12 = .ok (.getfield 19, 3) := by decide +kernel
theorem d_X11_steps_15 : decode cX11_steps 15 = .ok (.iload_n 2, 1) := by decide +kernel
theorem d_X11_steps_16 : decode cX11_steps 16 = .ok (.invokevirtual 117, 3) := by decide +kernel
theorem d_X11_steps_19 : decode cX11_steps 19 = .ok (.ifCond .ne 6, 3) := by decide +kernel
theorem d_X11_steps_22 : decode cX11_steps 22 = .ok (.bipush (-2), 2) := by decide +kernel
theorem d_X11_steps_24 : decode cX11_steps 24 = .ok (.ireturn, 1) := by decide +kernel
theorem d_X11_steps_25 : decode cX11_steps 25 = .ok (.aload_n 0, 1) := by decide +kernel
theorem d_X11_steps_26 : decode cX11_steps 26 = .ok (.getfield 19, 3) := by decide +kernel
theorem d_X11_steps_29 : decode cX11_steps 29 = .ok (.iload_n 1, 1) := by decide +kernel
theorem d_X11_steps_30 : decode cX11_steps 30 = .ok (.aload_n 0, 1) := by decide +kernel
theorem d_X11_steps_31 : decode cX11_steps 31 = .ok (.getfield 19, 3) := by decide +kernel
theorem d_X11_steps_34 : decode cX11_steps 34 = .ok (.aload_n 0, 1) := by decide +kernel
theorem d_X11_steps_35 : decode cX11_steps 35 = .ok (.getfield 26, 3) := by decide +kernel
theorem d_X11_steps_38 : decode cX11_steps 38 = .ok (.iload_n 2, 1) := by decide +kernel
theorem d_X11_steps_39 : decode cX11_steps 39 = .ok (.invokevirtual 134, 3) := by decide +kernel
theorem d_X11_steps_42 : decode cX11_steps 42 = .ok (.invokevirtual 166, 3) := by decide +kernel
theorem d_X11_steps_45 : decode cX11_steps 45 = .ok (.ireturn, 1) := by decide +kernel
def F_X11_steps (x0 : Nat) (x1 : Int32) (x2 : Int32) (h : xH) : Option (Int32 × xH) := (fR h x0 10 1).bind fun v1 => (rc h v1 9).bind fun _ => (F_X10_hasTune v1 x1 h).bind fun z5 => if z5.1 = 0 then some ((-2), z5.2) else (fR z5.2 x0 10 1).bind fun v12 => (rc z5.2 v12 9).bind fun _ => (F_X10_hasPerson v12 x2 z5.2).bind fun z16 => if ¬ z16.1 = 0 then (fR z16.2 x0 10 1).bind fun v26 => (fR z16.2 x0 10 1).bind fun v31 => (fR z16.2 x0 10 2).bind fun v35 => (rc z16.2 v31 9).bind fun _ => (F_X10_heardBy v31 v35 x2 z16.2).bind fun z39 => (rc z39.2 v26 9).bind fun _ => (F_X10_steppedOver v26 x1 z39.1 z39.2).bind fun z42 => some (z42.1, z42.2) else some ((-2), z16.2)
theorem R_X11_steps {Γ : xG} {l : Launch} {d : Nat} {r : Int32} {h' : xH} (x0 : Nat) (x1 : Int32) (x2 : Int32) (h : xH) (hdp : 6 ≤ d) (hF : F_X11_steps x0 x1 x2 h = some (r, h')) : Gm Γ l d 0 0 m_X11_steps [.ref x0, .int x1, .int x2] h (fun a u => a = some (.int r) ∧ u = h') := by
  refine Gm.of pn_X11 (Nat.le_of_ble_eq_true rfl) ?_
  show Gd Γ l d m_X11_steps 0 [.ref x0, .int x1, .int x2] [] h 0 0 _
  generalize hQ : (fun (a : Option Value) (u : xH) => a = some (.int r) ∧ u = h') = Q
  have hq : Q (some (.int r)) h' := by rw [← hQ]; exact ⟨rfl, rfl⟩
  clear hQ
  unfold F_X11_steps at hF
  refine g_aloadn d_X11_steps_0 rfl ?_
  obtain ⟨v1, e1, hF⟩ := Option.bind_eq_some_iff.mp hF
  refine q_fR d_X11_steps_1 f_X11_19 e1 ?_
  refine g_iloadn d_X11_steps_4 rfl ?_
  obtain ⟨_, g5, hF⟩ := Option.bind_eq_some_iff.mp hF
  obtain ⟨⟨r5, h5⟩, e5, hF⟩ := Option.bind_eq_some_iff.mp hF
  try dsimp only at hF
  refine q_callV [.int x1] [] rfl d_X11_steps_5 v_X11_157 (by omega) rfl (Nat.le_of_ble_eq_true rfl) (rc_rc g5 (by decide) rfl) (R_X10_hasTune _ _ _ (by omega) e5) ?_
  refine g_if_eq 22 d_X11_steps_8 rfl (fun c8 => ?_) (fun c8 => ?_)
  · have hF := x_t hF c8
    refine g_bi (-2) d_X11_steps_22 bi_m2 ?_
    obtain ⟨rfl, rfl⟩ := x_inj hF
    exact g_iret d_X11_steps_24 rfl hq
  · have hF := x_f hF c8
    refine g_aloadn d_X11_steps_11 rfl ?_
    obtain ⟨v12, e12, hF⟩ := Option.bind_eq_some_iff.mp hF
    refine q_fR d_X11_steps_12 f_X11_19 e12 ?_
    refine g_iloadn d_X11_steps_15 rfl ?_
    obtain ⟨_, g16, hF⟩ := Option.bind_eq_some_iff.mp hF
    obtain ⟨⟨r16, h16⟩, e16, hF⟩ := Option.bind_eq_some_iff.mp hF
    try dsimp only at hF
    refine q_callV [.int x2] [] rfl d_X11_steps_16 v_X11_117 (by omega) rfl (Nat.le_of_ble_eq_true rfl) (rc_rc g16 (by decide) rfl) (R_X10_hasPerson _ _ _ (by omega) e16) ?_
    refine g_if_ne 25 d_X11_steps_19 rfl (fun c19 => ?_) (fun c19 => ?_)
    · have hF := x_t hF c19
      refine g_aloadn d_X11_steps_25 rfl ?_
      obtain ⟨v26, e26, hF⟩ := Option.bind_eq_some_iff.mp hF
      refine q_fR d_X11_steps_26 f_X11_19 e26 ?_
      refine g_iloadn d_X11_steps_29 rfl ?_
      refine g_aloadn d_X11_steps_30 rfl ?_
      obtain ⟨v31, e31, hF⟩ := Option.bind_eq_some_iff.mp hF
      refine q_fR d_X11_steps_31 f_X11_19 e31 ?_
      refine g_aloadn d_X11_steps_34 rfl ?_
      obtain ⟨v35, e35, hF⟩ := Option.bind_eq_some_iff.mp hF
      refine q_fR d_X11_steps_35 f_X11_26 e35 ?_
      refine g_iloadn d_X11_steps_38 rfl ?_
      obtain ⟨_, g39, hF⟩ := Option.bind_eq_some_iff.mp hF
      obtain ⟨⟨r39, h39⟩, e39, hF⟩ := Option.bind_eq_some_iff.mp hF
      try dsimp only at hF
      refine q_callV [.ref v35, .int x2] [.int x1, .ref v26] rfl d_X11_steps_39 v_X11_134 (by omega) rfl (Nat.le_of_ble_eq_true rfl) (rc_rc g39 (by decide) rfl) (R_X10_heardBy _ _ _ _ (by omega) e39) ?_
      obtain ⟨_, g42, hF⟩ := Option.bind_eq_some_iff.mp hF
      obtain ⟨⟨r42, h42⟩, e42, hF⟩ := Option.bind_eq_some_iff.mp hF
      try dsimp only at hF
      refine q_callV [.int x1, .int (r39)] [] rfl d_X11_steps_42 v_X11_166 (by omega) rfl (Nat.le_of_ble_eq_true rfl) (rc_rc g42 (by decide) rfl) (R_X10_steppedOver _ _ _ _ (by omega) e42) ?_
      obtain ⟨rfl, rfl⟩ := x_inj hF
      exact g_iret d_X11_steps_45 rfl hq
    · have hF := x_f hF (not_not_intro c19)
      refine g_bi (-2) d_X11_steps_22 bi_m2 ?_
      obtain ⟨rfl, rfl⟩ := x_inj hF
      exact g_iret d_X11_steps_24 rfl hq
