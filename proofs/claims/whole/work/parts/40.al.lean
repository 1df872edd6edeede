/-! ===== methods that make cells, as functions: written by a program ===== -/
theorem bi_54 : (Int8.ofInt (54)).toInt32 = 54 := by decide +kernel
theorem bi_64 : (Int8.ofInt (64)).toInt32 = 64 := by decide +kernel
theorem bi_82 : (Int8.ofInt (82)).toInt32 = 82 := by decide +kernel
theorem ic_6 : Int32.ofInt (6) = 6 := by decide +kernel
theorem si_160 : (Int16.ofInt (160)).toInt32 = 160 := by decide +kernel
theorem si_384 : (Int16.ofInt (384)).toInt32 = 384 := by decide +kernel
theorem si_1024 : (Int16.ofInt (1024)).toInt32 = 1024 := by decide +kernel
theorem si_2048 : (Int16.ofInt (2048)).toInt32 = 2048 := by decide +kernel
theorem si_3687 : (Int16.ofInt (3687)).toInt32 = 3687 := by decide +kernel
theorem si_10240 : (Int16.ofInt (10240)).toInt32 = 10240 := by decide +kernel
theorem d_X1_init_0 : decode cX1_init 0 = .ok (.aload_n 0, 1) := by decide +kernel
theorem d_X1_init_1 : decode cX1_init 1 = .ok (.invokespecial 3, 3) := by decide +kernel
theorem d_X1_init_4 : decode cX1_init 4 = .ok (.aload_n 0, 1) := by decide +kernel
theorem d_X1_init_5 : decode cX1_init 5 = .ok (.bipush 18, 2) := by decide +kernel
theorem d_X1_init_7 : decode cX1_init 7 = .ok (.newarray .int, 2) := by decide +kernel
theorem d_X1_init_9 : decode cX1_init 9 = .ok (.putfield 11, 3) := by decide +kernel
theorem d_X1_init_12 : decode cX1_init 12 = .ok (.aload_n 0, 1) := by decide +kernel
theorem d_X1_init_13 : decode cX1_init 13 = .ok (.bipush 6, 2) := by decide +kernel
theorem d_X1_init_15 : decode cX1_init 15 = .ok (.newarray .long, 2) := by decide +kernel
theorem d_X1_init_17 : decode cX1_init 17 = .ok (.putfield 15, 3) := by decide +kernel
theorem d_X1_init_20 : decode cX1_init 20 = .ok (.aload_n 0, 1) := by decide +kernel
theorem d_X1_init_21 : decode cX1_init 21 = .ok (.bipush 6, 2) := by decide +kernel
theorem d_X1_init_23 : decode cX1_init 23 = .ok (.newarray .long, 2) := by decide +kernel
theorem d_X1_init_25 : decode cX1_init 25 = .ok (.putfield 19, 3) := by decide +kernel
theorem d_X1_init_28 : decode cX1_init 28 = .ok (.return_, 1) := by decide +kernel
def F_X1_init (x0 : Nat) (h : xH) : Option (Unit × xH × Nat × Nat) := if ((18 : Int32)) < 0 ∨ 60000000 < ((18 : Int32)).toNatClampNeg then none else ((some (nW h 0 ((18 : Int32)).toNatClampNeg)).bind fun h7 => (wQ h7 x0 0 0 ((some (h).1))).bind fun h9 => if ((6 : Int32)) < 0 ∨ 60000000 < ((6 : Int32)).toNatClampNeg then none else ((some (nL h9 ((6 : Int32)).toNatClampNeg)).bind fun h15 => (wQ h15 x0 0 1 ((some (h9).1))).bind fun h17 => if ((6 : Int32)) < 0 ∨ 60000000 < ((6 : Int32)).toNatClampNeg then none else ((some (nL h17 ((6 : Int32)).toNatClampNeg)).bind fun h23 => (wQ h23 x0 0 2 ((some (h17).1))).bind fun h25 => some ((), h25, 0, 0)).map (ac _ 1 ((6 : Int32)).toNatClampNeg)).map (ac _ 1 ((6 : Int32)).toNatClampNeg)).map (ac _ 1 ((18 : Int32)).toNatClampNeg)
theorem R_X1_init {Γ : xG} {l : Launch} {d : Nat} {r : Unit} {h' : xH} {mc ms : Nat} (x0 : Nat) (h : xH) (hdp : 1 ≤ d) (hF : F_X1_init x0 h = some (r, h', mc, ms)) : Gm Γ l d mc ms m_X1_init [.ref x0] h (fun a u => a = none ∧ u = h') := by
  refine Gm.of pn_X1 (Nat.le_of_ble_eq_true rfl) ?_
  show Gd Γ l d m_X1_init 0 [.ref x0] [] h mc ms _
  generalize hQ : (fun (a : Option Value) (u : xH) => a = none ∧ u = h') = Q
  have hq : Q (none) h' := by rw [← hQ]; exact ⟨rfl, rfl⟩
  clear hQ
  unfold F_X1_init at hF
  refine g_aloadn d_X1_init_0 rfl ?_
  refine q_oi d_X1_init_1 i_X1_3 (by omega) (Nat.le_of_ble_eq_true rfl) ?_
  refine g_aloadn d_X1_init_4 rfl ?_
  refine g_bi (18) d_X1_init_5 bi_18 ?_
  replace hF := x_nz hF
  obtain ⟨n7, hF⟩ := hF
  replace hF := x_map hF
  obtain ⟨c7, s7, rfl, rfl, hF⟩ := hF
  refine q_newaI d_X1_init_7 n7 ?_
  replace hF := Option.bind_eq_some_iff.mp hF
  obtain ⟨h7, e7, hF⟩ := hF
  rw [Option.some.inj e7]
  replace hF := Option.bind_eq_some_iff.mp hF
  obtain ⟨h9, e9, hF⟩ := hF
  refine q_wR d_X1_init_9 w_X1_11 (Or.inr ⟨_, rfl⟩) e9 ?_
  refine g_aloadn d_X1_init_12 rfl ?_
  refine g_bi (6) d_X1_init_13 bi_6 ?_
  replace hF := x_nz hF
  obtain ⟨n15, hF⟩ := hF
  replace hF := x_map hF
  obtain ⟨c15, s15, rfl, rfl, hF⟩ := hF
  refine q_newaJ d_X1_init_15 n15 ?_
  replace hF := Option.bind_eq_some_iff.mp hF
  obtain ⟨h15, e15, hF⟩ := hF
  rw [Option.some.inj e15]
  replace hF := Option.bind_eq_some_iff.mp hF
  obtain ⟨h17, e17, hF⟩ := hF
  refine q_wR d_X1_init_17 w_X1_15 (Or.inr ⟨_, rfl⟩) e17 ?_
  refine g_aloadn d_X1_init_20 rfl ?_
  refine g_bi (6) d_X1_init_21 bi_6 ?_
  replace hF := x_nz hF
  obtain ⟨n23, hF⟩ := hF
  replace hF := x_map hF
  obtain ⟨c23, s23, rfl, rfl, hF⟩ := hF
  refine q_newaJ d_X1_init_23 n23 ?_
  replace hF := Option.bind_eq_some_iff.mp hF
  obtain ⟨h23, e23, hF⟩ := hF
  rw [Option.some.inj e23]
  replace hF := Option.bind_eq_some_iff.mp hF
  obtain ⟨h25, e25, hF⟩ := hF
  refine q_wR d_X1_init_25 w_X1_19 (Or.inr ⟨_, rfl⟩) e25 ?_
  obtain ⟨rfl, rfl, rfl, rfl⟩ := x_inj4 hF
  exact g_vret d_X1_init_28 rfl hq
theorem d_X6_init_0 : decode cX6_init 0 = .ok (.aload_n 0, 1) := by decide +kernel
theorem d_X6_init_1 : decode cX6_init 1 = .ok (.invokespecial 3, 3) := by decide +kernel
theorem d_X6_init_4 : decode cX6_init 4 = .ok (.aload_n 0, 1) := by decide +kernel
theorem d_X6_init_5 : decode cX6_init 5 = .ok (.bipush 6, 2) := by decide +kernel
theorem d_X6_init_7 : decode cX6_init 7 = .ok (.newarray .int, 2) := by decide +kernel
theorem d_X6_init_9 : decode cX6_init 9 = .ok (.putfield 9, 3) := by decide +kernel
theorem d_X6_init_12 : decode cX6_init 12 = .ok (.aload_n 0, 1) := by decide +kernel
theorem d_X6_init_13 : decode cX6_init 13 = .ok (.bipush 6, 2) := by decide +kernel
theorem d_X6_init_15 : decode cX6_init 15 = .ok (.newarray .int, 2) := by decide +kernel
theorem d_X6_init_17 : decode cX6_init 17 = .ok (.putfield 15, 3) := by decide +kernel
theorem d_X6_init_20 : decode cX6_init 20 = .ok (.aload_n 0, 1) := by decide +kernel
theorem d_X6_init_21 : decode cX6_init 21 = .ok (.bipush 6, 2) := by decide +kernel
theorem d_X6_init_23 : decode cX6_init 23 = .ok (.newarray .int, 2) := by decide +kernel
theorem d_X6_init_25 : decode cX6_init 25 = .ok (.putfield 18, 3) := by decide +kernel
theorem d_X6_init_28 : decode cX6_init 28 = .ok (.aload_n 0, 1) := by decide +kernel
theorem d_X6_init_29 : decode cX6_init 29 = .ok (.iconst 0, 1) := by decide +kernel
theorem d_X6_init_30 : decode cX6_init 30 = .ok (.putfield 21, 3) := by decide +kernel
theorem d_X6_init_33 : decode cX6_init 33 = .ok (.aload_n 0, 1) := by decide +kernel
theorem d_X6_init_34 : decode cX6_init 34 = .ok (.iconst 0, 1) := by decide +kernel
theorem d_X6_init_35 : decode cX6_init 35 = .ok (.putfield 25, 3) := by decide +kernel
theorem d_X6_init_38 : decode cX6_init 38 = .ok (.return_, 1) := by decide +kernel
def F_X6_init (x0 : Nat) (h : xH) : Option (Unit × xH × Nat × Nat) := if ((6 : Int32)) < 0 ∨ 60000000 < ((6 : Int32)).toNatClampNeg then none else ((some (nW h 0 ((6 : Int32)).toNatClampNeg)).bind fun h7 => (wQ h7 x0 5 0 ((some (h).1))).bind fun h9 => if ((6 : Int32)) < 0 ∨ 60000000 < ((6 : Int32)).toNatClampNeg then none else ((some (nW h9 0 ((6 : Int32)).toNatClampNeg)).bind fun h15 => (wQ h15 x0 5 1 ((some (h9).1))).bind fun h17 => if ((6 : Int32)) < 0 ∨ 60000000 < ((6 : Int32)).toNatClampNeg then none else ((some (nW h17 0 ((6 : Int32)).toNatClampNeg)).bind fun h23 => (wQ h23 x0 5 2 ((some (h17).1))).bind fun h25 => (wI h25 x0 5 3 0).bind fun h30 => (wI h30 x0 5 4 0).bind fun h35 => some ((), h35, 0, 0)).map (ac _ 1 ((6 : Int32)).toNatClampNeg)).map (ac _ 1 ((6 : Int32)).toNatClampNeg)).map (ac _ 1 ((6 : Int32)).toNatClampNeg)
theorem R_X6_init {Γ : xG} {l : Launch} {d : Nat} {r : Unit} {h' : xH} {mc ms : Nat} (x0 : Nat) (h : xH) (hdp : 1 ≤ d) (hF : F_X6_init x0 h = some (r, h', mc, ms)) : Gm Γ l d mc ms m_X6_init [.ref x0] h (fun a u => a = none ∧ u = h') := by
  refine Gm.of pn_X6 (Nat.le_of_ble_eq_true rfl) ?_
  show Gd Γ l d m_X6_init 0 [.ref x0] [] h mc ms _
  generalize hQ : (fun (a : Option Value) (u : xH) => a = none ∧ u = h') = Q
  have hq : Q (none) h' := by rw [← hQ]; exact ⟨rfl, rfl⟩
  clear hQ
  unfold F_X6_init at hF
  refine g_aloadn d_X6_init_0 rfl ?_
  refine q_oi d_X6_init_1 i_X6_3 (by omega) (Nat.le_of_ble_eq_true rfl) ?_
  refine g_aloadn d_X6_init_4 rfl ?_
  refine g_bi (6) d_X6_init_5 bi_6 ?_
  replace hF := x_nz hF
  obtain ⟨n7, hF⟩ := hF
  replace hF := x_map hF
  obtain ⟨c7, s7, rfl, rfl, hF⟩ := hF
  refine q_newaI d_X6_init_7 n7 ?_
  replace hF := Option.bind_eq_some_iff.mp hF
  obtain ⟨h7, e7, hF⟩ := hF
  rw [Option.some.inj e7]
  replace hF := Option.bind_eq_some_iff.mp hF
  obtain ⟨h9, e9, hF⟩ := hF
  refine q_wR d_X6_init_9 w_X6_9 (Or.inr ⟨_, rfl⟩) e9 ?_
  refine g_aloadn d_X6_init_12 rfl ?_
  refine g_bi (6) d_X6_init_13 bi_6 ?_
  replace hF := x_nz hF
  obtain ⟨n15, hF⟩ := hF
  replace hF := x_map hF
  obtain ⟨c15, s15, rfl, rfl, hF⟩ := hF
  refine q_newaI d_X6_init_15 n15 ?_
  replace hF := Option.bind_eq_some_iff.mp hF
  obtain ⟨h15, e15, hF⟩ := hF
  rw [Option.some.inj e15]
  replace hF := Option.bind_eq_some_iff.mp hF
  obtain ⟨h17, e17, hF⟩ := hF
  refine q_wR d_X6_init_17 w_X6_15 (Or.inr ⟨_, rfl⟩) e17 ?_
  refine g_aloadn d_X6_init_20 rfl ?_
  refine g_bi (6) d_X6_init_21 bi_6 ?_
  replace hF := x_nz hF
  obtain ⟨n23, hF⟩ := hF
  replace hF := x_map hF
  obtain ⟨c23, s23, rfl, rfl, hF⟩ := hF
  refine q_newaI d_X6_init_23 n23 ?_
  replace hF := Option.bind_eq_some_iff.mp hF
  obtain ⟨h23, e23, hF⟩ := hF
  rw [Option.some.inj e23]
  replace hF := Option.bind_eq_some_iff.mp hF
  obtain ⟨h25, e25, hF⟩ := hF
  refine q_wR d_X6_init_25 w_X6_18 (Or.inr ⟨_, rfl⟩) e25 ?_
  refine g_aloadn d_X6_init_28 rfl ?_
  refine g_ic (0) d_X6_init_29 ic_0 ?_
  replace hF := Option.bind_eq_some_iff.mp hF
  obtain ⟨h30, e30, hF⟩ := hF
  refine q_wI d_X6_init_30 (w_X6_21 _) e30 ?_
  refine g_aloadn d_X6_init_33 rfl ?_
  refine g_ic (0) d_X6_init_34 ic_0 ?_
  replace hF := Option.bind_eq_some_iff.mp hF
  obtain ⟨h35, e35, hF⟩ := hF
  refine q_wI d_X6_init_35 (w_X6_25 _) e35 ?_
  obtain ⟨rfl, rfl, rfl, rfl⟩ := x_inj4 hF
  exact g_vret d_X6_init_38 rfl hq
theorem d_X2_init_0 : decode cX2_init 0 = .ok (.aload_n 0, 1) := by decide +kernel
theorem d_X2_init_1 : decode cX2_init 1 = .ok (.invokespecial 3, 3) := by decide +kernel
theorem d_X2_init_4 : decode cX2_init 4 = .ok (.aload_n 0, 1) := by decide +kernel
theorem d_X2_init_5 : decode cX2_init 5 = .ok (.bipush 10, 2) := by decide +kernel
theorem d_X2_init_7 : decode cX2_init 7 = .ok (.anewarray 9, 3) := by decide +kernel
theorem d_X2_init_10 : decode cX2_init 10 = .ok (.putfield 11, 3) := by decide +kernel
theorem d_X2_init_13 : decode cX2_init 13 = .ok (.aload_n 0, 1) := by decide +kernel
theorem d_X2_init_14 : decode cX2_init 14 = .ok (.iconst 0, 1) := by decide +kernel
theorem d_X2_init_15 : decode cX2_init 15 = .ok (.putfield 17, 3) := by decide +kernel
theorem d_X2_init_18 : decode cX2_init 18 = .ok (.aload_n 0, 1) := by decide +kernel
theorem d_X2_init_19 : decode cX2_init 19 = .ok (.iconst 0, 1) := by decide +kernel
theorem d_X2_init_20 : decode cX2_init 20 = .ok (.putfield 21, 3) := by decide +kernel
theorem d_X2_init_23 : decode cX2_init 23 = .ok (.iconst 0, 1) := by decide +kernel
theorem d_X2_init_24 : decode cX2_init 24 = .ok (.istore_n 1, 1) := by decide +kernel
theorem d_X2_init_25 : decode cX2_init 25 = .ok (.iload_n 1, 1) := by decide +kernel
theorem d_X2_init_26 : decode cX2_init 26 = .ok (.bipush 10, 2) := by decide +kernel
theorem d_X2_init_28 : decode cX2_init 28 = .ok (.if_icmp .ge 22, 3) := by decide +kernel
theorem d_X2_init_31 : decode cX2_init 31 = .ok (.aload_n 0, 1) := by decide +kernel
theorem d_X2_init_32 : decode cX2_init 32 = .ok (.getfield 11, 3) := by decide +kernel
theorem d_X2_init_35 : decode cX2_init 35 = .ok (.iload_n 1, 1) := by decide +kernel
theorem d_X2_init_36 : decode cX2_init 36 = .ok (.new 9, 3) := by decide +kernel
theorem d_X2_init_39 : decode cX2_init 39 = .ok (.dup, 1) := by decide +kernel
theorem d_X2_init_40 : decode cX2_init 40 = .ok (.invokespecial 24, 3) := by decide +kernel
theorem d_X2_init_43 : decode cX2_init 43 = .ok (.aastore, 1) := by decide +kernel
theorem d_X2_init_44 : decode cX2_init 44 = .ok (.iinc 1 1, 3) := by decide +kernel
theorem d_X2_init_47 : decode cX2_init 47 = .ok (.goto (-22), 3) := by decide +kernel
theorem d_X2_init_50 : decode cX2_init 50 = .ok (.return_, 1) := by decide +kernel
def F_X2_init_b25 : Nat → Nat → Int32 → xH → Option (Unit × xH × Nat × Nat)
  | 0, _, _, _ => none
  | n + 1, x0, x1, h => if ((10 : Int32)) ≤ x1 then some ((), h, 0, 0) else (fR h x0 1 0).bind fun v32 => ((some (nO h 5 [.null, .null, .null, .int 0, .int 0])).bind fun h36 => (F_X6_init ((h).1) h36).bind fun z40 => ((sR z40.2.1 v32 x1 ((h).1)).bind fun h43 => F_X2_init_b25 n x0 (x1 + 1) h43).map (ac _ z40.2.2.1 z40.2.2.2)).map (ac _ 1 5)
theorem R_X2_init_b25 {Γ : xG} {l : Launch} {d : Nat} {Q : Option Value → xH → Prop} {r : Unit} {h' : xH} (hdp : 2 ≤ d) (hq : Q (none) h') : ∀ (n : Nat) (x0 : Nat) (x1 : Int32) (h : xH) (mc ms : Nat), F_X2_init_b25 n x0 x1 h = some (r, h', mc, ms) → Gd Γ l d m_X2_init 25 [.ref x0, .int x1] [] h mc ms Q := by
  intro n
  induction n with
  | zero => intro x0 x1 h mc ms hF; cases hF
  | succ n ih =>
  intro x0 x1 h mc ms hF
  rw [F_X2_init_b25] at hF
  refine g_iloadn d_X2_init_25 rfl ?_
  refine g_bi (10) d_X2_init_26 bi_10 ?_
  refine g_icmp_ge 50 d_X2_init_28 rfl (fun c28 => ?_) (fun c28 => ?_)
  · replace hF := x_t hF c28
    obtain ⟨rfl, rfl, rfl, rfl⟩ := x_inj4 hF
    exact g_vret d_X2_init_50 rfl hq
  · replace hF := x_f hF c28
    refine g_aloadn d_X2_init_31 rfl ?_
    replace hF := Option.bind_eq_some_iff.mp hF
    obtain ⟨v32, e32, hF⟩ := hF
    refine q_fR d_X2_init_32 f_X2_11 e32 ?_
    refine g_iloadn d_X2_init_35 rfl ?_
    replace hF := x_map hF
    obtain ⟨c36, s36, rfl, rfl, hF⟩ := hF
    refine q_new d_X2_init_36 n_X2_9 ?_
    replace hF := Option.bind_eq_some_iff.mp hF
    obtain ⟨h36, e36, hF⟩ := hF
    rw [Option.some.inj e36]
    refine g_dup d_X2_init_39 rfl ?_
    replace hF := Option.bind_eq_some_iff.mp hF
    obtain ⟨⟨r40, h40, mc40, ms40⟩, e40, hF⟩ := hF
    replace hF := x_map hF
    obtain ⟨c40, s40, rfl, rfl, hF⟩ := hF
    try dsimp only at hF
    refine q_callIa [] [.ref ((h).1), .int x1, .ref v32] rfl d_X2_init_40 i_X2_24 (by omega) rfl (Nat.le_of_ble_eq_true rfl) (R_X6_init _ _ (by omega) e40) ?_
    replace hF := Option.bind_eq_some_iff.mp hF
    obtain ⟨h43, e43, hF⟩ := hF
    refine q_sR d_X2_init_43 e43 ?_
    refine q_iinc (1) [.ref x0, .int (x1 + 1)] d_X2_init_44 ic_1 rfl (by decide) rfl ?_
    refine g_goto 25 d_X2_init_47 rfl ?_
    exact q_to (xs_r (xs_r xs_n)) (ih _ _ _ _ _ hF)
def F_X2_init (x0 : Nat) (h : xH) : Option (Unit × xH × Nat × Nat) := if ((10 : Int32)) < 0 ∨ 60000000 < ((10 : Int32)).toNatClampNeg then none else ((some (nQ h 5 ((10 : Int32)).toNatClampNeg)).bind fun h7 => (wQ h7 x0 1 0 ((some (h).1))).bind fun h10 => (wI h10 x0 1 1 0).bind fun h15 => (wI h15 x0 1 2 0).bind fun h20 => F_X2_init_b25 FU x0 0 h20).map (ac _ 1 ((10 : Int32)).toNatClampNeg)
theorem R_X2_init {Γ : xG} {l : Launch} {d : Nat} {r : Unit} {h' : xH} {mc ms : Nat} (x0 : Nat) (h : xH) (hdp : 2 ≤ d) (hF : F_X2_init x0 h = some (r, h', mc, ms)) : Gm Γ l d mc ms m_X2_init [.ref x0] h (fun a u => a = none ∧ u = h') := by
  refine Gm.of pn_X2 (Nat.le_of_ble_eq_true rfl) ?_
  show Gd Γ l d m_X2_init 0 [.ref x0, xhole] [] h mc ms _
  generalize hQ : (fun (a : Option Value) (u : xH) => a = none ∧ u = h') = Q
  have hq : Q (none) h' := by rw [← hQ]; exact ⟨rfl, rfl⟩
  clear hQ
  unfold F_X2_init at hF
  refine g_aloadn d_X2_init_0 rfl ?_
  refine q_oi d_X2_init_1 i_X2_3 (by omega) (Nat.le_of_ble_eq_true rfl) ?_
  refine g_aloadn d_X2_init_4 rfl ?_
  refine g_bi (10) d_X2_init_5 bi_10 ?_
  replace hF := x_nz hF
  obtain ⟨n7, hF⟩ := hF
  replace hF := x_map hF
  obtain ⟨c7, s7, rfl, rfl, hF⟩ := hF
  refine q_newq d_X2_init_7 cl_X2_9 (Or.inl ⟨rfl, rfl⟩) n7 ?_
  replace hF := Option.bind_eq_some_iff.mp hF
  obtain ⟨h7, e7, hF⟩ := hF
  rw [Option.some.inj e7]
  replace hF := Option.bind_eq_some_iff.mp hF
  obtain ⟨h10, e10, hF⟩ := hF
  refine q_wR d_X2_init_10 w_X2_11 (Or.inr ⟨_, rfl⟩) e10 ?_
  refine g_aloadn d_X2_init_13 rfl ?_
  refine g_ic (0) d_X2_init_14 ic_0 ?_
  replace hF := Option.bind_eq_some_iff.mp hF
  obtain ⟨h15, e15, hF⟩ := hF
  refine q_wI d_X2_init_15 (w_X2_17 _) e15 ?_
  refine g_aloadn d_X2_init_18 rfl ?_
  refine g_ic (0) d_X2_init_19 ic_0 ?_
  replace hF := Option.bind_eq_some_iff.mp hF
  obtain ⟨h20, e20, hF⟩ := hF
  refine q_wI d_X2_init_20 (w_X2_21 _) e20 ?_
  refine g_ic (0) d_X2_init_23 ic_0 ?_
  refine q_istoren [.ref x0, .int 0] d_X2_init_24 (by decide) rfl ?_
  exact q_to (xs_r (xs_r xs_n)) (R_X2_init_b25 hdp hq FU _ _ _ _ _ hF)
theorem d_X3_init_0 : decode cX3_init 0 = .ok (.aload_n 0, 1) := by decide +kernel
theorem d_X3_init_1 : decode cX3_init 1 = .ok (.invokespecial 1, 3) := by decide +kernel
theorem d_X3_init_4 : decode cX3_init 4 = .ok (.aload_n 0, 1) := by decide +kernel
theorem d_X3_init_5 : decode cX3_init 5 = .ok (.iconst 5, 1) := by decide +kernel
theorem d_X3_init_6 : decode cX3_init 6 = .ok (.newarray .int, 2) := by decide +kernel
theorem d_X3_init_8 : decode cX3_init 8 = .ok (.putfield 9, 3) := by decide +kernel
theorem d_X3_init_11 : decode cX3_init 11 = .ok (.aload_n 0, 1) := by decide +kernel
theorem d_X3_init_12 : decode cX3_init 12 = .ok (.bipush 24, 2) := by decide +kernel
theorem d_X3_init_14 : decode cX3_init 14 = .ok (.newarray .int, 2) := by decide +kernel
theorem d_X3_init_16 : decode cX3_init 16 = .ok (.putfield 13, 3) := by decide +kernel
theorem d_X3_init_19 : decode cX3_init 19 = .ok (.aload_n 0, 1) := by decide +kernel
theorem d_X3_init_20 : decode cX3_init 20 = .ok (.aload_n 1, 1) := by decide +kernel
theorem d_X3_init_21 : decode cX3_init 21 = .ok (.putfield 16, 3) := by decide +kernel
theorem d_X3_init_24 : decode cX3_init 24 = .ok (.return_, 1) := by decide +kernel
def F_X3_init (x0 : Nat) (x1 : Nat) (h : xH) : Option (Unit × xH × Nat × Nat) := if ((5 : Int32)) < 0 ∨ 60000000 < ((5 : Int32)).toNatClampNeg then none else ((some (nW h 0 ((5 : Int32)).toNatClampNeg)).bind fun h6 => (wQ h6 x0 2 1 ((some (h).1))).bind fun h8 => if ((24 : Int32)) < 0 ∨ 60000000 < ((24 : Int32)).toNatClampNeg then none else ((some (nW h8 0 ((24 : Int32)).toNatClampNeg)).bind fun h14 => (wQ h14 x0 2 2 ((some (h8).1))).bind fun h16 => (wQ h16 x0 2 0 ((some x1))).bind fun h21 => some ((), h21, 0, 0)).map (ac _ 1 ((24 : Int32)).toNatClampNeg)).map (ac _ 1 ((5 : Int32)).toNatClampNeg)
theorem R_X3_init {Γ : xG} {l : Launch} {d : Nat} {r : Unit} {h' : xH} {mc ms : Nat} (x0 : Nat) (x1 : Nat) (h : xH) (hdp : 1 ≤ d) (hF : F_X3_init x0 x1 h = some (r, h', mc, ms)) : Gm Γ l d mc ms m_X3_init [.ref x0, .ref x1] h (fun a u => a = none ∧ u = h') := by
  refine Gm.of pn_X3 (Nat.le_of_ble_eq_true rfl) ?_
  show Gd Γ l d m_X3_init 0 [.ref x0, .ref x1] [] h mc ms _
  generalize hQ : (fun (a : Option Value) (u : xH) => a = none ∧ u = h') = Q
  have hq : Q (none) h' := by rw [← hQ]; exact ⟨rfl, rfl⟩
  clear hQ
  unfold F_X3_init at hF
  refine g_aloadn d_X3_init_0 rfl ?_
  refine q_oi d_X3_init_1 i_X3_1 (by omega) (Nat.le_of_ble_eq_true rfl) ?_
  refine g_aloadn d_X3_init_4 rfl ?_
  refine g_ic (5) d_X3_init_5 ic_5 ?_
  replace hF := x_nz hF
  obtain ⟨n6, hF⟩ := hF
  replace hF := x_map hF
  obtain ⟨c6, s6, rfl, rfl, hF⟩ := hF
  refine q_newaI d_X3_init_6 n6 ?_
  replace hF := Option.bind_eq_some_iff.mp hF
  obtain ⟨h6, e6, hF⟩ := hF
  rw [Option.some.inj e6]
  replace hF := Option.bind_eq_some_iff.mp hF
  obtain ⟨h8, e8, hF⟩ := hF
  refine q_wR d_X3_init_8 w_X3_9 (Or.inr ⟨_, rfl⟩) e8 ?_
  refine g_aloadn d_X3_init_11 rfl ?_
  refine g_bi (24) d_X3_init_12 bi_24 ?_
  replace hF := x_nz hF
  obtain ⟨n14, hF⟩ := hF
  replace hF := x_map hF
  obtain ⟨c14, s14, rfl, rfl, hF⟩ := hF
  refine q_newaI d_X3_init_14 n14 ?_
  replace hF := Option.bind_eq_some_iff.mp hF
  obtain ⟨h14, e14, hF⟩ := hF
  rw [Option.some.inj e14]
  replace hF := Option.bind_eq_some_iff.mp hF
  obtain ⟨h16, e16, hF⟩ := hF
  refine q_wR d_X3_init_16 w_X3_13 (Or.inr ⟨_, rfl⟩) e16 ?_
  refine g_aloadn d_X3_init_19 rfl ?_
  refine g_aloadn d_X3_init_20 rfl ?_
  replace hF := Option.bind_eq_some_iff.mp hF
  obtain ⟨h21, e21, hF⟩ := hF
  refine q_wR d_X3_init_21 w_X3_16 (Or.inr ⟨_, rfl⟩) e21 ?_
  obtain ⟨rfl, rfl, rfl, rfl⟩ := x_inj4 hF
  exact g_vret d_X3_init_24 rfl hq
theorem d_X10_init_0 : decode cX10_init 0 = .ok (.aload_n 0, 1) := by decide +kernel
theorem d_X10_init_1 : decode cX10_init 1 = .ok (.invokespecial 3, 3) := by decide +kernel
theorem d_X10_init_4 : decode cX10_init 4 = .ok (.aload_n 0, 1) := by decide +kernel
theorem d_X10_init_5 : decode cX10_init 5 = .ok (.iconst 2, 1) := by decide +kernel
theorem d_X10_init_6 : decode cX10_init 6 = .ok (.putfield 9, 3) := by decide +kernel
theorem d_X10_init_9 : decode cX10_init 9 = .ok (.aload_n 0, 1) := by decide +kernel
theorem d_X10_init_10 : decode cX10_init 10 = .ok (.iconst 0, 1) := by decide +kernel
theorem d_X10_init_11 : decode cX10_init 11 = .ok (.putfield 15, 3) := by decide +kernel
theorem d_X10_init_14 : decode cX10_init 14 = .ok (.aload_n 0, 1) := by decide +kernel
theorem d_X10_init_15 : decode cX10_init 15 = .ok (.iconst 0, 1) := by decide +kernel
theorem d_X10_init_16 : decode cX10_init 16 = .ok (.putfield 18, 3) := by decide +kernel
theorem d_X10_init_19 : decode cX10_init 19 = .ok (.aload_n 0, 1) := by decide +kernel
theorem d_X10_init_20 : decode cX10_init 20 = .ok (.iconst 0, 1) := by decide +kernel
theorem d_X10_init_21 : decode cX10_init 21 = .ok (.putfield 21, 3) := by decide +kernel
theorem d_X10_init_24 : decode cX10_init 24 = .ok (.aload_n 0, 1) := by decide +kernel
theorem d_X10_init_25 : decode cX10_init 25 = .ok (.iconst 0, 1) := by decide +kernel
theorem d_X10_init_26 : decode cX10_init 26 = .ok (.putfield 24, 3) := by decide +kernel
theorem d_X10_init_29 : decode cX10_init 29 = .ok (.aload_n 0, 1) := by decide +kernel
theorem d_X10_init_30 : decode cX10_init 30 = .ok (.bipush 54, 2) := by decide +kernel
theorem d_X10_init_32 : decode cX10_init 32 = .ok (.newarray .int, 2) := by decide +kernel
theorem d_X10_init_34 : decode cX10_init 34 = .ok (.putfield 27, 3) := by decide +kernel
theorem d_X10_init_37 : decode cX10_init 37 = .ok (.aload_n 0, 1) := by decide +kernel
theorem d_X10_init_38 : decode cX10_init 38 = .ok (.bipush 6, 2) := by decide +kernel
theorem d_X10_init_40 : decode cX10_init 40 = .ok (.newarray .int, 2) := by decide +kernel
theorem d_X10_init_42 : decode cX10_init 42 = .ok (.putfield 31, 3) := by decide +kernel
theorem d_X10_init_45 : decode cX10_init 45 = .ok (.aload_n 0, 1) := by decide +kernel
theorem d_X10_init_46 : decode cX10_init 46 = .ok (.bipush 24, 2) := by decide +kernel
theorem d_X10_init_48 : decode cX10_init 48 = .ok (.newarray .int, 2) := by decide +kernel
theorem d_X10_init_50 : decode cX10_init 50 = .ok (.putfield 34, 3) := by decide +kernel
theorem d_X10_init_53 : decode cX10_init 53 = .ok (.aload_n 0, 1) := by decide +kernel
theorem d_X10_init_54 : decode cX10_init 54 = .ok (.bipush 6, 2) := by decide +kernel
theorem d_X10_init_56 : decode cX10_init 56 = .ok (.newarray .int, 2) := by decide +kernel
theorem d_X10_init_58 : decode cX10_init 58 = .ok (.putfield 37, 3) := by decide +kernel
theorem d_X10_init_61 : decode cX10_init 61 = .ok (.aload_n 0, 1) := by decide +kernel
theorem d_X10_init_62 : decode cX10_init 62 = .ok (.bipush 6, 2) := by decide +kernel
theorem d_X10_init_64 : decode cX10_init 64 = .ok (.newarray .int, 2) := by decide +kernel
theorem d_X10_init_66 : decode cX10_init 66 = .ok (.putfield 40, 3) := by decide +kernel
theorem d_X10_init_69 : decode cX10_init 69 = .ok (.aload_n 0, 1) := by decide +kernel
theorem d_X10_init_70 : decode cX10_init 70 = .ok (.bipush 10, 2) := by decide +kernel
theorem d_X10_init_72 : decode cX10_init 72 = .ok (.newarray .int, 2) := by decide +kernel
theorem d_X10_init_74 : decode cX10_init 74 = .ok (.putfield 43, 3) := by decide +kernel
theorem d_X10_init_77 : decode cX10_init 77 = .ok (.aload_n 0, 1) := by decide +kernel
theorem d_X10_init_78 : decode cX10_init 78 = .ok (.new 46, 3) := by decide +kernel
theorem d_X10_init_81 : decode cX10_init 81 = .ok (.dup, 1) := by decide +kernel
theorem d_X10_init_82 : decode cX10_init 82 = .ok (.invokespecial 48, 3) := by decide +kernel
theorem d_X10_init_85 : decode cX10_init 85 = .ok (.putfield 49, 3) := by decide +kernel
theorem d_X10_init_88 : decode cX10_init 88 = .ok (.aload_n 0, 1) := by decide +kernel
theorem d_X10_init_89 : decode cX10_init 89 = .ok (.aconst_null, 1) := by decide +kernel
theorem d_X10_init_90 : decode cX10_init 90 = .ok (.putfield 53, 3) := by decide +kernel
theorem d_X10_init_93 : decode cX10_init 93 = .ok (.aload_n 0, 1) := by decide +kernel
theorem d_X10_init_94 : decode cX10_init 94 = .ok (.aconst_null, 1) := by decide +kernel
theorem d_X10_init_95 : decode cX10_init 95 = .ok (.putfield 57, 3) := by decide +kernel
theorem d_X10_init_98 : decode cX10_init 98 = .ok (.return_, 1) := by decide +kernel
def F_X10_init (x0 : Nat) (h : xH) : Option (Unit × xH × Nat × Nat) := (wI h x0 9 0 2).bind fun h6 => (wI h6 x0 9 1 0).bind fun h11 => (wI h11 x0 9 2 0).bind fun h16 => (wI h16 x0 9 3 0).bind fun h21 => (wI h21 x0 9 4 0).bind fun h26 => if ((54 : Int32)) < 0 ∨ 60000000 < ((54 : Int32)).toNatClampNeg then none else ((some (nW h26 0 ((54 : Int32)).toNatClampNeg)).bind fun h32 => (wQ h32 x0 9 5 ((some (h26).1))).bind fun h34 => if ((6 : Int32)) < 0 ∨ 60000000 < ((6 : Int32)).toNatClampNeg then none else ((some (nW h34 0 ((6 : Int32)).toNatClampNeg)).bind fun h40 => (wQ h40 x0 9 6 ((some (h34).1))).bind fun h42 => if ((24 : Int32)) < 0 ∨ 60000000 < ((24 : Int32)).toNatClampNeg then none else ((some (nW h42 0 ((24 : Int32)).toNatClampNeg)).bind fun h48 => (wQ h48 x0 9 7 ((some (h42).1))).bind fun h50 => if ((6 : Int32)) < 0 ∨ 60000000 < ((6 : Int32)).toNatClampNeg then none else ((some (nW h50 0 ((6 : Int32)).toNatClampNeg)).bind fun h56 => (wQ h56 x0 9 8 ((some (h50).1))).bind fun h58 => if ((6 : Int32)) < 0 ∨ 60000000 < ((6 : Int32)).toNatClampNeg then none else ((some (nW h58 0 ((6 : Int32)).toNatClampNeg)).bind fun h64 => (wQ h64 x0 9 9 ((some (h58).1))).bind fun h66 => if ((10 : Int32)) < 0 ∨ 60000000 < ((10 : Int32)).toNatClampNeg then none else ((some (nW h66 0 ((10 : Int32)).toNatClampNeg)).bind fun h72 => (wQ h72 x0 9 10 ((some (h66).1))).bind fun h74 => ((some (nO h74 5 [.null, .null, .null, .int 0, .int 0])).bind fun h78 => (F_X6_init ((h74).1) h78).bind fun z82 => ((wQ z82.2.1 x0 9 11 ((some (h74).1))).bind fun h85 => (wQ h85 x0 9 12 none).bind fun h90 => (wQ h90 x0 9 13 none).bind fun h95 => some ((), h95, 0, 0)).map (ac _ z82.2.2.1 z82.2.2.2)).map (ac _ 1 5)).map (ac _ 1 ((10 : Int32)).toNatClampNeg)).map (ac _ 1 ((6 : Int32)).toNatClampNeg)).map (ac _ 1 ((6 : Int32)).toNatClampNeg)).map (ac _ 1 ((24 : Int32)).toNatClampNeg)).map (ac _ 1 ((6 : Int32)).toNatClampNeg)).map (ac _ 1 ((54 : Int32)).toNatClampNeg)
theorem R_X10_init {Γ : xG} {l : Launch} {d : Nat} {r : Unit} {h' : xH} {mc ms : Nat} (x0 : Nat) (h : xH) (hdp : 2 ≤ d) (hF : F_X10_init x0 h = some (r, h', mc, ms)) : Gm Γ l d mc ms m_X10_init [.ref x0] h (fun a u => a = none ∧ u = h') := by
  refine Gm.of pn_X10 (Nat.le_of_ble_eq_true rfl) ?_
  show Gd Γ l d m_X10_init 0 [.ref x0] [] h mc ms _
  generalize hQ : (fun (a : Option Value) (u : xH) => a = none ∧ u = h') = Q
  have hq : Q (none) h' := by rw [← hQ]; exact ⟨rfl, rfl⟩
  clear hQ
  unfold F_X10_init at hF
  refine g_aloadn d_X10_init_0 rfl ?_
  refine q_oi d_X10_init_1 i_X10_3 (by omega) (Nat.le_of_ble_eq_true rfl) ?_
  refine g_aloadn d_X10_init_4 rfl ?_
  refine g_ic (2) d_X10_init_5 ic_2 ?_
  replace hF := Option.bind_eq_some_iff.mp hF
  obtain ⟨h6, e6, hF⟩ := hF
  refine q_wI d_X10_init_6 (w_X10_9 _) e6 ?_
  refine g_aloadn d_X10_init_9 rfl ?_
  refine g_ic (0) d_X10_init_10 ic_0 ?_
  replace hF := Option.bind_eq_some_iff.mp hF
  obtain ⟨h11, e11, hF⟩ := hF
  refine q_wI d_X10_init_11 (w_X10_15 _) e11 ?_
  refine g_aloadn d_X10_init_14 rfl ?_
  refine g_ic (0) d_X10_init_15 ic_0 ?_
  replace hF := Option.bind_eq_some_iff.mp hF
  obtain ⟨h16, e16, hF⟩ := hF
  refine q_wI d_X10_init_16 (w_X10_18 _) e16 ?_
  refine g_aloadn d_X10_init_19 rfl ?_
  refine g_ic (0) d_X10_init_20 ic_0 ?_
  replace hF := Option.bind_eq_some_iff.mp hF
  obtain ⟨h21, e21, hF⟩ := hF
  refine q_wI d_X10_init_21 (w_X10_21 _) e21 ?_
  refine g_aloadn d_X10_init_24 rfl ?_
  refine g_ic (0) d_X10_init_25 ic_0 ?_
  replace hF := Option.bind_eq_some_iff.mp hF
  obtain ⟨h26, e26, hF⟩ := hF
  refine q_wI d_X10_init_26 (w_X10_24 _) e26 ?_
  refine g_aloadn d_X10_init_29 rfl ?_
  refine g_bi (54) d_X10_init_30 bi_54 ?_
  replace hF := x_nz hF
  obtain ⟨n32, hF⟩ := hF
  replace hF := x_map hF
  obtain ⟨c32, s32, rfl, rfl, hF⟩ := hF
  refine q_newaI d_X10_init_32 n32 ?_
  replace hF := Option.bind_eq_some_iff.mp hF
  obtain ⟨h32, e32, hF⟩ := hF
  rw [Option.some.inj e32]
  replace hF := Option.bind_eq_some_iff.mp hF
  obtain ⟨h34, e34, hF⟩ := hF
  refine q_wR d_X10_init_34 w_X10_27 (Or.inr ⟨_, rfl⟩) e34 ?_
  refine g_aloadn d_X10_init_37 rfl ?_
  refine g_bi (6) d_X10_init_38 bi_6 ?_
  replace hF := x_nz hF
  obtain ⟨n40, hF⟩ := hF
  replace hF := x_map hF
  obtain ⟨c40, s40, rfl, rfl, hF⟩ := hF
  refine q_newaI d_X10_init_40 n40 ?_
  replace hF := Option.bind_eq_some_iff.mp hF
  obtain ⟨h40, e40, hF⟩ := hF
  rw [Option.some.inj e40]
  replace hF := Option.bind_eq_some_iff.mp hF
  obtain ⟨h42, e42, hF⟩ := hF
  refine q_wR d_X10_init_42 w_X10_31 (Or.inr ⟨_, rfl⟩) e42 ?_
  refine g_aloadn d_X10_init_45 rfl ?_
  refine g_bi (24) d_X10_init_46 bi_24 ?_
  replace hF := x_nz hF
  obtain ⟨n48, hF⟩ := hF
  replace hF := x_map hF
  obtain ⟨c48, s48, rfl, rfl, hF⟩ := hF
  refine q_newaI d_X10_init_48 n48 ?_
  replace hF := Option.bind_eq_some_iff.mp hF
  obtain ⟨h48, e48, hF⟩ := hF
  rw [Option.some.inj e48]
  replace hF := Option.bind_eq_some_iff.mp hF
  obtain ⟨h50, e50, hF⟩ := hF
  refine q_wR d_X10_init_50 w_X10_34 (Or.inr ⟨_, rfl⟩) e50 ?_
  refine g_aloadn d_X10_init_53 rfl ?_
  refine g_bi (6) d_X10_init_54 bi_6 ?_
  replace hF := x_nz hF
  obtain ⟨n56, hF⟩ := hF
  replace hF := x_map hF
  obtain ⟨c56, s56, rfl, rfl, hF⟩ := hF
  refine q_newaI d_X10_init_56 n56 ?_
  replace hF := Option.bind_eq_some_iff.mp hF
  obtain ⟨h56, e56, hF⟩ := hF
  rw [Option.some.inj e56]
  replace hF := Option.bind_eq_some_iff.mp hF
  obtain ⟨h58, e58, hF⟩ := hF
  refine q_wR d_X10_init_58 w_X10_37 (Or.inr ⟨_, rfl⟩) e58 ?_
  refine g_aloadn d_X10_init_61 rfl ?_
  refine g_bi (6) d_X10_init_62 bi_6 ?_
  replace hF := x_nz hF
  obtain ⟨n64, hF⟩ := hF
  replace hF := x_map hF
  obtain ⟨c64, s64, rfl, rfl, hF⟩ := hF
  refine q_newaI d_X10_init_64 n64 ?_
  replace hF := Option.bind_eq_some_iff.mp hF
  obtain ⟨h64, e64, hF⟩ := hF
  rw [Option.some.inj e64]
  replace hF := Option.bind_eq_some_iff.mp hF
  obtain ⟨h66, e66, hF⟩ := hF
  refine q_wR d_X10_init_66 w_X10_40 (Or.inr ⟨_, rfl⟩) e66 ?_
  refine g_aloadn d_X10_init_69 rfl ?_
  refine g_bi (10) d_X10_init_70 bi_10 ?_
  replace hF := x_nz hF
  obtain ⟨n72, hF⟩ := hF
  replace hF := x_map hF
  obtain ⟨c72, s72, rfl, rfl, hF⟩ := hF
  refine q_newaI d_X10_init_72 n72 ?_
  replace hF := Option.bind_eq_some_iff.mp hF
  obtain ⟨h72, e72, hF⟩ := hF
  rw [Option.some.inj e72]
  replace hF := Option.bind_eq_some_iff.mp hF
  obtain ⟨h74, e74, hF⟩ := hF
  refine q_wR d_X10_init_74 w_X10_43 (Or.inr ⟨_, rfl⟩) e74 ?_
  refine g_aloadn d_X10_init_77 rfl ?_
  replace hF := x_map hF
  obtain ⟨c78, s78, rfl, rfl, hF⟩ := hF
  refine q_new d_X10_init_78 n_X10_46 ?_
  replace hF := Option.bind_eq_some_iff.mp hF
  obtain ⟨h78, e78, hF⟩ := hF
  rw [Option.some.inj e78]
  refine g_dup d_X10_init_81 rfl ?_
  replace hF := Option.bind_eq_some_iff.mp hF
  obtain ⟨⟨r82, h82, mc82, ms82⟩, e82, hF⟩ := hF
  replace hF := x_map hF
  obtain ⟨c82, s82, rfl, rfl, hF⟩ := hF
  try dsimp only at hF
  refine q_callIa [] [.ref ((h74).1), .ref x0] rfl d_X10_init_82 i_X10_48 (by omega) rfl (Nat.le_of_ble_eq_true rfl) (R_X6_init _ _ (by omega) e82) ?_
  replace hF := Option.bind_eq_some_iff.mp hF
  obtain ⟨h85, e85, hF⟩ := hF
  refine q_wR d_X10_init_85 w_X10_49 (Or.inl ⟨_, rfl⟩) e85 ?_
  refine g_aloadn d_X10_init_88 rfl ?_
  refine g_null d_X10_init_89 ?_
  replace hF := Option.bind_eq_some_iff.mp hF
  obtain ⟨h90, e90, hF⟩ := hF
  refine q_wN d_X10_init_90 (w_X10_53 _) (Or.inl ⟨_, rfl⟩) e90 ?_
  refine g_aloadn d_X10_init_93 rfl ?_
  refine g_null d_X10_init_94 ?_
  replace hF := Option.bind_eq_some_iff.mp hF
  obtain ⟨h95, e95, hF⟩ := hF
  refine q_wN d_X10_init_95 (w_X10_57 _) (Or.inl ⟨_, rfl⟩) e95 ?_
  obtain ⟨rfl, rfl, rfl, rfl⟩ := x_inj4 hF
  exact g_vret d_X10_init_98 rfl hq
theorem d_X4_init_0 : decode cX4_init 0 = .ok (.aload_n 0, 1) := by decide +kernel
theorem d_X4_init_1 : decode cX4_init 1 = .ok (.invokespecial 3, 3) := by decide +kernel
theorem d_X4_init_4 : decode cX4_init 4 = .ok (.aload_n 0, 1) := by decide +kernel
theorem d_X4_init_5 : decode cX4_init 5 = .ok (.sipush 900, 3) := by decide +kernel
theorem d_X4_init_8 : decode cX4_init 8 = .ok (.newarray .char, 2) := by decide +kernel
theorem d_X4_init_10 : decode cX4_init 10 = .ok (.putfield 9, 3) := by decide +kernel
theorem d_X4_init_13 : decode cX4_init 13 = .ok (.aload_n 0, 1) := by decide +kernel
theorem d_X4_init_14 : decode cX4_init 14 = .ok (.iconst 0, 1) := by decide +kernel
theorem d_X4_init_15 : decode cX4_init 15 = .ok (.putfield 15, 3) := by decide +kernel
theorem d_X4_init_18 : decode cX4_init 18 = .ok (.aload_n 0, 1) := by decide +kernel
theorem d_X4_init_19 : decode cX4_init 19 = .ok (.sipush 900, 3) := by decide +kernel
theorem d_X4_init_22 : decode cX4_init 22 = .ok (.newarray .int, 2) := by decide +kernel
theorem d_X4_init_24 : decode cX4_init 24 = .ok (.putfield 19, 3) := by decide +kernel
theorem d_X4_init_27 : decode cX4_init 27 = .ok (.aload_n 0, 1) := by decide +kernel
theorem d_X4_init_28 : decode cX4_init 28 = .ok (.iconst 0, 1) := by decide +kernel
theorem d_X4_init_29 : decode cX4_init 29 = .ok (.putfield 23, 3) := by decide +kernel
theorem d_X4_init_32 : decode cX4_init 32 = .ok (.aload_n 0, 1) := by decide +kernel
theorem d_X4_init_33 : decode cX4_init 33 = .ok (.iconst 0, 1) := by decide +kernel
theorem d_X4_init_34 : decode cX4_init 34 = .ok (.putfield 26, 3) := by decide +kernel
theorem d_X4_init_37 : decode cX4_init 37 = .ok (.aload_n 0, 1) := by decide +kernel
theorem d_X4_init_38 : decode cX4_init 38 = .ok (.iconst 0, 1) := by decide +kernel
theorem d_X4_init_39 : decode cX4_init 39 = .ok (.putfield 29, 3) := by decide +kernel
theorem d_X4_init_42 : decode cX4_init 42 = .ok (.aload_n 0, 1) := by decide +kernel
theorem d_X4_init_43 : decode cX4_init 43 = .ok (.iconst 0, 1) := by decide +kernel
theorem d_X4_init_44 : decode cX4_init 44 = .ok (.putfield 32, 3) := by decide +kernel
theorem d_X4_init_47 : decode cX4_init 47 = .ok (.aload_n 0, 1) := by decide +kernel
theorem d_X4_init_48 : decode cX4_init 48 = .ok (.iconst 3, 1) := by decide +kernel
theorem d_X4_init_49 : decode cX4_init 49 = .ok (.putfield 35, 3) := by decide +kernel
theorem d_X4_init_52 : decode cX4_init 52 = .ok (.aload_n 0, 1) := by decide +kernel
theorem d_X4_init_53 : decode cX4_init 53 = .ok (.iconst 0, 1) := by decide +kernel
theorem d_X4_init_54 : decode cX4_init 54 = .ok (.putfield 38, 3) := by decide +kernel
theorem d_X4_init_57 : decode cX4_init 57 = .ok (.aload_n 0, 1) := by decide +kernel
theorem d_X4_init_58 : decode cX4_init 58 = .ok (.iconst 0, 1) := by decide +kernel
theorem d_X4_init_59 : decode cX4_init 59 = .ok (.putfield 41, 3) := by decide +kernel
theorem d_X4_init_62 : decode cX4_init 62 = .ok (.aload_n 0, 1) := by decide +kernel
theorem d_X4_init_63 : decode cX4_init 63 = .ok (.new 45, 3) := by decide +kernel
theorem d_X4_init_66 : decode cX4_init 66 = .ok (.dup, 1) := by decide +kernel
theorem d_X4_init_67 : decode cX4_init 67 = .ok (.invokespecial 47, 3) := by decide +kernel
theorem d_X4_init_70 : decode cX4_init 70 = .ok (.putfield 48, 3) := by decide +kernel
theorem d_X4_init_73 : decode cX4_init 73 = .ok (.aload_n 0, 1) := by decide +kernel
theorem d_X4_init_74 : decode cX4_init 74 = .ok (.iconst 0, 1) := by decide +kernel
theorem d_X4_init_75 : decode cX4_init 75 = .ok (.putfield 52, 3) := by decide +kernel
theorem d_X4_init_78 : decode cX4_init 78 = .ok (.aload_n 0, 1) := by decide +kernel
theorem d_X4_init_79 : decode cX4_init 79 = .ok (.iconst (-1), 1) := by decide +kernel
theorem d_X4_init_80 : decode cX4_init 80 = .ok (.putfield 55, 3) := by decide +kernel
theorem d_X4_init_83 : decode cX4_init 83 = .ok (.return_, 1) := by decide +kernel
def F_X4_init (x0 : Nat) (h : xH) : Option (Unit × xH × Nat × Nat) := if ((900 : Int32)) < 0 ∨ 60000000 < ((900 : Int32)).toNatClampNeg then none else ((some (nW h 2 ((900 : Int32)).toNatClampNeg)).bind fun h8 => (wQ h8 x0 3 0 ((some (h).1))).bind fun h10 => (wI h10 x0 3 1 0).bind fun h15 => if ((900 : Int32)) < 0 ∨ 60000000 < ((900 : Int32)).toNatClampNeg then none else ((some (nW h15 0 ((900 : Int32)).toNatClampNeg)).bind fun h22 => (wQ h22 x0 3 2 ((some (h15).1))).bind fun h24 => (wI h24 x0 3 3 0).bind fun h29 => (wI h29 x0 3 4 0).bind fun h34 => (wI h34 x0 3 5 0).bind fun h39 => (wI h39 x0 3 6 0).bind fun h44 => (wI h44 x0 3 7 3).bind fun h49 => (wI h49 x0 3 8 0).bind fun h54 => (wZ h54 x0 3 9 0).bind fun h59 => ((some (nO h59 9 [.int 0, .int 0, .int 0, .int 0, .int 0, .null, .null, .null, .null, .null, .null, .null, .null, .null])).bind fun h63 => (F_X10_init ((h59).1) h63).bind fun z67 => ((wQ z67.2.1 x0 3 10 ((some (h59).1))).bind fun h70 => (wI h70 x0 3 11 0).bind fun h75 => (wI h75 x0 3 12 ((-1))).bind fun h80 => some ((), h80, 0, 0)).map (ac _ z67.2.2.1 z67.2.2.2)).map (ac _ 1 14)).map (ac _ 1 ((900 : Int32)).toNatClampNeg)).map (ac _ 1 ((900 : Int32)).toNatClampNeg)
theorem R_X4_init {Γ : xG} {l : Launch} {d : Nat} {r : Unit} {h' : xH} {mc ms : Nat} (x0 : Nat) (h : xH) (hdp : 3 ≤ d) (hF : F_X4_init x0 h = some (r, h', mc, ms)) : Gm Γ l d mc ms m_X4_init [.ref x0] h (fun a u => a = none ∧ u = h') := by
  refine Gm.of pn_X4 (Nat.le_of_ble_eq_true rfl) ?_
  show Gd Γ l d m_X4_init 0 [.ref x0] [] h mc ms _
  generalize hQ : (fun (a : Option Value) (u : xH) => a = none ∧ u = h') = Q
  have hq : Q (none) h' := by rw [← hQ]; exact ⟨rfl, rfl⟩
  clear hQ
  unfold F_X4_init at hF
  refine g_aloadn d_X4_init_0 rfl ?_
  refine q_oi d_X4_init_1 i_X4_3 (by omega) (Nat.le_of_ble_eq_true rfl) ?_
  refine g_aloadn d_X4_init_4 rfl ?_
  refine g_si (900) d_X4_init_5 si_900 ?_
  replace hF := x_nz hF
  obtain ⟨n8, hF⟩ := hF
  replace hF := x_map hF
  obtain ⟨c8, s8, rfl, rfl, hF⟩ := hF
  refine q_newaC d_X4_init_8 n8 ?_
  replace hF := Option.bind_eq_some_iff.mp hF
  obtain ⟨h8, e8, hF⟩ := hF
  rw [Option.some.inj e8]
  replace hF := Option.bind_eq_some_iff.mp hF
  obtain ⟨h10, e10, hF⟩ := hF
  refine q_wR d_X4_init_10 w_X4_9 (Or.inr ⟨_, rfl⟩) e10 ?_
  refine g_aloadn d_X4_init_13 rfl ?_
  refine g_ic (0) d_X4_init_14 ic_0 ?_
  replace hF := Option.bind_eq_some_iff.mp hF
  obtain ⟨h15, e15, hF⟩ := hF
  refine q_wI d_X4_init_15 (w_X4_15 _) e15 ?_
  refine g_aloadn d_X4_init_18 rfl ?_
  refine g_si (900) d_X4_init_19 si_900 ?_
  replace hF := x_nz hF
  obtain ⟨n22, hF⟩ := hF
  replace hF := x_map hF
  obtain ⟨c22, s22, rfl, rfl, hF⟩ := hF
  refine q_newaI d_X4_init_22 n22 ?_
  replace hF := Option.bind_eq_some_iff.mp hF
  obtain ⟨h22, e22, hF⟩ := hF
  rw [Option.some.inj e22]
  replace hF := Option.bind_eq_some_iff.mp hF
  obtain ⟨h24, e24, hF⟩ := hF
  refine q_wR d_X4_init_24 w_X4_19 (Or.inr ⟨_, rfl⟩) e24 ?_
  refine g_aloadn d_X4_init_27 rfl ?_
  refine g_ic (0) d_X4_init_28 ic_0 ?_
  replace hF := Option.bind_eq_some_iff.mp hF
  obtain ⟨h29, e29, hF⟩ := hF
  refine q_wI d_X4_init_29 (w_X4_23 _) e29 ?_
  refine g_aloadn d_X4_init_32 rfl ?_
  refine g_ic (0) d_X4_init_33 ic_0 ?_
  replace hF := Option.bind_eq_some_iff.mp hF
  obtain ⟨h34, e34, hF⟩ := hF
  refine q_wI d_X4_init_34 (w_X4_26 _) e34 ?_
  refine g_aloadn d_X4_init_37 rfl ?_
  refine g_ic (0) d_X4_init_38 ic_0 ?_
  replace hF := Option.bind_eq_some_iff.mp hF
  obtain ⟨h39, e39, hF⟩ := hF
  refine q_wI d_X4_init_39 (w_X4_29 _) e39 ?_
  refine g_aloadn d_X4_init_42 rfl ?_
  refine g_ic (0) d_X4_init_43 ic_0 ?_
  replace hF := Option.bind_eq_some_iff.mp hF
  obtain ⟨h44, e44, hF⟩ := hF
  refine q_wI d_X4_init_44 (w_X4_32 _) e44 ?_
  refine g_aloadn d_X4_init_47 rfl ?_
  refine g_ic (3) d_X4_init_48 ic_3 ?_
  replace hF := Option.bind_eq_some_iff.mp hF
  obtain ⟨h49, e49, hF⟩ := hF
  refine q_wI d_X4_init_49 (w_X4_35 _) e49 ?_
  refine g_aloadn d_X4_init_52 rfl ?_
  refine g_ic (0) d_X4_init_53 ic_0 ?_
  replace hF := Option.bind_eq_some_iff.mp hF
  obtain ⟨h54, e54, hF⟩ := hF
  refine q_wI d_X4_init_54 (w_X4_38 _) e54 ?_
  refine g_aloadn d_X4_init_57 rfl ?_
  refine g_ic (0) d_X4_init_58 ic_0 ?_
  replace hF := Option.bind_eq_some_iff.mp hF
  obtain ⟨h59, e59, hF⟩ := hF
  refine q_wZ d_X4_init_59 (w_X4_41 _) e59 ?_
  refine g_aloadn d_X4_init_62 rfl ?_
  replace hF := x_map hF
  obtain ⟨c63, s63, rfl, rfl, hF⟩ := hF
  refine q_new d_X4_init_63 n_X4_45 ?_
  replace hF := Option.bind_eq_some_iff.mp hF
  obtain ⟨h63, e63, hF⟩ := hF
  rw [Option.some.inj e63]
  refine g_dup d_X4_init_66 rfl ?_
  replace hF := Option.bind_eq_some_iff.mp hF
  obtain ⟨⟨r67, h67, mc67, ms67⟩, e67, hF⟩ := hF
  replace hF := x_map hF
  obtain ⟨c67, s67, rfl, rfl, hF⟩ := hF
  try dsimp only at hF
  refine q_callIa [] [.ref ((h59).1), .ref x0] rfl d_X4_init_67 i_X4_47 (by omega) rfl (Nat.le_of_ble_eq_true rfl) (R_X10_init _ _ (by omega) e67) ?_
  replace hF := Option.bind_eq_some_iff.mp hF
  obtain ⟨h70, e70, hF⟩ := hF
  refine q_wR d_X4_init_70 (w_X4_48 _) (Or.inl ⟨_, rfl⟩) e70 ?_
  refine g_aloadn d_X4_init_73 rfl ?_
  refine g_ic (0) d_X4_init_74 ic_0 ?_
  replace hF := Option.bind_eq_some_iff.mp hF
  obtain ⟨h75, e75, hF⟩ := hF
  refine q_wI d_X4_init_75 (w_X4_52 _) e75 ?_
  refine g_aloadn d_X4_init_78 rfl ?_
  refine g_ic (-1) d_X4_init_79 ic_m1 ?_
  replace hF := Option.bind_eq_some_iff.mp hF
  obtain ⟨h80, e80, hF⟩ := hF
  refine q_wI d_X4_init_80 (w_X4_55 _) e80 ?_
  obtain ⟨rfl, rfl, rfl, rfl⟩ := x_inj4 hF
  exact g_vret d_X4_init_83 rfl hq
theorem d_J7_copyOf_59c91_0 : decode cJ7_copyOf_59c91 0 = .ok (.iload_n 1, 1) := by decide +kernel
theorem d_J7_copyOf_59c91_1 : decode cJ7_copyOf_59c91 1 = .ok (.aload_n 0, 1) := by decide +kernel
theorem d_J7_copyOf_59c91_2 : decode cJ7_copyOf_59c91 2 = .ok (.arraylength, 1) := by decide +kernel
theorem d_J7_copyOf_59c91_3 : decode cJ7_copyOf_59c91 3 = .ok (.if_icmp .ne 11, 3) := by decide +kernel
theorem d_J7_copyOf_59c91_6 : decode cJ7_copyOf_59c91 6 = .ok (.aload_n 0, 1) := by decide +kernel
theorem d_J7_copyOf_59c91_14 : decode cJ7_copyOf_59c91 14 = .ok (.iload_n 1, 1) := by decide +kernel
theorem d_J7_copyOf_59c91_15 : decode cJ7_copyOf_59c91 15 = .ok (.newarray .int, 2) := by decide +kernel
theorem d_J7_copyOf_59c91_17 : decode cJ7_copyOf_59c91 17 = .ok (.astore_n 2, 1) := by decide +kernel
theorem d_J7_copyOf_59c91_18 : decode cJ7_copyOf_59c91 18 = .ok (.aload_n 0, 1) := by decide +kernel
theorem d_J7_copyOf_59c91_19 : decode cJ7_copyOf_59c91 19 = .ok (.iconst 0, 1) := by decide +kernel
theorem d_J7_copyOf_59c91_20 : decode cJ7_copyOf_59c91 20 = .ok (.aload_n 2, 1) := by decide +kernel
theorem d_J7_copyOf_59c91_21 : decode cJ7_copyOf_59c91 21 = .ok (.iconst 0, 1) := by decide +kernel
theorem d_J7_copyOf_59c91_22 : decode cJ7_copyOf_59c91 22 = .ok (.aload_n 0, 1) := by decide +kernel
theorem d_J7_copyOf_59c91_23 : decode cJ7_copyOf_59c91 23 = .ok (.arraylength, 1) := by decide +kernel
theorem d_J7_copyOf_59c91_24 : decode cJ7_copyOf_59c91 24 = .ok (.iload_n 1, 1) := by decide +kernel
theorem d_J7_copyOf_59c91_25 : decode cJ7_copyOf_59c91 25 = .ok (.invokestatic 304, 3) := by decide +kernel
theorem d_J7_copyOf_59c91_28 : decode cJ7_copyOf_59c91 28 = .ok (.invokestatic 150, 3) := by decide +kernel
theorem d_J7_copyOf_59c91_31 : decode cJ7_copyOf_59c91 31 = .ok (.aload_n 2, 1) := by decide +kernel
theorem d_J7_copyOf_59c91_32 : decode cJ7_copyOf_59c91 32 = .ok (.areturn, 1) := by decide +kernel
def F_J7_copyOf_59c91 (x0 : Nat) (x1 : Int32) (h : xH) : Option (Nat × xH × Nat × Nat) := (al h x0).bind fun v2 => if ¬ x1 = v2 then if x1 < 0 ∨ 60000000 < x1.toNatClampNeg then none else ((some (nW h 0 x1.toNatClampNeg)).bind fun h15 => (al h15 x0).bind fun v23 => (F_J9_min_7cf53 v23 x1 h15).bind fun z25 => (cpI z25.2 x0 0 ((h).1) 0 z25.1).bind fun h28 => some ((h).1, h28, 0, 0)).map (ac _ 1 x1.toNatClampNeg) else none
theorem R_J7_copyOf_59c91 {Γ : xG} {l : Launch} {d : Nat} {r : Nat} {h' : xH} {mc ms : Nat} (x0 : Nat) (x1 : Int32) (h : xH) (hdp : 1 ≤ d) (hF : F_J7_copyOf_59c91 x0 x1 h = some (r, h', mc, ms)) : Gm Γ l d mc ms m_J7_copyOf_59c91 [.ref x0, .int x1] h (fun a u => a = some (.ref r) ∧ u = h') := by
  refine Gm.of pn_J7 (Nat.le_of_ble_eq_true rfl) ?_
  show Gd Γ l d m_J7_copyOf_59c91 0 [.ref x0, .int x1, xhole] [] h mc ms _
  generalize hQ : (fun (a : Option Value) (u : xH) => a = some (.ref r) ∧ u = h') = Q
  have hq : Q (some (.ref r)) h' := by rw [← hQ]; exact ⟨rfl, rfl⟩
  clear hQ
  unfold F_J7_copyOf_59c91 at hF
  refine g_iloadn d_J7_copyOf_59c91_0 rfl ?_
  refine g_aloadn d_J7_copyOf_59c91_1 rfl ?_
  replace hF := Option.bind_eq_some_iff.mp hF
  obtain ⟨v2, e2, hF⟩ := hF
  refine q_al d_J7_copyOf_59c91_2 e2 ?_
  refine g_icmp_ne 14 d_J7_copyOf_59c91_3 rfl (fun c3 => ?_) (fun c3 => ?_)
  · replace hF := x_t hF c3
    refine g_iloadn d_J7_copyOf_59c91_14 rfl ?_
    replace hF := x_nz hF
    obtain ⟨n15, hF⟩ := hF
    replace hF := x_map hF
    obtain ⟨c15, s15, rfl, rfl, hF⟩ := hF
    refine q_newaI d_J7_copyOf_59c91_15 n15 ?_
    replace hF := Option.bind_eq_some_iff.mp hF
    obtain ⟨h15, e15, hF⟩ := hF
    rw [Option.some.inj e15]
    refine q_astoren [.ref x0, .int x1, .ref ((h).1)] d_J7_copyOf_59c91_17 (by decide) rfl ?_
    refine g_aloadn d_J7_copyOf_59c91_18 rfl ?_
    refine g_ic (0) d_J7_copyOf_59c91_19 ic_0 ?_
    refine g_aloadn d_J7_copyOf_59c91_20 rfl ?_
    refine g_ic (0) d_J7_copyOf_59c91_21 ic_0 ?_
    refine g_aloadn d_J7_copyOf_59c91_22 rfl ?_
    replace hF := Option.bind_eq_some_iff.mp hF
    obtain ⟨v23, e23, hF⟩ := hF
    refine q_al d_J7_copyOf_59c91_23 e23 ?_
    refine g_iloadn d_J7_copyOf_59c91_24 rfl ?_
    replace hF := Option.bind_eq_some_iff.mp hF
    obtain ⟨⟨r25, h25⟩, e25, hF⟩ := hF
    try dsimp only at hF
    refine q_callS [.int v23, .int x1] [.int 0, .ref ((h).1), .int 0, .ref x0] rfl d_J7_copyOf_59c91_25 s_J7_304 (by omega) rfl (Nat.le_of_ble_eq_true rfl) (R_J9_min_7cf53 _ _ _ (by omega) e25) ?_
    replace hF := Option.bind_eq_some_iff.mp hF
    obtain ⟨h28, e28, hF⟩ := hF
    refine q_cpI d_J7_copyOf_59c91_28 ay_J7_150 (by omega) (Nat.le_of_ble_eq_true rfl) e28 ?_
    refine g_aloadn d_J7_copyOf_59c91_31 rfl ?_
    obtain ⟨rfl, rfl, rfl, rfl⟩ := x_inj4 hF
    exact g_aret d_J7_copyOf_59c91_32 rfl (Or.inr ⟨_, rfl⟩) hq
  · replace hF := x_f hF (not_not_intro c3)
    refine g_aloadn d_J7_copyOf_59c91_6 rfl ?_
    cases hF
theorem d_X4_readLine_0 : decode cX4_readLine 0 = .ok (.aload_n 0, 1) := by decide +kernel
theorem d_X4_readLine_1 : decode cX4_readLine 1 = .ok (.ldc 123, 2) := by decide +kernel
theorem d_X4_readLine_3 : decode cX4_readLine 3 = .ok (.invokevirtual 102, 3) := by decide +kernel
theorem d_X4_readLine_6 : decode cX4_readLine 6 = .ok (.ifCond .eq 10, 3) := by decide +kernel
theorem d_X4_readLine_9 : decode cX4_readLine 9 = .ok (.aload_n 0, 1) := by decide +kernel
theorem d_X4_readLine_10 : decode cX4_readLine 10 = .ok (.invokevirtual 125, 3) := by decide +kernel
theorem d_X4_readLine_13 : decode cX4_readLine 13 = .ok (.goto 152, 3) := by decide +kernel
theorem d_X4_readLine_16 : decode cX4_readLine 16 = .ok (.aload_n 0, 1) := by decide +kernel
theorem d_X4_readLine_17 : decode cX4_readLine 17 = .ok (.ldc 128, 2) := by decide +kernel
theorem d_X4_readLine_19 : decode cX4_readLine 19 = .ok (.invokevirtual 102, 3) := by decide +kernel
theorem d_X4_readLine_22 : decode cX4_readLine 22 = .ok (.ifCond .eq 10, 3) := by decide +kernel
theorem d_X4_readLine_25 : decode cX4_readLine 25 = .ok (.aload_n 0, 1) := by decide +kernel
theorem d_X4_readLine_26 : decode cX4_readLine 26 = .ok (.invokevirtual 130, 3) := by decide +kernel
theorem d_X4_readLine_29 : decode cX4_readLine 29 = .ok (.goto 136, 3) := by decide +kernel
theorem d_X4_readLine_32 : decode cX4_readLine 32 = .ok (.aload_n 0, 1) := by decide +kernel
theorem d_X4_readLine_33 : decode cX4_readLine 33 = .ok (.ldc 133, 2) := by decide +kernel
theorem d_X4_readLine_35 : decode cX4_readLine 35 = .ok (.invokevirtual 102, 3) := by decide +kernel
theorem d_X4_readLine_38 : decode cX4_readLine 38 = .ok (.ifCond .eq 10, 3) := by decide +kernel
theorem d_X4_readLine_41 : decode cX4_readLine 41 = .ok (.aload_n 0, 1) := by decide +kernel
theorem d_X4_readLine_42 : decode cX4_readLine 42 = .ok (.invokevirtual 135, 3) := by decide +kernel
theorem d_X4_readLine_45 : decode cX4_readLine 45 = .ok (.goto 120, 3) := by decide +kernel
theorem d_X4_readLine_48 : decode cX4_readLine 48 = .ok (.aload_n 0, 1) := by decide +kernel
theorem d_X4_readLine_49 : decode cX4_readLine 49 = .ok (.ldc 138, 2) := by decide +kernel
theorem d_X4_readLine_51 : decode cX4_readLine 51 = .ok (.invokevirtual 102, 3) := by decide +kernel
theorem d_X4_readLine_54 : decode cX4_readLine 54 = .ok (.ifCond .eq 10, 3) := by decide +kernel
theorem d_X4_readLine_57 : decode cX4_readLine 57 = .ok (.aload_n 0, 1) := by decide +kernel
theorem d_X4_readLine_58 : decode cX4_readLine 58 = .ok (.invokevirtual 140, 3) := by decide +kernel
theorem d_X4_readLine_61 : decode cX4_readLine 61 = .ok (.goto 104, 3) := by decide +kernel
theorem d_X4_readLine_64 : decode cX4_readLine 64 = .ok (.aload_n 0, 1) := by decide +kernel
theorem d_X4_readLine_65 : decode cX4_readLine 65 = .ok (.ldc 143, 2) := by decide +kernel
theorem d_X4_readLine_67 : decode cX4_readLine 67 = .ok (.invokevirtual 102, 3) := by decide +kernel
theorem d_X4_readLine_70 : decode cX4_readLine 70 = .ok (.ifCond .eq 42, 3) := by decide +kernel
theorem d_X4_readLine_73 : decode cX4_readLine 73 = .ok (.aload_n 0, 1) := by decide +kernel
theorem d_X4_readLine_74 : decode cX4_readLine 74 = .ok (.iconst 1, 1) := by decide +kernel
theorem d_X4_readLine_75 : decode cX4_readLine 75 = .ok (.invokevirtual 145, 3) := by decide +kernel
theorem d_X4_readLine_78 : decode cX4_readLine 78 = .ok (.aload_n 0, 1) := by decide +kernel
theorem d_X4_readLine_79 : decode cX4_readLine 79 = .ok (.iconst 0, 1) := by decide +kernel
theorem d_X4_readLine_80 : decode cX4_readLine 80 = .ok (.iconst 0, 1) := by decide +kernel
theorem d_X4_readLine_81 : decode cX4_readLine 81 = .ok (.invokevirtual 149, 3) := by decide +kernel
theorem d_X4_readLine_84 : decode cX4_readLine 84 = .ok (.aload_n 0, 1) := by decide +kernel
theorem d_X4_readLine_85 : decode cX4_readLine 85 = .ok (.getfield 48, 3) := by decide +kernel
theorem d_X4_readLine_88 : decode cX4_readLine 88 = .ok (.new 153, 3) := by decide +kernel
theorem d_X4_readLine_91 : decode cX4_readLine 91 = .ok (.dup, 1) := by decide +kernel
theorem d_X4_readLine_92 : decode cX4_readLine 92 = .ok (.aload_n 0, 1) := by decide +kernel
theorem d_X4_readLine_93 : decode cX4_readLine 93 = .ok (.getfield 19, 3) := by decide +kernel
theorem d_X4_readLine_96 : decode cX4_readLine 96 = .ok (.aload_n 0, 1) := by decide +kernel
theorem d_X4_readLine_97 : decode cX4_readLine 97 = .ok (.getfield 23, 3) := by decide +kernel
theorem d_X4_readLine_100 : decode cX4_readLine 100 = .ok (.invokestatic 155, 3) := by decide +kernel
theorem d_X4_readLine_103 : decode cX4_readLine 103 = .ok (.invokespecial 161, 3) := by decide +kernel
theorem d_X4_readLine_106 : decode cX4_readLine 106 = .ok (.putfield 164, 3) := by decide +kernel
theorem d_X4_readLine_109 : decode cX4_readLine 109 = .ok (.goto 56, 3) := by decide +kernel
theorem d_X4_readLine_112 : decode cX4_readLine 112 = .ok (.aload_n 0, 1) := by decide +kernel
theorem d_X4_readLine_113 : decode cX4_readLine 113 = .ok (.ldc 168, 2) := by decide +kernel
theorem d_X4_readLine_115 : decode cX4_readLine 115 = .ok (.invokevirtual 102, 3) := by decide +kernel
theorem d_X4_readLine_118 : decode cX4_readLine 118 = .ok (.ifCond .eq 42, 3) := by decide +kernel
theorem d_X4_readLine_121 : decode cX4_readLine 121 = .ok (.aload_n 0, 1) := by decide +kernel
theorem d_X4_readLine_122 : decode cX4_readLine 122 = .ok (.iconst 0, 1) := by decide +kernel
theorem d_X4_readLine_123 : decode cX4_readLine 123 = .ok (.invokevirtual 145, 3) := by decide +kernel
theorem d_X4_readLine_126 : decode cX4_readLine 126 = .ok (.aload_n 0, 1) := by decide +kernel
theorem d_X4_readLine_127 : decode cX4_readLine 127 = .ok (.iconst 0, 1) := by decide +kernel
theorem d_X4_readLine_128 : decode cX4_readLine 128 = .ok (.iconst 0, 1) := by decide +kernel
theorem d_X4_readLine_129 : decode cX4_readLine 129 = .ok (.invokevirtual 149, 3) := by decide +kernel
theorem d_X4_readLine_132 : decode cX4_readLine 132 = .ok (.aload_n 0, 1) := by decide +kernel
theorem d_X4_readLine_133 : decode cX4_readLine 133 = .ok (.getfield 48, 3) := by decide +kernel
theorem d_X4_readLine_136 : decode cX4_readLine 136 = .ok (.new 153, 3) := by decide +kernel
theorem d_X4_readLine_139 : decode cX4_readLine 139 = .ok (.dup, 1) := by decide +kernel
theorem d_X4_readLine_140 : decode cX4_readLine 140 = .ok (.aload_n 0, 1) := by decide +kernel
theorem d_X4_readLine_141 : decode cX4_readLine 141 = .ok (.getfield 19, 3) := by decide +kernel
theorem d_X4_readLine_144 : decode cX4_readLine 144 = .ok (.aload_n 0, 1) := by decide +kernel
theorem d_X4_readLine_145 : decode cX4_readLine 145 = .ok (.getfield 23, 3) := by decide +kernel
theorem d_X4_readLine_148 : decode cX4_readLine 148 = .ok (.invokestatic 155, 3) := by decide +kernel
theorem d_X4_readLine_151 : decode cX4_readLine 151 = .ok (.invokespecial 161, 3) := by decide +kernel
theorem d_X4_readLine_154 : decode cX4_readLine 154 = .ok (.putfield 170, 3) := by decide +kernel
theorem d_X4_readLine_157 : decode cX4_readLine 157 = .ok (.goto 8, 3) := by decide +kernel
theorem d_X4_readLine_160 : decode cX4_readLine 160 = .ok (.aload_n 0, 1) := by decide +kernel
theorem d_X4_readLine_161 : decode cX4_readLine 161 = .ok (.iconst 2, 1) := by decide +kernel
theorem d_X4_readLine_162 : decode cX4_readLine 162 = .ok (.invokevirtual 91, 3) := by decide +kernel
theorem d_X4_readLine_165 : decode cX4_readLine 165 = .ok (.aload_n 0, 1) := by decide +kernel
theorem d_X4_readLine_166 : decode cX4_readLine 166 = .ok (.ldc 118, 2) := by decide +kernel
theorem d_X4_readLine_168 : decode cX4_readLine 168 = .ok (.invokevirtual 108, 3) := by decide +kernel
theorem d_X4_readLine_171 : decode cX4_readLine 171 = .ok (.aload_n 0, 1) := by decide +kernel
theorem d_X4_readLine_172 : decode cX4_readLine 172 = .ok (.getfield 48, 3) := by decide +kernel
theorem d_X4_readLine_175 : decode cX4_readLine 175 = .ok (.dup, 1) := by decide +kernel
theorem d_X4_readLine_176 : decode cX4_readLine 176 = .ok (.getfield 120, 3) := by decide +kernel
theorem d_X4_readLine_179 : decode cX4_readLine 179 = .ok (.iconst 1, 1) := by decide +kernel
theorem d_X4_readLine_180 : decode cX4_readLine 180 = .ok (.iadd, 1) := by decide +kernel
theorem d_X4_readLine_181 : decode cX4_readLine 181 = .ok (.putfield 120, 3) := by decide +kernel
theorem d_X4_readLine_184 : decode cX4_readLine 184 = .ok (.return_, 1) := by decide +kernel
def F_X4_readLine_b165 (x0 : Nat) (h : xH) : Option (Unit × xH × Nat × Nat) := (rc h x0 3).bind fun _ => (F_X4_pass x0 4 h).bind fun z168 => (fR z168.2 x0 3 10).bind fun v172 => (fI z168.2 v172 9 1).bind fun v176 => (wI z168.2 v172 9 1 (v176 + 1)).bind fun h181 => some ((), h181, 0, 0)
theorem R_X4_readLine_b165 {Γ : xG} {l : Launch} {d : Nat} {Q : Option Value → xH → Prop} {r : Unit} {h' : xH} (hdp : 211 ≤ d) (hq : Q (none) h') : ∀ (x0 : Nat) (h : xH) (mc ms : Nat), F_X4_readLine_b165 x0 h = some (r, h', mc, ms) → Gd Γ l d m_X4_readLine 165 [.ref x0] [] h mc ms Q := by
  intro x0 h mc ms hF
  unfold F_X4_readLine_b165 at hF
  refine g_aloadn d_X4_readLine_165 rfl ?_
  refine g_ldcS (i := 2) d_X4_readLine_166 rfl ?_
  replace hF := Option.bind_eq_some_iff.mp hF
  obtain ⟨_, g168, hF⟩ := hF
  replace hF := Option.bind_eq_some_iff.mp hF
  obtain ⟨⟨r168, h168⟩, e168, hF⟩ := hF
  try dsimp only at hF
  refine q_callV [.ref 4] [] rfl d_X4_readLine_168 v_X4_108 (by omega) rfl (Nat.le_of_ble_eq_true rfl) (rc_rc g168 (by decide) rfl) (R_X4_pass _ _ _ (by omega) e168) ?_
  refine g_aloadn d_X4_readLine_171 rfl ?_
  replace hF := Option.bind_eq_some_iff.mp hF
  obtain ⟨v172, e172, hF⟩ := hF
  refine q_fR d_X4_readLine_172 f_X4_48 e172 ?_
  refine g_dup d_X4_readLine_175 rfl ?_
  replace hF := Option.bind_eq_some_iff.mp hF
  obtain ⟨v176, e176, hF⟩ := hF
  refine q_fI d_X4_readLine_176 f_X4_120 e176 ?_
  refine g_ic (1) d_X4_readLine_179 ic_1 ?_
  refine g_iadd d_X4_readLine_180 ?_
  replace hF := Option.bind_eq_some_iff.mp hF
  obtain ⟨h181, e181, hF⟩ := hF
  refine q_wI d_X4_readLine_181 (w_X4_120 _) e181 ?_
  obtain ⟨rfl, rfl, rfl, rfl⟩ := x_inj4 hF
  exact g_vret d_X4_readLine_184 rfl hq
def F_X4_readLine (x0 : Nat) (h : xH) : Option (Unit × xH × Nat × Nat) := (rc h x0 3).bind fun _ => (F_X4_isAt x0 6 h).bind fun z3 => if z3.1 = 0 then (rc z3.2 x0 3).bind fun _ => (F_X4_isAt x0 8 z3.2).bind fun z19 => if z19.1 = 0 then (rc z19.2 x0 3).bind fun _ => (F_X4_isAt x0 10 z19.2).bind fun z35 => if z35.1 = 0 then (rc z35.2 x0 3).bind fun _ => (F_X4_isAt x0 12 z35.2).bind fun z51 => if z51.1 = 0 then (rc z51.2 x0 3).bind fun _ => (F_X4_isAt x0 22 z51.2).bind fun z67 => if z67.1 = 0 then (rc z67.2 x0 3).bind fun _ => (F_X4_isAt x0 62 z67.2).bind fun z115 => if z115.1 = 0 then (rc z115.2 x0 3).bind fun _ => (F_X4_fail x0 2 z115.2).bind fun z162 => F_X4_readLine_b165 x0 z162.2 else (rc z115.2 x0 3).bind fun _ => (F_X4_beginLaw x0 0 z115.2).bind fun z123 => (rc z123.2 x0 3).bind fun _ => (C_X4_readTruth 100 x0 0 0 z123.2).bind fun z129 => (fR z129.2 x0 3 10).bind fun v133 => ((some (nO z129.2 2 [.null, .null, .null])).bind fun h136 => (fR h136 x0 3 2).bind fun v141 => (fI h136 x0 3 3).bind fun v145 => (F_J7_copyOf_59c91 v141 v145 h136).bind fun z148 => ((F_X3_init ((z129.2).1) z148.1 z148.2.1).bind fun z151 => ((wQ z151.2.1 v133 9 13 ((some (z129.2).1))).bind fun h154 => F_X4_readLine_b165 x0 h154).map (ac _ z151.2.2.1 z151.2.2.2)).map (ac _ z148.2.2.1 z148.2.2.2)).map (ac _ 1 3) else (rc z67.2 x0 3).bind fun _ => (F_X4_beginLaw x0 1 z67.2).bind fun z75 => (rc z75.2 x0 3).bind fun _ => (C_X4_readTruth 100 x0 0 0 z75.2).bind fun z81 => (fR z81.2 x0 3 10).bind fun v85 => ((some (nO z81.2 2 [.null, .null, .null])).bind fun h88 => (fR h88 x0 3 2).bind fun v93 => (fI h88 x0 3 3).bind fun v97 => (F_J7_copyOf_59c91 v93 v97 h88).bind fun z100 => ((F_X3_init ((z81.2).1) z100.1 z100.2.1).bind fun z103 => ((wQ z103.2.1 v85 9 12 ((some (z81.2).1))).bind fun h106 => F_X4_readLine_b165 x0 h106).map (ac _ z103.2.2.1 z103.2.2.2)).map (ac _ z100.2.2.1 z100.2.2.2)).map (ac _ 1 3) else (rc z51.2 x0 3).bind fun _ => (F_X4_readPerson x0 z51.2).bind fun z58 => F_X4_readLine_b165 x0 z58.2 else (rc z35.2 x0 3).bind fun _ => (F_X4_readWay x0 z35.2).bind fun z42 => F_X4_readLine_b165 x0 z42.2 else (rc z19.2 x0 3).bind fun _ => (F_X4_readPlace x0 z19.2).bind fun z26 => F_X4_readLine_b165 x0 z26.2 else (rc z3.2 x0 3).bind fun _ => (F_X4_readTune x0 z3.2).bind fun z10 => F_X4_readLine_b165 x0 z10.2
theorem R_X4_readLine {Γ : xG} {l : Launch} {d : Nat} {r : Unit} {h' : xH} {mc ms : Nat} (x0 : Nat) (h : xH) (hdp : 211 ≤ d) (hF : F_X4_readLine x0 h = some (r, h', mc, ms)) : Gm Γ l d mc ms m_X4_readLine [.ref x0] h (fun a u => a = none ∧ u = h') := by
  refine Gm.of pn_X4 (Nat.le_of_ble_eq_true rfl) ?_
  show Gd Γ l d m_X4_readLine 0 [.ref x0] [] h mc ms _
  generalize hQ : (fun (a : Option Value) (u : xH) => a = none ∧ u = h') = Q
  have hq : Q (none) h' := by rw [← hQ]; exact ⟨rfl, rfl⟩
  clear hQ
  unfold F_X4_readLine at hF
  refine g_aloadn d_X4_readLine_0 rfl ?_
  refine g_ldcS (i := 3) d_X4_readLine_1 rfl ?_
  replace hF := Option.bind_eq_some_iff.mp hF
  obtain ⟨_, g3, hF⟩ := hF
  replace hF := Option.bind_eq_some_iff.mp hF
  obtain ⟨⟨r3, h3⟩, e3, hF⟩ := hF
  try dsimp only at hF
  refine q_callV [.ref 6] [] rfl d_X4_readLine_3 v_X4_102 (by omega) rfl (Nat.le_of_ble_eq_true rfl) (rc_rc g3 (by decide) rfl) (R_X4_isAt _ _ _ (by omega) e3) ?_
  refine g_if_eq 16 d_X4_readLine_6 rfl (fun c6 => ?_) (fun c6 => ?_)
  · replace hF := x_t hF c6
    refine g_aloadn d_X4_readLine_16 rfl ?_
    refine g_ldcS (i := 4) d_X4_readLine_17 rfl ?_
    replace hF := Option.bind_eq_some_iff.mp hF
    obtain ⟨_, g19, hF⟩ := hF
    replace hF := Option.bind_eq_some_iff.mp hF
    obtain ⟨⟨r19, h19⟩, e19, hF⟩ := hF
    try dsimp only at hF
    refine q_callV [.ref 8] [] rfl d_X4_readLine_19 v_X4_102 (by omega) rfl (Nat.le_of_ble_eq_true rfl) (rc_rc g19 (by decide) rfl) (R_X4_isAt _ _ _ (by omega) e19) ?_
    refine g_if_eq 32 d_X4_readLine_22 rfl (fun c22 => ?_) (fun c22 => ?_)
    · replace hF := x_t hF c22
      refine g_aloadn d_X4_readLine_32 rfl ?_
      refine g_ldcS (i := 5) d_X4_readLine_33 rfl ?_
      replace hF := Option.bind_eq_some_iff.mp hF
      obtain ⟨_, g35, hF⟩ := hF
      replace hF := Option.bind_eq_some_iff.mp hF
      obtain ⟨⟨r35, h35⟩, e35, hF⟩ := hF
      try dsimp only at hF
      refine q_callV [.ref 10] [] rfl d_X4_readLine_35 v_X4_102 (by omega) rfl (Nat.le_of_ble_eq_true rfl) (rc_rc g35 (by decide) rfl) (R_X4_isAt _ _ _ (by omega) e35) ?_
      refine g_if_eq 48 d_X4_readLine_38 rfl (fun c38 => ?_) (fun c38 => ?_)
      · replace hF := x_t hF c38
        refine g_aloadn d_X4_readLine_48 rfl ?_
        refine g_ldcS (i := 6) d_X4_readLine_49 rfl ?_
        replace hF := Option.bind_eq_some_iff.mp hF
        obtain ⟨_, g51, hF⟩ := hF
        replace hF := Option.bind_eq_some_iff.mp hF
        obtain ⟨⟨r51, h51⟩, e51, hF⟩ := hF
        try dsimp only at hF
        refine q_callV [.ref 12] [] rfl d_X4_readLine_51 v_X4_102 (by omega) rfl (Nat.le_of_ble_eq_true rfl) (rc_rc g51 (by decide) rfl) (R_X4_isAt _ _ _ (by omega) e51) ?_
        refine g_if_eq 64 d_X4_readLine_54 rfl (fun c54 => ?_) (fun c54 => ?_)
        · replace hF := x_t hF c54
          refine g_aloadn d_X4_readLine_64 rfl ?_
          refine g_ldcS (i := 11) d_X4_readLine_65 rfl ?_
          replace hF := Option.bind_eq_some_iff.mp hF
          obtain ⟨_, g67, hF⟩ := hF
          replace hF := Option.bind_eq_some_iff.mp hF
          obtain ⟨⟨r67, h67⟩, e67, hF⟩ := hF
          try dsimp only at hF
          refine q_callV [.ref 22] [] rfl d_X4_readLine_67 v_X4_102 (by omega) rfl (Nat.le_of_ble_eq_true rfl) (rc_rc g67 (by decide) rfl) (R_X4_isAt _ _ _ (by omega) e67) ?_
          refine g_if_eq 112 d_X4_readLine_70 rfl (fun c70 => ?_) (fun c70 => ?_)
          · replace hF := x_t hF c70
            refine g_aloadn d_X4_readLine_112 rfl ?_
            refine g_ldcS (i := 31) d_X4_readLine_113 rfl ?_
            replace hF := Option.bind_eq_some_iff.mp hF
            obtain ⟨_, g115, hF⟩ := hF
            replace hF := Option.bind_eq_some_iff.mp hF
            obtain ⟨⟨r115, h115⟩, e115, hF⟩ := hF
            try dsimp only at hF
            refine q_callV [.ref 62] [] rfl d_X4_readLine_115 v_X4_102 (by omega) rfl (Nat.le_of_ble_eq_true rfl) (rc_rc g115 (by decide) rfl) (R_X4_isAt _ _ _ (by omega) e115) ?_
            refine g_if_eq 160 d_X4_readLine_118 rfl (fun c118 => ?_) (fun c118 => ?_)
            · replace hF := x_t hF c118
              refine g_aloadn d_X4_readLine_160 rfl ?_
              refine g_ic (2) d_X4_readLine_161 ic_2 ?_
              replace hF := Option.bind_eq_some_iff.mp hF
              obtain ⟨_, g162, hF⟩ := hF
              replace hF := Option.bind_eq_some_iff.mp hF
              obtain ⟨⟨r162, h162⟩, e162, hF⟩ := hF
              try dsimp only at hF
              refine q_callV [.int 2] [] rfl d_X4_readLine_162 v_X4_91 (by omega) rfl (Nat.le_of_ble_eq_true rfl) (rc_rc g162 (by decide) rfl) (R_X4_fail _ _ _ (by omega) e162) ?_
              exact q_to (xs_r xs_n) (R_X4_readLine_b165 hdp hq _ _ _ _ hF)
            · replace hF := x_f hF c118
              refine g_aloadn d_X4_readLine_121 rfl ?_
              refine g_ic (0) d_X4_readLine_122 ic_0 ?_
              replace hF := Option.bind_eq_some_iff.mp hF
              obtain ⟨_, g123, hF⟩ := hF
              replace hF := Option.bind_eq_some_iff.mp hF
              obtain ⟨⟨r123, h123⟩, e123, hF⟩ := hF
              try dsimp only at hF
              refine q_callV [.int 0] [] rfl d_X4_readLine_123 v_X4_145 (by omega) rfl (Nat.le_of_ble_eq_true rfl) (rc_rc g123 (by decide) rfl) (R_X4_beginLaw _ _ _ (by omega) e123) ?_
              refine g_aloadn d_X4_readLine_126 rfl ?_
              refine g_ic (0) d_X4_readLine_127 ic_0 ?_
              refine g_ic (0) d_X4_readLine_128 ic_0 ?_
              replace hF := Option.bind_eq_some_iff.mp hF
              obtain ⟨_, g129, hF⟩ := hF
              replace hF := Option.bind_eq_some_iff.mp hF
              obtain ⟨⟨r129, h129⟩, e129, hF⟩ := hF
              try dsimp only at hF
              refine q_callV [.int 0, .int 0] [] rfl d_X4_readLine_129 v_X4_149 (by omega) rfl (Nat.le_of_ble_eq_true rfl) (rc_rc g129 (by decide) rfl) (RC_X4_readTruth 100 _ _ _ _ (by omega) e129) ?_
              refine g_aloadn d_X4_readLine_132 rfl ?_
              replace hF := Option.bind_eq_some_iff.mp hF
              obtain ⟨v133, e133, hF⟩ := hF
              refine q_fR d_X4_readLine_133 f_X4_48 e133 ?_
              replace hF := x_map hF
              obtain ⟨c136, s136, rfl, rfl, hF⟩ := hF
              refine q_new d_X4_readLine_136 n_X4_153 ?_
              replace hF := Option.bind_eq_some_iff.mp hF
              obtain ⟨h136, e136, hF⟩ := hF
              rw [Option.some.inj e136]
              refine g_dup d_X4_readLine_139 rfl ?_
              refine g_aloadn d_X4_readLine_140 rfl ?_
              replace hF := Option.bind_eq_some_iff.mp hF
              obtain ⟨v141, e141, hF⟩ := hF
              refine q_fR d_X4_readLine_141 f_X4_19 e141 ?_
              refine g_aloadn d_X4_readLine_144 rfl ?_
              replace hF := Option.bind_eq_some_iff.mp hF
              obtain ⟨v145, e145, hF⟩ := hF
              refine q_fI d_X4_readLine_145 f_X4_23 e145 ?_
              replace hF := Option.bind_eq_some_iff.mp hF
              obtain ⟨⟨r148, h148, mc148, ms148⟩, e148, hF⟩ := hF
              replace hF := x_map hF
              obtain ⟨c148, s148, rfl, rfl, hF⟩ := hF
              try dsimp only at hF
              refine q_callSa [.ref v141, .int v145] [.ref ((h129).1), .ref ((h129).1), .ref v133] rfl d_X4_readLine_148 s_X4_155 (by omega) rfl (Nat.le_of_ble_eq_true rfl) (R_J7_copyOf_59c91 _ _ _ (by omega) e148) ?_
              replace hF := Option.bind_eq_some_iff.mp hF
              obtain ⟨⟨r151, h151, mc151, ms151⟩, e151, hF⟩ := hF
              replace hF := x_map hF
              obtain ⟨c151, s151, rfl, rfl, hF⟩ := hF
              try dsimp only at hF
              refine q_callIa [.ref (r148)] [.ref ((h129).1), .ref v133] rfl d_X4_readLine_151 i_X4_161 (by omega) rfl (Nat.le_of_ble_eq_true rfl) (R_X3_init _ _ _ (by omega) e151) ?_
              replace hF := Option.bind_eq_some_iff.mp hF
              obtain ⟨h154, e154, hF⟩ := hF
              refine q_wR d_X4_readLine_154 (w_X4_170 _) (Or.inl ⟨_, rfl⟩) e154 ?_
              refine g_goto 165 d_X4_readLine_157 rfl ?_
              exact q_to (xs_r xs_n) (R_X4_readLine_b165 hdp hq _ _ _ _ hF)
          · replace hF := x_f hF c70
            refine g_aloadn d_X4_readLine_73 rfl ?_
            refine g_ic (1) d_X4_readLine_74 ic_1 ?_
            replace hF := Option.bind_eq_some_iff.mp hF
            obtain ⟨_, g75, hF⟩ := hF
            replace hF := Option.bind_eq_some_iff.mp hF
            obtain ⟨⟨r75, h75⟩, e75, hF⟩ := hF
            try dsimp only at hF
            refine q_callV [.int 1] [] rfl d_X4_readLine_75 v_X4_145 (by omega) rfl (Nat.le_of_ble_eq_true rfl) (rc_rc g75 (by decide) rfl) (R_X4_beginLaw _ _ _ (by omega) e75) ?_
            refine g_aloadn d_X4_readLine_78 rfl ?_
            refine g_ic (0) d_X4_readLine_79 ic_0 ?_
            refine g_ic (0) d_X4_readLine_80 ic_0 ?_
            replace hF := Option.bind_eq_some_iff.mp hF
            obtain ⟨_, g81, hF⟩ := hF
            replace hF := Option.bind_eq_some_iff.mp hF
            obtain ⟨⟨r81, h81⟩, e81, hF⟩ := hF
            try dsimp only at hF
            refine q_callV [.int 0, .int 0] [] rfl d_X4_readLine_81 v_X4_149 (by omega) rfl (Nat.le_of_ble_eq_true rfl) (rc_rc g81 (by decide) rfl) (RC_X4_readTruth 100 _ _ _ _ (by omega) e81) ?_
            refine g_aloadn d_X4_readLine_84 rfl ?_
            replace hF := Option.bind_eq_some_iff.mp hF
            obtain ⟨v85, e85, hF⟩ := hF
            refine q_fR d_X4_readLine_85 f_X4_48 e85 ?_
            replace hF := x_map hF
            obtain ⟨c88, s88, rfl, rfl, hF⟩ := hF
            refine q_new d_X4_readLine_88 n_X4_153 ?_
            replace hF := Option.bind_eq_some_iff.mp hF
            obtain ⟨h88, e88, hF⟩ := hF
            rw [Option.some.inj e88]
            refine g_dup d_X4_readLine_91 rfl ?_
            refine g_aloadn d_X4_readLine_92 rfl ?_
            replace hF := Option.bind_eq_some_iff.mp hF
            obtain ⟨v93, e93, hF⟩ := hF
            refine q_fR d_X4_readLine_93 f_X4_19 e93 ?_
            refine g_aloadn d_X4_readLine_96 rfl ?_
            replace hF := Option.bind_eq_some_iff.mp hF
            obtain ⟨v97, e97, hF⟩ := hF
            refine q_fI d_X4_readLine_97 f_X4_23 e97 ?_
            replace hF := Option.bind_eq_some_iff.mp hF
            obtain ⟨⟨r100, h100, mc100, ms100⟩, e100, hF⟩ := hF
            replace hF := x_map hF
            obtain ⟨c100, s100, rfl, rfl, hF⟩ := hF
            try dsimp only at hF
            refine q_callSa [.ref v93, .int v97] [.ref ((h81).1), .ref ((h81).1), .ref v85] rfl d_X4_readLine_100 s_X4_155 (by omega) rfl (Nat.le_of_ble_eq_true rfl) (R_J7_copyOf_59c91 _ _ _ (by omega) e100) ?_
            replace hF := Option.bind_eq_some_iff.mp hF
            obtain ⟨⟨r103, h103, mc103, ms103⟩, e103, hF⟩ := hF
            replace hF := x_map hF
            obtain ⟨c103, s103, rfl, rfl, hF⟩ := hF
            try dsimp only at hF
            refine q_callIa [.ref (r100)] [.ref ((h81).1), .ref v85] rfl d_X4_readLine_103 i_X4_161 (by omega) rfl (Nat.le_of_ble_eq_true rfl) (R_X3_init _ _ _ (by omega) e103) ?_
            replace hF := Option.bind_eq_some_iff.mp hF
            obtain ⟨h106, e106, hF⟩ := hF
            refine q_wR d_X4_readLine_106 (w_X4_164 _) (Or.inl ⟨_, rfl⟩) e106 ?_
            refine g_goto 165 d_X4_readLine_109 rfl ?_
            exact q_to (xs_r xs_n) (R_X4_readLine_b165 hdp hq _ _ _ _ hF)
        · replace hF := x_f hF c54
          refine g_aloadn d_X4_readLine_57 rfl ?_
          replace hF := Option.bind_eq_some_iff.mp hF
          obtain ⟨_, g58, hF⟩ := hF
          replace hF := Option.bind_eq_some_iff.mp hF
          obtain ⟨⟨r58, h58⟩, e58, hF⟩ := hF
          try dsimp only at hF
          refine q_callV [] [] rfl d_X4_readLine_58 v_X4_140 (by omega) rfl (Nat.le_of_ble_eq_true rfl) (rc_rc g58 (by decide) rfl) (R_X4_readPerson _ _ (by omega) e58) ?_
          refine g_goto 165 d_X4_readLine_61 rfl ?_
          exact q_to (xs_r xs_n) (R_X4_readLine_b165 hdp hq _ _ _ _ hF)
      · replace hF := x_f hF c38
        refine g_aloadn d_X4_readLine_41 rfl ?_
        replace hF := Option.bind_eq_some_iff.mp hF
        obtain ⟨_, g42, hF⟩ := hF
        replace hF := Option.bind_eq_some_iff.mp hF
        obtain ⟨⟨r42, h42⟩, e42, hF⟩ := hF
        try dsimp only at hF
        refine q_callV [] [] rfl d_X4_readLine_42 v_X4_135 (by omega) rfl (Nat.le_of_ble_eq_true rfl) (rc_rc g42 (by decide) rfl) (R_X4_readWay _ _ (by omega) e42) ?_
        refine g_goto 165 d_X4_readLine_45 rfl ?_
        exact q_to (xs_r xs_n) (R_X4_readLine_b165 hdp hq _ _ _ _ hF)
    · replace hF := x_f hF c22
      refine g_aloadn d_X4_readLine_25 rfl ?_
      replace hF := Option.bind_eq_some_iff.mp hF
      obtain ⟨_, g26, hF⟩ := hF
      replace hF := Option.bind_eq_some_iff.mp hF
      obtain ⟨⟨r26, h26⟩, e26, hF⟩ := hF
      try dsimp only at hF
      refine q_callV [] [] rfl d_X4_readLine_26 v_X4_130 (by omega) rfl (Nat.le_of_ble_eq_true rfl) (rc_rc g26 (by decide) rfl) (R_X4_readPlace _ _ (by omega) e26) ?_
      refine g_goto 165 d_X4_readLine_29 rfl ?_
      exact q_to (xs_r xs_n) (R_X4_readLine_b165 hdp hq _ _ _ _ hF)
  · replace hF := x_f hF c6
    refine g_aloadn d_X4_readLine_9 rfl ?_
    replace hF := Option.bind_eq_some_iff.mp hF
    obtain ⟨_, g10, hF⟩ := hF
    replace hF := Option.bind_eq_some_iff.mp hF
    obtain ⟨⟨r10, h10⟩, e10, hF⟩ := hF
    try dsimp only at hF
    refine q_callV [] [] rfl d_X4_readLine_10 v_X4_125 (by omega) rfl (Nat.le_of_ble_eq_true rfl) (rc_rc g10 (by decide) rfl) (R_X4_readTune _ _ (by omega) e10) ?_
    refine g_goto 165 d_X4_readLine_13 rfl ?_
    exact q_to (xs_r xs_n) (R_X4_readLine_b165 hdp hq _ _ _ _ hF)
theorem d_X4_read_0 : decode cX4_read 0 = .ok (.aload_n 0, 1) := by decide +kernel
theorem d_X4_read_1 : decode cX4_read 1 = .ok (.iload_n 1, 1) := by decide +kernel
theorem d_X4_read_2 : decode cX4_read 2 = .ok (.aload_n 0, 1) := by decide +kernel
theorem d_X4_read_3 : decode cX4_read 3 = .ok (.getfield 15, 3) := by decide +kernel
theorem d_X4_read_6 : decode cX4_read 6 = .ok (.invokestatic 58, 3) := by decide +kernel
theorem d_X4_read_9 : decode cX4_read 9 = .ok (.putfield 26, 3) := by decide +kernel
theorem d_X4_read_12 : decode cX4_read 12 = .ok (.aload_n 0, 1) := by decide +kernel
theorem d_X4_read_13 : decode cX4_read 13 = .ok (.iconst 0, 1) := by decide +kernel
theorem d_X4_read_14 : decode cX4_read 14 = .ok (.putfield 15, 3) := by decide +kernel
theorem d_X4_read_17 : decode cX4_read 17 = .ok (.aload_n 0, 1) := by decide +kernel
theorem d_X4_read_18 : decode cX4_read 18 = .ok (.iconst 0, 1) := by decide +kernel
theorem d_X4_read_19 : decode cX4_read 19 = .ok (.putfield 32, 3) := by decide +kernel
theorem d_X4_read_22 : decode cX4_read 22 = .ok (.aload_n 0, 1) := by decide +kernel
theorem d_X4_read_23 : decode cX4_read 23 = .ok (.iconst 0, 1) := by decide +kernel
theorem d_X4_read_24 : decode cX4_read 24 = .ok (.putfield 52, 3) := by decide +kernel
theorem d_X4_read_27 : decode cX4_read 27 = .ok (.aload_n 0, 1) := by decide +kernel
theorem d_X4_read_28 : decode cX4_read 28 = .ok (.iconst (-1), 1) := by decide +kernel
theorem d_X4_read_29 : decode cX4_read 29 = .ok (.putfield 55, 3) := by decide +kernel
theorem d_X4_read_32 : decode cX4_read 32 = .ok (.aload_n 0, 1) := by decide +kernel
theorem d_X4_read_33 : decode cX4_read 33 = .ok (.new 45, 3) := by decide +kernel
theorem d_X4_read_36 : decode cX4_read 36 = .ok (.dup, 1) := by decide +kernel
theorem d_X4_read_37 : decode cX4_read 37 = .ok (.invokespecial 47, 3) := by decide +kernel
theorem d_X4_read_40 : decode cX4_read 40 = .ok (.putfield 48, 3) := by decide +kernel
theorem d_X4_read_43 : decode cX4_read 43 = .ok (.aload_n 0, 1) := by decide +kernel
theorem d_X4_read_44 : decode cX4_read 44 = .ok (.invokevirtual 64, 3) := by decide +kernel
theorem d_X4_read_47 : decode cX4_read 47 = .ok (.aload_n 0, 1) := by decide +kernel
theorem d_X4_read_48 : decode cX4_read 48 = .ok (.invokevirtual 67, 3) := by decide +kernel
theorem d_X4_read_51 : decode cX4_read 51 = .ok (.iconst 0, 1) := by decide +kernel
theorem d_X4_read_52 : decode cX4_read 52 = .ok (.istore_n 2, 1) := by decide +kernel
theorem d_X4_read_53 : decode cX4_read 53 = .ok (.iload_n 2, 1) := by decide +kernel
theorem d_X4_read_54 : decode cX4_read 54 = .ok (.aload_n 0, 1) := by decide +kernel
theorem d_X4_read_55 : decode cX4_read 55 = .ok (.getfield 26, 3) := by decide +kernel
theorem d_X4_read_58 : decode cX4_read 58 = .ok (.if_icmp .ge 28, 3) := by decide +kernel
theorem d_X4_read_61 : decode cX4_read 61 = .ok (.aload_n 0, 1) := by decide +kernel
theorem d_X4_read_62 : decode cX4_read 62 = .ok (.getfield 52, 3) := by decide +kernel
theorem d_X4_read_65 : decode cX4_read 65 = .ok (.ifCond .ne 21, 3) := by decide +kernel
theorem d_X4_read_68 : decode cX4_read 68 = .ok (.aload_n 0, 1) := by decide +kernel
theorem d_X4_read_69 : decode cX4_read 69 = .ok (.getfield 35, 3) := by decide +kernel
theorem d_X4_read_72 : decode cX4_read 72 = .ok (.iconst 3, 1) := by decide +kernel
theorem d_X4_read_73 : decode cX4_read 73 = .ok (.if_icmp .eq 13, 3) := by decide +kernel
theorem d_X4_read_76 : decode cX4_read 76 = .ok (.aload_n 0, 1) := by decide +kernel
theorem d_X4_read_77 : decode cX4_read 77 = .ok (.invokevirtual 70, 3) := by decide +kernel
theorem d_X4_read_80 : decode cX4_read 80 = .ok (.iinc 2 1, 3) := by decide +kernel
theorem d_X4_read_83 : decode cX4_read 83 = .ok (.goto (-30), 3) := by decide +kernel
theorem d_X4_read_86 : decode cX4_read 86 = .ok (.aload_n 0, 1) := by decide +kernel
theorem d_X4_read_87 : decode cX4_read 87 = .ok (.getfield 52, 3) := by decide +kernel
theorem d_X4_read_90 : decode cX4_read 90 = .ok (.ifCond .eq 5, 3) := by decide +kernel
theorem d_X4_read_93 : decode cX4_read 93 = .ok (.aconst_null, 1) := by decide +kernel
theorem d_X4_read_94 : decode cX4_read 94 = .ok (.areturn, 1) := by decide +kernel
theorem d_X4_read_95 : decode cX4_read 95 = .ok (.aload_n 0, 1) := by decide +kernel
theorem d_X4_read_96 : decode cX4_read 96 = .ok (.getfield 48, 3) := by decide +kernel
theorem d_X4_read_99 : decode cX4_read 99 = .ok (.invokevirtual 73, 3) := by decide +kernel
theorem d_X4_read_102 : decode cX4_read 102 = .ok (.aload_n 0, 1) := by decide +kernel
theorem d_X4_read_103 : decode cX4_read 103 = .ok (.getfield 48, 3) := by decide +kernel
theorem d_X4_read_106 : decode cX4_read 106 = .ok (.areturn, 1) := by decide +kernel
def F_X4_read_b86 (x0 : Nat) (h : xH) : Option (Option Nat × xH × Nat × Nat) := (fI h x0 3 11).bind fun v87 => if v87 = 0 then (fR h x0 3 10).bind fun v96 => (rc h v96 9).bind fun _ => (F_X10_settle v96 h).bind fun z99 => (fR z99.2 x0 3 10).bind fun v103 => some ((some v103), z99.2, 0, 0) else some (none, h, 0, 0)
theorem R_X4_read_b86 {Γ : xG} {l : Launch} {d : Nat} {Q : Option Value → xH → Prop} {r : Option Nat} {h' : xH} (hdp : 212 ≤ d) (hq : Q (some (va_rf r)) h') : ∀ (x0 : Nat) (h : xH) (mc ms : Nat), F_X4_read_b86 x0 h = some (r, h', mc, ms) → Gd Γ l d m_X4_read 86 [.ref x0, xhole, xhole] [] h mc ms Q := by
  intro x0 h mc ms hF
  unfold F_X4_read_b86 at hF
  refine g_aloadn d_X4_read_86 rfl ?_
  replace hF := Option.bind_eq_some_iff.mp hF
  obtain ⟨v87, e87, hF⟩ := hF
  refine q_fI d_X4_read_87 f_X4_52 e87 ?_
  refine g_if_eq 95 d_X4_read_90 rfl (fun c90 => ?_) (fun c90 => ?_)
  · replace hF := x_t hF c90
    refine g_aloadn d_X4_read_95 rfl ?_
    replace hF := Option.bind_eq_some_iff.mp hF
    obtain ⟨v96, e96, hF⟩ := hF
    refine q_fR d_X4_read_96 f_X4_48 e96 ?_
    replace hF := Option.bind_eq_some_iff.mp hF
    obtain ⟨_, g99, hF⟩ := hF
    replace hF := Option.bind_eq_some_iff.mp hF
    obtain ⟨⟨r99, h99⟩, e99, hF⟩ := hF
    try dsimp only at hF
    refine q_callV [] [] rfl d_X4_read_99 v_X4_73 (by omega) rfl (Nat.le_of_ble_eq_true rfl) (rc_rc g99 (by decide) rfl) (R_X10_settle _ _ (by omega) e99) ?_
    refine g_aloadn d_X4_read_102 rfl ?_
    replace hF := Option.bind_eq_some_iff.mp hF
    obtain ⟨v103, e103, hF⟩ := hF
    refine q_fR d_X4_read_103 f_X4_48 e103 ?_
    obtain ⟨rfl, rfl, rfl, rfl⟩ := x_inj4 hF
    exact g_aret d_X4_read_106 rfl (Or.inl ⟨_, rfl⟩) hq
  · replace hF := x_f hF c90
    refine g_null d_X4_read_93 ?_
    obtain ⟨rfl, rfl, rfl, rfl⟩ := x_inj4 hF
    exact g_aretN d_X4_read_94 rfl (Or.inl ⟨_, rfl⟩) hq
def F_X4_read_b53 : Nat → Nat → Int32 → xH → Option (Option Nat × xH × Nat × Nat)
  | 0, _, _, _ => none
  | n + 1, x0, x2, h => (fI h x0 3 4).bind fun v55 => if v55 ≤ x2 then F_X4_read_b86 x0 h else (fI h x0 3 11).bind fun v62 => if ¬ v62 = 0 then F_X4_read_b86 x0 h else (fI h x0 3 7).bind fun v69 => if v69 = ((3 : Int32)) then F_X4_read_b86 x0 h else (rc h x0 3).bind fun _ => (F_X4_readLine x0 h).bind fun z77 => (F_X4_read_b53 n x0 (x2 + 1) z77.2.1).map (ac _ z77.2.2.1 z77.2.2.2)
theorem R_X4_read_b53 {Γ : xG} {l : Launch} {d : Nat} {Q : Option Value → xH → Prop} {r : Option Nat} {h' : xH} (hdp : 212 ≤ d) (hq : Q (some (va_rf r)) h') : ∀ (n : Nat) (x0 : Nat) (x2 : Int32) (h : xH) (mc ms : Nat), F_X4_read_b53 n x0 x2 h = some (r, h', mc, ms) → Gd Γ l d m_X4_read 53 [.ref x0, xhole, .int x2] [] h mc ms Q := by
  intro n
  induction n with
  | zero => intro x0 x2 h mc ms hF; cases hF
  | succ n ih =>
  intro x0 x2 h mc ms hF
  rw [F_X4_read_b53] at hF
  refine g_iloadn d_X4_read_53 rfl ?_
  refine g_aloadn d_X4_read_54 rfl ?_
  replace hF := Option.bind_eq_some_iff.mp hF
  obtain ⟨v55, e55, hF⟩ := hF
  refine q_fI d_X4_read_55 f_X4_26 e55 ?_
  refine g_icmp_ge 86 d_X4_read_58 rfl (fun c58 => ?_) (fun c58 => ?_)
  · replace hF := x_t hF c58
    exact q_to (xs_r (xs_h (xs_h xs_n))) (R_X4_read_b86 hdp hq _ _ _ _ hF)
  · replace hF := x_f hF c58
    refine g_aloadn d_X4_read_61 rfl ?_
    replace hF := Option.bind_eq_some_iff.mp hF
    obtain ⟨v62, e62, hF⟩ := hF
    refine q_fI d_X4_read_62 f_X4_52 e62 ?_
    refine g_if_ne 86 d_X4_read_65 rfl (fun c65 => ?_) (fun c65 => ?_)
    · replace hF := x_t hF c65
      exact q_to (xs_r (xs_h (xs_h xs_n))) (R_X4_read_b86 hdp hq _ _ _ _ hF)
    · replace hF := x_f hF (not_not_intro c65)
      refine g_aloadn d_X4_read_68 rfl ?_
      replace hF := Option.bind_eq_some_iff.mp hF
      obtain ⟨v69, e69, hF⟩ := hF
      refine q_fI d_X4_read_69 f_X4_35 e69 ?_
      refine g_ic (3) d_X4_read_72 ic_3 ?_
      refine g_icmp_eq 86 d_X4_read_73 rfl (fun c73 => ?_) (fun c73 => ?_)
      · replace hF := x_t hF c73
        exact q_to (xs_r (xs_h (xs_h xs_n))) (R_X4_read_b86 hdp hq _ _ _ _ hF)
      · replace hF := x_f hF c73
        refine g_aloadn d_X4_read_76 rfl ?_
        replace hF := Option.bind_eq_some_iff.mp hF
        obtain ⟨_, g77, hF⟩ := hF
        replace hF := Option.bind_eq_some_iff.mp hF
        obtain ⟨⟨r77, h77, mc77, ms77⟩, e77, hF⟩ := hF
        replace hF := x_map hF
        obtain ⟨c77, s77, rfl, rfl, hF⟩ := hF
        try dsimp only at hF
        refine q_callVa [] [] rfl d_X4_read_77 v_X4_70 (by omega) rfl (Nat.le_of_ble_eq_true rfl) (rc_rc g77 (by decide) rfl) (R_X4_readLine _ _ (by omega) e77) ?_
        refine q_iinc (1) [.ref x0, xhole, .int (x2 + 1)] d_X4_read_80 ic_1 rfl (by decide) rfl ?_
        refine g_goto 53 d_X4_read_83 rfl ?_
        exact q_to (xs_r (xs_h (xs_r xs_n))) (ih _ _ _ _ _ hF)
def F_X4_read (x0 : Nat) (x1 : Int32) (h : xH) : Option (Option Nat × xH × Nat × Nat) := (fI h x0 3 1).bind fun v3 => (F_J9_min_7cf53 x1 v3 h).bind fun z6 => (wI z6.2 x0 3 4 z6.1).bind fun h9 => (wI h9 x0 3 1 0).bind fun h14 => (wI h14 x0 3 6 0).bind fun h19 => (wI h19 x0 3 11 0).bind fun h24 => (wI h24 x0 3 12 ((-1))).bind fun h29 => ((some (nO h29 9 [.int 0, .int 0, .int 0, .int 0, .int 0, .null, .null, .null, .null, .null, .null, .null, .null, .null])).bind fun h33 => (F_X10_init ((h29).1) h33).bind fun z37 => ((wQ z37.2.1 x0 3 10 ((some (h29).1))).bind fun h40 => (rc h40 x0 3).bind fun _ => (F_X4_advance x0 h40).bind fun z44 => (rc z44.2 x0 3).bind fun _ => (F_X4_readScale x0 z44.2).bind fun z48 => F_X4_read_b53 FU x0 0 z48.2).map (ac _ z37.2.2.1 z37.2.2.2)).map (ac _ 1 14)
theorem R_X4_read {Γ : xG} {l : Launch} {d : Nat} {r : Option Nat} {h' : xH} {mc ms : Nat} (x0 : Nat) (x1 : Int32) (h : xH) (hdp : 212 ≤ d) (hF : F_X4_read x0 x1 h = some (r, h', mc, ms)) : Gm Γ l d mc ms m_X4_read [.ref x0, .int x1] h (fun a u => a = some (va_rf r) ∧ u = h') := by
  refine Gm.of pn_X4 (Nat.le_of_ble_eq_true rfl) ?_
  show Gd Γ l d m_X4_read 0 [.ref x0, .int x1, xhole] [] h mc ms _
  generalize hQ : (fun (a : Option Value) (u : xH) => a = some (va_rf r) ∧ u = h') = Q
  have hq : Q (some (va_rf r)) h' := by rw [← hQ]; exact ⟨rfl, rfl⟩
  clear hQ
  unfold F_X4_read at hF
  refine g_aloadn d_X4_read_0 rfl ?_
  refine g_iloadn d_X4_read_1 rfl ?_
  refine g_aloadn d_X4_read_2 rfl ?_
  replace hF := Option.bind_eq_some_iff.mp hF
  obtain ⟨v3, e3, hF⟩ := hF
  refine q_fI d_X4_read_3 f_X4_15 e3 ?_
  replace hF := Option.bind_eq_some_iff.mp hF
  obtain ⟨⟨r6, h6⟩, e6, hF⟩ := hF
  try dsimp only at hF
  refine q_callS [.int x1, .int v3] [.ref x0] rfl d_X4_read_6 s_X4_58 (by omega) rfl (Nat.le_of_ble_eq_true rfl) (R_J9_min_7cf53 _ _ _ (by omega) e6) ?_
  replace hF := Option.bind_eq_some_iff.mp hF
  obtain ⟨h9, e9, hF⟩ := hF
  refine q_wI d_X4_read_9 (w_X4_26 _) e9 ?_
  refine g_aloadn d_X4_read_12 rfl ?_
  refine g_ic (0) d_X4_read_13 ic_0 ?_
  replace hF := Option.bind_eq_some_iff.mp hF
  obtain ⟨h14, e14, hF⟩ := hF
  refine q_wI d_X4_read_14 (w_X4_15 _) e14 ?_
  refine g_aloadn d_X4_read_17 rfl ?_
  refine g_ic (0) d_X4_read_18 ic_0 ?_
  replace hF := Option.bind_eq_some_iff.mp hF
  obtain ⟨h19, e19, hF⟩ := hF
  refine q_wI d_X4_read_19 (w_X4_32 _) e19 ?_
  refine g_aloadn d_X4_read_22 rfl ?_
  refine g_ic (0) d_X4_read_23 ic_0 ?_
  replace hF := Option.bind_eq_some_iff.mp hF
  obtain ⟨h24, e24, hF⟩ := hF
  refine q_wI d_X4_read_24 (w_X4_52 _) e24 ?_
  refine g_aloadn d_X4_read_27 rfl ?_
  refine g_ic (-1) d_X4_read_28 ic_m1 ?_
  replace hF := Option.bind_eq_some_iff.mp hF
  obtain ⟨h29, e29, hF⟩ := hF
  refine q_wI d_X4_read_29 (w_X4_55 _) e29 ?_
  refine g_aloadn d_X4_read_32 rfl ?_
  replace hF := x_map hF
  obtain ⟨c33, s33, rfl, rfl, hF⟩ := hF
  refine q_new d_X4_read_33 n_X4_45 ?_
  replace hF := Option.bind_eq_some_iff.mp hF
  obtain ⟨h33, e33, hF⟩ := hF
  rw [Option.some.inj e33]
  refine g_dup d_X4_read_36 rfl ?_
  replace hF := Option.bind_eq_some_iff.mp hF
  obtain ⟨⟨r37, h37, mc37, ms37⟩, e37, hF⟩ := hF
  replace hF := x_map hF
  obtain ⟨c37, s37, rfl, rfl, hF⟩ := hF
  try dsimp only at hF
  refine q_callIa [] [.ref ((h29).1), .ref x0] rfl d_X4_read_37 i_X4_47 (by omega) rfl (Nat.le_of_ble_eq_true rfl) (R_X10_init _ _ (by omega) e37) ?_
  replace hF := Option.bind_eq_some_iff.mp hF
  obtain ⟨h40, e40, hF⟩ := hF
  refine q_wR d_X4_read_40 (w_X4_48 _) (Or.inl ⟨_, rfl⟩) e40 ?_
  refine g_aloadn d_X4_read_43 rfl ?_
  replace hF := Option.bind_eq_some_iff.mp hF
  obtain ⟨_, g44, hF⟩ := hF
  replace hF := Option.bind_eq_some_iff.mp hF
  obtain ⟨⟨r44, h44⟩, e44, hF⟩ := hF
  try dsimp only at hF
  refine q_callV [] [] rfl d_X4_read_44 v_X4_64 (by omega) rfl (Nat.le_of_ble_eq_true rfl) (rc_rc g44 (by decide) rfl) (R_X4_advance _ _ (by omega) e44) ?_
  refine g_aloadn d_X4_read_47 rfl ?_
  replace hF := Option.bind_eq_some_iff.mp hF
  obtain ⟨_, g48, hF⟩ := hF
  replace hF := Option.bind_eq_some_iff.mp hF
  obtain ⟨⟨r48, h48⟩, e48, hF⟩ := hF
  try dsimp only at hF
  refine q_callV [] [] rfl d_X4_read_48 v_X4_67 (by omega) rfl (Nat.le_of_ble_eq_true rfl) (rc_rc g48 (by decide) rfl) (R_X4_readScale _ _ (by omega) e48) ?_
  refine g_ic (0) d_X4_read_51 ic_0 ?_
  refine q_istoren [.ref x0, .int x1, .int 0] d_X4_read_52 (by decide) rfl ?_
  exact q_to (xs_r (xs_h (xs_r xs_n))) (R_X4_read_b53 hdp hq FU _ _ _ _ _ hF)
theorem d_X5_init_0 : decode cX5_init 0 = .ok (.aload_n 0, 1) := by decide +kernel
theorem d_X5_init_1 : decode cX5_init 1 = .ok (.invokespecial 3, 3) := by decide +kernel
theorem d_X5_init_4 : decode cX5_init 4 = .ok (.aload_n 0, 1) := by decide +kernel
theorem d_X5_init_5 : decode cX5_init 5 = .ok (.bipush 82, 2) := by decide +kernel
theorem d_X5_init_7 : decode cX5_init 7 = .ok (.newarray .int, 2) := by decide +kernel
theorem d_X5_init_9 : decode cX5_init 9 = .ok (.putfield 11, 3) := by decide +kernel
theorem d_X5_init_12 : decode cX5_init 12 = .ok (.aload_n 0, 1) := by decide +kernel
theorem d_X5_init_13 : decode cX5_init 13 = .ok (.iconst 0, 1) := by decide +kernel
theorem d_X5_init_14 : decode cX5_init 14 = .ok (.putfield 15, 3) := by decide +kernel
theorem d_X5_init_17 : decode cX5_init 17 = .ok (.aload_n 0, 1) := by decide +kernel
theorem d_X5_init_18 : decode cX5_init 18 = .ok (.sipush 1024, 3) := by decide +kernel
theorem d_X5_init_21 : decode cX5_init 21 = .ok (.newarray .int, 2) := by decide +kernel
theorem d_X5_init_23 : decode cX5_init 23 = .ok (.putfield 19, 3) := by decide +kernel
theorem d_X5_init_26 : decode cX5_init 26 = .ok (.aload_n 0, 1) := by decide +kernel
theorem d_X5_init_27 : decode cX5_init 27 = .ok (.bipush 100, 2) := by decide +kernel
theorem d_X5_init_29 : decode cX5_init 29 = .ok (.newarray .int, 2) := by decide +kernel
theorem d_X5_init_31 : decode cX5_init 31 = .ok (.putfield 22, 3) := by decide +kernel
theorem d_X5_init_34 : decode cX5_init 34 = .ok (.aload_n 0, 1) := by decide +kernel
theorem d_X5_init_35 : decode cX5_init 35 = .ok (.aconst_null, 1) := by decide +kernel
theorem d_X5_init_36 : decode cX5_init 36 = .ok (.putfield 25, 3) := by decide +kernel
theorem d_X5_init_39 : decode cX5_init 39 = .ok (.aload_n 0, 1) := by decide +kernel
theorem d_X5_init_40 : decode cX5_init 40 = .ok (.bipush 10, 2) := by decide +kernel
theorem d_X5_init_42 : decode cX5_init 42 = .ok (.newarray .long, 2) := by decide +kernel
theorem d_X5_init_44 : decode cX5_init 44 = .ok (.putfield 28, 3) := by decide +kernel
theorem d_X5_init_47 : decode cX5_init 47 = .ok (.aload_n 0, 1) := by decide +kernel
theorem d_X5_init_48 : decode cX5_init 48 = .ok (.bipush 10, 2) := by decide +kernel
theorem d_X5_init_50 : decode cX5_init 50 = .ok (.newarray .long, 2) := by decide +kernel
theorem d_X5_init_52 : decode cX5_init 52 = .ok (.putfield 32, 3) := by decide +kernel
theorem d_X5_init_55 : decode cX5_init 55 = .ok (.return_, 1) := by decide +kernel
def F_X5_init (x0 : Nat) (h : xH) : Option (Unit × xH × Nat × Nat) := if ((82 : Int32)) < 0 ∨ 60000000 < ((82 : Int32)).toNatClampNeg then none else ((some (nW h 0 ((82 : Int32)).toNatClampNeg)).bind fun h7 => (wQ h7 x0 4 0 ((some (h).1))).bind fun h9 => (wI h9 x0 4 1 0).bind fun h14 => if ((1024 : Int32)) < 0 ∨ 60000000 < ((1024 : Int32)).toNatClampNeg then none else ((some (nW h14 0 ((1024 : Int32)).toNatClampNeg)).bind fun h21 => (wQ h21 x0 4 2 ((some (h14).1))).bind fun h23 => if ((100 : Int32)) < 0 ∨ 60000000 < ((100 : Int32)).toNatClampNeg then none else ((some (nW h23 0 ((100 : Int32)).toNatClampNeg)).bind fun h29 => (wQ h29 x0 4 3 ((some (h23).1))).bind fun h31 => (wQ h31 x0 4 4 none).bind fun h36 => if ((10 : Int32)) < 0 ∨ 60000000 < ((10 : Int32)).toNatClampNeg then none else ((some (nL h36 ((10 : Int32)).toNatClampNeg)).bind fun h42 => (wQ h42 x0 4 5 ((some (h36).1))).bind fun h44 => if ((10 : Int32)) < 0 ∨ 60000000 < ((10 : Int32)).toNatClampNeg then none else ((some (nL h44 ((10 : Int32)).toNatClampNeg)).bind fun h50 => (wQ h50 x0 4 6 ((some (h44).1))).bind fun h52 => some ((), h52, 0, 0)).map (ac _ 1 ((10 : Int32)).toNatClampNeg)).map (ac _ 1 ((10 : Int32)).toNatClampNeg)).map (ac _ 1 ((100 : Int32)).toNatClampNeg)).map (ac _ 1 ((1024 : Int32)).toNatClampNeg)).map (ac _ 1 ((82 : Int32)).toNatClampNeg)
theorem R_X5_init {Γ : xG} {l : Launch} {d : Nat} {r : Unit} {h' : xH} {mc ms : Nat} (x0 : Nat) (h : xH) (hdp : 1 ≤ d) (hF : F_X5_init x0 h = some (r, h', mc, ms)) : Gm Γ l d mc ms m_X5_init [.ref x0] h (fun a u => a = none ∧ u = h') := by
  refine Gm.of pn_X5 (Nat.le_of_ble_eq_true rfl) ?_
  show Gd Γ l d m_X5_init 0 [.ref x0] [] h mc ms _
  generalize hQ : (fun (a : Option Value) (u : xH) => a = none ∧ u = h') = Q
  have hq : Q (none) h' := by rw [← hQ]; exact ⟨rfl, rfl⟩
  clear hQ
  unfold F_X5_init at hF
  refine g_aloadn d_X5_init_0 rfl ?_
  refine q_oi d_X5_init_1 i_X5_3 (by omega) (Nat.le_of_ble_eq_true rfl) ?_
  refine g_aloadn d_X5_init_4 rfl ?_
  refine g_bi (82) d_X5_init_5 bi_82 ?_
  replace hF := x_nz hF
  obtain ⟨n7, hF⟩ := hF
  replace hF := x_map hF
  obtain ⟨c7, s7, rfl, rfl, hF⟩ := hF
  refine q_newaI d_X5_init_7 n7 ?_
  replace hF := Option.bind_eq_some_iff.mp hF
  obtain ⟨h7, e7, hF⟩ := hF
  rw [Option.some.inj e7]
  replace hF := Option.bind_eq_some_iff.mp hF
  obtain ⟨h9, e9, hF⟩ := hF
  refine q_wR d_X5_init_9 w_X5_11 (Or.inr ⟨_, rfl⟩) e9 ?_
  refine g_aloadn d_X5_init_12 rfl ?_
  refine g_ic (0) d_X5_init_13 ic_0 ?_
  replace hF := Option.bind_eq_some_iff.mp hF
  obtain ⟨h14, e14, hF⟩ := hF
  refine q_wI d_X5_init_14 (w_X5_15 _) e14 ?_
  refine g_aloadn d_X5_init_17 rfl ?_
  refine g_si (1024) d_X5_init_18 si_1024 ?_
  replace hF := x_nz hF
  obtain ⟨n21, hF⟩ := hF
  replace hF := x_map hF
  obtain ⟨c21, s21, rfl, rfl, hF⟩ := hF
  refine q_newaI d_X5_init_21 n21 ?_
  replace hF := Option.bind_eq_some_iff.mp hF
  obtain ⟨h21, e21, hF⟩ := hF
  rw [Option.some.inj e21]
  replace hF := Option.bind_eq_some_iff.mp hF
  obtain ⟨h23, e23, hF⟩ := hF
  refine q_wR d_X5_init_23 w_X5_19 (Or.inr ⟨_, rfl⟩) e23 ?_
  refine g_aloadn d_X5_init_26 rfl ?_
  refine g_bi (100) d_X5_init_27 bi_100 ?_
  replace hF := x_nz hF
  obtain ⟨n29, hF⟩ := hF
  replace hF := x_map hF
  obtain ⟨c29, s29, rfl, rfl, hF⟩ := hF
  refine q_newaI d_X5_init_29 n29 ?_
  replace hF := Option.bind_eq_some_iff.mp hF
  obtain ⟨h29, e29, hF⟩ := hF
  rw [Option.some.inj e29]
  replace hF := Option.bind_eq_some_iff.mp hF
  obtain ⟨h31, e31, hF⟩ := hF
  refine q_wR d_X5_init_31 w_X5_22 (Or.inr ⟨_, rfl⟩) e31 ?_
  refine g_aloadn d_X5_init_34 rfl ?_
  refine g_null d_X5_init_35 ?_
  replace hF := Option.bind_eq_some_iff.mp hF
  obtain ⟨h36, e36, hF⟩ := hF
  refine q_wN d_X5_init_36 (w_X5_25 _) (Or.inr ⟨_, rfl⟩) e36 ?_
  refine g_aloadn d_X5_init_39 rfl ?_
  refine g_bi (10) d_X5_init_40 bi_10 ?_
  replace hF := x_nz hF
  obtain ⟨n42, hF⟩ := hF
  replace hF := x_map hF
  obtain ⟨c42, s42, rfl, rfl, hF⟩ := hF
  refine q_newaJ d_X5_init_42 n42 ?_
  replace hF := Option.bind_eq_some_iff.mp hF
  obtain ⟨h42, e42, hF⟩ := hF
  rw [Option.some.inj e42]
  replace hF := Option.bind_eq_some_iff.mp hF
  obtain ⟨h44, e44, hF⟩ := hF
  refine q_wR d_X5_init_44 w_X5_28 (Or.inr ⟨_, rfl⟩) e44 ?_
  refine g_aloadn d_X5_init_47 rfl ?_
  refine g_bi (10) d_X5_init_48 bi_10 ?_
  replace hF := x_nz hF
  obtain ⟨n50, hF⟩ := hF
  replace hF := x_map hF
  obtain ⟨c50, s50, rfl, rfl, hF⟩ := hF
  refine q_newaJ d_X5_init_50 n50 ?_
  replace hF := Option.bind_eq_some_iff.mp hF
  obtain ⟨h50, e50, hF⟩ := hF
  rw [Option.some.inj e50]
  replace hF := Option.bind_eq_some_iff.mp hF
  obtain ⟨h52, e52, hF⟩ := hF
  refine q_wR d_X5_init_52 w_X5_32 (Or.inr ⟨_, rfl⟩) e52 ?_
  obtain ⟨rfl, rfl, rfl, rfl⟩ := x_inj4 hF
  exact g_vret d_X5_init_55 rfl hq
theorem d_X5_findThrough_0 : decode cX5_findThrough 0 = .ok (.aload_n 0, 1) := by decide +kernel
theorem d_X5_findThrough_1 : decode cX5_findThrough 1 = .ok (.iconst 0, 1) := by decide +kernel
theorem d_X5_findThrough_2 : decode cX5_findThrough 2 = .ok (.putfield 15, 3) := by decide +kernel
theorem d_X5_findThrough_5 : decode cX5_findThrough 5 = .ok (.iload_n 3, 1) := by decide +kernel
theorem d_X5_findThrough_6 : decode cX5_findThrough 6 = .ok (.iload_n 2, 1) := by decide +kernel
theorem d_X5_findThrough_7 : decode cX5_findThrough 7 = .ok (.iconst (-1), 1) := by decide +kernel
theorem d_X5_findThrough_8 : decode cX5_findThrough 8 = .ok (.ixor, 1) := by decide +kernel
theorem d_X5_findThrough_9 : decode cX5_findThrough 9 = .ok (.iand, 1) := by decide +kernel
theorem d_X5_findThrough_10 : decode cX5_findThrough 10 = .ok (.ifCond .eq 5, 3) := by decide +kernel
theorem d_X5_findThrough_13 : decode cX5_findThrough 13 = .ok (.iconst 0, 1) := by decide +kernel
theorem d_X5_findThrough_14 : decode cX5_findThrough 14 = .ok (.ireturn, 1) := by decide +kernel
theorem d_X5_findThrough_15 : decode cX5_findThrough 15 = .ok (.iload_n 3, 1) := by decide +kernel
theorem d_X5_findThrough_16 : decode cX5_findThrough 16 = .ok (.ifCond .ne 5, 3) := by decide +kernel
theorem d_X5_findThrough_19 : decode cX5_findThrough 19 = .ok (.iconst 1, 1) := by decide +kernel
theorem d_X5_findThrough_20 : decode cX5_findThrough 20 = .ok (.ireturn, 1) := by decide +kernel
theorem d_X5_findThrough_21 : decode cX5_findThrough 21 = .ok (.aload_n 0, 1) := by decide +kernel
theorem d_X5_findThrough_22 : decode cX5_findThrough 22 = .ok (.getfield 25, 3) := by decide +kernel
theorem d_X5_findThrough_25 : decode cX5_findThrough 25 = .ok (.ifnonnull 12, 3) := by decide +kernel
theorem d_X5_findThrough_28 : decode cX5_findThrough 28 = .ok (.aload_n 0, 1) := by decide +kernel
theorem d_X5_findThrough_29 : decode cX5_findThrough 29 = .ok (.sipush 10240, 3) := by decide +kernel
theorem d_X5_findThrough_32 : decode cX5_findThrough 32 = .ok (.newarray .int, 2) := by decide +kernel
theorem d_X5_findThrough_34 : decode cX5_findThrough 34 = .ok (.putfield 25, 3) := by decide +kernel
theorem d_X5_findThrough_37 : decode cX5_findThrough 37 = .ok (.aload_n 0, 1) := by decide +kernel
theorem d_X5_findThrough_38 : decode cX5_findThrough 38 = .ok (.aload_n 1, 1) := by decide +kernel
theorem d_X5_findThrough_39 : decode cX5_findThrough 39 = .ok (.iload_n 2, 1) := by decide +kernel
theorem d_X5_findThrough_40 : decode cX5_findThrough 40 = .ok (.invokevirtual 69, 3) := by decide +kernel
theorem d_X5_findThrough_43 : decode cX5_findThrough 43 = .ok (.aload_n 0, 1) := by decide +kernel
theorem d_X5_findThrough_44 : decode cX5_findThrough 44 = .ok (.aload_n 1, 1) := by decide +kernel
theorem d_X5_findThrough_45 : decode cX5_findThrough 45 = .ok (.getfield 35, 3) := by decide +kernel
theorem d_X5_findThrough_48 : decode cX5_findThrough 48 = .ok (.iload_n 2, 1) := by decide +kernel
theorem d_X5_findThrough_49 : decode cX5_findThrough 49 = .ok (.iload_n 3, 1) := by decide +kernel
theorem d_X5_findThrough_50 : decode cX5_findThrough 50 = .ok (.invokevirtual 73, 3) := by decide +kernel
theorem d_X5_findThrough_53 : decode cX5_findThrough 53 = .ok (.sipush 1000, 3) := by decide +kernel
theorem d_X5_findThrough_56 : decode cX5_findThrough 56 = .ok (.istore 4, 2) := by decide +kernel
theorem d_X5_findThrough_58 : decode cX5_findThrough 58 = .ok (.iconst 0, 1) := by decide +kernel
theorem d_X5_findThrough_59 : decode cX5_findThrough 59 = .ok (.istore 5, 2) := by decide +kernel
theorem d_X5_findThrough_61 : decode cX5_findThrough 61 = .ok (.iload 5, 2) := by decide +kernel
theorem d_X5_findThrough_63 : decode cX5_findThrough 63 = .ok (.aload_n 1, 1) := by decide +kernel
theorem d_X5_findThrough_64 : decode cX5_findThrough 64 = .ok (.getfield 35, 3) := by decide +kernel
theorem d_X5_findThrough_67 : decode cX5_findThrough 67 = .ok (.if_icmp .ge 50, 3) := by decide +kernel
theorem d_X5_findThrough_70 : decode cX5_findThrough 70 = .ok (.iload_n 2, 1) := by decide +kernel
theorem d_X5_findThrough_71 : decode cX5_findThrough 71 = .ok (.iload 5, 2) := by decide +kernel
theorem d_X5_findThrough_73 : decode cX5_findThrough 73 = .ok (.ishr, 1) := by decide +kernel
theorem d_X5_findThrough_74 : decode cX5_findThrough 74 = .ok (.iconst 1, 1) := by decide +kernel
theorem d_X5_findThrough_75 : decode cX5_findThrough 75 = .ok (.iand, 1) := by decide +kernel
theorem d_X5_findThrough_76 : decode cX5_findThrough 76 = .ok (.iconst 1, 1) := by decide +kernel
theorem d_X5_findThrough_77 : decode cX5_findThrough 77 = .ok (.if_icmp .ne 30, 3) := by decide +kernel
theorem d_X5_findThrough_80 : decode cX5_findThrough 80 = .ok (.iload 4, 2) := by decide +kernel
theorem d_X5_findThrough_82 : decode cX5_findThrough 82 = .ok (.iconst 1, 1) := by decide +kernel
theorem d_X5_findThrough_83 : decode cX5_findThrough 83 = .ok (.aload_n 0, 1) := by decide +kernel
theorem d_X5_findThrough_84 : decode cX5_findThrough 84 = .ok (.getfield 25, 3) := by decide +kernel
theorem d_X5_findThrough_87 : decode cX5_findThrough 87 = .ok (.iload_n 3, 1) := by decide +kernel
theorem d_X5_findThrough_88 : decode cX5_findThrough 88 = .ok (.iload 5, 2) := by decide +kernel
theorem d_X5_findThrough_90 : decode cX5_findThrough 90 = .ok (.invokestatic 66, 3) := by decide +kernel
theorem d_X5_findThrough_93 : decode cX5_findThrough 93 = .ok (.bipush 10, 2) := by decide +kernel
theorem d_X5_findThrough_95 : decode cX5_findThrough 95 = .ok (.imul, 1) := by decide +kernel
theorem d_X5_findThrough_96 : decode cX5_findThrough 96 = .ok (.iload 5, 2) := by decide +kernel
theorem d_X5_findThrough_98 : decode cX5_findThrough 98 = .ok (.iadd, 1) := by decide +kernel
theorem d_X5_findThrough_99 : decode cX5_findThrough 99 = .ok (.iaload, 1) := by decide +kernel
theorem d_X5_findThrough_100 : decode cX5_findThrough 100 = .ok (.iadd, 1) := by decide +kernel
theorem d_X5_findThrough_101 : decode cX5_findThrough 101 = .ok (.invokestatic 77, 3) := by decide +kernel
theorem d_X5_findThrough_104 : decode cX5_findThrough 104 = .ok (.goto 5, 3) := by decide +kernel
theorem d_X5_findThrough_107 : decode cX5_findThrough 107 = .ok (.iload 4, 2) := by decide +kernel
theorem d_X5_findThrough_109 : decode cX5_findThrough 109 = .ok (.istore 4, 2) := by decide +kernel
theorem d_X5_findThrough_111 : decode cX5_findThrough 111 = .ok (.iinc 5 1, 3) := by decide +kernel
theorem d_X5_findThrough_114 : decode cX5_findThrough 114 = .ok (.goto (-53), 3) := by decide +kernel
theorem d_X5_findThrough_117 : decode cX5_findThrough 117 = .ok (.iload 4, 2) := by decide +kernel
theorem d_X5_findThrough_119 : decode cX5_findThrough 119 = .ok (.bipush 82, 2) := by decide +kernel
theorem d_X5_findThrough_121 : decode cX5_findThrough 121 = .ok (.if_icmp .le 5, 3) := by decide +kernel
theorem d_X5_findThrough_124 : decode cX5_findThrough 124 = .ok (.iconst 0, 1) := by decide +kernel
theorem d_X5_findThrough_125 : decode cX5_findThrough 125 = .ok (.ireturn, 1) := by decide +kernel
theorem d_X5_findThrough_126 : decode cX5_findThrough 126 = .ok (.aload_n 0, 1) := by decide +kernel
theorem d_X5_findThrough_127 : decode cX5_findThrough 127 = .ok (.aload_n 1, 1) := by decide +kernel
theorem d_X5_findThrough_128 : decode cX5_findThrough 128 = .ok (.iload_n 2, 1) := by decide +kernel
theorem d_X5_findThrough_129 : decode cX5_findThrough 129 = .ok (.iload_n 3, 1) := by decide +kernel
theorem d_X5_findThrough_130 : decode cX5_findThrough 130 = .ok (.iload 4, 2) := by decide +kernel
theorem d_X5_findThrough_132 : decode cX5_findThrough 132 = .ok (.invokevirtual 80, 3) := by decide +kernel
theorem d_X5_findThrough_135 : decode cX5_findThrough 135 = .ok (.iconst 1, 1) := by decide +kernel
theorem d_X5_findThrough_136 : decode cX5_findThrough 136 = .ok (.ireturn, 1) := by decide +kernel
def F_X5_findThrough_b61 : Nat → Nat → Nat → Int32 → Int32 → Int32 → Int32 → xH → Option (Int32 × xH × Nat × Nat)
  | 0, _, _, _, _, _, _, _ => none
  | n + 1, x0, x1, x2, x3, x4, x5, h => (fI h x1 9 0).bind fun v64 => if v64 ≤ x5 then if x4 ≤ ((82 : Int32)) then (rc h x0 4).bind fun _ => (F_X5_layOutThrough x0 x1 x2 x3 x4 h).bind fun z132 => some (1, z132.2, 0, 0) else some (0, h, 0, 0) else if ¬ ((x2 >>> (x5 &&& 31)) &&& 1) = ((1 : Int32)) then F_X5_findThrough_b61 n x0 x1 x2 x3 x4 (x5 + 1) h else (fR h x0 4 4).bind fun v84 => (F_X5_without x3 x5 h).bind fun z90 => (aI z90.2 v84 ((z90.1 * 10) + x5)).bind fun v99 => (F_J9_min_7cf53 x4 (((1 : Int32)) + v99) z90.2).bind fun z101 => F_X5_findThrough_b61 n x0 x1 x2 x3 z101.1 (x5 + 1) z101.2
theorem R_X5_findThrough_b61 {Γ : xG} {l : Launch} {d : Nat} {Q : Option Value → xH → Prop} {r : Int32} {h' : xH} (hdp : 3 ≤ d) (hq : Q (some (.int r)) h') : ∀ (n : Nat) (x0 : Nat) (x1 : Nat) (x2 : Int32) (x3 : Int32) (x4 : Int32) (x5 : Int32) (h : xH) (mc ms : Nat), F_X5_findThrough_b61 n x0 x1 x2 x3 x4 x5 h = some (r, h', mc, ms) → Gd Γ l d m_X5_findThrough 61 [.ref x0, .ref x1, .int x2, .int x3, .int x4, .int x5] [] h mc ms Q := by
  intro n
  induction n with
  | zero => intro x0 x1 x2 x3 x4 x5 h mc ms hF; cases hF
  | succ n ih =>
  intro x0 x1 x2 x3 x4 x5 h mc ms hF
  rw [F_X5_findThrough_b61] at hF
  refine g_iload d_X5_findThrough_61 rfl ?_
  refine g_aloadn d_X5_findThrough_63 rfl ?_
  replace hF := Option.bind_eq_some_iff.mp hF
  obtain ⟨v64, e64, hF⟩ := hF
  refine q_fI d_X5_findThrough_64 f_X5_35 e64 ?_
  refine g_icmp_ge 117 d_X5_findThrough_67 rfl (fun c67 => ?_) (fun c67 => ?_)
  · replace hF := x_t hF c67
    refine g_iload d_X5_findThrough_117 rfl ?_
    refine g_bi (82) d_X5_findThrough_119 bi_82 ?_
    refine g_icmp_le 126 d_X5_findThrough_121 rfl (fun c121 => ?_) (fun c121 => ?_)
    · replace hF := x_t hF c121
      refine g_aloadn d_X5_findThrough_126 rfl ?_
      refine g_aloadn d_X5_findThrough_127 rfl ?_
      refine g_iloadn d_X5_findThrough_128 rfl ?_
      refine g_iloadn d_X5_findThrough_129 rfl ?_
      refine g_iload d_X5_findThrough_130 rfl ?_
      replace hF := Option.bind_eq_some_iff.mp hF
      obtain ⟨_, g132, hF⟩ := hF
      replace hF := Option.bind_eq_some_iff.mp hF
      obtain ⟨⟨r132, h132⟩, e132, hF⟩ := hF
      try dsimp only at hF
      refine q_callV [.ref x1, .int x2, .int x3, .int x4] [] rfl d_X5_findThrough_132 v_X5_80 (by omega) rfl (Nat.le_of_ble_eq_true rfl) (rc_rc g132 (by decide) rfl) (R_X5_layOutThrough _ _ _ _ _ _ (by omega) e132) ?_
      refine g_ic (1) d_X5_findThrough_135 ic_1 ?_
      obtain ⟨rfl, rfl, rfl, rfl⟩ := x_inj4 hF
      exact g_zret d_X5_findThrough_136 rfl rfl hq
    · replace hF := x_f hF c121
      refine g_ic (0) d_X5_findThrough_124 ic_0 ?_
      obtain ⟨rfl, rfl, rfl, rfl⟩ := x_inj4 hF
      exact g_zret d_X5_findThrough_125 rfl rfl hq
  · replace hF := x_f hF c67
    refine g_iloadn d_X5_findThrough_70 rfl ?_
    refine g_iload d_X5_findThrough_71 rfl ?_
    refine g_ishr d_X5_findThrough_73 ?_
    refine g_ic (1) d_X5_findThrough_74 ic_1 ?_
    refine g_iand d_X5_findThrough_75 ?_
    refine g_ic (1) d_X5_findThrough_76 ic_1 ?_
    refine g_icmp_ne 107 d_X5_findThrough_77 rfl (fun c77 => ?_) (fun c77 => ?_)
    · replace hF := x_t hF c77
      refine g_iload d_X5_findThrough_107 rfl ?_
      refine q_istore [.ref x0, .ref x1, .int x2, .int x3, .int x4, .int x5] d_X5_findThrough_109 (by decide) rfl ?_
      refine q_iinc (1) [.ref x0, .ref x1, .int x2, .int x3, .int x4, .int (x5 + 1)] d_X5_findThrough_111 ic_1 rfl (by decide) rfl ?_
      refine g_goto 61 d_X5_findThrough_114 rfl ?_
      exact q_to (xs_r (xs_r (xs_r (xs_r (xs_r (xs_r xs_n)))))) (ih _ _ _ _ _ _ _ _ _ hF)
    · replace hF := x_f hF (not_not_intro c77)
      refine g_iload d_X5_findThrough_80 rfl ?_
      refine g_ic (1) d_X5_findThrough_82 ic_1 ?_
      refine g_aloadn d_X5_findThrough_83 rfl ?_
      replace hF := Option.bind_eq_some_iff.mp hF
      obtain ⟨v84, e84, hF⟩ := hF
      refine q_fR d_X5_findThrough_84 f_X5_25 e84 ?_
      refine g_iloadn d_X5_findThrough_87 rfl ?_
      refine g_iload d_X5_findThrough_88 rfl ?_
      replace hF := Option.bind_eq_some_iff.mp hF
      obtain ⟨⟨r90, h90⟩, e90, hF⟩ := hF
      try dsimp only at hF
      refine q_callS [.int x3, .int x5] [.ref v84, .int 1, .int x4] rfl d_X5_findThrough_90 s_X5_66 (by omega) rfl (Nat.le_of_ble_eq_true rfl) (R_X5_without _ _ _ (by omega) e90) ?_
      refine g_bi (10) d_X5_findThrough_93 bi_10 ?_
      refine g_imul d_X5_findThrough_95 ?_
      refine g_iload d_X5_findThrough_96 rfl ?_
      refine g_iadd d_X5_findThrough_98 ?_
      replace hF := Option.bind_eq_some_iff.mp hF
      obtain ⟨v99, e99, hF⟩ := hF
      refine q_aI d_X5_findThrough_99 e99 ?_
      refine g_iadd d_X5_findThrough_100 ?_
      replace hF := Option.bind_eq_some_iff.mp hF
      obtain ⟨⟨r101, h101⟩, e101, hF⟩ := hF
      try dsimp only at hF
      refine q_callS [.int x4, .int (((1 : Int32)) + v99)] [] rfl d_X5_findThrough_101 s_X5_77 (by omega) rfl (Nat.le_of_ble_eq_true rfl) (R_J9_min_7cf53 _ _ _ (by omega) e101) ?_
      refine g_goto 109 d_X5_findThrough_104 rfl ?_
      refine q_istore [.ref x0, .ref x1, .int x2, .int x3, .int (r101), .int x5] d_X5_findThrough_109 (by decide) rfl ?_
      refine q_iinc (1) [.ref x0, .ref x1, .int x2, .int x3, .int (r101), .int (x5 + 1)] d_X5_findThrough_111 ic_1 rfl (by decide) rfl ?_
      refine g_goto 61 d_X5_findThrough_114 rfl ?_
      exact q_to (xs_r (xs_r (xs_r (xs_r (xs_r (xs_r xs_n)))))) (ih _ _ _ _ _ _ _ _ _ hF)
def F_X5_findThrough_b37 (x0 : Nat) (x1 : Nat) (x2 : Int32) (x3 : Int32) (h : xH) : Option (Int32 × xH × Nat × Nat) := (rc h x0 4).bind fun _ => (F_X5_measureWays x0 x1 x2 h).bind fun z40 => (fI z40.2 x1 9 0).bind fun v45 => (rc z40.2 x0 4).bind fun _ => (F_X5_measureMore x0 v45 x2 x3 z40.2).bind fun z50 => F_X5_findThrough_b61 FU x0 x1 x2 x3 1000 0 z50.2
theorem R_X5_findThrough_b37 {Γ : xG} {l : Launch} {d : Nat} {Q : Option Value → xH → Prop} {r : Int32} {h' : xH} (hdp : 3 ≤ d) (hq : Q (some (.int r)) h') : ∀ (x0 : Nat) (x1 : Nat) (x2 : Int32) (x3 : Int32) (h : xH) (mc ms : Nat), F_X5_findThrough_b37 x0 x1 x2 x3 h = some (r, h', mc, ms) → Gd Γ l d m_X5_findThrough 37 [.ref x0, .ref x1, .int x2, .int x3, xhole, xhole] [] h mc ms Q := by
  intro x0 x1 x2 x3 h mc ms hF
  unfold F_X5_findThrough_b37 at hF
  refine g_aloadn d_X5_findThrough_37 rfl ?_
  refine g_aloadn d_X5_findThrough_38 rfl ?_
  refine g_iloadn d_X5_findThrough_39 rfl ?_
  replace hF := Option.bind_eq_some_iff.mp hF
  obtain ⟨_, g40, hF⟩ := hF
  replace hF := Option.bind_eq_some_iff.mp hF
  obtain ⟨⟨r40, h40⟩, e40, hF⟩ := hF
  try dsimp only at hF
  refine q_callV [.ref x1, .int x2] [] rfl d_X5_findThrough_40 v_X5_69 (by omega) rfl (Nat.le_of_ble_eq_true rfl) (rc_rc g40 (by decide) rfl) (R_X5_measureWays _ _ _ _ (by omega) e40) ?_
  refine g_aloadn d_X5_findThrough_43 rfl ?_
  refine g_aloadn d_X5_findThrough_44 rfl ?_
  replace hF := Option.bind_eq_some_iff.mp hF
  obtain ⟨v45, e45, hF⟩ := hF
  refine q_fI d_X5_findThrough_45 f_X5_35 e45 ?_
  refine g_iloadn d_X5_findThrough_48 rfl ?_
  refine g_iloadn d_X5_findThrough_49 rfl ?_
  replace hF := Option.bind_eq_some_iff.mp hF
  obtain ⟨_, g50, hF⟩ := hF
  replace hF := Option.bind_eq_some_iff.mp hF
  obtain ⟨⟨r50, h50⟩, e50, hF⟩ := hF
  try dsimp only at hF
  refine q_callV [.int v45, .int x2, .int x3] [] rfl d_X5_findThrough_50 v_X5_73 (by omega) rfl (Nat.le_of_ble_eq_true rfl) (rc_rc g50 (by decide) rfl) (R_X5_measureMore _ _ _ _ _ (by omega) e50) ?_
  refine g_si (1000) d_X5_findThrough_53 si_1000 ?_
  refine q_istore [.ref x0, .ref x1, .int x2, .int x3, .int 1000, xhole] d_X5_findThrough_56 (by decide) rfl ?_
  refine g_ic (0) d_X5_findThrough_58 ic_0 ?_
  refine q_istore [.ref x0, .ref x1, .int x2, .int x3, .int 1000, .int 0] d_X5_findThrough_59 (by decide) rfl ?_
  exact q_to (xs_r (xs_r (xs_r (xs_r (xs_r (xs_r xs_n)))))) (R_X5_findThrough_b61 hdp hq FU _ _ _ _ _ _ _ _ _ hF)
def F_X5_findThrough (x0 : Nat) (x1 : Nat) (x2 : Int32) (x3 : Int32) (h : xH) : Option (Int32 × xH × Nat × Nat) := (wI h x0 4 1 0).bind fun h2 => if (x3 &&& (x2 ^^^ ((-1)))) = 0 then if ¬ x3 = 0 then (fQ h2 x0 4 4).bind fun v22 => (match v22 with | none => if ((10240 : Int32)) < 0 ∨ 60000000 < ((10240 : Int32)).toNatClampNeg then none else ((some (nW h2 0 ((10240 : Int32)).toNatClampNeg)).bind fun h32 => (wQ h32 x0 4 4 ((some (h2).1))).bind fun h34 => F_X5_findThrough_b37 x0 x1 x2 x3 h34).map (ac _ 1 ((10240 : Int32)).toNatClampNeg) | some q25 => F_X5_findThrough_b37 x0 x1 x2 x3 h2) else some (1, h2, 0, 0) else some (0, h2, 0, 0)
theorem R_X5_findThrough {Γ : xG} {l : Launch} {d : Nat} {r : Int32} {h' : xH} {mc ms : Nat} (x0 : Nat) (x1 : Nat) (x2 : Int32) (x3 : Int32) (h : xH) (hdp : 3 ≤ d) (hF : F_X5_findThrough x0 x1 x2 x3 h = some (r, h', mc, ms)) : Gm Γ l d mc ms m_X5_findThrough [.ref x0, .ref x1, .int x2, .int x3] h (fun a u => a = some (.int r) ∧ u = h') := by
  refine Gm.of pn_X5 (Nat.le_of_ble_eq_true rfl) ?_
  show Gd Γ l d m_X5_findThrough 0 [.ref x0, .ref x1, .int x2, .int x3, xhole, xhole] [] h mc ms _
  generalize hQ : (fun (a : Option Value) (u : xH) => a = some (.int r) ∧ u = h') = Q
  have hq : Q (some (.int r)) h' := by rw [← hQ]; exact ⟨rfl, rfl⟩
  clear hQ
  unfold F_X5_findThrough at hF
  refine g_aloadn d_X5_findThrough_0 rfl ?_
  refine g_ic (0) d_X5_findThrough_1 ic_0 ?_
  replace hF := Option.bind_eq_some_iff.mp hF
  obtain ⟨h2, e2, hF⟩ := hF
  refine q_wI d_X5_findThrough_2 (w_X5_15 _) e2 ?_
  refine g_iloadn d_X5_findThrough_5 rfl ?_
  refine g_iloadn d_X5_findThrough_6 rfl ?_
  refine g_ic (-1) d_X5_findThrough_7 ic_m1 ?_
  refine g_ixor d_X5_findThrough_8 ?_
  refine g_iand d_X5_findThrough_9 ?_
  refine g_if_eq 15 d_X5_findThrough_10 rfl (fun c10 => ?_) (fun c10 => ?_)
  · replace hF := x_t hF c10
    refine g_iloadn d_X5_findThrough_15 rfl ?_
    refine g_if_ne 21 d_X5_findThrough_16 rfl (fun c16 => ?_) (fun c16 => ?_)
    · replace hF := x_t hF c16
      refine g_aloadn d_X5_findThrough_21 rfl ?_
      replace hF := Option.bind_eq_some_iff.mp hF
      obtain ⟨v22, e22, hF⟩ := hF
      refine q_fQ d_X5_findThrough_22 f_X5_25 e22 ?_
      cases v22 with
      | none =>
        try dsimp only at hF
        refine g_ifnonnullN d_X5_findThrough_25 ?_
        refine g_aloadn d_X5_findThrough_28 rfl ?_
        refine g_si (10240) d_X5_findThrough_29 si_10240 ?_
        replace hF := x_nz hF
        obtain ⟨n32, hF⟩ := hF
        replace hF := x_map hF
        obtain ⟨c32, s32, rfl, rfl, hF⟩ := hF
        refine q_newaI d_X5_findThrough_32 n32 ?_
        replace hF := Option.bind_eq_some_iff.mp hF
        obtain ⟨h32, e32, hF⟩ := hF
        rw [Option.some.inj e32]
        replace hF := Option.bind_eq_some_iff.mp hF
        obtain ⟨h34, e34, hF⟩ := hF
        refine q_wR d_X5_findThrough_34 (w_X5_25 _) (Or.inr ⟨_, rfl⟩) e34 ?_
        exact q_to (xs_r (xs_r (xs_r (xs_r (xs_h (xs_h xs_n)))))) (R_X5_findThrough_b37 hdp hq _ _ _ _ _ _ _ hF)
      | some q25 =>
        try dsimp only at hF
        refine g_ifnonnull 37 d_X5_findThrough_25 rfl ?_
        exact q_to (xs_r (xs_r (xs_r (xs_r (xs_h (xs_h xs_n)))))) (R_X5_findThrough_b37 hdp hq _ _ _ _ _ _ _ hF)
    · replace hF := x_f hF (not_not_intro c16)
      refine g_ic (1) d_X5_findThrough_19 ic_1 ?_
      obtain ⟨rfl, rfl, rfl, rfl⟩ := x_inj4 hF
      exact g_zret d_X5_findThrough_20 rfl rfl hq
  · replace hF := x_f hF c10
    refine g_ic (0) d_X5_findThrough_13 ic_0 ?_
    obtain ⟨rfl, rfl, rfl, rfl⟩ := x_inj4 hF
    exact g_zret d_X5_findThrough_14 rfl rfl hq
theorem d_X7_init_0 : decode cX7_init 0 = .ok (.aload_n 0, 1) := by decide +kernel
theorem d_X7_init_1 : decode cX7_init 1 = .ok (.invokespecial 3, 3) := by decide +kernel
theorem d_X7_init_4 : decode cX7_init 4 = .ok (.aload_n 0, 1) := by decide +kernel
theorem d_X7_init_5 : decode cX7_init 5 = .ok (.iconst 0, 1) := by decide +kernel
theorem d_X7_init_6 : decode cX7_init 6 = .ok (.putfield 9, 3) := by decide +kernel
theorem d_X7_init_9 : decode cX7_init 9 = .ok (.aload_n 0, 1) := by decide +kernel
theorem d_X7_init_10 : decode cX7_init 10 = .ok (.iconst 0, 1) := by decide +kernel
theorem d_X7_init_11 : decode cX7_init 11 = .ok (.putfield 15, 3) := by decide +kernel
theorem d_X7_init_14 : decode cX7_init 14 = .ok (.aload_n 0, 1) := by decide +kernel
theorem d_X7_init_15 : decode cX7_init 15 = .ok (.bipush 6, 2) := by decide +kernel
theorem d_X7_init_17 : decode cX7_init 17 = .ok (.newarray .int, 2) := by decide +kernel
theorem d_X7_init_19 : decode cX7_init 19 = .ok (.putfield 18, 3) := by decide +kernel
theorem d_X7_init_22 : decode cX7_init 22 = .ok (.aload_n 0, 1) := by decide +kernel
theorem d_X7_init_23 : decode cX7_init 23 = .ok (.sipush 384, 3) := by decide +kernel
theorem d_X7_init_26 : decode cX7_init 26 = .ok (.newarray .int, 2) := by decide +kernel
theorem d_X7_init_28 : decode cX7_init 28 = .ok (.putfield 22, 3) := by decide +kernel
theorem d_X7_init_31 : decode cX7_init 31 = .ok (.aload_n 0, 1) := by decide +kernel
theorem d_X7_init_32 : decode cX7_init 32 = .ok (.bipush 64, 2) := by decide +kernel
theorem d_X7_init_34 : decode cX7_init 34 = .ok (.newarray .int, 2) := by decide +kernel
theorem d_X7_init_36 : decode cX7_init 36 = .ok (.putfield 25, 3) := by decide +kernel
theorem d_X7_init_39 : decode cX7_init 39 = .ok (.return_, 1) := by decide +kernel
def F_X7_init (x0 : Nat) (h : xH) : Option (Unit × xH × Nat × Nat) := (wI h x0 6 0 0).bind fun h6 => (wI h6 x0 6 1 0).bind fun h11 => if ((6 : Int32)) < 0 ∨ 60000000 < ((6 : Int32)).toNatClampNeg then none else ((some (nW h11 0 ((6 : Int32)).toNatClampNeg)).bind fun h17 => (wQ h17 x0 6 2 ((some (h11).1))).bind fun h19 => if ((384 : Int32)) < 0 ∨ 60000000 < ((384 : Int32)).toNatClampNeg then none else ((some (nW h19 0 ((384 : Int32)).toNatClampNeg)).bind fun h26 => (wQ h26 x0 6 3 ((some (h19).1))).bind fun h28 => if ((64 : Int32)) < 0 ∨ 60000000 < ((64 : Int32)).toNatClampNeg then none else ((some (nW h28 0 ((64 : Int32)).toNatClampNeg)).bind fun h34 => (wQ h34 x0 6 4 ((some (h28).1))).bind fun h36 => some ((), h36, 0, 0)).map (ac _ 1 ((64 : Int32)).toNatClampNeg)).map (ac _ 1 ((384 : Int32)).toNatClampNeg)).map (ac _ 1 ((6 : Int32)).toNatClampNeg)
theorem R_X7_init {Γ : xG} {l : Launch} {d : Nat} {r : Unit} {h' : xH} {mc ms : Nat} (x0 : Nat) (h : xH) (hdp : 1 ≤ d) (hF : F_X7_init x0 h = some (r, h', mc, ms)) : Gm Γ l d mc ms m_X7_init [.ref x0] h (fun a u => a = none ∧ u = h') := by
  refine Gm.of pn_X7 (Nat.le_of_ble_eq_true rfl) ?_
  show Gd Γ l d m_X7_init 0 [.ref x0] [] h mc ms _
  generalize hQ : (fun (a : Option Value) (u : xH) => a = none ∧ u = h') = Q
  have hq : Q (none) h' := by rw [← hQ]; exact ⟨rfl, rfl⟩
  clear hQ
  unfold F_X7_init at hF
  refine g_aloadn d_X7_init_0 rfl ?_
  refine q_oi d_X7_init_1 i_X7_3 (by omega) (Nat.le_of_ble_eq_true rfl) ?_
  refine g_aloadn d_X7_init_4 rfl ?_
  refine g_ic (0) d_X7_init_5 ic_0 ?_
  replace hF := Option.bind_eq_some_iff.mp hF
  obtain ⟨h6, e6, hF⟩ := hF
  refine q_wI d_X7_init_6 (w_X7_9 _) e6 ?_
  refine g_aloadn d_X7_init_9 rfl ?_
  refine g_ic (0) d_X7_init_10 ic_0 ?_
  replace hF := Option.bind_eq_some_iff.mp hF
  obtain ⟨h11, e11, hF⟩ := hF
  refine q_wI d_X7_init_11 (w_X7_15 _) e11 ?_
  refine g_aloadn d_X7_init_14 rfl ?_
  refine g_bi (6) d_X7_init_15 bi_6 ?_
  replace hF := x_nz hF
  obtain ⟨n17, hF⟩ := hF
  replace hF := x_map hF
  obtain ⟨c17, s17, rfl, rfl, hF⟩ := hF
  refine q_newaI d_X7_init_17 n17 ?_
  replace hF := Option.bind_eq_some_iff.mp hF
  obtain ⟨h17, e17, hF⟩ := hF
  rw [Option.some.inj e17]
  replace hF := Option.bind_eq_some_iff.mp hF
  obtain ⟨h19, e19, hF⟩ := hF
  refine q_wR d_X7_init_19 w_X7_18 (Or.inr ⟨_, rfl⟩) e19 ?_
  refine g_aloadn d_X7_init_22 rfl ?_
  refine g_si (384) d_X7_init_23 si_384 ?_
  replace hF := x_nz hF
  obtain ⟨n26, hF⟩ := hF
  replace hF := x_map hF
  obtain ⟨c26, s26, rfl, rfl, hF⟩ := hF
  refine q_newaI d_X7_init_26 n26 ?_
  replace hF := Option.bind_eq_some_iff.mp hF
  obtain ⟨h26, e26, hF⟩ := hF
  rw [Option.some.inj e26]
  replace hF := Option.bind_eq_some_iff.mp hF
  obtain ⟨h28, e28, hF⟩ := hF
  refine q_wR d_X7_init_28 w_X7_22 (Or.inr ⟨_, rfl⟩) e28 ?_
  refine g_aloadn d_X7_init_31 rfl ?_
  refine g_bi (64) d_X7_init_32 bi_64 ?_
  replace hF := x_nz hF
  obtain ⟨n34, hF⟩ := hF
  replace hF := x_map hF
  obtain ⟨c34, s34, rfl, rfl, hF⟩ := hF
  refine q_newaI d_X7_init_34 n34 ?_
  replace hF := Option.bind_eq_some_iff.mp hF
  obtain ⟨h34, e34, hF⟩ := hF
  rw [Option.some.inj e34]
  replace hF := Option.bind_eq_some_iff.mp hF
  obtain ⟨h36, e36, hF⟩ := hF
  refine q_wR d_X7_init_36 w_X7_25 (Or.inr ⟨_, rfl⟩) e36 ?_
  obtain ⟨rfl, rfl, rfl, rfl⟩ := x_inj4 hF
  exact g_vret d_X7_init_39 rfl hq
theorem d_X8_init_0 : decode cX8_init 0 = .ok (.aload_n 0, 1) := by decide +kernel
theorem d_X8_init_1 : decode cX8_init 1 = .ok (.invokespecial 3, 3) := by decide +kernel
theorem d_X8_init_4 : decode cX8_init 4 = .ok (.aload_n 0, 1) := by decide +kernel
theorem d_X8_init_5 : decode cX8_init 5 = .ok (.bipush 40, 2) := by decide +kernel
theorem d_X8_init_7 : decode cX8_init 7 = .ok (.newarray .long, 2) := by decide +kernel
theorem d_X8_init_9 : decode cX8_init 9 = .ok (.putfield 9, 3) := by decide +kernel
theorem d_X8_init_12 : decode cX8_init 12 = .ok (.aload_n 0, 1) := by decide +kernel
theorem d_X8_init_13 : decode cX8_init 13 = .ok (.iconst (-1), 1) := by decide +kernel
theorem d_X8_init_14 : decode cX8_init 14 = .ok (.putfield 15, 3) := by decide +kernel
theorem d_X8_init_17 : decode cX8_init 17 = .ok (.aload_n 0, 1) := by decide +kernel
theorem d_X8_init_18 : decode cX8_init 18 = .ok (.iconst 0, 1) := by decide +kernel
theorem d_X8_init_19 : decode cX8_init 19 = .ok (.putfield 19, 3) := by decide +kernel
theorem d_X8_init_22 : decode cX8_init 22 = .ok (.return_, 1) := by decide +kernel
def F_X8_init (x0 : Nat) (h : xH) : Option (Unit × xH × Nat × Nat) := if ((40 : Int32)) < 0 ∨ 60000000 < ((40 : Int32)).toNatClampNeg then none else ((some (nL h ((40 : Int32)).toNatClampNeg)).bind fun h7 => (wQ h7 x0 7 0 ((some (h).1))).bind fun h9 => (wI h9 x0 7 1 ((-1))).bind fun h14 => (wI h14 x0 7 2 0).bind fun h19 => some ((), h19, 0, 0)).map (ac _ 1 ((40 : Int32)).toNatClampNeg)
theorem R_X8_init {Γ : xG} {l : Launch} {d : Nat} {r : Unit} {h' : xH} {mc ms : Nat} (x0 : Nat) (h : xH) (hdp : 1 ≤ d) (hF : F_X8_init x0 h = some (r, h', mc, ms)) : Gm Γ l d mc ms m_X8_init [.ref x0] h (fun a u => a = none ∧ u = h') := by
  refine Gm.of pn_X8 (Nat.le_of_ble_eq_true rfl) ?_
  show Gd Γ l d m_X8_init 0 [.ref x0] [] h mc ms _
  generalize hQ : (fun (a : Option Value) (u : xH) => a = none ∧ u = h') = Q
  have hq : Q (none) h' := by rw [← hQ]; exact ⟨rfl, rfl⟩
  clear hQ
  unfold F_X8_init at hF
  refine g_aloadn d_X8_init_0 rfl ?_
  refine q_oi d_X8_init_1 i_X8_3 (by omega) (Nat.le_of_ble_eq_true rfl) ?_
  refine g_aloadn d_X8_init_4 rfl ?_
  refine g_bi (40) d_X8_init_5 bi_40 ?_
  replace hF := x_nz hF
  obtain ⟨n7, hF⟩ := hF
  replace hF := x_map hF
  obtain ⟨c7, s7, rfl, rfl, hF⟩ := hF
  refine q_newaJ d_X8_init_7 n7 ?_
  replace hF := Option.bind_eq_some_iff.mp hF
  obtain ⟨h7, e7, hF⟩ := hF
  rw [Option.some.inj e7]
  replace hF := Option.bind_eq_some_iff.mp hF
  obtain ⟨h9, e9, hF⟩ := hF
  refine q_wR d_X8_init_9 w_X8_9 (Or.inr ⟨_, rfl⟩) e9 ?_
  refine g_aloadn d_X8_init_12 rfl ?_
  refine g_ic (-1) d_X8_init_13 ic_m1 ?_
  replace hF := Option.bind_eq_some_iff.mp hF
  obtain ⟨h14, e14, hF⟩ := hF
  refine q_wI d_X8_init_14 (w_X8_15 _) e14 ?_
  refine g_aloadn d_X8_init_17 rfl ?_
  refine g_ic (0) d_X8_init_18 ic_0 ?_
  replace hF := Option.bind_eq_some_iff.mp hF
  obtain ⟨h19, e19, hF⟩ := hF
  refine q_wI d_X8_init_19 (w_X8_19 _) e19 ?_
  obtain ⟨rfl, rfl, rfl, rfl⟩ := x_inj4 hF
  exact g_vret d_X8_init_22 rfl hq
theorem d_X9_init_0 : decode cX9_init 0 = .ok (.aload_n 0, 1) := by decide +kernel
theorem d_X9_init_1 : decode cX9_init 1 = .ok (.invokespecial 3, 3) := by decide +kernel
theorem d_X9_init_4 : decode cX9_init 4 = .ok (.aload_n 0, 1) := by decide +kernel
theorem d_X9_init_5 : decode cX9_init 5 = .ok (.iconst 0, 1) := by decide +kernel
theorem d_X9_init_6 : decode cX9_init 6 = .ok (.putfield 9, 3) := by decide +kernel
theorem d_X9_init_9 : decode cX9_init 9 = .ok (.aload_n 0, 1) := by decide +kernel
theorem d_X9_init_10 : decode cX9_init 10 = .ok (.bipush 11, 2) := by decide +kernel
theorem d_X9_init_12 : decode cX9_init 12 = .ok (.newarray .int, 2) := by decide +kernel
theorem d_X9_init_14 : decode cX9_init 14 = .ok (.putfield 15, 3) := by decide +kernel
theorem d_X9_init_17 : decode cX9_init 17 = .ok (.aload_n 0, 1) := by decide +kernel
theorem d_X9_init_18 : decode cX9_init 18 = .ok (.bipush 11, 2) := by decide +kernel
theorem d_X9_init_20 : decode cX9_init 20 = .ok (.newarray .int, 2) := by decide +kernel
theorem d_X9_init_22 : decode cX9_init 22 = .ok (.putfield 19, 3) := by decide +kernel
theorem d_X9_init_25 : decode cX9_init 25 = .ok (.aload_n 0, 1) := by decide +kernel
theorem d_X9_init_26 : decode cX9_init 26 = .ok (.iconst 0, 1) := by decide +kernel
theorem d_X9_init_27 : decode cX9_init 27 = .ok (.putfield 22, 3) := by decide +kernel
theorem d_X9_init_30 : decode cX9_init 30 = .ok (.aload_n 0, 1) := by decide +kernel
theorem d_X9_init_31 : decode cX9_init 31 = .ok (.bipush 10, 2) := by decide +kernel
theorem d_X9_init_33 : decode cX9_init 33 = .ok (.newarray .int, 2) := by decide +kernel
theorem d_X9_init_35 : decode cX9_init 35 = .ok (.putfield 25, 3) := by decide +kernel
theorem d_X9_init_38 : decode cX9_init 38 = .ok (.aload_n 0, 1) := by decide +kernel
theorem d_X9_init_39 : decode cX9_init 39 = .ok (.sipush 2048, 3) := by decide +kernel
theorem d_X9_init_42 : decode cX9_init 42 = .ok (.newarray .byte, 2) := by decide +kernel
theorem d_X9_init_44 : decode cX9_init 44 = .ok (.putfield 28, 3) := by decide +kernel
theorem d_X9_init_47 : decode cX9_init 47 = .ok (.return_, 1) := by decide +kernel
def F_X9_init (x0 : Nat) (h : xH) : Option (Unit × xH × Nat × Nat) := (wI h x0 8 0 0).bind fun h6 => if ((11 : Int32)) < 0 ∨ 60000000 < ((11 : Int32)).toNatClampNeg then none else ((some (nW h6 0 ((11 : Int32)).toNatClampNeg)).bind fun h12 => (wQ h12 x0 8 1 ((some (h6).1))).bind fun h14 => if ((11 : Int32)) < 0 ∨ 60000000 < ((11 : Int32)).toNatClampNeg then none else ((some (nW h14 0 ((11 : Int32)).toNatClampNeg)).bind fun h20 => (wQ h20 x0 8 2 ((some (h14).1))).bind fun h22 => (wI h22 x0 8 3 0).bind fun h27 => if ((10 : Int32)) < 0 ∨ 60000000 < ((10 : Int32)).toNatClampNeg then none else ((some (nW h27 0 ((10 : Int32)).toNatClampNeg)).bind fun h33 => (wQ h33 x0 8 4 ((some (h27).1))).bind fun h35 => if ((2048 : Int32)) < 0 ∨ 60000000 < ((2048 : Int32)).toNatClampNeg then none else ((some (nW h35 3 ((2048 : Int32)).toNatClampNeg)).bind fun h42 => (wQ h42 x0 8 5 ((some (h35).1))).bind fun h44 => some ((), h44, 0, 0)).map (ac _ 1 ((2048 : Int32)).toNatClampNeg)).map (ac _ 1 ((10 : Int32)).toNatClampNeg)).map (ac _ 1 ((11 : Int32)).toNatClampNeg)).map (ac _ 1 ((11 : Int32)).toNatClampNeg)
theorem R_X9_init {Γ : xG} {l : Launch} {d : Nat} {r : Unit} {h' : xH} {mc ms : Nat} (x0 : Nat) (h : xH) (hdp : 1 ≤ d) (hF : F_X9_init x0 h = some (r, h', mc, ms)) : Gm Γ l d mc ms m_X9_init [.ref x0] h (fun a u => a = none ∧ u = h') := by
  refine Gm.of pn_X9 (Nat.le_of_ble_eq_true rfl) ?_
  show Gd Γ l d m_X9_init 0 [.ref x0] [] h mc ms _
  generalize hQ : (fun (a : Option Value) (u : xH) => a = none ∧ u = h') = Q
  have hq : Q (none) h' := by rw [← hQ]; exact ⟨rfl, rfl⟩
  clear hQ
  unfold F_X9_init at hF
  refine g_aloadn d_X9_init_0 rfl ?_
  refine q_oi d_X9_init_1 i_X9_3 (by omega) (Nat.le_of_ble_eq_true rfl) ?_
  refine g_aloadn d_X9_init_4 rfl ?_
  refine g_ic (0) d_X9_init_5 ic_0 ?_
  replace hF := Option.bind_eq_some_iff.mp hF
  obtain ⟨h6, e6, hF⟩ := hF
  refine q_wI d_X9_init_6 (w_X9_9 _) e6 ?_
  refine g_aloadn d_X9_init_9 rfl ?_
  refine g_bi (11) d_X9_init_10 bi_11 ?_
  replace hF := x_nz hF
  obtain ⟨n12, hF⟩ := hF
  replace hF := x_map hF
  obtain ⟨c12, s12, rfl, rfl, hF⟩ := hF
  refine q_newaI d_X9_init_12 n12 ?_
  replace hF := Option.bind_eq_some_iff.mp hF
  obtain ⟨h12, e12, hF⟩ := hF
  rw [Option.some.inj e12]
  replace hF := Option.bind_eq_some_iff.mp hF
  obtain ⟨h14, e14, hF⟩ := hF
  refine q_wR d_X9_init_14 w_X9_15 (Or.inr ⟨_, rfl⟩) e14 ?_
  refine g_aloadn d_X9_init_17 rfl ?_
  refine g_bi (11) d_X9_init_18 bi_11 ?_
  replace hF := x_nz hF
  obtain ⟨n20, hF⟩ := hF
  replace hF := x_map hF
  obtain ⟨c20, s20, rfl, rfl, hF⟩ := hF
  refine q_newaI d_X9_init_20 n20 ?_
  replace hF := Option.bind_eq_some_iff.mp hF
  obtain ⟨h20, e20, hF⟩ := hF
  rw [Option.some.inj e20]
  replace hF := Option.bind_eq_some_iff.mp hF
  obtain ⟨h22, e22, hF⟩ := hF
  refine q_wR d_X9_init_22 w_X9_19 (Or.inr ⟨_, rfl⟩) e22 ?_
  refine g_aloadn d_X9_init_25 rfl ?_
  refine g_ic (0) d_X9_init_26 ic_0 ?_
  replace hF := Option.bind_eq_some_iff.mp hF
  obtain ⟨h27, e27, hF⟩ := hF
  refine q_wI d_X9_init_27 (w_X9_22 _) e27 ?_
  refine g_aloadn d_X9_init_30 rfl ?_
  refine g_bi (10) d_X9_init_31 bi_10 ?_
  replace hF := x_nz hF
  obtain ⟨n33, hF⟩ := hF
  replace hF := x_map hF
  obtain ⟨c33, s33, rfl, rfl, hF⟩ := hF
  refine q_newaI d_X9_init_33 n33 ?_
  replace hF := Option.bind_eq_some_iff.mp hF
  obtain ⟨h33, e33, hF⟩ := hF
  rw [Option.some.inj e33]
  replace hF := Option.bind_eq_some_iff.mp hF
  obtain ⟨h35, e35, hF⟩ := hF
  refine q_wR d_X9_init_35 w_X9_25 (Or.inr ⟨_, rfl⟩) e35 ?_
  refine g_aloadn d_X9_init_38 rfl ?_
  refine g_si (2048) d_X9_init_39 si_2048 ?_
  replace hF := x_nz hF
  obtain ⟨n42, hF⟩ := hF
  replace hF := x_map hF
  obtain ⟨c42, s42, rfl, rfl, hF⟩ := hF
  refine q_newaB d_X9_init_42 n42 ?_
  replace hF := Option.bind_eq_some_iff.mp hF
  obtain ⟨h42, e42, hF⟩ := hF
  rw [Option.some.inj e42]
  replace hF := Option.bind_eq_some_iff.mp hF
  obtain ⟨h44, e44, hF⟩ := hF
  refine q_wR d_X9_init_44 w_X9_28 (Or.inr ⟨_, rfl⟩) e44 ?_
  obtain ⟨rfl, rfl, rfl, rfl⟩ := x_inj4 hF
  exact g_vret d_X9_init_47 rfl hq
theorem d_X11_init_0 : decode cX11_init 0 = .ok (.aload_n 0, 1) := by decide +kernel
theorem d_X11_init_1 : decode cX11_init 1 = .ok (.invokespecial 1, 3) := by decide +kernel
theorem d_X11_init_4 : decode cX11_init 4 = .ok (.aload_n 0, 1) := by decide +kernel
theorem d_X11_init_5 : decode cX11_init 5 = .ok (.new 7, 3) := by decide +kernel
theorem d_X11_init_8 : decode cX11_init 8 = .ok (.dup, 1) := by decide +kernel
theorem d_X11_init_9 : decode cX11_init 9 = .ok (.invokespecial 9, 3) := by decide +kernel
theorem d_X11_init_12 : decode cX11_init 12 = .ok (.putfield 10, 3) := by decide +kernel
theorem d_X11_init_15 : decode cX11_init 15 = .ok (.aload_n 0, 1) := by decide +kernel
theorem d_X11_init_16 : decode cX11_init 16 = .ok (.new 16, 3) := by decide +kernel
theorem d_X11_init_19 : decode cX11_init 19 = .ok (.dup, 1) := by decide +kernel
theorem d_X11_init_20 : decode cX11_init 20 = .ok (.invokespecial 18, 3) := by decide +kernel
theorem d_X11_init_23 : decode cX11_init 23 = .ok (.putfield 19, 3) := by decide +kernel
theorem d_X11_init_26 : decode cX11_init 26 = .ok (.aload_n 0, 1) := by decide +kernel
theorem d_X11_init_27 : decode cX11_init 27 = .ok (.new 23, 3) := by decide +kernel
theorem d_X11_init_30 : decode cX11_init 30 = .ok (.dup, 1) := by decide +kernel
theorem d_X11_init_31 : decode cX11_init 31 = .ok (.invokespecial 25, 3) := by decide +kernel
theorem d_X11_init_34 : decode cX11_init 34 = .ok (.putfield 26, 3) := by decide +kernel
theorem d_X11_init_37 : decode cX11_init 37 = .ok (.aload_n 0, 1) := by decide +kernel
theorem d_X11_init_38 : decode cX11_init 38 = .ok (.new 23, 3) := by decide +kernel
theorem d_X11_init_41 : decode cX11_init 41 = .ok (.dup, 1) := by decide +kernel
theorem d_X11_init_42 : decode cX11_init 42 = .ok (.invokespecial 25, 3) := by decide +kernel
theorem d_X11_init_45 : decode cX11_init 45 = .ok (.putfield 30, 3) := by decide +kernel
theorem d_X11_init_48 : decode cX11_init 48 = .ok (.aload_n 0, 1) := by decide +kernel
theorem d_X11_init_49 : decode cX11_init 49 = .ok (.new 33, 3) := by decide +kernel
theorem d_X11_init_52 : decode cX11_init 52 = .ok (.dup, 1) := by decide +kernel
theorem d_X11_init_53 : decode cX11_init 53 = .ok (.invokespecial 35, 3) := by decide +kernel
theorem d_X11_init_56 : decode cX11_init 56 = .ok (.putfield 36, 3) := by decide +kernel
theorem d_X11_init_59 : decode cX11_init 59 = .ok (.aload_n 0, 1) := by decide +kernel
theorem d_X11_init_60 : decode cX11_init 60 = .ok (.iconst 4, 1) := by decide +kernel
theorem d_X11_init_61 : decode cX11_init 61 = .ok (.anewarray 40, 3) := by decide +kernel
theorem d_X11_init_64 : decode cX11_init 64 = .ok (.putfield 42, 3) := by decide +kernel
theorem d_X11_init_67 : decode cX11_init 67 = .ok (.aload_n 0, 1) := by decide +kernel
theorem d_X11_init_68 : decode cX11_init 68 = .ok (.iconst 2, 1) := by decide +kernel
theorem d_X11_init_69 : decode cX11_init 69 = .ok (.anewarray 16, 3) := by decide +kernel
theorem d_X11_init_72 : decode cX11_init 72 = .ok (.putfield 46, 3) := by decide +kernel
theorem d_X11_init_75 : decode cX11_init 75 = .ok (.aload_n 0, 1) := by decide +kernel
theorem d_X11_init_76 : decode cX11_init 76 = .ok (.iconst 2, 1) := by decide +kernel
theorem d_X11_init_77 : decode cX11_init 77 = .ok (.anewarray 23, 3) := by decide +kernel
theorem d_X11_init_80 : decode cX11_init 80 = .ok (.putfield 50, 3) := by decide +kernel
theorem d_X11_init_83 : decode cX11_init 83 = .ok (.aload_n 0, 1) := by decide +kernel
theorem d_X11_init_84 : decode cX11_init 84 = .ok (.new 54, 3) := by decide +kernel
theorem d_X11_init_87 : decode cX11_init 87 = .ok (.dup, 1) := by decide +kernel
theorem d_X11_init_88 : decode cX11_init 88 = .ok (.invokespecial 56, 3) := by decide +kernel
theorem d_X11_init_91 : decode cX11_init 91 = .ok (.putfield 57, 3) := by decide +kernel
theorem d_X11_init_94 : decode cX11_init 94 = .ok (.aload_n 0, 1) := by decide +kernel
theorem d_X11_init_95 : decode cX11_init 95 = .ok (.new 61, 3) := by decide +kernel
theorem d_X11_init_98 : decode cX11_init 98 = .ok (.dup, 1) := by decide +kernel
theorem d_X11_init_99 : decode cX11_init 99 = .ok (.invokespecial 63, 3) := by decide +kernel
theorem d_X11_init_102 : decode cX11_init 102 = .ok (.putfield 64, 3) := by decide +kernel
theorem d_X11_init_105 : decode cX11_init 105 = .ok (.aload_n 0, 1) := by decide +kernel
theorem d_X11_init_106 : decode cX11_init 106 = .ok (.new 68, 3) := by decide +kernel
theorem d_X11_init_109 : decode cX11_init 109 = .ok (.dup, 1) := by decide +kernel
theorem d_X11_init_110 : decode cX11_init 110 = .ok (.invokespecial 70, 3) := by decide +kernel
theorem d_X11_init_113 : decode cX11_init 113 = .ok (.putfield 71, 3) := by decide +kernel
theorem d_X11_init_116 : decode cX11_init 116 = .ok (.aload_n 0, 1) := by decide +kernel
theorem d_X11_init_117 : decode cX11_init 117 = .ok (.new 75, 3) := by decide +kernel
theorem d_X11_init_120 : decode cX11_init 120 = .ok (.dup, 1) := by decide +kernel
theorem d_X11_init_121 : decode cX11_init 121 = .ok (.invokespecial 77, 3) := by decide +kernel
theorem d_X11_init_124 : decode cX11_init 124 = .ok (.putfield 78, 3) := by decide +kernel
theorem d_X11_init_127 : decode cX11_init 127 = .ok (.aload_n 0, 1) := by decide +kernel
theorem d_X11_init_128 : decode cX11_init 128 = .ok (.getfield 19, 3) := by decide +kernel
theorem d_X11_init_131 : decode cX11_init 131 = .ok (.invokevirtual 82, 3) := by decide +kernel
theorem d_X11_init_134 : decode cX11_init 134 = .ok (.iconst 0, 1) := by decide +kernel
theorem d_X11_init_135 : decode cX11_init 135 = .ok (.istore_n 1, 1) := by decide +kernel
theorem d_X11_init_136 : decode cX11_init 136 = .ok (.iload_n 1, 1) := by decide +kernel
theorem d_X11_init_137 : decode cX11_init 137 = .ok (.iconst 4, 1) := by decide +kernel
theorem d_X11_init_138 : decode cX11_init 138 = .ok (.if_icmp .ge 22, 3) := by decide +kernel
theorem d_X11_init_141 : decode cX11_init 141 = .ok (.aload_n 0, 1) := by decide +kernel
theorem d_X11_init_142 : decode cX11_init 142 = .ok (.getfield 42, 3) := by decide +kernel
theorem d_X11_init_145 : decode cX11_init 145 = .ok (.iload_n 1, 1) := by decide +kernel
theorem d_X11_init_146 : decode cX11_init 146 = .ok (.new 40, 3) := by decide +kernel
theorem d_X11_init_149 : decode cX11_init 149 = .ok (.dup, 1) := by decide +kernel
theorem d_X11_init_150 : decode cX11_init 150 = .ok (.invokespecial 85, 3) := by decide +kernel
theorem d_X11_init_153 : decode cX11_init 153 = .ok (.aastore, 1) := by decide +kernel
theorem d_X11_init_154 : decode cX11_init 154 = .ok (.iinc 1 1, 3) := by decide +kernel
theorem d_X11_init_157 : decode cX11_init 157 = .ok (.goto (-21), 3) := by decide +kernel
theorem d_X11_init_160 : decode cX11_init 160 = .ok (.iconst 0, 1) := by decide +kernel
theorem d_X11_init_161 : decode cX11_init 161 = .ok (.istore_n 1, 1) := by decide +kernel
theorem d_X11_init_162 : decode cX11_init 162 = .ok (.iload_n 1, 1) := by decide +kernel
theorem d_X11_init_163 : decode cX11_init 163 = .ok (.iconst 2, 1) := by decide +kernel
theorem d_X11_init_164 : decode cX11_init 164 = .ok (.if_icmp .ge 22, 3) := by decide +kernel
theorem d_X11_init_167 : decode cX11_init 167 = .ok (.aload_n 0, 1) := by decide +kernel
theorem d_X11_init_168 : decode cX11_init 168 = .ok (.getfield 50, 3) := by decide +kernel
theorem d_X11_init_171 : decode cX11_init 171 = .ok (.iload_n 1, 1) := by decide +kernel
theorem d_X11_init_172 : decode cX11_init 172 = .ok (.new 23, 3) := by decide +kernel
theorem d_X11_init_175 : decode cX11_init 175 = .ok (.dup, 1) := by decide +kernel
theorem d_X11_init_176 : decode cX11_init 176 = .ok (.invokespecial 25, 3) := by decide +kernel
theorem d_X11_init_179 : decode cX11_init 179 = .ok (.aastore, 1) := by decide +kernel
theorem d_X11_init_180 : decode cX11_init 180 = .ok (.iinc 1 1, 3) := by decide +kernel
theorem d_X11_init_183 : decode cX11_init 183 = .ok (.goto (-21), 3) := by decide +kernel
theorem d_X11_init_186 : decode cX11_init 186 = .ok (.return_, 1) := by decide +kernel
def F_X11_init_b162 : Nat → Nat → Int32 → xH → Option (Unit × xH × Nat × Nat)
  | 0, _, _, _ => none
  | n + 1, x0, x1, h => if ((2 : Int32)) ≤ x1 then some ((), h, 0, 0) else (fR h x0 10 7).bind fun v168 => ((some (nO h 5 [.null, .null, .null, .int 0, .int 0])).bind fun h172 => (F_X6_init ((h).1) h172).bind fun z176 => ((sR z176.2.1 v168 x1 ((h).1)).bind fun h179 => F_X11_init_b162 n x0 (x1 + 1) h179).map (ac _ z176.2.2.1 z176.2.2.2)).map (ac _ 1 5)
theorem R_X11_init_b162 {Γ : xG} {l : Launch} {d : Nat} {Q : Option Value → xH → Prop} {r : Unit} {h' : xH} (hdp : 5 ≤ d) (hq : Q (none) h') : ∀ (n : Nat) (x0 : Nat) (x1 : Int32) (h : xH) (mc ms : Nat), F_X11_init_b162 n x0 x1 h = some (r, h', mc, ms) → Gd Γ l d m_X11_init 162 [.ref x0, .int x1] [] h mc ms Q := by
  intro n
  induction n with
  | zero => intro x0 x1 h mc ms hF; cases hF
  | succ n ih =>
  intro x0 x1 h mc ms hF
  rw [F_X11_init_b162] at hF
  refine g_iloadn d_X11_init_162 rfl ?_
  refine g_ic (2) d_X11_init_163 ic_2 ?_
  refine g_icmp_ge 186 d_X11_init_164 rfl (fun c164 => ?_) (fun c164 => ?_)
  · replace hF := x_t hF c164
    obtain ⟨rfl, rfl, rfl, rfl⟩ := x_inj4 hF
    exact g_vret d_X11_init_186 rfl hq
  · replace hF := x_f hF c164
    refine g_aloadn d_X11_init_167 rfl ?_
    replace hF := Option.bind_eq_some_iff.mp hF
    obtain ⟨v168, e168, hF⟩ := hF
    refine q_fR d_X11_init_168 f_X11_50 e168 ?_
    refine g_iloadn d_X11_init_171 rfl ?_
    replace hF := x_map hF
    obtain ⟨c172, s172, rfl, rfl, hF⟩ := hF
    refine q_new d_X11_init_172 n_X11_23 ?_
    replace hF := Option.bind_eq_some_iff.mp hF
    obtain ⟨h172, e172, hF⟩ := hF
    rw [Option.some.inj e172]
    refine g_dup d_X11_init_175 rfl ?_
    replace hF := Option.bind_eq_some_iff.mp hF
    obtain ⟨⟨r176, h176, mc176, ms176⟩, e176, hF⟩ := hF
    replace hF := x_map hF
    obtain ⟨c176, s176, rfl, rfl, hF⟩ := hF
    try dsimp only at hF
    refine q_callIa [] [.ref ((h).1), .int x1, .ref v168] rfl d_X11_init_176 i_X11_25 (by omega) rfl (Nat.le_of_ble_eq_true rfl) (R_X6_init _ _ (by omega) e176) ?_
    replace hF := Option.bind_eq_some_iff.mp hF
    obtain ⟨h179, e179, hF⟩ := hF
    refine q_sR d_X11_init_179 e179 ?_
    refine q_iinc (1) [.ref x0, .int (x1 + 1)] d_X11_init_180 ic_1 rfl (by decide) rfl ?_
    refine g_goto 162 d_X11_init_183 rfl ?_
    exact q_to (xs_r (xs_r xs_n)) (ih _ _ _ _ _ hF)
def F_X11_init_b136 : Nat → Nat → Int32 → xH → Option (Unit × xH × Nat × Nat)
  | 0, _, _, _ => none
  | n + 1, x0, x1, h => if ((4 : Int32)) ≤ x1 then F_X11_init_b162 FU x0 0 h else (fR h x0 10 5).bind fun v142 => ((some (nO h 7 [.null, .int 0, .int 0])).bind fun h146 => (F_X8_init ((h).1) h146).bind fun z150 => ((sR z150.2.1 v142 x1 ((h).1)).bind fun h153 => F_X11_init_b136 n x0 (x1 + 1) h153).map (ac _ z150.2.2.1 z150.2.2.2)).map (ac _ 1 3)
theorem R_X11_init_b136 {Γ : xG} {l : Launch} {d : Nat} {Q : Option Value → xH → Prop} {r : Unit} {h' : xH} (hdp : 5 ≤ d) (hq : Q (none) h') : ∀ (n : Nat) (x0 : Nat) (x1 : Int32) (h : xH) (mc ms : Nat), F_X11_init_b136 n x0 x1 h = some (r, h', mc, ms) → Gd Γ l d m_X11_init 136 [.ref x0, .int x1] [] h mc ms Q := by
  intro n
  induction n with
  | zero => intro x0 x1 h mc ms hF; cases hF
  | succ n ih =>
  intro x0 x1 h mc ms hF
  rw [F_X11_init_b136] at hF
  refine g_iloadn d_X11_init_136 rfl ?_
  refine g_ic (4) d_X11_init_137 ic_4 ?_
  refine g_icmp_ge 160 d_X11_init_138 rfl (fun c138 => ?_) (fun c138 => ?_)
  · replace hF := x_t hF c138
    refine g_ic (0) d_X11_init_160 ic_0 ?_
    refine q_istoren [.ref x0, .int 0] d_X11_init_161 (by decide) rfl ?_
    exact q_to (xs_r (xs_r xs_n)) (R_X11_init_b162 hdp hq FU _ _ _ _ _ hF)
  · replace hF := x_f hF c138
    refine g_aloadn d_X11_init_141 rfl ?_
    replace hF := Option.bind_eq_some_iff.mp hF
    obtain ⟨v142, e142, hF⟩ := hF
    refine q_fR d_X11_init_142 f_X11_42 e142 ?_
    refine g_iloadn d_X11_init_145 rfl ?_
    replace hF := x_map hF
    obtain ⟨c146, s146, rfl, rfl, hF⟩ := hF
    refine q_new d_X11_init_146 n_X11_40 ?_
    replace hF := Option.bind_eq_some_iff.mp hF
    obtain ⟨h146, e146, hF⟩ := hF
    rw [Option.some.inj e146]
    refine g_dup d_X11_init_149 rfl ?_
    replace hF := Option.bind_eq_some_iff.mp hF
    obtain ⟨⟨r150, h150, mc150, ms150⟩, e150, hF⟩ := hF
    replace hF := x_map hF
    obtain ⟨c150, s150, rfl, rfl, hF⟩ := hF
    try dsimp only at hF
    refine q_callIa [] [.ref ((h).1), .int x1, .ref v142] rfl d_X11_init_150 i_X11_85 (by omega) rfl (Nat.le_of_ble_eq_true rfl) (R_X8_init _ _ (by omega) e150) ?_
    replace hF := Option.bind_eq_some_iff.mp hF
    obtain ⟨h153, e153, hF⟩ := hF
    refine q_sR d_X11_init_153 e153 ?_
    refine q_iinc (1) [.ref x0, .int (x1 + 1)] d_X11_init_154 ic_1 rfl (by decide) rfl ?_
    refine g_goto 136 d_X11_init_157 rfl ?_
    exact q_to (xs_r (xs_r xs_n)) (ih _ _ _ _ _ hF)
def F_X11_init (x0 : Nat) (h : xH) : Option (Unit × xH × Nat × Nat) := ((some (nO h 3 [.null, .int 0, .null, .int 0, .int 0, .int 0, .int 0, .int 0, .int 0, .int 0, .null, .int 0, .int 0])).bind fun h5 => (F_X4_init ((h).1) h5).bind fun z9 => ((wQ z9.2.1 x0 10 0 ((some (h).1))).bind fun h12 => ((some (nO h12 9 [.int 0, .int 0, .int 0, .int 0, .int 0, .null, .null, .null, .null, .null, .null, .null, .null, .null])).bind fun h16 => (F_X10_init ((h12).1) h16).bind fun z20 => ((wQ z20.2.1 x0 10 1 ((some (h12).1))).bind fun h23 => ((some (nO h23 5 [.null, .null, .null, .int 0, .int 0])).bind fun h27 => (F_X6_init ((h23).1) h27).bind fun z31 => ((wQ z31.2.1 x0 10 2 ((some (h23).1))).bind fun h34 => ((some (nO h34 5 [.null, .null, .null, .int 0, .int 0])).bind fun h38 => (F_X6_init ((h34).1) h38).bind fun z42 => ((wQ z42.2.1 x0 10 3 ((some (h34).1))).bind fun h45 => ((some (nO h45 1 [.null, .int 0, .int 0])).bind fun h49 => (F_X2_init ((h45).1) h49).bind fun z53 => ((wQ z53.2.1 x0 10 4 ((some (h45).1))).bind fun h56 => if ((4 : Int32)) < 0 ∨ 60000000 < ((4 : Int32)).toNatClampNeg then none else ((some (nQ h56 6 ((4 : Int32)).toNatClampNeg)).bind fun h61 => (wQ h61 x0 10 5 ((some (h56).1))).bind fun h64 => if ((2 : Int32)) < 0 ∨ 60000000 < ((2 : Int32)).toNatClampNeg then none else ((some (nQ h64 7 ((2 : Int32)).toNatClampNeg)).bind fun h69 => (wQ h69 x0 10 6 ((some (h64).1))).bind fun h72 => if ((2 : Int32)) < 0 ∨ 60000000 < ((2 : Int32)).toNatClampNeg then none else ((some (nQ h72 5 ((2 : Int32)).toNatClampNeg)).bind fun h77 => (wQ h77 x0 10 7 ((some (h72).1))).bind fun h80 => ((some (nO h80 8 [.int 0, .null, .null, .int 0, .null, .null])).bind fun h84 => (F_X9_init ((h80).1) h84).bind fun z88 => ((wQ z88.2.1 x0 10 8 ((some (h80).1))).bind fun h91 => ((some (nO h91 6 [.int 0, .int 0, .null, .null, .null])).bind fun h95 => (F_X7_init ((h91).1) h95).bind fun z99 => ((wQ z99.2.1 x0 10 9 ((some (h91).1))).bind fun h102 => ((some (nO h102 4 [.null, .int 0, .null, .null, .null, .null, .null])).bind fun h106 => (F_X5_init ((h102).1) h106).bind fun z110 => ((wQ z110.2.1 x0 10 10 ((some (h102).1))).bind fun h113 => ((some (nO h113 0 [.null, .null, .null])).bind fun h117 => (F_X1_init ((h113).1) h117).bind fun z121 => ((wQ z121.2.1 x0 10 11 ((some (h113).1))).bind fun h124 => (fR h124 x0 10 1).bind fun v128 => (rc h124 v128 9).bind fun _ => (F_X10_settle v128 h124).bind fun z131 => F_X11_init_b136 FU x0 0 z131.2).map (ac _ z121.2.2.1 z121.2.2.2)).map (ac _ 1 3)).map (ac _ z110.2.2.1 z110.2.2.2)).map (ac _ 1 7)).map (ac _ z99.2.2.1 z99.2.2.2)).map (ac _ 1 5)).map (ac _ z88.2.2.1 z88.2.2.2)).map (ac _ 1 6)).map (ac _ 1 ((2 : Int32)).toNatClampNeg)).map (ac _ 1 ((2 : Int32)).toNatClampNeg)).map (ac _ 1 ((4 : Int32)).toNatClampNeg)).map (ac _ z53.2.2.1 z53.2.2.2)).map (ac _ 1 3)).map (ac _ z42.2.2.1 z42.2.2.2)).map (ac _ 1 5)).map (ac _ z31.2.2.1 z31.2.2.2)).map (ac _ 1 5)).map (ac _ z20.2.2.1 z20.2.2.2)).map (ac _ 1 14)).map (ac _ z9.2.2.1 z9.2.2.2)).map (ac _ 1 13)
theorem R_X11_init {Γ : xG} {l : Launch} {d : Nat} {r : Unit} {h' : xH} {mc ms : Nat} (x0 : Nat) (h : xH) (hdp : 5 ≤ d) (hF : F_X11_init x0 h = some (r, h', mc, ms)) : Gm Γ l d mc ms m_X11_init [.ref x0] h (fun a u => a = none ∧ u = h') := by
  refine Gm.of pn_X11 (Nat.le_of_ble_eq_true rfl) ?_
  show Gd Γ l d m_X11_init 0 [.ref x0, xhole] [] h mc ms _
  generalize hQ : (fun (a : Option Value) (u : xH) => a = none ∧ u = h') = Q
  have hq : Q (none) h' := by rw [← hQ]; exact ⟨rfl, rfl⟩
  clear hQ
  unfold F_X11_init at hF
  refine g_aloadn d_X11_init_0 rfl ?_
  refine q_oi d_X11_init_1 i_X11_1 (by omega) (Nat.le_of_ble_eq_true rfl) ?_
  refine g_aloadn d_X11_init_4 rfl ?_
  replace hF := x_map hF
  obtain ⟨c5, s5, rfl, rfl, hF⟩ := hF
  refine q_new d_X11_init_5 n_X11_7 ?_
  replace hF := Option.bind_eq_some_iff.mp hF
  obtain ⟨h5, e5, hF⟩ := hF
  rw [Option.some.inj e5]
  refine g_dup d_X11_init_8 rfl ?_
  replace hF := Option.bind_eq_some_iff.mp hF
  obtain ⟨⟨r9, h9, mc9, ms9⟩, e9, hF⟩ := hF
  replace hF := x_map hF
  obtain ⟨c9, s9, rfl, rfl, hF⟩ := hF
  try dsimp only at hF
  refine q_callIa [] [.ref ((h).1), .ref x0] rfl d_X11_init_9 i_X11_9 (by omega) rfl (Nat.le_of_ble_eq_true rfl) (R_X4_init _ _ (by omega) e9) ?_
  replace hF := Option.bind_eq_some_iff.mp hF
  obtain ⟨h12, e12, hF⟩ := hF
  refine q_wR d_X11_init_12 w_X11_10 (Or.inl ⟨_, rfl⟩) e12 ?_
  refine g_aloadn d_X11_init_15 rfl ?_
  replace hF := x_map hF
  obtain ⟨c16, s16, rfl, rfl, hF⟩ := hF
  refine q_new d_X11_init_16 n_X11_16 ?_
  replace hF := Option.bind_eq_some_iff.mp hF
  obtain ⟨h16, e16, hF⟩ := hF
  rw [Option.some.inj e16]
  refine g_dup d_X11_init_19 rfl ?_
  replace hF := Option.bind_eq_some_iff.mp hF
  obtain ⟨⟨r20, h20, mc20, ms20⟩, e20, hF⟩ := hF
  replace hF := x_map hF
  obtain ⟨c20, s20, rfl, rfl, hF⟩ := hF
  try dsimp only at hF
  refine q_callIa [] [.ref ((h12).1), .ref x0] rfl d_X11_init_20 i_X11_18 (by omega) rfl (Nat.le_of_ble_eq_true rfl) (R_X10_init _ _ (by omega) e20) ?_
  replace hF := Option.bind_eq_some_iff.mp hF
  obtain ⟨h23, e23, hF⟩ := hF
  refine q_wR d_X11_init_23 (w_X11_19 _) (Or.inl ⟨_, rfl⟩) e23 ?_
  refine g_aloadn d_X11_init_26 rfl ?_
  replace hF := x_map hF
  obtain ⟨c27, s27, rfl, rfl, hF⟩ := hF
  refine q_new d_X11_init_27 n_X11_23 ?_
  replace hF := Option.bind_eq_some_iff.mp hF
  obtain ⟨h27, e27, hF⟩ := hF
  rw [Option.some.inj e27]
  refine g_dup d_X11_init_30 rfl ?_
  replace hF := Option.bind_eq_some_iff.mp hF
  obtain ⟨⟨r31, h31, mc31, ms31⟩, e31, hF⟩ := hF
  replace hF := x_map hF
  obtain ⟨c31, s31, rfl, rfl, hF⟩ := hF
  try dsimp only at hF
  refine q_callIa [] [.ref ((h23).1), .ref x0] rfl d_X11_init_31 i_X11_25 (by omega) rfl (Nat.le_of_ble_eq_true rfl) (R_X6_init _ _ (by omega) e31) ?_
  replace hF := Option.bind_eq_some_iff.mp hF
  obtain ⟨h34, e34, hF⟩ := hF
  refine q_wR d_X11_init_34 w_X11_26 (Or.inl ⟨_, rfl⟩) e34 ?_
  refine g_aloadn d_X11_init_37 rfl ?_
  replace hF := x_map hF
  obtain ⟨c38, s38, rfl, rfl, hF⟩ := hF
  refine q_new d_X11_init_38 n_X11_23 ?_
  replace hF := Option.bind_eq_some_iff.mp hF
  obtain ⟨h38, e38, hF⟩ := hF
  rw [Option.some.inj e38]
  refine g_dup d_X11_init_41 rfl ?_
  replace hF := Option.bind_eq_some_iff.mp hF
  obtain ⟨⟨r42, h42, mc42, ms42⟩, e42, hF⟩ := hF
  replace hF := x_map hF
  obtain ⟨c42, s42, rfl, rfl, hF⟩ := hF
  try dsimp only at hF
  refine q_callIa [] [.ref ((h34).1), .ref x0] rfl d_X11_init_42 i_X11_25 (by omega) rfl (Nat.le_of_ble_eq_true rfl) (R_X6_init _ _ (by omega) e42) ?_
  replace hF := Option.bind_eq_some_iff.mp hF
  obtain ⟨h45, e45, hF⟩ := hF
  refine q_wR d_X11_init_45 w_X11_30 (Or.inl ⟨_, rfl⟩) e45 ?_
  refine g_aloadn d_X11_init_48 rfl ?_
  replace hF := x_map hF
  obtain ⟨c49, s49, rfl, rfl, hF⟩ := hF
  refine q_new d_X11_init_49 n_X11_33 ?_
  replace hF := Option.bind_eq_some_iff.mp hF
  obtain ⟨h49, e49, hF⟩ := hF
  rw [Option.some.inj e49]
  refine g_dup d_X11_init_52 rfl ?_
  replace hF := Option.bind_eq_some_iff.mp hF
  obtain ⟨⟨r53, h53, mc53, ms53⟩, e53, hF⟩ := hF
  replace hF := x_map hF
  obtain ⟨c53, s53, rfl, rfl, hF⟩ := hF
  try dsimp only at hF
  refine q_callIa [] [.ref ((h45).1), .ref x0] rfl d_X11_init_53 i_X11_35 (by omega) rfl (Nat.le_of_ble_eq_true rfl) (R_X2_init _ _ (by omega) e53) ?_
  replace hF := Option.bind_eq_some_iff.mp hF
  obtain ⟨h56, e56, hF⟩ := hF
  refine q_wR d_X11_init_56 w_X11_36 (Or.inl ⟨_, rfl⟩) e56 ?_
  refine g_aloadn d_X11_init_59 rfl ?_
  refine g_ic (4) d_X11_init_60 ic_4 ?_
  replace hF := x_nz hF
  obtain ⟨n61, hF⟩ := hF
  replace hF := x_map hF
  obtain ⟨c61, s61, rfl, rfl, hF⟩ := hF
  refine q_newq d_X11_init_61 cl_X11_40 (Or.inr (Or.inl ⟨rfl, rfl⟩)) n61 ?_
  replace hF := Option.bind_eq_some_iff.mp hF
  obtain ⟨h61, e61, hF⟩ := hF
  rw [Option.some.inj e61]
  replace hF := Option.bind_eq_some_iff.mp hF
  obtain ⟨h64, e64, hF⟩ := hF
  refine q_wR d_X11_init_64 w_X11_42 (Or.inr ⟨_, rfl⟩) e64 ?_
  refine g_aloadn d_X11_init_67 rfl ?_
  refine g_ic (2) d_X11_init_68 ic_2 ?_
  replace hF := x_nz hF
  obtain ⟨n69, hF⟩ := hF
  replace hF := x_map hF
  obtain ⟨c69, s69, rfl, rfl, hF⟩ := hF
  refine q_newq d_X11_init_69 cl_X11_16 (Or.inr (Or.inr ⟨rfl, rfl⟩)) n69 ?_
  replace hF := Option.bind_eq_some_iff.mp hF
  obtain ⟨h69, e69, hF⟩ := hF
  rw [Option.some.inj e69]
  replace hF := Option.bind_eq_some_iff.mp hF
  obtain ⟨h72, e72, hF⟩ := hF
  refine q_wR d_X11_init_72 w_X11_46 (Or.inr ⟨_, rfl⟩) e72 ?_
  refine g_aloadn d_X11_init_75 rfl ?_
  refine g_ic (2) d_X11_init_76 ic_2 ?_
  replace hF := x_nz hF
  obtain ⟨n77, hF⟩ := hF
  replace hF := x_map hF
  obtain ⟨c77, s77, rfl, rfl, hF⟩ := hF
  refine q_newq d_X11_init_77 cl_X11_23 (Or.inl ⟨rfl, rfl⟩) n77 ?_
  replace hF := Option.bind_eq_some_iff.mp hF
  obtain ⟨h77, e77, hF⟩ := hF
  rw [Option.some.inj e77]
  replace hF := Option.bind_eq_some_iff.mp hF
  obtain ⟨h80, e80, hF⟩ := hF
  refine q_wR d_X11_init_80 w_X11_50 (Or.inr ⟨_, rfl⟩) e80 ?_
  refine g_aloadn d_X11_init_83 rfl ?_
  replace hF := x_map hF
  obtain ⟨c84, s84, rfl, rfl, hF⟩ := hF
  refine q_new d_X11_init_84 n_X11_54 ?_
  replace hF := Option.bind_eq_some_iff.mp hF
  obtain ⟨h84, e84, hF⟩ := hF
  rw [Option.some.inj e84]
  refine g_dup d_X11_init_87 rfl ?_
  replace hF := Option.bind_eq_some_iff.mp hF
  obtain ⟨⟨r88, h88, mc88, ms88⟩, e88, hF⟩ := hF
  replace hF := x_map hF
  obtain ⟨c88, s88, rfl, rfl, hF⟩ := hF
  try dsimp only at hF
  refine q_callIa [] [.ref ((h80).1), .ref x0] rfl d_X11_init_88 i_X11_56 (by omega) rfl (Nat.le_of_ble_eq_true rfl) (R_X9_init _ _ (by omega) e88) ?_
  replace hF := Option.bind_eq_some_iff.mp hF
  obtain ⟨h91, e91, hF⟩ := hF
  refine q_wR d_X11_init_91 w_X11_57 (Or.inl ⟨_, rfl⟩) e91 ?_
  refine g_aloadn d_X11_init_94 rfl ?_
  replace hF := x_map hF
  obtain ⟨c95, s95, rfl, rfl, hF⟩ := hF
  refine q_new d_X11_init_95 n_X11_61 ?_
  replace hF := Option.bind_eq_some_iff.mp hF
  obtain ⟨h95, e95, hF⟩ := hF
  rw [Option.some.inj e95]
  refine g_dup d_X11_init_98 rfl ?_
  replace hF := Option.bind_eq_some_iff.mp hF
  obtain ⟨⟨r99, h99, mc99, ms99⟩, e99, hF⟩ := hF
  replace hF := x_map hF
  obtain ⟨c99, s99, rfl, rfl, hF⟩ := hF
  try dsimp only at hF
  refine q_callIa [] [.ref ((h91).1), .ref x0] rfl d_X11_init_99 i_X11_63 (by omega) rfl (Nat.le_of_ble_eq_true rfl) (R_X7_init _ _ (by omega) e99) ?_
  replace hF := Option.bind_eq_some_iff.mp hF
  obtain ⟨h102, e102, hF⟩ := hF
  refine q_wR d_X11_init_102 w_X11_64 (Or.inl ⟨_, rfl⟩) e102 ?_
  refine g_aloadn d_X11_init_105 rfl ?_
  replace hF := x_map hF
  obtain ⟨c106, s106, rfl, rfl, hF⟩ := hF
  refine q_new d_X11_init_106 n_X11_68 ?_
  replace hF := Option.bind_eq_some_iff.mp hF
  obtain ⟨h106, e106, hF⟩ := hF
  rw [Option.some.inj e106]
  refine g_dup d_X11_init_109 rfl ?_
  replace hF := Option.bind_eq_some_iff.mp hF
  obtain ⟨⟨r110, h110, mc110, ms110⟩, e110, hF⟩ := hF
  replace hF := x_map hF
  obtain ⟨c110, s110, rfl, rfl, hF⟩ := hF
  try dsimp only at hF
  refine q_callIa [] [.ref ((h102).1), .ref x0] rfl d_X11_init_110 i_X11_70 (by omega) rfl (Nat.le_of_ble_eq_true rfl) (R_X5_init _ _ (by omega) e110) ?_
  replace hF := Option.bind_eq_some_iff.mp hF
  obtain ⟨h113, e113, hF⟩ := hF
  refine q_wR d_X11_init_113 w_X11_71 (Or.inl ⟨_, rfl⟩) e113 ?_
  refine g_aloadn d_X11_init_116 rfl ?_
  replace hF := x_map hF
  obtain ⟨c117, s117, rfl, rfl, hF⟩ := hF
  refine q_new d_X11_init_117 n_X11_75 ?_
  replace hF := Option.bind_eq_some_iff.mp hF
  obtain ⟨h117, e117, hF⟩ := hF
  rw [Option.some.inj e117]
  refine g_dup d_X11_init_120 rfl ?_
  replace hF := Option.bind_eq_some_iff.mp hF
  obtain ⟨⟨r121, h121, mc121, ms121⟩, e121, hF⟩ := hF
  replace hF := x_map hF
  obtain ⟨c121, s121, rfl, rfl, hF⟩ := hF
  try dsimp only at hF
  refine q_callIa [] [.ref ((h113).1), .ref x0] rfl d_X11_init_121 i_X11_77 (by omega) rfl (Nat.le_of_ble_eq_true rfl) (R_X1_init _ _ (by omega) e121) ?_
  replace hF := Option.bind_eq_some_iff.mp hF
  obtain ⟨h124, e124, hF⟩ := hF
  refine q_wR d_X11_init_124 w_X11_78 (Or.inl ⟨_, rfl⟩) e124 ?_
  refine g_aloadn d_X11_init_127 rfl ?_
  replace hF := Option.bind_eq_some_iff.mp hF
  obtain ⟨v128, e128, hF⟩ := hF
  refine q_fR d_X11_init_128 f_X11_19 e128 ?_
  replace hF := Option.bind_eq_some_iff.mp hF
  obtain ⟨_, g131, hF⟩ := hF
  replace hF := Option.bind_eq_some_iff.mp hF
  obtain ⟨⟨r131, h131⟩, e131, hF⟩ := hF
  try dsimp only at hF
  refine q_callV [] [] rfl d_X11_init_131 v_X11_82 (by omega) rfl (Nat.le_of_ble_eq_true rfl) (rc_rc g131 (by decide) rfl) (R_X10_settle _ _ (by omega) e131) ?_
  refine g_ic (0) d_X11_init_134 ic_0 ?_
  refine q_istoren [.ref x0, .int 0] d_X11_init_135 (by decide) rfl ?_
  exact q_to (xs_r (xs_r xs_n)) (R_X11_init_b136 hdp hq FU _ _ _ _ _ hF)
theorem d_X11_valley_0 : decode cX11_valley 0 = .ok (.iload_n 1, 1) := by decide +kernel
theorem d_X11_valley_1 : decode cX11_valley 1 = .ok (.ifCond .lt 14, 3) := by decide +kernel
theorem d_X11_valley_4 : decode cX11_valley 4 = .ok (.iload_n 1, 1) := by decide +kernel
theorem d_X11_valley_5 : decode cX11_valley 5 = .ok (.aload_n 0, 1) := by decide +kernel
theorem d_X11_valley_6 : decode cX11_valley 6 = .ok (.getfield 10, 3) := by decide +kernel
theorem d_X11_valley_9 : decode cX11_valley 9 = .ok (.getfield 86, 3) := by decide +kernel
theorem d_X11_valley_12 : decode cX11_valley 12 = .ok (.if_icmp .le 6, 3) := by decide +kernel
theorem d_X11_valley_15 : decode cX11_valley 15 = .ok (.bipush (-3), 2) := by decide +kernel
theorem d_X11_valley_17 : decode cX11_valley 17 = .ok (.ireturn, 1) := by decide +kernel
theorem d_X11_valley_18 : decode cX11_valley 18 = .ok (.aload_n 0, 1) := by decide +kernel
theorem d_X11_valley_19 : decode cX11_valley 19 = .ok (.getfield 10, 3) := by decide +kernel
theorem d_X11_valley_22 : decode cX11_valley 22 = .ok (.iload_n 1, 1) := by decide +kernel
theorem d_X11_valley_23 : decode cX11_valley 23 = .ok (.invokevirtual 94, 3) := by decide +kernel
theorem d_X11_valley_26 : decode cX11_valley 26 = .ok (.astore_n 2, 1) := by decide +kernel
theorem d_X11_valley_27 : decode cX11_valley 27 = .ok (.aload_n 2, 1) := by decide +kernel
theorem d_X11_valley_28 : decode cX11_valley 28 = .ok (.ifnonnull 14, 3) := by decide +kernel
theorem d_X11_valley_31 : decode cX11_valley 31 = .ok (.bipush (-30), 2) := by decide +kernel
theorem d_X11_valley_33 : decode cX11_valley 33 = .ok (.aload_n 0, 1) := by decide +kernel
theorem d_X11_valley_34 : decode cX11_valley 34 = .ok (.getfield 10, 3) := by decide +kernel
theorem d_X11_valley_37 : decode cX11_valley 37 = .ok (.getfield 98, 3) := by decide +kernel
theorem d_X11_valley_40 : decode cX11_valley 40 = .ok (.isub, 1) := by decide +kernel
theorem d_X11_valley_41 : decode cX11_valley 41 = .ok (.ireturn, 1) := by decide +kernel
theorem d_X11_valley_42 : decode cX11_valley 42 = .ok (.aload_n 0, 1) := by decide +kernel
theorem d_X11_valley_43 : decode cX11_valley 43 = .ok (.aload_n 2, 1) := by decide +kernel
theorem d_X11_valley_44 : decode cX11_valley 44 = .ok (.putfield 19, 3) := by decide +kernel
theorem d_X11_valley_47 : decode cX11_valley 47 = .ok (.aload_n 0, 1) := by decide +kernel
theorem d_X11_valley_48 : decode cX11_valley 48 = .ok (.getfield 26, 3) := by decide +kernel
theorem d_X11_valley_51 : decode cX11_valley 51 = .ok (.aload_n 2, 1) := by decide +kernel
theorem d_X11_valley_52 : decode cX11_valley 52 = .ok (.getfield 101, 3) := by decide +kernel
theorem d_X11_valley_55 : decode cX11_valley 55 = .ok (.invokevirtual 104, 3) := by decide +kernel
theorem d_X11_valley_58 : decode cX11_valley 58 = .ok (.aload_n 0, 1) := by decide +kernel
theorem d_X11_valley_59 : decode cX11_valley 59 = .ok (.getfield 36, 3) := by decide +kernel
theorem d_X11_valley_62 : decode cX11_valley 62 = .ok (.invokevirtual 108, 3) := by decide +kernel
theorem d_X11_valley_65 : decode cX11_valley 65 = .ok (.aload_n 2, 1) := by decide +kernel
theorem d_X11_valley_66 : decode cX11_valley 66 = .ok (.getfield 111, 3) := by decide +kernel
theorem d_X11_valley_69 : decode cX11_valley 69 = .ok (.ireturn, 1) := by decide +kernel
def F_X11_valley (x0 : Nat) (x1 : Int32) (h : xH) : Option (Int32 × xH × Nat × Nat) := if x1 < 0 then some ((-3), h, 0, 0) else (fR h x0 10 0).bind fun v6 => (fI h v6 3 1).bind fun v9 => if x1 ≤ v9 then (fR h x0 10 0).bind fun v19 => (rc h v19 3).bind fun _ => (F_X4_read v19 x1 h).bind fun z23 => ((match z23.1 with | none => (fR z23.2.1 x0 10 0).bind fun v34 => (fI z23.2.1 v34 3 11).bind fun v37 => some ((((-30) : Int32)) - v37, z23.2.1, 0, 0) | some q28 => (wQ z23.2.1 x0 10 1 ((some q28))).bind fun h44 => (fR h44 x0 10 2).bind fun v48 => (fR h44 q28 9 11).bind fun v52 => (rc h44 v48 5).bind fun _ => (F_X6_copyFrom v48 v52 h44).bind fun z55 => (fR z55.2 x0 10 4).bind fun v59 => (rc z55.2 v59 1).bind fun _ => (F_X2_forget v59 z55.2).bind fun z62 => (fI z62.2 q28 9 1).bind fun v66 => some (v66, z62.2, 0, 0))).map (ac _ z23.2.2.1 z23.2.2.2) else some ((-3), h, 0, 0)
theorem R_X11_valley {Γ : xG} {l : Launch} {d : Nat} {r : Int32} {h' : xH} {mc ms : Nat} (x0 : Nat) (x1 : Int32) (h : xH) (hdp : 213 ≤ d) (hF : F_X11_valley x0 x1 h = some (r, h', mc, ms)) : Gm Γ l d mc ms m_X11_valley [.ref x0, .int x1] h (fun a u => a = some (.int r) ∧ u = h') := by
  refine Gm.of pn_X11 (Nat.le_of_ble_eq_true rfl) ?_
  show Gd Γ l d m_X11_valley 0 [.ref x0, .int x1, xhole] [] h mc ms _
  generalize hQ : (fun (a : Option Value) (u : xH) => a = some (.int r) ∧ u = h') = Q
  have hq : Q (some (.int r)) h' := by rw [← hQ]; exact ⟨rfl, rfl⟩
  clear hQ
  unfold F_X11_valley at hF
  refine g_iloadn d_X11_valley_0 rfl ?_
  refine g_if_lt 15 d_X11_valley_1 rfl (fun c1 => ?_) (fun c1 => ?_)
  · replace hF := x_t hF c1
    refine g_bi (-3) d_X11_valley_15 bi_m3 ?_
    obtain ⟨rfl, rfl, rfl, rfl⟩ := x_inj4 hF
    exact g_iret d_X11_valley_17 rfl hq
  · replace hF := x_f hF c1
    refine g_iloadn d_X11_valley_4 rfl ?_
    refine g_aloadn d_X11_valley_5 rfl ?_
    replace hF := Option.bind_eq_some_iff.mp hF
    obtain ⟨v6, e6, hF⟩ := hF
    refine q_fR d_X11_valley_6 f_X11_10 e6 ?_
    replace hF := Option.bind_eq_some_iff.mp hF
    obtain ⟨v9, e9, hF⟩ := hF
    refine q_fI d_X11_valley_9 f_X11_86 e9 ?_
    refine g_icmp_le 18 d_X11_valley_12 rfl (fun c12 => ?_) (fun c12 => ?_)
    · replace hF := x_t hF c12
      refine g_aloadn d_X11_valley_18 rfl ?_
      replace hF := Option.bind_eq_some_iff.mp hF
      obtain ⟨v19, e19, hF⟩ := hF
      refine q_fR d_X11_valley_19 f_X11_10 e19 ?_
      refine g_iloadn d_X11_valley_22 rfl ?_
      replace hF := Option.bind_eq_some_iff.mp hF
      obtain ⟨_, g23, hF⟩ := hF
      replace hF := Option.bind_eq_some_iff.mp hF
      obtain ⟨⟨r23, h23, mc23, ms23⟩, e23, hF⟩ := hF
      replace hF := x_map hF
      obtain ⟨c23, s23, rfl, rfl, hF⟩ := hF
      try dsimp only at hF
      refine q_callVa [.int x1] [] rfl d_X11_valley_23 v_X11_94 (by omega) rfl (Nat.le_of_ble_eq_true rfl) (rc_rc g23 (by decide) rfl) (R_X4_read _ _ _ (by omega) e23) ?_
      refine q_astorenQ [.ref x0, .int x1, va_rf (r23)] d_X11_valley_26 (by decide) rfl ?_
      refine q_aloadnQ d_X11_valley_27 rfl ?_
      cases r23 with
      | none =>
        try dsimp only at hF
        refine g_ifnonnullN d_X11_valley_28 ?_
        refine g_bi (-30) d_X11_valley_31 bi_m30 ?_
        refine g_aloadn d_X11_valley_33 rfl ?_
        replace hF := Option.bind_eq_some_iff.mp hF
        obtain ⟨v34, e34, hF⟩ := hF
        refine q_fR d_X11_valley_34 f_X11_10 e34 ?_
        replace hF := Option.bind_eq_some_iff.mp hF
        obtain ⟨v37, e37, hF⟩ := hF
        refine q_fI d_X11_valley_37 f_X11_98 e37 ?_
        refine g_isub d_X11_valley_40 ?_
        obtain ⟨rfl, rfl, rfl, rfl⟩ := x_inj4 hF
        exact g_iret d_X11_valley_41 rfl hq
      | some q28 =>
        try dsimp only at hF
        refine g_ifnonnull 42 d_X11_valley_28 rfl ?_
        refine g_aloadn d_X11_valley_42 rfl ?_
        refine g_aloadn d_X11_valley_43 rfl ?_
        replace hF := Option.bind_eq_some_iff.mp hF
        obtain ⟨h44, e44, hF⟩ := hF
        refine q_wR d_X11_valley_44 (w_X11_19 _) (Or.inl ⟨_, rfl⟩) e44 ?_
        refine g_aloadn d_X11_valley_47 rfl ?_
        replace hF := Option.bind_eq_some_iff.mp hF
        obtain ⟨v48, e48, hF⟩ := hF
        refine q_fR d_X11_valley_48 f_X11_26 e48 ?_
        refine g_aloadn d_X11_valley_51 rfl ?_
        replace hF := Option.bind_eq_some_iff.mp hF
        obtain ⟨v52, e52, hF⟩ := hF
        refine q_fR d_X11_valley_52 f_X11_101 e52 ?_
        replace hF := Option.bind_eq_some_iff.mp hF
        obtain ⟨_, g55, hF⟩ := hF
        replace hF := Option.bind_eq_some_iff.mp hF
        obtain ⟨⟨r55, h55⟩, e55, hF⟩ := hF
        try dsimp only at hF
        refine q_callV [.ref v52] [] rfl d_X11_valley_55 v_X11_104 (by omega) rfl (Nat.le_of_ble_eq_true rfl) (rc_rc g55 (by decide) rfl) (R_X6_copyFrom _ _ _ (by omega) e55) ?_
        refine g_aloadn d_X11_valley_58 rfl ?_
        replace hF := Option.bind_eq_some_iff.mp hF
        obtain ⟨v59, e59, hF⟩ := hF
        refine q_fR d_X11_valley_59 f_X11_36 e59 ?_
        replace hF := Option.bind_eq_some_iff.mp hF
        obtain ⟨_, g62, hF⟩ := hF
        replace hF := Option.bind_eq_some_iff.mp hF
        obtain ⟨⟨r62, h62⟩, e62, hF⟩ := hF
        try dsimp only at hF
        refine q_callV [] [] rfl d_X11_valley_62 v_X11_108 (by omega) rfl (Nat.le_of_ble_eq_true rfl) (rc_rc g62 (by decide) rfl) (R_X2_forget _ _ (by omega) e62) ?_
        refine g_aloadn d_X11_valley_65 rfl ?_
        replace hF := Option.bind_eq_some_iff.mp hF
        obtain ⟨v66, e66, hF⟩ := hF
        refine q_fI d_X11_valley_66 f_X11_111 e66 ?_
        obtain ⟨rfl, rfl, rfl, rfl⟩ := x_inj4 hF
        exact g_iret d_X11_valley_69 rfl hq
    · replace hF := x_f hF c12
      refine g_bi (-3) d_X11_valley_15 bi_m3 ?_
      obtain ⟨rfl, rfl, rfl, rfl⟩ := x_inj4 hF
      exact g_iret d_X11_valley_17 rfl hq
theorem d_X11_through_0 : decode cX11_through 0 = .ok (.aload_n 0, 1) := by decide +kernel
theorem d_X11_through_1 : decode cX11_through 1 = .ok (.getfield 19, 3) := by decide +kernel
theorem d_X11_through_4 : decode cX11_through 4 = .ok (.iload_n 1, 1) := by decide +kernel
theorem d_X11_through_5 : decode cX11_through 5 = .ok (.invokevirtual 169, 3) := by decide +kernel
theorem d_X11_through_8 : decode cX11_through 8 = .ok (.ifCond .eq 14, 3) := by decide +kernel
theorem d_X11_through_11 : decode cX11_through 11 = .ok (.aload_n 0, 1) := by decide +kernel
theorem d_X11_through_12 : decode cX11_through 12 = .ok (.getfield 19, 3) := by decide +kernel
theorem d_X11_through_15 : decode cX11_through 15 = .ok (.iload_n 2, 1) := by decide +kernel
theorem d_X11_through_16 : decode cX11_through 16 = .ok (.invokevirtual 258, 3) := by decide +kernel
theorem d_X11_through_19 : decode cX11_through 19 = .ok (.ifCond .ne 6, 3) := by decide +kernel
theorem d_X11_through_22 : decode cX11_through 22 = .ok (.bipush (-3), 2) := by decide +kernel
theorem d_X11_through_24 : decode cX11_through 24 = .ok (.ireturn, 1) := by decide +kernel
theorem d_X11_through_25 : decode cX11_through 25 = .ok (.aload_n 0, 1) := by decide +kernel
theorem d_X11_through_26 : decode cX11_through 26 = .ok (.getfield 71, 3) := by decide +kernel
theorem d_X11_through_29 : decode cX11_through 29 = .ok (.aload_n 0, 1) := by decide +kernel
theorem d_X11_through_30 : decode cX11_through 30 = .ok (.getfield 19, 3) := by decide +kernel
theorem d_X11_through_33 : decode cX11_through 33 = .ok (.aload_n 0, 1) := by decide +kernel
theorem d_X11_through_34 : decode cX11_through 34 = .ok (.getfield 19, 3) := by decide +kernel
theorem d_X11_through_37 : decode cX11_through 37 = .ok (.aload_n 0, 1) := by decide +kernel
theorem d_X11_through_38 : decode cX11_through 38 = .ok (.getfield 26, 3) := by decide +kernel
theorem d_X11_through_41 : decode cX11_through 41 = .ok (.iload_n 1, 1) := by decide +kernel
theorem d_X11_through_42 : decode cX11_through 42 = .ok (.invokevirtual 172, 3) := by decide +kernel
theorem d_X11_through_45 : decode cX11_through 45 = .ok (.iload_n 2, 1) := by decide +kernel
theorem d_X11_through_46 : decode cX11_through 46 = .ok (.invokevirtual 292, 3) := by decide +kernel
theorem d_X11_through_49 : decode cX11_through 49 = .ok (.istore_n 3, 1) := by decide +kernel
theorem d_X11_through_50 : decode cX11_through 50 = .ok (.iload_n 3, 1) := by decide +kernel
theorem d_X11_through_51 : decode cX11_through 51 = .ok (.ifCond .eq 13, 3) := by decide +kernel
theorem d_X11_through_54 : decode cX11_through 54 = .ok (.aload_n 0, 1) := by decide +kernel
theorem d_X11_through_55 : decode cX11_through 55 = .ok (.getfield 71, 3) := by decide +kernel
theorem d_X11_through_58 : decode cX11_through 58 = .ok (.getfield 286, 3) := by decide +kernel
theorem d_X11_through_61 : decode cX11_through 61 = .ok (.goto 4, 3) := by decide +kernel
theorem d_X11_through_64 : decode cX11_through 64 = .ok (.iconst (-1), 1) := by decide +kernel
theorem d_X11_through_65 : decode cX11_through 65 = .ok (.ireturn, 1) := by decide +kernel
def F_X11_through (x0 : Nat) (x1 : Int32) (x2 : Int32) (h : xH) : Option (Int32 × xH × Nat × Nat) := (fR h x0 10 1).bind fun v1 => (rc h v1 9).bind fun _ => (F_X10_isPeople v1 x1 h).bind fun z5 => if z5.1 = 0 then some ((-3), z5.2, 0, 0) else (fR z5.2 x0 10 1).bind fun v12 => (rc z5.2 v12 9).bind fun _ => (F_X10_isNotes v12 x2 z5.2).bind fun z16 => if ¬ z16.1 = 0 then (fR z16.2 x0 10 10).bind fun v26 => (fR z16.2 x0 10 1).bind fun v30 => (fR z16.2 x0 10 1).bind fun v34 => (fR z16.2 x0 10 2).bind fun v38 => (rc z16.2 v34 9).bind fun _ => (F_X10_heardByAll v34 v38 x1 z16.2).bind fun z42 => (rc z42.2 v26 4).bind fun _ => (F_X5_findThrough v26 v30 z42.1 x2 z42.2).bind fun z46 => (if z46.1 = 0 then some ((-1), z46.2.1, 0, 0) else (fR z46.2.1 x0 10 10).bind fun v55 => (fI z46.2.1 v55 4 1).bind fun v58 => some (v58, z46.2.1, 0, 0)).map (ac _ z46.2.2.1 z46.2.2.2) else some ((-3), z16.2, 0, 0)
theorem R_X11_through {Γ : xG} {l : Launch} {d : Nat} {r : Int32} {h' : xH} {mc ms : Nat} (x0 : Nat) (x1 : Int32) (x2 : Int32) (h : xH) (hdp : 7 ≤ d) (hF : F_X11_through x0 x1 x2 h = some (r, h', mc, ms)) : Gm Γ l d mc ms m_X11_through [.ref x0, .int x1, .int x2] h (fun a u => a = some (.int r) ∧ u = h') := by
  refine Gm.of pn_X11 (Nat.le_of_ble_eq_true rfl) ?_
  show Gd Γ l d m_X11_through 0 [.ref x0, .int x1, .int x2, xhole] [] h mc ms _
  generalize hQ : (fun (a : Option Value) (u : xH) => a = some (.int r) ∧ u = h') = Q
  have hq : Q (some (.int r)) h' := by rw [← hQ]; exact ⟨rfl, rfl⟩
  clear hQ
  unfold F_X11_through at hF
  refine g_aloadn d_X11_through_0 rfl ?_
  replace hF := Option.bind_eq_some_iff.mp hF
  obtain ⟨v1, e1, hF⟩ := hF
  refine q_fR d_X11_through_1 f_X11_19 e1 ?_
  refine g_iloadn d_X11_through_4 rfl ?_
  replace hF := Option.bind_eq_some_iff.mp hF
  obtain ⟨_, g5, hF⟩ := hF
  replace hF := Option.bind_eq_some_iff.mp hF
  obtain ⟨⟨r5, h5⟩, e5, hF⟩ := hF
  try dsimp only at hF
  refine q_callV [.int x1] [] rfl d_X11_through_5 v_X11_169 (by omega) rfl (Nat.le_of_ble_eq_true rfl) (rc_rc g5 (by decide) rfl) (R_X10_isPeople _ _ _ (by omega) e5) ?_
  refine g_if_eq 22 d_X11_through_8 rfl (fun c8 => ?_) (fun c8 => ?_)
  · replace hF := x_t hF c8
    refine g_bi (-3) d_X11_through_22 bi_m3 ?_
    obtain ⟨rfl, rfl, rfl, rfl⟩ := x_inj4 hF
    exact g_iret d_X11_through_24 rfl hq
  · replace hF := x_f hF c8
    refine g_aloadn d_X11_through_11 rfl ?_
    replace hF := Option.bind_eq_some_iff.mp hF
    obtain ⟨v12, e12, hF⟩ := hF
    refine q_fR d_X11_through_12 f_X11_19 e12 ?_
    refine g_iloadn d_X11_through_15 rfl ?_
    replace hF := Option.bind_eq_some_iff.mp hF
    obtain ⟨_, g16, hF⟩ := hF
    replace hF := Option.bind_eq_some_iff.mp hF
    obtain ⟨⟨r16, h16⟩, e16, hF⟩ := hF
    try dsimp only at hF
    refine q_callV [.int x2] [] rfl d_X11_through_16 v_X11_258 (by omega) rfl (Nat.le_of_ble_eq_true rfl) (rc_rc g16 (by decide) rfl) (R_X10_isNotes _ _ _ (by omega) e16) ?_
    refine g_if_ne 25 d_X11_through_19 rfl (fun c19 => ?_) (fun c19 => ?_)
    · replace hF := x_t hF c19
      refine g_aloadn d_X11_through_25 rfl ?_
      replace hF := Option.bind_eq_some_iff.mp hF
      obtain ⟨v26, e26, hF⟩ := hF
      refine q_fR d_X11_through_26 f_X11_71 e26 ?_
      refine g_aloadn d_X11_through_29 rfl ?_
      replace hF := Option.bind_eq_some_iff.mp hF
      obtain ⟨v30, e30, hF⟩ := hF
      refine q_fR d_X11_through_30 f_X11_19 e30 ?_
      refine g_aloadn d_X11_through_33 rfl ?_
      replace hF := Option.bind_eq_some_iff.mp hF
      obtain ⟨v34, e34, hF⟩ := hF
      refine q_fR d_X11_through_34 f_X11_19 e34 ?_
      refine g_aloadn d_X11_through_37 rfl ?_
      replace hF := Option.bind_eq_some_iff.mp hF
      obtain ⟨v38, e38, hF⟩ := hF
      refine q_fR d_X11_through_38 f_X11_26 e38 ?_
      refine g_iloadn d_X11_through_41 rfl ?_
      replace hF := Option.bind_eq_some_iff.mp hF
      obtain ⟨_, g42, hF⟩ := hF
      replace hF := Option.bind_eq_some_iff.mp hF
      obtain ⟨⟨r42, h42⟩, e42, hF⟩ := hF
      try dsimp only at hF
      refine q_callV [.ref v38, .int x1] [.ref v30, .ref v26] rfl d_X11_through_42 v_X11_172 (by omega) rfl (Nat.le_of_ble_eq_true rfl) (rc_rc g42 (by decide) rfl) (R_X10_heardByAll _ _ _ _ (by omega) e42) ?_
      refine g_iloadn d_X11_through_45 rfl ?_
      replace hF := Option.bind_eq_some_iff.mp hF
      obtain ⟨_, g46, hF⟩ := hF
      replace hF := Option.bind_eq_some_iff.mp hF
      obtain ⟨⟨r46, h46, mc46, ms46⟩, e46, hF⟩ := hF
      replace hF := x_map hF
      obtain ⟨c46, s46, rfl, rfl, hF⟩ := hF
      try dsimp only at hF
      refine q_callVa [.ref v30, .int (r42), .int x2] [] rfl d_X11_through_46 v_X11_292 (by omega) rfl (Nat.le_of_ble_eq_true rfl) (rc_rc g46 (by decide) rfl) (R_X5_findThrough _ _ _ _ _ (by omega) e46) ?_
      refine q_istoren [.ref x0, .int x1, .int x2, .int (r46)] d_X11_through_49 (by decide) rfl ?_
      refine g_iloadn d_X11_through_50 rfl ?_
      refine g_if_eq 64 d_X11_through_51 rfl (fun c51 => ?_) (fun c51 => ?_)
      · replace hF := x_t hF c51
        refine g_ic (-1) d_X11_through_64 ic_m1 ?_
        obtain ⟨rfl, rfl, rfl, rfl⟩ := x_inj4 hF
        exact g_iret d_X11_through_65 rfl hq
      · replace hF := x_f hF c51
        refine g_aloadn d_X11_through_54 rfl ?_
        replace hF := Option.bind_eq_some_iff.mp hF
        obtain ⟨v55, e55, hF⟩ := hF
        refine q_fR d_X11_through_55 f_X11_71 e55 ?_
        replace hF := Option.bind_eq_some_iff.mp hF
        obtain ⟨v58, e58, hF⟩ := hF
        refine q_fI d_X11_through_58 f_X11_286 e58 ?_
        refine g_goto 65 d_X11_through_61 rfl ?_
        obtain ⟨rfl, rfl, rfl, rfl⟩ := x_inj4 hF
        exact g_iret d_X11_through_65 rfl hq
    · replace hF := x_f hF (not_not_intro c19)
      refine g_bi (-3) d_X11_through_22 bi_m3 ?_
      obtain ⟨rfl, rfl, rfl, rfl⟩ := x_inj4 hF
      exact g_iret d_X11_through_24 rfl hq
theorem d_X11_throughNote_0 : decode cX11_throughNote 0 = .ok (.aload_n 0, 1) := by decide +kernel
theorem d_X11_throughNote_1 : decode cX11_throughNote 1 = .ok (.getfield 19, 3) := by decide +kernel
theorem d_X11_throughNote_4 : decode cX11_throughNote 4 = .ok (.iload_n 1, 1) := by decide +kernel
theorem d_X11_throughNote_5 : decode cX11_throughNote 5 = .ok (.invokevirtual 169, 3) := by decide +kernel
theorem d_X11_throughNote_8 : decode cX11_throughNote 8 = .ok (.ifCond .eq 18, 3) := by decide +kernel
theorem d_X11_throughNote_11 : decode cX11_throughNote 11 = .ok (.aload_n 0, 1) := by decide +kernel
theorem d_X11_throughNote_12 : decode cX11_throughNote 12 = .ok (.getfield 19, 3) := by decide +kernel
theorem d_X11_throughNote_15 : decode cX11_throughNote 15 = .ok (.iload_n 2, 1) := by decide +kernel
theorem d_X11_throughNote_16 : decode cX11_throughNote 16 = .ok (.invokevirtual 258, 3) := by decide +kernel
theorem d_X11_throughNote_19 : decode cX11_throughNote 19 = .ok (.ifCond .eq 7, 3) := by decide +kernel
theorem d_X11_throughNote_22 : decode cX11_throughNote 22 = .ok (.iload_n 3, 1) := by decide +kernel
theorem d_X11_throughNote_23 : decode cX11_throughNote 23 = .ok (.ifCond .ge 6, 3) := by decide +kernel
theorem d_X11_throughNote_26 : decode cX11_throughNote 26 = .ok (.bipush (-3), 2) := by decide +kernel
theorem d_X11_throughNote_28 : decode cX11_throughNote 28 = .ok (.ireturn, 1) := by decide +kernel
theorem d_X11_throughNote_29 : decode cX11_throughNote 29 = .ok (.aload_n 0, 1) := by decide +kernel
theorem d_X11_throughNote_30 : decode cX11_throughNote 30 = .ok (.getfield 71, 3) := by decide +kernel
theorem d_X11_throughNote_33 : decode cX11_throughNote 33 = .ok (.aload_n 0, 1) := by decide +kernel
theorem d_X11_throughNote_34 : decode cX11_throughNote 34 = .ok (.getfield 19, 3) := by decide +kernel
theorem d_X11_throughNote_37 : decode cX11_throughNote 37 = .ok (.aload_n 0, 1) := by decide +kernel
theorem d_X11_throughNote_38 : decode cX11_throughNote 38 = .ok (.getfield 19, 3) := by decide +kernel
theorem d_X11_throughNote_41 : decode cX11_throughNote 41 = .ok (.aload_n 0, 1) := by decide +kernel
theorem d_X11_throughNote_42 : decode cX11_throughNote 42 = .ok (.getfield 26, 3) := by decide +kernel
theorem d_X11_throughNote_45 : decode cX11_throughNote 45 = .ok (.iload_n 1, 1) := by decide +kernel
theorem d_X11_throughNote_46 : decode cX11_throughNote 46 = .ok (.invokevirtual 172, 3) := by decide +kernel
theorem d_X11_throughNote_49 : decode cX11_throughNote 49 = .ok (.iload_n 2, 1) := by decide +kernel
theorem d_X11_throughNote_50 : decode cX11_throughNote 50 = .ok (.invokevirtual 292, 3) := by decide +kernel
theorem d_X11_throughNote_53 : decode cX11_throughNote 53 = .ok (.istore 4, 2) := by decide +kernel
theorem d_X11_throughNote_55 : decode cX11_throughNote 55 = .ok (.iload 4, 2) := by decide +kernel
theorem d_X11_throughNote_57 : decode cX11_throughNote 57 = .ok (.ifCond .eq 14, 3) := by decide +kernel
theorem d_X11_throughNote_60 : decode cX11_throughNote 60 = .ok (.aload_n 0, 1) := by decide +kernel
theorem d_X11_throughNote_61 : decode cX11_throughNote 61 = .ok (.getfield 71, 3) := by decide +kernel
theorem d_X11_throughNote_64 : decode cX11_throughNote 64 = .ok (.iload_n 3, 1) := by decide +kernel
theorem d_X11_throughNote_65 : decode cX11_throughNote 65 = .ok (.invokevirtual 289, 3) := by decide +kernel
theorem d_X11_throughNote_68 : decode cX11_throughNote 68 = .ok (.goto 4, 3) := by decide +kernel
theorem d_X11_throughNote_71 : decode cX11_throughNote 71 = .ok (.iconst (-1), 1) := by decide +kernel
theorem d_X11_throughNote_72 : decode cX11_throughNote 72 = .ok (.ireturn, 1) := by decide +kernel
def F_X11_throughNote (x0 : Nat) (x1 : Int32) (x2 : Int32) (x3 : Int32) (h : xH) : Option (Int32 × xH × Nat × Nat) := (fR h x0 10 1).bind fun v1 => (rc h v1 9).bind fun _ => (F_X10_isPeople v1 x1 h).bind fun z5 => if z5.1 = 0 then some ((-3), z5.2, 0, 0) else (fR z5.2 x0 10 1).bind fun v12 => (rc z5.2 v12 9).bind fun _ => (F_X10_isNotes v12 x2 z5.2).bind fun z16 => if z16.1 = 0 then some ((-3), z16.2, 0, 0) else if 0 ≤ x3 then (fR z16.2 x0 10 10).bind fun v30 => (fR z16.2 x0 10 1).bind fun v34 => (fR z16.2 x0 10 1).bind fun v38 => (fR z16.2 x0 10 2).bind fun v42 => (rc z16.2 v38 9).bind fun _ => (F_X10_heardByAll v38 v42 x1 z16.2).bind fun z46 => (rc z46.2 v30 4).bind fun _ => (F_X5_findThrough v30 v34 z46.1 x2 z46.2).bind fun z50 => (if z50.1 = 0 then some ((-1), z50.2.1, 0, 0) else (fR z50.2.1 x0 10 10).bind fun v61 => (rc z50.2.1 v61 4).bind fun _ => (F_X5_noteAt v61 x3 z50.2.1).bind fun z65 => some (z65.1, z65.2, 0, 0)).map (ac _ z50.2.2.1 z50.2.2.2) else some ((-3), z16.2, 0, 0)
theorem R_X11_throughNote {Γ : xG} {l : Launch} {d : Nat} {r : Int32} {h' : xH} {mc ms : Nat} (x0 : Nat) (x1 : Int32) (x2 : Int32) (x3 : Int32) (h : xH) (hdp : 7 ≤ d) (hF : F_X11_throughNote x0 x1 x2 x3 h = some (r, h', mc, ms)) : Gm Γ l d mc ms m_X11_throughNote [.ref x0, .int x1, .int x2, .int x3] h (fun a u => a = some (.int r) ∧ u = h') := by
  refine Gm.of pn_X11 (Nat.le_of_ble_eq_true rfl) ?_
  show Gd Γ l d m_X11_throughNote 0 [.ref x0, .int x1, .int x2, .int x3, xhole] [] h mc ms _
  generalize hQ : (fun (a : Option Value) (u : xH) => a = some (.int r) ∧ u = h') = Q
  have hq : Q (some (.int r)) h' := by rw [← hQ]; exact ⟨rfl, rfl⟩
  clear hQ
  unfold F_X11_throughNote at hF
  refine g_aloadn d_X11_throughNote_0 rfl ?_
  replace hF := Option.bind_eq_some_iff.mp hF
  obtain ⟨v1, e1, hF⟩ := hF
  refine q_fR d_X11_throughNote_1 f_X11_19 e1 ?_
  refine g_iloadn d_X11_throughNote_4 rfl ?_
  replace hF := Option.bind_eq_some_iff.mp hF
  obtain ⟨_, g5, hF⟩ := hF
  replace hF := Option.bind_eq_some_iff.mp hF
  obtain ⟨⟨r5, h5⟩, e5, hF⟩ := hF
  try dsimp only at hF
  refine q_callV [.int x1] [] rfl d_X11_throughNote_5 v_X11_169 (by omega) rfl (Nat.le_of_ble_eq_true rfl) (rc_rc g5 (by decide) rfl) (R_X10_isPeople _ _ _ (by omega) e5) ?_
  refine g_if_eq 26 d_X11_throughNote_8 rfl (fun c8 => ?_) (fun c8 => ?_)
  · replace hF := x_t hF c8
    refine g_bi (-3) d_X11_throughNote_26 bi_m3 ?_
    obtain ⟨rfl, rfl, rfl, rfl⟩ := x_inj4 hF
    exact g_iret d_X11_throughNote_28 rfl hq
  · replace hF := x_f hF c8
    refine g_aloadn d_X11_throughNote_11 rfl ?_
    replace hF := Option.bind_eq_some_iff.mp hF
    obtain ⟨v12, e12, hF⟩ := hF
    refine q_fR d_X11_throughNote_12 f_X11_19 e12 ?_
    refine g_iloadn d_X11_throughNote_15 rfl ?_
    replace hF := Option.bind_eq_some_iff.mp hF
    obtain ⟨_, g16, hF⟩ := hF
    replace hF := Option.bind_eq_some_iff.mp hF
    obtain ⟨⟨r16, h16⟩, e16, hF⟩ := hF
    try dsimp only at hF
    refine q_callV [.int x2] [] rfl d_X11_throughNote_16 v_X11_258 (by omega) rfl (Nat.le_of_ble_eq_true rfl) (rc_rc g16 (by decide) rfl) (R_X10_isNotes _ _ _ (by omega) e16) ?_
    refine g_if_eq 26 d_X11_throughNote_19 rfl (fun c19 => ?_) (fun c19 => ?_)
    · replace hF := x_t hF c19
      refine g_bi (-3) d_X11_throughNote_26 bi_m3 ?_
      obtain ⟨rfl, rfl, rfl, rfl⟩ := x_inj4 hF
      exact g_iret d_X11_throughNote_28 rfl hq
    · replace hF := x_f hF c19
      refine g_iloadn d_X11_throughNote_22 rfl ?_
      refine g_if_ge 29 d_X11_throughNote_23 rfl (fun c23 => ?_) (fun c23 => ?_)
      · replace hF := x_t hF c23
        refine g_aloadn d_X11_throughNote_29 rfl ?_
        replace hF := Option.bind_eq_some_iff.mp hF
        obtain ⟨v30, e30, hF⟩ := hF
        refine q_fR d_X11_throughNote_30 f_X11_71 e30 ?_
        refine g_aloadn d_X11_throughNote_33 rfl ?_
        replace hF := Option.bind_eq_some_iff.mp hF
        obtain ⟨v34, e34, hF⟩ := hF
        refine q_fR d_X11_throughNote_34 f_X11_19 e34 ?_
        refine g_aloadn d_X11_throughNote_37 rfl ?_
        replace hF := Option.bind_eq_some_iff.mp hF
        obtain ⟨v38, e38, hF⟩ := hF
        refine q_fR d_X11_throughNote_38 f_X11_19 e38 ?_
        refine g_aloadn d_X11_throughNote_41 rfl ?_
        replace hF := Option.bind_eq_some_iff.mp hF
        obtain ⟨v42, e42, hF⟩ := hF
        refine q_fR d_X11_throughNote_42 f_X11_26 e42 ?_
        refine g_iloadn d_X11_throughNote_45 rfl ?_
        replace hF := Option.bind_eq_some_iff.mp hF
        obtain ⟨_, g46, hF⟩ := hF
        replace hF := Option.bind_eq_some_iff.mp hF
        obtain ⟨⟨r46, h46⟩, e46, hF⟩ := hF
        try dsimp only at hF
        refine q_callV [.ref v42, .int x1] [.ref v34, .ref v30] rfl d_X11_throughNote_46 v_X11_172 (by omega) rfl (Nat.le_of_ble_eq_true rfl) (rc_rc g46 (by decide) rfl) (R_X10_heardByAll _ _ _ _ (by omega) e46) ?_
        refine g_iloadn d_X11_throughNote_49 rfl ?_
        replace hF := Option.bind_eq_some_iff.mp hF
        obtain ⟨_, g50, hF⟩ := hF
        replace hF := Option.bind_eq_some_iff.mp hF
        obtain ⟨⟨r50, h50, mc50, ms50⟩, e50, hF⟩ := hF
        replace hF := x_map hF
        obtain ⟨c50, s50, rfl, rfl, hF⟩ := hF
        try dsimp only at hF
        refine q_callVa [.ref v34, .int (r46), .int x2] [] rfl d_X11_throughNote_50 v_X11_292 (by omega) rfl (Nat.le_of_ble_eq_true rfl) (rc_rc g50 (by decide) rfl) (R_X5_findThrough _ _ _ _ _ (by omega) e50) ?_
        refine q_istore [.ref x0, .int x1, .int x2, .int x3, .int (r50)] d_X11_throughNote_53 (by decide) rfl ?_
        refine g_iload d_X11_throughNote_55 rfl ?_
        refine g_if_eq 71 d_X11_throughNote_57 rfl (fun c57 => ?_) (fun c57 => ?_)
        · replace hF := x_t hF c57
          refine g_ic (-1) d_X11_throughNote_71 ic_m1 ?_
          obtain ⟨rfl, rfl, rfl, rfl⟩ := x_inj4 hF
          exact g_iret d_X11_throughNote_72 rfl hq
        · replace hF := x_f hF c57
          refine g_aloadn d_X11_throughNote_60 rfl ?_
          replace hF := Option.bind_eq_some_iff.mp hF
          obtain ⟨v61, e61, hF⟩ := hF
          refine q_fR d_X11_throughNote_61 f_X11_71 e61 ?_
          refine g_iloadn d_X11_throughNote_64 rfl ?_
          replace hF := Option.bind_eq_some_iff.mp hF
          obtain ⟨_, g65, hF⟩ := hF
          replace hF := Option.bind_eq_some_iff.mp hF
          obtain ⟨⟨r65, h65⟩, e65, hF⟩ := hF
          try dsimp only at hF
          refine q_callV [.int x3] [] rfl d_X11_throughNote_65 v_X11_289 (by omega) rfl (Nat.le_of_ble_eq_true rfl) (rc_rc g65 (by decide) rfl) (R_X5_noteAt _ _ _ (by omega) e65) ?_
          refine g_goto 72 d_X11_throughNote_68 rfl ?_
          obtain ⟨rfl, rfl, rfl, rfl⟩ := x_inj4 hF
          exact g_iret d_X11_throughNote_72 rfl hq
      · replace hF := x_f hF c23
        refine g_bi (-3) d_X11_throughNote_26 bi_m3 ?_
        obtain ⟨rfl, rfl, rfl, rfl⟩ := x_inj4 hF
        exact g_iret d_X11_throughNote_28 rfl hq
theorem d_X12_init_0 : decode cX12_init 0 = .ok (.aload_n 0, 1) := by decide +kernel
theorem d_X12_init_1 : decode cX12_init 1 = .ok (.invokespecial 7, 3) := by decide +kernel
theorem d_X12_init_4 : decode cX12_init 4 = .ok (.aload_n 0, 1) := by decide +kernel
theorem d_X12_init_5 : decode cX12_init 5 = .ok (.sipush 3687, 3) := by decide +kernel
theorem d_X12_init_8 : decode cX12_init 8 = .ok (.newarray .int, 2) := by decide +kernel
theorem d_X12_init_10 : decode cX12_init 10 = .ok (.putfield 13, 3) := by decide +kernel
theorem d_X12_init_13 : decode cX12_init 13 = .ok (.aload_n 0, 1) := by decide +kernel
theorem d_X12_init_14 : decode cX12_init 14 = .ok (.iconst 2, 1) := by decide +kernel
theorem d_X12_init_15 : decode cX12_init 15 = .ok (.newarray .boolean, 2) := by decide +kernel
theorem d_X12_init_17 : decode cX12_init 17 = .ok (.putfield 17, 3) := by decide +kernel
theorem d_X12_init_20 : decode cX12_init 20 = .ok (.aload_n 0, 1) := by decide +kernel
theorem d_X12_init_21 : decode cX12_init 21 = .ok (.sipush 900, 3) := by decide +kernel
theorem d_X12_init_24 : decode cX12_init 24 = .ok (.newarray .int, 2) := by decide +kernel
theorem d_X12_init_26 : decode cX12_init 26 = .ok (.putfield 21, 3) := by decide +kernel
theorem d_X12_init_29 : decode cX12_init 29 = .ok (.aload_n 0, 1) := by decide +kernel
theorem d_X12_init_30 : decode cX12_init 30 = .ok (.sipush 1229, 3) := by decide +kernel
theorem d_X12_init_33 : decode cX12_init 33 = .ok (.newarray .int, 2) := by decide +kernel
theorem d_X12_init_35 : decode cX12_init 35 = .ok (.putfield 24, 3) := by decide +kernel
theorem d_X12_init_38 : decode cX12_init 38 = .ok (.aload_n 0, 1) := by decide +kernel
theorem d_X12_init_39 : decode cX12_init 39 = .ok (.iconst (-1), 1) := by decide +kernel
theorem d_X12_init_40 : decode cX12_init 40 = .ok (.putfield 27, 3) := by decide +kernel
theorem d_X12_init_43 : decode cX12_init 43 = .ok (.aload_n 0, 1) := by decide +kernel
theorem d_X12_init_44 : decode cX12_init 44 = .ok (.sipush 900, 3) := by decide +kernel
theorem d_X12_init_47 : decode cX12_init 47 = .ok (.newarray .int, 2) := by decide +kernel
theorem d_X12_init_49 : decode cX12_init 49 = .ok (.putfield 30, 3) := by decide +kernel
theorem d_X12_init_52 : decode cX12_init 52 = .ok (.aload_n 0, 1) := by decide +kernel
theorem d_X12_init_53 : decode cX12_init 53 = .ok (.bipush 8, 2) := by decide +kernel
theorem d_X12_init_55 : decode cX12_init 55 = .ok (.newarray .int, 2) := by decide +kernel
theorem d_X12_init_57 : decode cX12_init 57 = .ok (.putfield 33, 3) := by decide +kernel
theorem d_X12_init_60 : decode cX12_init 60 = .ok (.aload_n 0, 1) := by decide +kernel
theorem d_X12_init_61 : decode cX12_init 61 = .ok (.bipush 20, 2) := by decide +kernel
theorem d_X12_init_63 : decode cX12_init 63 = .ok (.newarray .int, 2) := by decide +kernel
theorem d_X12_init_65 : decode cX12_init 65 = .ok (.putfield 36, 3) := by decide +kernel
theorem d_X12_init_68 : decode cX12_init 68 = .ok (.aload_n 0, 1) := by decide +kernel
theorem d_X12_init_69 : decode cX12_init 69 = .ok (.bipush 10, 2) := by decide +kernel
theorem d_X12_init_71 : decode cX12_init 71 = .ok (.newarray .int, 2) := by decide +kernel
theorem d_X12_init_73 : decode cX12_init 73 = .ok (.putfield 39, 3) := by decide +kernel
theorem d_X12_init_76 : decode cX12_init 76 = .ok (.aload_n 0, 1) := by decide +kernel
theorem d_X12_init_77 : decode cX12_init 77 = .ok (.sipush 2048, 3) := by decide +kernel
theorem d_X12_init_80 : decode cX12_init 80 = .ok (.newarray .int, 2) := by decide +kernel
theorem d_X12_init_82 : decode cX12_init 82 = .ok (.putfield 42, 3) := by decide +kernel
theorem d_X12_init_85 : decode cX12_init 85 = .ok (.aload_n 0, 1) := by decide +kernel
theorem d_X12_init_86 : decode cX12_init 86 = .ok (.bipush 6, 2) := by decide +kernel
theorem d_X12_init_88 : decode cX12_init 88 = .ok (.newarray .int, 2) := by decide +kernel
theorem d_X12_init_90 : decode cX12_init 90 = .ok (.putfield 45, 3) := by decide +kernel
theorem d_X12_init_93 : decode cX12_init 93 = .ok (.aload_n 0, 1) := by decide +kernel
theorem d_X12_init_94 : decode cX12_init 94 = .ok (.bipush 6, 2) := by decide +kernel
theorem d_X12_init_96 : decode cX12_init 96 = .ok (.newarray .int, 2) := by decide +kernel
theorem d_X12_init_98 : decode cX12_init 98 = .ok (.putfield 48, 3) := by decide +kernel
theorem d_X12_init_101 : decode cX12_init 101 = .ok (.aload_n 0, 1) := by decide +kernel
theorem d_X12_init_102 : decode cX12_init 102 = .ok (.bipush 6, 2) := by decide +kernel
theorem d_X12_init_104 : decode cX12_init 104 = .ok (.newarray .int, 2) := by decide +kernel
theorem d_X12_init_106 : decode cX12_init 106 = .ok (.putfield 51, 3) := by decide +kernel
theorem d_X12_init_109 : decode cX12_init 109 = .ok (.aload_n 0, 1) := by decide +kernel
theorem d_X12_init_110 : decode cX12_init 110 = .ok (.bipush 64, 2) := by decide +kernel
theorem d_X12_init_112 : decode cX12_init 112 = .ok (.newarray .int, 2) := by decide +kernel
theorem d_X12_init_114 : decode cX12_init 114 = .ok (.putfield 54, 3) := by decide +kernel
theorem d_X12_init_117 : decode cX12_init 117 = .ok (.aload_n 0, 1) := by decide +kernel
theorem d_X12_init_118 : decode cX12_init 118 = .ok (.sipush 11264, 3) := by decide +kernel
theorem d_X12_init_121 : decode cX12_init 121 = .ok (.newarray .int, 2) := by decide +kernel
theorem d_X12_init_123 : decode cX12_init 123 = .ok (.putfield 57, 3) := by decide +kernel
theorem d_X12_init_126 : decode cX12_init 126 = .ok (.aload_n 0, 1) := by decide +kernel
theorem d_X12_init_127 : decode cX12_init 127 = .ok (.bipush 64, 2) := by decide +kernel
theorem d_X12_init_129 : decode cX12_init 129 = .ok (.newarray .int, 2) := by decide +kernel
theorem d_X12_init_131 : decode cX12_init 131 = .ok (.putfield 60, 3) := by decide +kernel
theorem d_X12_init_134 : decode cX12_init 134 = .ok (.aload_n 0, 1) := by decide +kernel
theorem d_X12_init_135 : decode cX12_init 135 = .ok (.bipush 12, 2) := by decide +kernel
theorem d_X12_init_137 : decode cX12_init 137 = .ok (.newarray .long, 2) := by decide +kernel
theorem d_X12_init_139 : decode cX12_init 139 = .ok (.putfield 63, 3) := by decide +kernel
theorem d_X12_init_142 : decode cX12_init 142 = .ok (.aload_n 0, 1) := by decide +kernel
theorem d_X12_init_143 : decode cX12_init 143 = .ok (.bipush 12, 2) := by decide +kernel
theorem d_X12_init_145 : decode cX12_init 145 = .ok (.newarray .long, 2) := by decide +kernel
theorem d_X12_init_147 : decode cX12_init 147 = .ok (.putfield 67, 3) := by decide +kernel
theorem d_X12_init_150 : decode cX12_init 150 = .ok (.aload_n 0, 1) := by decide +kernel
theorem d_X12_init_151 : decode cX12_init 151 = .ok (.bipush 72, 2) := by decide +kernel
theorem d_X12_init_153 : decode cX12_init 153 = .ok (.newarray .int, 2) := by decide +kernel
theorem d_X12_init_155 : decode cX12_init 155 = .ok (.putfield 70, 3) := by decide +kernel
theorem d_X12_init_158 : decode cX12_init 158 = .ok (.aload_n 0, 1) := by decide +kernel
theorem d_X12_init_159 : decode cX12_init 159 = .ok (.iconst 4, 1) := by decide +kernel
theorem d_X12_init_160 : decode cX12_init 160 = .ok (.newarray .int, 2) := by decide +kernel
theorem d_X12_init_162 : decode cX12_init 162 = .ok (.dup, 1) := by decide +kernel
theorem d_X12_init_163 : decode cX12_init 163 = .ok (.iconst 0, 1) := by decide +kernel
theorem d_X12_init_164 : decode cX12_init 164 = .ok (.iconst (-1), 1) := by decide +kernel
theorem d_X12_init_165 : decode cX12_init 165 = .ok (.iastore, 1) := by decide +kernel
theorem d_X12_init_166 : decode cX12_init 166 = .ok (.dup, 1) := by decide +kernel
theorem d_X12_init_167 : decode cX12_init 167 = .ok (.iconst 1, 1) := by decide +kernel
theorem d_X12_init_168 : decode cX12_init 168 = .ok (.iconst (-1), 1) := by decide +kernel
theorem d_X12_init_169 : decode cX12_init 169 = .ok (.iastore, 1) := by decide +kernel
theorem d_X12_init_170 : decode cX12_init 170 = .ok (.dup, 1) := by decide +kernel
theorem d_X12_init_171 : decode cX12_init 171 = .ok (.iconst 2, 1) := by decide +kernel
theorem d_X12_init_172 : decode cX12_init 172 = .ok (.iconst (-1), 1) := by decide +kernel
theorem d_X12_init_173 : decode cX12_init 173 = .ok (.iastore, 1) := by decide +kernel
theorem d_X12_init_174 : decode cX12_init 174 = .ok (.dup, 1) := by decide +kernel
theorem d_X12_init_175 : decode cX12_init 175 = .ok (.iconst 3, 1) := by decide +kernel
theorem d_X12_init_176 : decode cX12_init 176 = .ok (.iconst (-1), 1) := by decide +kernel
theorem d_X12_init_177 : decode cX12_init 177 = .ok (.iastore, 1) := by decide +kernel
theorem d_X12_init_178 : decode cX12_init 178 = .ok (.putfield 73, 3) := by decide +kernel
theorem d_X12_init_181 : decode cX12_init 181 = .ok (.aload_n 0, 1) := by decide +kernel
theorem d_X12_init_182 : decode cX12_init 182 = .ok (.iconst 4, 1) := by decide +kernel
theorem d_X12_init_183 : decode cX12_init 183 = .ok (.newarray .int, 2) := by decide +kernel
theorem d_X12_init_185 : decode cX12_init 185 = .ok (.putfield 76, 3) := by decide +kernel
theorem d_X12_init_188 : decode cX12_init 188 = .ok (.aload_n 0, 1) := by decide +kernel
theorem d_X12_init_189 : decode cX12_init 189 = .ok (.sipush 160, 3) := by decide +kernel
theorem d_X12_init_192 : decode cX12_init 192 = .ok (.newarray .long, 2) := by decide +kernel
theorem d_X12_init_194 : decode cX12_init 194 = .ok (.putfield 79, 3) := by decide +kernel
theorem d_X12_init_197 : decode cX12_init 197 = .ok (.aload_n 0, 1) := by decide +kernel
theorem d_X12_init_198 : decode cX12_init 198 = .ok (.getfield 13, 3) := by decide +kernel
theorem d_X12_init_201 : decode cX12_init 201 = .ok (.invokestatic 82, 3) := by decide +kernel
theorem d_X12_init_204 : decode cX12_init 204 = .ok (.return_, 1) := by decide +kernel
def F_X12_init (x0 : Nat) (h : xH) : Option (Unit × xH × Nat × Nat) := if ((3687 : Int32)) < 0 ∨ 60000000 < ((3687 : Int32)).toNatClampNeg then none else ((some (nW h 0 ((3687 : Int32)).toNatClampNeg)).bind fun h8 => (wQ h8 x0 11 1 ((some (h).1))).bind fun h10 => if ((2 : Int32)) < 0 ∨ 60000000 < ((2 : Int32)).toNatClampNeg then none else ((some (nW h10 4 ((2 : Int32)).toNatClampNeg)).bind fun h15 => (wQ h15 x0 11 2 ((some (h10).1))).bind fun h17 => if ((900 : Int32)) < 0 ∨ 60000000 < ((900 : Int32)).toNatClampNeg then none else ((some (nW h17 0 ((900 : Int32)).toNatClampNeg)).bind fun h24 => (wQ h24 x0 11 3 ((some (h17).1))).bind fun h26 => if ((1229 : Int32)) < 0 ∨ 60000000 < ((1229 : Int32)).toNatClampNeg then none else ((some (nW h26 0 ((1229 : Int32)).toNatClampNeg)).bind fun h33 => (wQ h33 x0 11 4 ((some (h26).1))).bind fun h35 => (wI h35 x0 11 14 ((-1))).bind fun h40 => if ((900 : Int32)) < 0 ∨ 60000000 < ((900 : Int32)).toNatClampNeg then none else ((some (nW h40 0 ((900 : Int32)).toNatClampNeg)).bind fun h47 => (wQ h47 x0 11 16 ((some (h40).1))).bind fun h49 => if ((8 : Int32)) < 0 ∨ 60000000 < ((8 : Int32)).toNatClampNeg then none else ((some (nW h49 0 ((8 : Int32)).toNatClampNeg)).bind fun h55 => (wQ h55 x0 11 17 ((some (h49).1))).bind fun h57 => if ((20 : Int32)) < 0 ∨ 60000000 < ((20 : Int32)).toNatClampNeg then none else ((some (nW h57 0 ((20 : Int32)).toNatClampNeg)).bind fun h63 => (wQ h63 x0 11 18 ((some (h57).1))).bind fun h65 => if ((10 : Int32)) < 0 ∨ 60000000 < ((10 : Int32)).toNatClampNeg then none else ((some (nW h65 0 ((10 : Int32)).toNatClampNeg)).bind fun h71 => (wQ h71 x0 11 21 ((some (h65).1))).bind fun h73 => if ((2048 : Int32)) < 0 ∨ 60000000 < ((2048 : Int32)).toNatClampNeg then none else ((some (nW h73 0 ((2048 : Int32)).toNatClampNeg)).bind fun h80 => (wQ h80 x0 11 22 ((some (h73).1))).bind fun h82 => if ((6 : Int32)) < 0 ∨ 60000000 < ((6 : Int32)).toNatClampNeg then none else ((some (nW h82 0 ((6 : Int32)).toNatClampNeg)).bind fun h88 => (wQ h88 x0 11 23 ((some (h82).1))).bind fun h90 => if ((6 : Int32)) < 0 ∨ 60000000 < ((6 : Int32)).toNatClampNeg then none else ((some (nW h90 0 ((6 : Int32)).toNatClampNeg)).bind fun h96 => (wQ h96 x0 11 24 ((some (h90).1))).bind fun h98 => if ((6 : Int32)) < 0 ∨ 60000000 < ((6 : Int32)).toNatClampNeg then none else ((some (nW h98 0 ((6 : Int32)).toNatClampNeg)).bind fun h104 => (wQ h104 x0 11 25 ((some (h98).1))).bind fun h106 => if ((64 : Int32)) < 0 ∨ 60000000 < ((64 : Int32)).toNatClampNeg then none else ((some (nW h106 0 ((64 : Int32)).toNatClampNeg)).bind fun h112 => (wQ h112 x0 11 27 ((some (h106).1))).bind fun h114 => if ((11264 : Int32)) < 0 ∨ 60000000 < ((11264 : Int32)).toNatClampNeg then none else ((some (nW h114 0 ((11264 : Int32)).toNatClampNeg)).bind fun h121 => (wQ h121 x0 11 28 ((some (h114).1))).bind fun h123 => if ((64 : Int32)) < 0 ∨ 60000000 < ((64 : Int32)).toNatClampNeg then none else ((some (nW h123 0 ((64 : Int32)).toNatClampNeg)).bind fun h129 => (wQ h129 x0 11 29 ((some (h123).1))).bind fun h131 => if ((12 : Int32)) < 0 ∨ 60000000 < ((12 : Int32)).toNatClampNeg then none else ((some (nL h131 ((12 : Int32)).toNatClampNeg)).bind fun h137 => (wQ h137 x0 11 31 ((some (h131).1))).bind fun h139 => if ((12 : Int32)) < 0 ∨ 60000000 < ((12 : Int32)).toNatClampNeg then none else ((some (nL h139 ((12 : Int32)).toNatClampNeg)).bind fun h145 => (wQ h145 x0 11 32 ((some (h139).1))).bind fun h147 => if ((72 : Int32)) < 0 ∨ 60000000 < ((72 : Int32)).toNatClampNeg then none else ((some (nW h147 0 ((72 : Int32)).toNatClampNeg)).bind fun h153 => (wQ h153 x0 11 33 ((some (h147).1))).bind fun h155 => if ((4 : Int32)) < 0 ∨ 60000000 < ((4 : Int32)).toNatClampNeg then none else ((some (nW h155 0 ((4 : Int32)).toNatClampNeg)).bind fun h160 => (sI h160 ((h155).1) 0 ((-1))).bind fun h165 => (sI h165 ((h155).1) 1 ((-1))).bind fun h169 => (sI h169 ((h155).1) 2 ((-1))).bind fun h173 => (sI h173 ((h155).1) 3 ((-1))).bind fun h177 => (wQ h177 x0 11 34 ((some (h155).1))).bind fun h178 => if ((4 : Int32)) < 0 ∨ 60000000 < ((4 : Int32)).toNatClampNeg then none else ((some (nW h178 0 ((4 : Int32)).toNatClampNeg)).bind fun h183 => (wQ h183 x0 11 35 ((some (h178).1))).bind fun h185 => if ((160 : Int32)) < 0 ∨ 60000000 < ((160 : Int32)).toNatClampNeg then none else ((some (nL h185 ((160 : Int32)).toNatClampNeg)).bind fun h192 => (wQ h192 x0 11 36 ((some (h185).1))).bind fun h194 => (fR h194 x0 11 1).bind fun v198 => (F_X12_plain v198 h194).bind fun z201 => some ((), z201.2, 0, 0)).map (ac _ 1 ((160 : Int32)).toNatClampNeg)).map (ac _ 1 ((4 : Int32)).toNatClampNeg)).map (ac _ 1 ((4 : Int32)).toNatClampNeg)).map (ac _ 1 ((72 : Int32)).toNatClampNeg)).map (ac _ 1 ((12 : Int32)).toNatClampNeg)).map (ac _ 1 ((12 : Int32)).toNatClampNeg)).map (ac _ 1 ((64 : Int32)).toNatClampNeg)).map (ac _ 1 ((11264 : Int32)).toNatClampNeg)).map (ac _ 1 ((64 : Int32)).toNatClampNeg)).map (ac _ 1 ((6 : Int32)).toNatClampNeg)).map (ac _ 1 ((6 : Int32)).toNatClampNeg)).map (ac _ 1 ((6 : Int32)).toNatClampNeg)).map (ac _ 1 ((2048 : Int32)).toNatClampNeg)).map (ac _ 1 ((10 : Int32)).toNatClampNeg)).map (ac _ 1 ((20 : Int32)).toNatClampNeg)).map (ac _ 1 ((8 : Int32)).toNatClampNeg)).map (ac _ 1 ((900 : Int32)).toNatClampNeg)).map (ac _ 1 ((1229 : Int32)).toNatClampNeg)).map (ac _ 1 ((900 : Int32)).toNatClampNeg)).map (ac _ 1 ((2 : Int32)).toNatClampNeg)).map (ac _ 1 ((3687 : Int32)).toNatClampNeg)
theorem R_X12_init {Γ : xG} {l : Launch} {d : Nat} {r : Unit} {h' : xH} {mc ms : Nat} (x0 : Nat) (h : xH) (hdp : 1 ≤ d) (hF : F_X12_init x0 h = some (r, h', mc, ms)) : Gm Γ l d mc ms m_X12_init [.ref x0] h (fun a u => a = none ∧ u = h') := by
  refine Gm.of pn_X12 (Nat.le_of_ble_eq_true rfl) ?_
  show Gd Γ l d m_X12_init 0 [.ref x0] [] h mc ms _
  generalize hQ : (fun (a : Option Value) (u : xH) => a = none ∧ u = h') = Q
  have hq : Q (none) h' := by rw [← hQ]; exact ⟨rfl, rfl⟩
  clear hQ
  unfold F_X12_init at hF
  refine g_aloadn d_X12_init_0 rfl ?_
  refine q_oi d_X12_init_1 i_X12_7 (by omega) (Nat.le_of_ble_eq_true rfl) ?_
  refine g_aloadn d_X12_init_4 rfl ?_
  refine g_si (3687) d_X12_init_5 si_3687 ?_
  replace hF := x_nz hF
  obtain ⟨n8, hF⟩ := hF
  replace hF := x_map hF
  obtain ⟨c8, s8, rfl, rfl, hF⟩ := hF
  refine q_newaI d_X12_init_8 n8 ?_
  replace hF := Option.bind_eq_some_iff.mp hF
  obtain ⟨h8, e8, hF⟩ := hF
  rw [Option.some.inj e8]
  replace hF := Option.bind_eq_some_iff.mp hF
  obtain ⟨h10, e10, hF⟩ := hF
  refine q_wR d_X12_init_10 w_X12_13 (Or.inr ⟨_, rfl⟩) e10 ?_
  refine g_aloadn d_X12_init_13 rfl ?_
  refine g_ic (2) d_X12_init_14 ic_2 ?_
  replace hF := x_nz hF
  obtain ⟨n15, hF⟩ := hF
  replace hF := x_map hF
  obtain ⟨c15, s15, rfl, rfl, hF⟩ := hF
  refine q_newaZ d_X12_init_15 n15 ?_
  replace hF := Option.bind_eq_some_iff.mp hF
  obtain ⟨h15, e15, hF⟩ := hF
  rw [Option.some.inj e15]
  replace hF := Option.bind_eq_some_iff.mp hF
  obtain ⟨h17, e17, hF⟩ := hF
  refine q_wR d_X12_init_17 w_X12_17 (Or.inr ⟨_, rfl⟩) e17 ?_
  refine g_aloadn d_X12_init_20 rfl ?_
  refine g_si (900) d_X12_init_21 si_900 ?_
  replace hF := x_nz hF
  obtain ⟨n24, hF⟩ := hF
  replace hF := x_map hF
  obtain ⟨c24, s24, rfl, rfl, hF⟩ := hF
  refine q_newaI d_X12_init_24 n24 ?_
  replace hF := Option.bind_eq_some_iff.mp hF
  obtain ⟨h24, e24, hF⟩ := hF
  rw [Option.some.inj e24]
  replace hF := Option.bind_eq_some_iff.mp hF
  obtain ⟨h26, e26, hF⟩ := hF
  refine q_wR d_X12_init_26 w_X12_21 (Or.inr ⟨_, rfl⟩) e26 ?_
  refine g_aloadn d_X12_init_29 rfl ?_
  refine g_si (1229) d_X12_init_30 si_1229 ?_
  replace hF := x_nz hF
  obtain ⟨n33, hF⟩ := hF
  replace hF := x_map hF
  obtain ⟨c33, s33, rfl, rfl, hF⟩ := hF
  refine q_newaI d_X12_init_33 n33 ?_
  replace hF := Option.bind_eq_some_iff.mp hF
  obtain ⟨h33, e33, hF⟩ := hF
  rw [Option.some.inj e33]
  replace hF := Option.bind_eq_some_iff.mp hF
  obtain ⟨h35, e35, hF⟩ := hF
  refine q_wR d_X12_init_35 w_X12_24 (Or.inr ⟨_, rfl⟩) e35 ?_
  refine g_aloadn d_X12_init_38 rfl ?_
  refine g_ic (-1) d_X12_init_39 ic_m1 ?_
  replace hF := Option.bind_eq_some_iff.mp hF
  obtain ⟨h40, e40, hF⟩ := hF
  refine q_wI d_X12_init_40 (w_X12_27 _) e40 ?_
  refine g_aloadn d_X12_init_43 rfl ?_
  refine g_si (900) d_X12_init_44 si_900 ?_
  replace hF := x_nz hF
  obtain ⟨n47, hF⟩ := hF
  replace hF := x_map hF
  obtain ⟨c47, s47, rfl, rfl, hF⟩ := hF
  refine q_newaI d_X12_init_47 n47 ?_
  replace hF := Option.bind_eq_some_iff.mp hF
  obtain ⟨h47, e47, hF⟩ := hF
  rw [Option.some.inj e47]
  replace hF := Option.bind_eq_some_iff.mp hF
  obtain ⟨h49, e49, hF⟩ := hF
  refine q_wR d_X12_init_49 w_X12_30 (Or.inr ⟨_, rfl⟩) e49 ?_
  refine g_aloadn d_X12_init_52 rfl ?_
  refine g_bi (8) d_X12_init_53 bi_8 ?_
  replace hF := x_nz hF
  obtain ⟨n55, hF⟩ := hF
  replace hF := x_map hF
  obtain ⟨c55, s55, rfl, rfl, hF⟩ := hF
  refine q_newaI d_X12_init_55 n55 ?_
  replace hF := Option.bind_eq_some_iff.mp hF
  obtain ⟨h55, e55, hF⟩ := hF
  rw [Option.some.inj e55]
  replace hF := Option.bind_eq_some_iff.mp hF
  obtain ⟨h57, e57, hF⟩ := hF
  refine q_wR d_X12_init_57 w_X12_33 (Or.inr ⟨_, rfl⟩) e57 ?_
  refine g_aloadn d_X12_init_60 rfl ?_
  refine g_bi (20) d_X12_init_61 bi_20 ?_
  replace hF := x_nz hF
  obtain ⟨n63, hF⟩ := hF
  replace hF := x_map hF
  obtain ⟨c63, s63, rfl, rfl, hF⟩ := hF
  refine q_newaI d_X12_init_63 n63 ?_
  replace hF := Option.bind_eq_some_iff.mp hF
  obtain ⟨h63, e63, hF⟩ := hF
  rw [Option.some.inj e63]
  replace hF := Option.bind_eq_some_iff.mp hF
  obtain ⟨h65, e65, hF⟩ := hF
  refine q_wR d_X12_init_65 w_X12_36 (Or.inr ⟨_, rfl⟩) e65 ?_
  refine g_aloadn d_X12_init_68 rfl ?_
  refine g_bi (10) d_X12_init_69 bi_10 ?_
  replace hF := x_nz hF
  obtain ⟨n71, hF⟩ := hF
  replace hF := x_map hF
  obtain ⟨c71, s71, rfl, rfl, hF⟩ := hF
  refine q_newaI d_X12_init_71 n71 ?_
  replace hF := Option.bind_eq_some_iff.mp hF
  obtain ⟨h71, e71, hF⟩ := hF
  rw [Option.some.inj e71]
  replace hF := Option.bind_eq_some_iff.mp hF
  obtain ⟨h73, e73, hF⟩ := hF
  refine q_wR d_X12_init_73 w_X12_39 (Or.inr ⟨_, rfl⟩) e73 ?_
  refine g_aloadn d_X12_init_76 rfl ?_
  refine g_si (2048) d_X12_init_77 si_2048 ?_
  replace hF := x_nz hF
  obtain ⟨n80, hF⟩ := hF
  replace hF := x_map hF
  obtain ⟨c80, s80, rfl, rfl, hF⟩ := hF
  refine q_newaI d_X12_init_80 n80 ?_
  replace hF := Option.bind_eq_some_iff.mp hF
  obtain ⟨h80, e80, hF⟩ := hF
  rw [Option.some.inj e80]
  replace hF := Option.bind_eq_some_iff.mp hF
  obtain ⟨h82, e82, hF⟩ := hF
  refine q_wR d_X12_init_82 w_X12_42 (Or.inr ⟨_, rfl⟩) e82 ?_
  refine g_aloadn d_X12_init_85 rfl ?_
  refine g_bi (6) d_X12_init_86 bi_6 ?_
  replace hF := x_nz hF
  obtain ⟨n88, hF⟩ := hF
  replace hF := x_map hF
  obtain ⟨c88, s88, rfl, rfl, hF⟩ := hF
  refine q_newaI d_X12_init_88 n88 ?_
  replace hF := Option.bind_eq_some_iff.mp hF
  obtain ⟨h88, e88, hF⟩ := hF
  rw [Option.some.inj e88]
  replace hF := Option.bind_eq_some_iff.mp hF
  obtain ⟨h90, e90, hF⟩ := hF
  refine q_wR d_X12_init_90 w_X12_45 (Or.inr ⟨_, rfl⟩) e90 ?_
  refine g_aloadn d_X12_init_93 rfl ?_
  refine g_bi (6) d_X12_init_94 bi_6 ?_
  replace hF := x_nz hF
  obtain ⟨n96, hF⟩ := hF
  replace hF := x_map hF
  obtain ⟨c96, s96, rfl, rfl, hF⟩ := hF
  refine q_newaI d_X12_init_96 n96 ?_
  replace hF := Option.bind_eq_some_iff.mp hF
  obtain ⟨h96, e96, hF⟩ := hF
  rw [Option.some.inj e96]
  replace hF := Option.bind_eq_some_iff.mp hF
  obtain ⟨h98, e98, hF⟩ := hF
  refine q_wR d_X12_init_98 w_X12_48 (Or.inr ⟨_, rfl⟩) e98 ?_
  refine g_aloadn d_X12_init_101 rfl ?_
  refine g_bi (6) d_X12_init_102 bi_6 ?_
  replace hF := x_nz hF
  obtain ⟨n104, hF⟩ := hF
  replace hF := x_map hF
  obtain ⟨c104, s104, rfl, rfl, hF⟩ := hF
  refine q_newaI d_X12_init_104 n104 ?_
  replace hF := Option.bind_eq_some_iff.mp hF
  obtain ⟨h104, e104, hF⟩ := hF
  rw [Option.some.inj e104]
  replace hF := Option.bind_eq_some_iff.mp hF
  obtain ⟨h106, e106, hF⟩ := hF
  refine q_wR d_X12_init_106 w_X12_51 (Or.inr ⟨_, rfl⟩) e106 ?_
  refine g_aloadn d_X12_init_109 rfl ?_
  refine g_bi (64) d_X12_init_110 bi_64 ?_
  replace hF := x_nz hF
  obtain ⟨n112, hF⟩ := hF
  replace hF := x_map hF
  obtain ⟨c112, s112, rfl, rfl, hF⟩ := hF
  refine q_newaI d_X12_init_112 n112 ?_
  replace hF := Option.bind_eq_some_iff.mp hF
  obtain ⟨h112, e112, hF⟩ := hF
  rw [Option.some.inj e112]
  replace hF := Option.bind_eq_some_iff.mp hF
  obtain ⟨h114, e114, hF⟩ := hF
  refine q_wR d_X12_init_114 w_X12_54 (Or.inr ⟨_, rfl⟩) e114 ?_
  refine g_aloadn d_X12_init_117 rfl ?_
  refine g_si (11264) d_X12_init_118 si_11264 ?_
  replace hF := x_nz hF
  obtain ⟨n121, hF⟩ := hF
  replace hF := x_map hF
  obtain ⟨c121, s121, rfl, rfl, hF⟩ := hF
  refine q_newaI d_X12_init_121 n121 ?_
  replace hF := Option.bind_eq_some_iff.mp hF
  obtain ⟨h121, e121, hF⟩ := hF
  rw [Option.some.inj e121]
  replace hF := Option.bind_eq_some_iff.mp hF
  obtain ⟨h123, e123, hF⟩ := hF
  refine q_wR d_X12_init_123 w_X12_57 (Or.inr ⟨_, rfl⟩) e123 ?_
  refine g_aloadn d_X12_init_126 rfl ?_
  refine g_bi (64) d_X12_init_127 bi_64 ?_
  replace hF := x_nz hF
  obtain ⟨n129, hF⟩ := hF
  replace hF := x_map hF
  obtain ⟨c129, s129, rfl, rfl, hF⟩ := hF
  refine q_newaI d_X12_init_129 n129 ?_
  replace hF := Option.bind_eq_some_iff.mp hF
  obtain ⟨h129, e129, hF⟩ := hF
  rw [Option.some.inj e129]
  replace hF := Option.bind_eq_some_iff.mp hF
  obtain ⟨h131, e131, hF⟩ := hF
  refine q_wR d_X12_init_131 w_X12_60 (Or.inr ⟨_, rfl⟩) e131 ?_
  refine g_aloadn d_X12_init_134 rfl ?_
  refine g_bi (12) d_X12_init_135 bi_12 ?_
  replace hF := x_nz hF
  obtain ⟨n137, hF⟩ := hF
  replace hF := x_map hF
  obtain ⟨c137, s137, rfl, rfl, hF⟩ := hF
  refine q_newaJ d_X12_init_137 n137 ?_
  replace hF := Option.bind_eq_some_iff.mp hF
  obtain ⟨h137, e137, hF⟩ := hF
  rw [Option.some.inj e137]
  replace hF := Option.bind_eq_some_iff.mp hF
  obtain ⟨h139, e139, hF⟩ := hF
  refine q_wR d_X12_init_139 w_X12_63 (Or.inr ⟨_, rfl⟩) e139 ?_
  refine g_aloadn d_X12_init_142 rfl ?_
  refine g_bi (12) d_X12_init_143 bi_12 ?_
  replace hF := x_nz hF
  obtain ⟨n145, hF⟩ := hF
  replace hF := x_map hF
  obtain ⟨c145, s145, rfl, rfl, hF⟩ := hF
  refine q_newaJ d_X12_init_145 n145 ?_
  replace hF := Option.bind_eq_some_iff.mp hF
  obtain ⟨h145, e145, hF⟩ := hF
  rw [Option.some.inj e145]
  replace hF := Option.bind_eq_some_iff.mp hF
  obtain ⟨h147, e147, hF⟩ := hF
  refine q_wR d_X12_init_147 w_X12_67 (Or.inr ⟨_, rfl⟩) e147 ?_
  refine g_aloadn d_X12_init_150 rfl ?_
  refine g_bi (72) d_X12_init_151 bi_72 ?_
  replace hF := x_nz hF
  obtain ⟨n153, hF⟩ := hF
  replace hF := x_map hF
  obtain ⟨c153, s153, rfl, rfl, hF⟩ := hF
  refine q_newaI d_X12_init_153 n153 ?_
  replace hF := Option.bind_eq_some_iff.mp hF
  obtain ⟨h153, e153, hF⟩ := hF
  rw [Option.some.inj e153]
  replace hF := Option.bind_eq_some_iff.mp hF
  obtain ⟨h155, e155, hF⟩ := hF
  refine q_wR d_X12_init_155 w_X12_70 (Or.inr ⟨_, rfl⟩) e155 ?_
  refine g_aloadn d_X12_init_158 rfl ?_
  refine g_ic (4) d_X12_init_159 ic_4 ?_
  replace hF := x_nz hF
  obtain ⟨n160, hF⟩ := hF
  replace hF := x_map hF
  obtain ⟨c160, s160, rfl, rfl, hF⟩ := hF
  refine q_newaI d_X12_init_160 n160 ?_
  replace hF := Option.bind_eq_some_iff.mp hF
  obtain ⟨h160, e160, hF⟩ := hF
  rw [Option.some.inj e160]
  refine g_dup d_X12_init_162 rfl ?_
  refine g_ic (0) d_X12_init_163 ic_0 ?_
  refine g_ic (-1) d_X12_init_164 ic_m1 ?_
  replace hF := Option.bind_eq_some_iff.mp hF
  obtain ⟨h165, e165, hF⟩ := hF
  refine q_sI d_X12_init_165 e165 ?_
  refine g_dup d_X12_init_166 rfl ?_
  refine g_ic (1) d_X12_init_167 ic_1 ?_
  refine g_ic (-1) d_X12_init_168 ic_m1 ?_
  replace hF := Option.bind_eq_some_iff.mp hF
  obtain ⟨h169, e169, hF⟩ := hF
  refine q_sI d_X12_init_169 e169 ?_
  refine g_dup d_X12_init_170 rfl ?_
  refine g_ic (2) d_X12_init_171 ic_2 ?_
  refine g_ic (-1) d_X12_init_172 ic_m1 ?_
  replace hF := Option.bind_eq_some_iff.mp hF
  obtain ⟨h173, e173, hF⟩ := hF
  refine q_sI d_X12_init_173 e173 ?_
  refine g_dup d_X12_init_174 rfl ?_
  refine g_ic (3) d_X12_init_175 ic_3 ?_
  refine g_ic (-1) d_X12_init_176 ic_m1 ?_
  replace hF := Option.bind_eq_some_iff.mp hF
  obtain ⟨h177, e177, hF⟩ := hF
  refine q_sI d_X12_init_177 e177 ?_
  replace hF := Option.bind_eq_some_iff.mp hF
  obtain ⟨h178, e178, hF⟩ := hF
  refine q_wR d_X12_init_178 w_X12_73 (Or.inr ⟨_, rfl⟩) e178 ?_
  refine g_aloadn d_X12_init_181 rfl ?_
  refine g_ic (4) d_X12_init_182 ic_4 ?_
  replace hF := x_nz hF
  obtain ⟨n183, hF⟩ := hF
  replace hF := x_map hF
  obtain ⟨c183, s183, rfl, rfl, hF⟩ := hF
  refine q_newaI d_X12_init_183 n183 ?_
  replace hF := Option.bind_eq_some_iff.mp hF
  obtain ⟨h183, e183, hF⟩ := hF
  rw [Option.some.inj e183]
  replace hF := Option.bind_eq_some_iff.mp hF
  obtain ⟨h185, e185, hF⟩ := hF
  refine q_wR d_X12_init_185 w_X12_76 (Or.inr ⟨_, rfl⟩) e185 ?_
  refine g_aloadn d_X12_init_188 rfl ?_
  refine g_si (160) d_X12_init_189 si_160 ?_
  replace hF := x_nz hF
  obtain ⟨n192, hF⟩ := hF
  replace hF := x_map hF
  obtain ⟨c192, s192, rfl, rfl, hF⟩ := hF
  refine q_newaJ d_X12_init_192 n192 ?_
  replace hF := Option.bind_eq_some_iff.mp hF
  obtain ⟨h192, e192, hF⟩ := hF
  rw [Option.some.inj e192]
  replace hF := Option.bind_eq_some_iff.mp hF
  obtain ⟨h194, e194, hF⟩ := hF
  refine q_wR d_X12_init_194 w_X12_79 (Or.inr ⟨_, rfl⟩) e194 ?_
  refine g_aloadn d_X12_init_197 rfl ?_
  replace hF := Option.bind_eq_some_iff.mp hF
  obtain ⟨v198, e198, hF⟩ := hF
  refine q_fR d_X12_init_198 f_X12_13 e198 ?_
  replace hF := Option.bind_eq_some_iff.mp hF
  obtain ⟨⟨r201, h201⟩, e201, hF⟩ := hF
  try dsimp only at hF
  refine q_callS [.ref v198] [] rfl d_X12_init_201 s_X12_82 (by omega) rfl (Nat.le_of_ble_eq_true rfl) (R_X12_plain _ _ (by omega) e201) ?_
  obtain ⟨rfl, rfl, rfl, rfl⟩ := x_inj4 hF
  exact g_vret d_X12_init_204 rfl hq
