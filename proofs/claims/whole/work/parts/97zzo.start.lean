/-! THE CLAIM OUT OF ONE WALK OF THE LAW'S BODY. Your part is whole_start (and what it stands on); all else here is the same for every law, but numbers. -/
def R_law : String := "BlankNoteLaw"
def lw_P (b : Addr) (xs : List Int32) (args : Array Value) (s : State) : Prop := args = #[.ref b] ∧ s.IntsAt b xs ∧ xs.length ≤ 3072 ∧ (Jvm.Cond.and given_1 narrow_1).before args s = true
def lw_Q (_ : Array Value) (s : State) (o : Outcome) (t : State) : Prop := o = .returned (some (.int 1)) ∧ Framed s o t [] 600000 7302250
def lw_Z (below : List Frame) (a : Array Value) (s : State) : State → Prop := fun t => ∃ o, t.status = .running ∧ Ended t below o ∧ lw_Q a s o t
/-- the law's own end, with 1 on the stack, nothing written that was there before, its room as the claim has it -/
theorem lw_ret {p : Program} {l : Launch} {e : Env} {s : State} {m : MethodId} {below : List Frame} {meth : Method} {c : Code} {b : Nat} (hx : p.tables.exec = Jvm.exec) (hb : c.code = code) (hr : meth.sig.returnType = ret) (hlocks : meth.locks = false) {pc : Nat} {H : Heap} {ls : Array Slot} (hdg : decode code pc = .ok (.ireturn, 1)) : W p l e room_1 s m #[Value.ref b] below meth c H [] 600000 7302250 (lw_Z below #[Value.ref b] s) (F0 m pc ls [.int 1]) := by
  intro T hT X
  obtain ⟨fs, hret, hrun, hended, hW, hframe⟩ := X.leave (v := some (.int 1)) (hlocks := hlocks) (fun h => by rw [hr] at h; cases h)
  have hmeth' : T.vm.method? m = some meth := X.method'
  refine ⟨T.setFrames fs, ?_, .returned (some (.int 1)), hrun, hended, rfl, ⟨_, rfl⟩, hW, hframe⟩
  jvm_step X.here [X.here.top, hx, hb, hdg, hmeth', hr, ret, narrow_b1]
  (try refine ⟨rfl, ?_⟩); (try refine ⟨rfl, ?_⟩)
  first | (intro acts; rw [hret _ acts rfl rfl rfl]) | rw [hret _ _ rfl rfl rfl]
  exact Steps.refl _
/-- what holds at the law's entry: the machine, the code, the tables' words (any of lw_tbl by 'hts w (by decide +kernel)'), the script of L ints xs at the cell b, what the Statement gives of the start (any of its parts by flat_of_before) -/
def lw_At (p : Program) (s : State) (m : MethodId) (meth : Method) (c : Code) (b L : Nat) (xs : Nat → Int32) : Prop :=
  p.tables.exec = Jvm.exec ∧ c.code = code ∧ meth.sig.returnType = ret ∧ c.maxLocals = 4 ∧ s.vm.findClass R_law = some m.cls ∧ (∀ w ∈ lw_tbl, w.before #[Value.ref b] s = true) ∧ va_X b L xs s s.heap ∧ b < s.heap.size ∧ meth.locks = false ∧ (Jvm.Cond.and given_1 narrow_1).before #[Value.ref b] s = true
/-! ===== the start: what the Statement gives, as the layer wants it ===== -/
def x_big : List Cond := flatC (Jvm.Cond.and given_1 narrow_1)
def x_sc (q : String × Nat × String × List Nat) : List Cond := [.exactly (.string q.1 q.2.1) "java/lang/String", .eq (.field (.string q.1 q.2.1) "java/lang/String" "coder" "B") (.int 0), .arrayOf (.field (.string q.1 q.2.1) "java/lang/String" "value" "[B") .byte, .eq (.length (.field (.string q.1 q.2.1) "java/lang/String" "value" "[B")) (.int (nI q.2.2.2.length))] ++ (List.range q.2.2.2.length).map (fun j => .eq (.elem (.field (.string q.1 q.2.1) "java/lang/String" "value" "[B") (.int (nI j))) (.int (nI (q.2.2.2.getD j 0))))
theorem x_scAt {ws : List Cond} (ps : List Nat) (h : ws = ps.filterMap (fun i => x_big[i]?)) : ∀ w ∈ ws, w ∈ x_big := by
  intro w hw
  rw [h] at hw
  obtain ⟨i, -, hi⟩ := List.mem_filterMap.mp hw
  exact List.mem_of_getElem? hi
theorem x_s0 : ∀ w ∈ x_sc (xstr.getD 0 ("", 0, "", [])), w ∈ x_big := x_scAt [45, 46, 47, 48, 49, 50, 51, 52, 53, 54, 55, 56, 57, 58, 59, 60] (by decide +kernel)
theorem x_s1 : ∀ w ∈ x_sc (xstr.getD 1 ("", 0, "", [])), w ∈ x_big := x_scAt [61, 62, 63, 64, 65, 66, 67, 68, 69] (by decide +kernel)
theorem x_s2 : ∀ w ∈ x_sc (xstr.getD 2 ("", 0, "", [])), w ∈ x_big := x_scAt [70, 71, 72, 73, 74] (by decide +kernel)
theorem x_s3 : ∀ w ∈ x_sc (xstr.getD 3 ("", 0, "", [])), w ∈ x_big := x_scAt [75, 76, 77, 78, 79, 80, 81, 82] (by decide +kernel)
theorem x_s4 : ∀ w ∈ x_sc (xstr.getD 4 ("", 0, "", [])), w ∈ x_big := x_scAt [83, 84, 85, 86, 87, 88, 89, 90, 91] (by decide +kernel)
theorem x_s5 : ∀ w ∈ x_sc (xstr.getD 5 ("", 0, "", [])), w ∈ x_big := x_scAt [92, 93, 94, 95, 96, 97, 98] (by decide +kernel)
theorem x_s6 : ∀ w ∈ x_sc (xstr.getD 6 ("", 0, "", [])), w ∈ x_big := x_scAt [99, 100, 101, 102, 103, 104, 105, 106, 107, 108] (by decide +kernel)
theorem x_s7 : ∀ w ∈ x_sc (xstr.getD 7 ("", 0, "", [])), w ∈ x_big := x_scAt [109, 110, 111, 112, 113, 114] (by decide +kernel)
theorem x_s8 : ∀ w ∈ x_sc (xstr.getD 8 ("", 0, "", [])), w ∈ x_big := x_scAt [115, 116, 117, 118, 119, 120, 121, 122, 123] (by decide +kernel)
theorem x_s9 : ∀ w ∈ x_sc (xstr.getD 9 ("", 0, "", [])), w ∈ x_big := x_scAt [124, 125, 126, 127, 128, 129, 130] (by decide +kernel)
theorem x_s10 : ∀ w ∈ x_sc (xstr.getD 10 ("", 0, "", [])), w ∈ x_big := x_scAt [131, 132, 133, 134, 135, 136, 137, 138, 139] (by decide +kernel)
theorem x_s11 : ∀ w ∈ x_sc (xstr.getD 11 ("", 0, "", [])), w ∈ x_big := x_scAt [140, 141, 142, 143, 144, 145, 146, 147, 148] (by decide +kernel)
theorem x_s12 : ∀ w ∈ x_sc (xstr.getD 12 ("", 0, "", [])), w ∈ x_big := x_scAt [149, 150, 151, 152, 153] (by decide +kernel)
theorem x_s13 : ∀ w ∈ x_sc (xstr.getD 13 ("", 0, "", [])), w ∈ x_big := x_scAt [154, 155, 156, 157, 158, 159, 160] (by decide +kernel)
theorem x_s14 : ∀ w ∈ x_sc (xstr.getD 14 ("", 0, "", [])), w ∈ x_big := x_scAt [161, 162, 163, 164, 165] (by decide +kernel)
theorem x_s15 : ∀ w ∈ x_sc (xstr.getD 15 ("", 0, "", [])), w ∈ x_big := x_scAt [166, 167, 168, 169, 170] (by decide +kernel)
theorem x_s16 : ∀ w ∈ x_sc (xstr.getD 16 ("", 0, "", [])), w ∈ x_big := x_scAt [171, 172, 173, 174, 175] (by decide +kernel)
theorem x_s17 : ∀ w ∈ x_sc (xstr.getD 17 ("", 0, "", [])), w ∈ x_big := x_scAt [176, 177, 178, 179, 180] (by decide +kernel)
theorem x_s18 : ∀ w ∈ x_sc (xstr.getD 18 ("", 0, "", [])), w ∈ x_big := x_scAt [181, 182, 183, 184, 185, 186, 187] (by decide +kernel)
theorem x_s19 : ∀ w ∈ x_sc (xstr.getD 19 ("", 0, "", [])), w ∈ x_big := x_scAt [188, 189, 190, 191, 192, 193, 194, 195] (by decide +kernel)
theorem x_s20 : ∀ w ∈ x_sc (xstr.getD 20 ("", 0, "", [])), w ∈ x_big := x_scAt [196, 197, 198, 199, 200, 201, 202, 203] (by decide +kernel)
theorem x_s21 : ∀ w ∈ x_sc (xstr.getD 21 ("", 0, "", [])), w ∈ x_big := x_scAt [204, 205, 206, 207, 208, 209] (by decide +kernel)
theorem x_s22 : ∀ w ∈ x_sc (xstr.getD 22 ("", 0, "", [])), w ∈ x_big := x_scAt [210, 211, 212, 213, 214, 215, 216, 217] (by decide +kernel)
theorem x_s23 : ∀ w ∈ x_sc (xstr.getD 23 ("", 0, "", [])), w ∈ x_big := x_scAt [218, 219, 220, 221, 222] (by decide +kernel)
theorem x_s24 : ∀ w ∈ x_sc (xstr.getD 24 ("", 0, "", [])), w ∈ x_big := x_scAt [223, 224, 225, 226, 227] (by decide +kernel)
theorem x_s25 : ∀ w ∈ x_sc (xstr.getD 25 ("", 0, "", [])), w ∈ x_big := x_scAt [228, 229, 230, 231, 232] (by decide +kernel)
theorem x_s26 : ∀ w ∈ x_sc (xstr.getD 26 ("", 0, "", [])), w ∈ x_big := x_scAt [233, 234, 235, 236, 237] (by decide +kernel)
theorem x_s27 : ∀ w ∈ x_sc (xstr.getD 27 ("", 0, "", [])), w ∈ x_big := x_scAt [238, 239, 240, 241, 242] (by decide +kernel)
theorem x_s28 : ∀ w ∈ x_sc (xstr.getD 28 ("", 0, "", [])), w ∈ x_big := x_scAt [243, 244, 245, 246, 247] (by decide +kernel)
theorem x_s29 : ∀ w ∈ x_sc (xstr.getD 29 ("", 0, "", [])), w ∈ x_big := x_scAt [248, 249, 250, 251, 252, 253] (by decide +kernel)
theorem x_s30 : ∀ w ∈ x_sc (xstr.getD 30 ("", 0, "", [])), w ∈ x_big := x_scAt [254, 255, 256, 257, 258, 259, 260] (by decide +kernel)
theorem x_s31 : ∀ w ∈ x_sc (xstr.getD 31 ("", 0, "", [])), w ∈ x_big := x_scAt [261, 262, 263, 264, 265, 266, 267, 268] (by decide +kernel)
theorem x_s32 : ∀ w ∈ x_sc (xstr.getD 32 ("", 0, "", [])), w ∈ x_big := x_scAt [269, 270, 271, 272, 273, 274, 275, 276, 277, 278, 279, 280, 281, 282, 283, 284, 285, 286, 287, 288, 289, 290, 291, 292, 293, 294, 295, 296, 297, 298, 299, 300, 301, 302, 303, 304, 305, 306, 307, 308, 309, 310, 311, 312, 313, 314, 315, 316, 317, 318, 319, 320, 321, 322, 323, 324, 325, 326, 327, 328, 329, 330, 331, 332, 333, 334, 335, 336, 337, 338, 339, 340, 341, 342, 343, 344, 345, 346, 347, 348, 349, 350, 351, 352, 353, 354, 355, 356, 357, 358, 359, 360, 361, 362, 363, 364] (by decide +kernel)
theorem x_s33 : ∀ w ∈ x_sc (xstr.getD 33 ("", 0, "", [])), w ∈ x_big := x_scAt [365, 366, 367, 368, 369, 370, 371, 372, 373, 374, 375, 376, 377, 378, 379, 380] (by decide +kernel)
theorem x_sAll : ∀ i, i < 34 → ∀ w ∈ x_sc (xstr.getD i ("", 0, "", [])), w ∈ x_big := by
  intro i hi
  match i, hi with
  | 0, _ => exact x_s0
  | 1, _ => exact x_s1
  | 2, _ => exact x_s2
  | 3, _ => exact x_s3
  | 4, _ => exact x_s4
  | 5, _ => exact x_s5
  | 6, _ => exact x_s6
  | 7, _ => exact x_s7
  | 8, _ => exact x_s8
  | 9, _ => exact x_s9
  | 10, _ => exact x_s10
  | 11, _ => exact x_s11
  | 12, _ => exact x_s12
  | 13, _ => exact x_s13
  | 14, _ => exact x_s14
  | 15, _ => exact x_s15
  | 16, _ => exact x_s16
  | 17, _ => exact x_s17
  | 18, _ => exact x_s18
  | 19, _ => exact x_s19
  | 20, _ => exact x_s20
  | 21, _ => exact x_s21
  | 22, _ => exact x_s22
  | 23, _ => exact x_s23
  | 24, _ => exact x_s24
  | 25, _ => exact x_s25
  | 26, _ => exact x_s26
  | 27, _ => exact x_s27
  | 28, _ => exact x_s28
  | 29, _ => exact x_s29
  | 30, _ => exact x_s30
  | 31, _ => exact x_s31
  | 32, _ => exact x_s32
  | 33, _ => exact x_s33
  | k + 34, hk => omega
theorem x_cs : Cond.eq (.static "java/lang/String" "COMPACT_STRINGS" "Z") (.int 1) ∈ x_big := List.mem_of_getElem? (i := 4) (by decide +kernel)
theorem x_lc : Cond.laysStatic "java/lang/String" "COMPACT_STRINGS" "Z" ∈ lw_tbl := List.mem_of_getElem? (i := 582) (by decide +kernel)
theorem x_sf : Cond.isRef (.static "jdk/internal/util/Preconditions" "SIOOBE_FORMATTER" "Ljava/util/function/BiFunction;") ∈ x_big := List.mem_of_getElem? (i := 5) (by decide +kernel)
theorem x_lf : Cond.laysStatic "jdk/internal/util/Preconditions" "SIOOBE_FORMATTER" "Ljava/util/function/BiFunction;" ∈ lw_tbl := List.mem_of_getElem? (i := 623) (by decide +kernel)
theorem x_if : Cond.initialized "jdk/internal/util/Preconditions" ∈ lw_tbl := List.mem_of_getElem? (i := 143) (by decide +kernel)
theorem x_is : Cond.initialized "java/lang/String" ∈ lw_tbl := List.mem_of_getElem? (i := 140) (by decide +kernel)
theorem x_nest : ∀ w ∈ xnest, w ∈ lw_tbl := by
  intro w hw
  have e : xnest = ([329, 331, 357, 383, 405, 435, 480, 159, 340, 165, 171] : List Nat).filterMap (fun i => lw_tbl[i]?) := by decide +kernel
  rw [e] at hw
  obtain ⟨i, -, hi⟩ := List.mem_filterMap.mp hw
  exact List.mem_of_getElem? hi
theorem x_ao6 : Cond.arrayOver (.object RX6) ∈ lw_tbl := List.mem_of_getElem? (i := 339) (by decide +kernel)
theorem x_ao8 : Cond.arrayOver (.object RX8) ∈ lw_tbl := List.mem_of_getElem? (i := 353) (by decide +kernel)
theorem x_ao10 : Cond.arrayOver (.object RX10) ∈ lw_tbl := List.mem_of_getElem? (i := 354) (by decide +kernel)
theorem x_in0 : Cond.instantiable RX1 3 ∈ xtbl := xt 434 (by decide +kernel) (by decide +kernel)
theorem x_in1 : Cond.instantiable RX2 3 ∈ xtbl := xt 333 (by decide +kernel) (by decide +kernel)
theorem x_in2 : Cond.instantiable RX3 3 ∈ xtbl := xt 463 (by decide +kernel) (by decide +kernel)
theorem x_in3 : Cond.instantiable RX4 13 ∈ xtbl := xt 158 (by decide +kernel) (by decide +kernel)
theorem x_in4 : Cond.instantiable RX5 7 ∈ xtbl := xt 404 (by decide +kernel) (by decide +kernel)
theorem x_in5 : Cond.instantiable RX6 5 ∈ xtbl := xt 170 (by decide +kernel) (by decide +kernel)
theorem x_in6 : Cond.instantiable RX7 5 ∈ xtbl := xt 382 (by decide +kernel) (by decide +kernel)
theorem x_in7 : Cond.instantiable RX8 3 ∈ xtbl := xt 479 (by decide +kernel) (by decide +kernel)
theorem x_in8 : Cond.instantiable RX9 6 ∈ xtbl := xt 356 (by decide +kernel) (by decide +kernel)
theorem x_in9 : Cond.instantiable RX10 14 ∈ xtbl := xt 164 (by decide +kernel) (by decide +kernel)
theorem x_in10 : Cond.instantiable RX11 12 ∈ xtbl := xt 150 (by decide +kernel) (by decide +kernel)
theorem x_in11 : Cond.instantiable RX12 37 ∈ xtbl := xt 1357 (by decide +kernel) (by decide +kernel)
theorem x_ref : ∀ (i : Nat) (q : String × Nat × String × List Nat), xstr[i]? = some q → Cond.stringRef q.1 q.2.1 q.2.2.1 ∈ lw_tbl := by
  intro i q hq
  have e : xstr.map (fun q => Cond.stringRef q.1 q.2.1 q.2.2.1) = ([568, 661, 695, 700, 705, 710, 715, 720, 726, 727, 728, 729, 734, 743, 744, 749, 758, 759, 764, 765, 770, 771, 772, 777, 778, 779, 784, 785, 786, 787, 788, 818, 1504, 1510] : List Nat).filterMap (fun i => lw_tbl[i]?) := by decide +kernel
  have hm : Cond.stringRef q.1 q.2.1 q.2.2.1 ∈ xstr.map (fun q => Cond.stringRef q.1 q.2.1 q.2.2.1) := List.mem_map.mpr ⟨q, List.mem_of_getElem? hq, rfl⟩
  rw [e] at hm
  obtain ⟨i, -, hi⟩ := List.mem_filterMap.mp hm
  exact List.mem_of_getElem? hi
theorem x_class {args : Array Value} {s : State} (hts : ∀ w ∈ xtbl, w.before args s = true) : ∃ (dC : Nat → ClassId) (dI : Nat → Nat → Nat), ∀ (k : Nat) (q : vw_C), xcl[k]? = some q → u_Kn s q.1 q.2.1 q.2.2 (dC k) (dI k) := by
  have h0 : ∀ k : Nat, ∃ f : ClassId × (Nat → Nat), ∀ q : vw_C, xcl[k]? = some q → u_Kn s q.1 q.2.1 q.2.2 f.1 f.2 := by
    intro k
    match k with
    | 0 => obtain ⟨c, i, h⟩ := u_known (C := RX1) (T := TX1) (N := 3) (n := 3) hts u_0 (hts _ x_in0); exact ⟨(c, i), fun q hq => by cases hq; exact h⟩
    | 1 => obtain ⟨c, i, h⟩ := u_known (C := RX2) (T := TX2) (N := 3) (n := 3) hts u_1 (hts _ x_in1); exact ⟨(c, i), fun q hq => by cases hq; exact h⟩
    | 2 => obtain ⟨c, i, h⟩ := u_known (C := RX3) (T := TX3) (N := 3) (n := 3) hts u_2 (hts _ x_in2); exact ⟨(c, i), fun q hq => by cases hq; exact h⟩
    | 3 => obtain ⟨c, i, h⟩ := u_known (C := RX4) (T := TX4) (N := 13) (n := 13) hts u_3 (hts _ x_in3); exact ⟨(c, i), fun q hq => by cases hq; exact h⟩
    | 4 => obtain ⟨c, i, h⟩ := u_known (C := RX5) (T := TX5) (N := 7) (n := 7) hts u_4 (hts _ x_in4); exact ⟨(c, i), fun q hq => by cases hq; exact h⟩
    | 5 => obtain ⟨c, i, h⟩ := u_known (C := RX6) (T := TX6) (N := 5) (n := 5) hts u_5 (hts _ x_in5); exact ⟨(c, i), fun q hq => by cases hq; exact h⟩
    | 6 => obtain ⟨c, i, h⟩ := u_known (C := RX7) (T := TX7) (N := 5) (n := 5) hts u_6 (hts _ x_in6); exact ⟨(c, i), fun q hq => by cases hq; exact h⟩
    | 7 => obtain ⟨c, i, h⟩ := u_known (C := RX8) (T := TX8) (N := 3) (n := 3) hts u_7 (hts _ x_in7); exact ⟨(c, i), fun q hq => by cases hq; exact h⟩
    | 8 => obtain ⟨c, i, h⟩ := u_known (C := RX9) (T := TX9) (N := 6) (n := 6) hts u_8 (hts _ x_in8); exact ⟨(c, i), fun q hq => by cases hq; exact h⟩
    | 9 => obtain ⟨c, i, h⟩ := u_known (C := RX10) (T := TX10) (N := 14) (n := 14) hts u_9 (hts _ x_in9); exact ⟨(c, i), fun q hq => by cases hq; exact h⟩
    | 10 => obtain ⟨c, i, h⟩ := u_known (C := RX11) (T := TX11) (N := 12) (n := 12) hts u_10 (hts _ x_in10); exact ⟨(c, i), fun q hq => by cases hq; exact h⟩
    | 11 => obtain ⟨c, i, h⟩ := u_known (C := RX12) (T := TX12) (N := 37) (n := 37) hts u_11 (hts _ x_in11); exact ⟨(c, i), fun q hq => by cases hq; exact h⟩
    | k + 12 => exact ⟨(0, fun _ => 0), fun q hq => by simp [xcl] at hq⟩
  obtain ⟨f, hf⟩ := Classical.axiomOfChoice h0
  exact ⟨fun k => (f k).1, fun k => (f k).2, fun k q hq => hf k q hq⟩
theorem x_arrP {args : Array Value} {s : State} {ty : FieldType} (h : (Cond.arrayClass ty).before args s = true) : ∃ cA : ClassId, ArrOfT s cA ty ∧ s.vm.findClass ("[" ++ ty.toString) = some cA := by
  obtain ⟨c, k, comp, h1, h2, h3⟩ := Cond.arrayClass_spec h
  exact ⟨c, fun n z => ⟨fun k h => (by cases h), k, h2, comp, h3⟩, h1⟩
theorem x_arrO {args : Array Value} {s : State} {n : String} (h : (Cond.arrayOver (.object n)).before args s = true) : ∃ cA : ClassId, ArrOfT s cA (.object n) ∧ va_RA s cA (.object n) := by
  obtain ⟨comp, c, k, h1, h2, h3, h4, h5⟩ := Cond.arrayOver_spec h
  exact ⟨c, fun N z => ⟨fun k h => (by cases h), k, h3, comp, h4⟩, k, comp, h3, h4, h1, h5⟩
theorem x_string {args : Array Value} {s : State} {A : Nat → Prop} (hs : ∀ w ∈ x_big, w.before args s = true) (hA : ∀ a : Nat, a < s.heap.size → ¬ A a) (i : Nat) (hi : i < 34) : ∃ q : Nat × Nat, (Term.string (xstr.getD i ("", 0, "", [])).1 (xstr.getD i ("", 0, "", [])).2.1).eval args s none [] s = some (.ref q.1) ∧ va_O "java/lang/String" q.1 A s s.heap ∧ va_OF "java/lang/String" "coder" "B" (.int 0) q.1 A s s.heap ∧ va_OF "java/lang/String" "value" "[B" (.ref q.2) q.1 A s s.heap ∧ va_T .byte q.2 (xsl i) (fun j => .int (xsb i j)) A s s.heap := by
  have hw := x_sAll i hi
  have hlen : xsl i = (xstr.getD i ("", 0, "", [])).2.2.2.length := by
    unfold xsl
    rw [List.getD_eq_getElem?_getD, List.getD_eq_getElem?_getD, List.getElem?_map]
    cases xstr[i]? <;> rfl
  have hby : ∀ j, xsb i j = nI ((xstr.getD i ("", 0, "", [])).2.2.2.getD j 0) := by
    intro j
    unfold xsb
    rw [List.getD_eq_getElem?_getD (l := xstr.map _), List.getD_eq_getElem?_getD (l := xstr), List.getElem?_map]
    cases xstr[i]? <;> rfl
  generalize xstr.getD i ("", 0, "", []) = q at hw hlen hby ⊢
  have m0 : ∀ w ∈ x_sc q, w.before args s = true := fun w h => hs w (hw w h)
  have hsmall : xsl i < 2 ^ 31 := by
    have : ∀ i, i < 34 → xsl i < 2 ^ 31 := by decide +kernel
    exact this i hi
  have h1 := m0 (.exactly (.string q.1 q.2.1) "java/lang/String") (by simp [x_sc])
  have h2 := m0 (.eq (.field (.string q.1 q.2.1) "java/lang/String" "coder" "B") (.int 0)) (by simp [x_sc])
  have h3 := m0 (.arrayOf (.field (.string q.1 q.2.1) "java/lang/String" "value" "[B") .byte) (by simp [x_sc])
  have h4 := m0 (.eq (.length (.field (.string q.1 q.2.1) "java/lang/String" "value" "[B")) (.int (nI q.2.2.2.length))) (by simp [x_sc])
  have h5 : ∀ j, j < xsl i → (Cond.eq (.elem (.field (.string q.1 q.2.1) "java/lang/String" "value" "[B") (.int (Int32.ofNat j))) (.int (xsb i j))).before args s = true := by
    intro j hj
    rw [hby]
    refine m0 _ ?_
    unfold x_sc
    refine List.mem_append_right _ (List.mem_map.mpr ⟨j, List.mem_range.mpr (by omega), rfl⟩)
  obtain ⟨a, c, cA, kA, q1, q2, q3, q4, q5, q6, -⟩ := Cond.exactly_spec (args := args) (first := s) (o := none) (s := s) (idx := []) (t := .string q.1 q.2.1) (cls := "java/lang/String") h1
  obtain ⟨t, ht, hT⟩ := va_Tof (f := fun j => .int (xsb i j)) (A := A) hsmall h3 (by rw [hlen]; exact va_eqt h4) (fun j hj => va_eqt (h5 j hj)) hA
  exact ⟨(a, t), q1, ⟨cA, q3, q5, by rw [q6]; exact q2, hA a (Array.getElem?_eq_some_iff.mp q3).1⟩, vk_OFof q1 (va_eqt h2) hA, vk_OFof q1 ht hA, hT⟩
/-- the heap at the start: the constants and the script -/
def x_h0 (sc : Nat × (Nat → Int32)) : xH := (69, fun k => if k < 69 then xkc sc k else xnil)
/-- what is left to show: the law's function answers 1 -/
def x_goal : Prop := ∀ (L : Nat) (xs : Nat → Int32), L ≤ 3072 → ∃ (h' : xH) (mc ms : Nat), F_L_law 68 (x_h0 (L, xs)) = some (1, h', mc, ms) ∧ mc ≤ 600000 ∧ ms ≤ 7302250
set_option maxHeartbeats 4000000 in
theorem whole_open (G : x_goal) {p : Program} {e : Env} {s : State} {m : MethodId} {below : List Frame} {meth : Method} {c : Code} (l : Launch) {b L : Nat} {xs : Nat → Int32} (hL : L ≤ 3072) (C0 : lw_At p s m meth c b L xs) : W p l e room_1 s m #[Value.ref b] below meth c s.heap [] 0 0 (lw_Z below #[Value.ref b] s) (entryFrame m ([Value.ref b] : List Value).toArray 4) := by
  obtain ⟨hx, hb, hr, hml, hown, hts, hX, hbl, hlocks, hgv⟩ := C0
  have htx : ∀ w ∈ xtbl, w.before #[Value.ref b] s = true := fun w hw => hts w (List.mem_filter.mp hw).1
  have hs : ∀ w ∈ x_big, w.before #[Value.ref b] s = true := flat_of_before _ hgv
  obtain ⟨dC, dI, hKc⟩ := x_class htx
  obtain ⟨a0, r0, f0⟩ := x_arrP (htx _ ac_int)
  obtain ⟨a1, r1, f1⟩ := x_arrP (htx _ ac_long)
  obtain ⟨a2, r2, f2⟩ := x_arrP (htx _ ac_char)
  obtain ⟨a3, r3, f3⟩ := x_arrP (htx _ ac_byte)
  obtain ⟨a4, r4, f4⟩ := x_arrP (htx _ ac_boolean)
  obtain ⟨a5, r5, f5⟩ := x_arrO (hts _ x_ao6)
  obtain ⟨a6, r6, f6⟩ := x_arrO (hts _ x_ao8)
  obtain ⟨a7, r7, f7⟩ := x_arrO (hts _ x_ao10)
  have hA : ∀ a : Nat, a < s.heap.size → ¬ s.heap.size ≤ a := fun a h1 h2 => by omega
  have hstr : ∀ i : Nat, ∃ q : Nat × Nat, i < 34 → (Term.string (xstr.getD i ("", 0, "", [])).1 (xstr.getD i ("", 0, "", [])).2.1).eval #[Value.ref b] s none [] s = some (.ref q.1) ∧ va_O "java/lang/String" q.1 (fun q => s.heap.size ≤ q) s s.heap ∧ va_OF "java/lang/String" "coder" "B" (.int 0) q.1 (fun q => s.heap.size ≤ q) s s.heap ∧ va_OF "java/lang/String" "value" "[B" (.ref q.2) q.1 (fun q => s.heap.size ≤ q) s s.heap ∧ va_T .byte q.2 (xsl i) (fun j => .int (xsb i j)) (fun q => s.heap.size ≤ q) s s.heap := by
    intro i
    by_cases hi : i < 34
    · obtain ⟨q, hq⟩ := x_string (A := fun q => s.heap.size ≤ q) hs hA i hi
      exact ⟨q, fun _ => hq⟩
    · exact ⟨(0, 0), fun h => absurd h hi⟩
  obtain ⟨ad, had⟩ := Classical.axiomOfChoice hstr
  obtain ⟨Γ, hΓ⟩ : ∃ Γ : xG, Γ = ((dC, dI), (fun t => if t = 0 then a0 else if t = 1 then a1 else if t = 2 then a2 else if t = 3 then a3 else if t = 4 then a4 else if t = 5 then a5 else if t = 6 then a6 else a7), (fun k => if k < 68 then (if k % 2 = 0 then (ad (k / 2)).1 else (ad (k / 2)).2) else b), s.heap.size, (L, xs)) := ⟨_, rfl⟩
  have hgb : gb Γ = s.heap.size := by rw [hΓ]
  have hgA : ∀ q, xA Γ q ↔ s.heap.size ≤ q := fun q => by unfold xA; rw [hgb]
  have hAe : xA Γ = fun q => s.heap.size ≤ q := by funext q; exact propext (hgA q)
  have had1 : ∀ i, i < 34 → gad Γ (2 * i) = (ad i).1 := by
    intro i hi
    rw [hΓ]
    show (if 2 * i < 68 then _ else _) = _
    rw [if_pos (by omega), if_pos (by omega), show 2 * i / 2 = i by omega]
  have had2 : ∀ i, i < 34 → gad Γ (2 * i + 1) = (ad i).2 := by
    intro i hi
    rw [hΓ]
    show (if 2 * i + 1 < 68 then _ else _) = _
    rw [if_pos (by omega), if_neg (by omega), show (2 * i + 1) / 2 = i by omega]
  have had3 : gad Γ 68 = b := by rw [hΓ]; rfl
  have hsc : gsc Γ = (L, xs) := by rw [hΓ]
  have hK : va_K (gD Γ) xcl (xtys Γ) s := by
    refine ⟨by rw [hΓ]; exact hKc, ?_⟩
    intro k q hq
    have e : xtys Γ = [(a0, .int), (a1, .long), (a2, .char), (a3, .byte), (a4, .boolean), (a5, .object RX6), (a6, .object RX8), (a7, .object RX10)] := by rw [hΓ]; rfl
    rw [e] at hq
    match k, hq with
    | 0, hq => cases hq; exact ⟨r0, f0⟩
    | 1, hq => cases hq; exact ⟨r1, f1⟩
    | 2, hq => cases hq; exact ⟨r2, f2⟩
    | 3, hq => cases hq; exact ⟨r3, f3⟩
    | 4, hq => cases hq; exact ⟨r4, f4⟩
    | 5, hq => cases hq; exact ⟨r5, f5⟩
    | 6, hq => cases hq; exact ⟨r6, f6⟩
    | 7, hq => cases hq; exact ⟨r7, f7⟩
    | k + 8, hq => simp at hq
  have hKon : xKon Γ s s.heap := by
    refine ⟨fun i hi => ?_, fun i hi q hq => ?_, ?_, ?_, fun w hw => ?_, ?_, ?_, ?_⟩
    · obtain ⟨g1, g2, g3, g4, g5⟩ := had i hi
      unfold xKs
      rw [had1 i hi, had2 i hi, hAe]
      exact ⟨g2, g3, g4, g5⟩
    · obtain ⟨g1, -⟩ := had i hi
      rw [had1 i hi]
      have eq : xstr.getD i ("", 0, "", []) = q := by rw [List.getD_eq_getElem?_getD, hq]; rfl
      rw [eq] at g1
      exact vk_R.of (hts _ (x_ref i q hq)) g1
    · rw [had3, hsc, hAe]
      obtain ⟨scr, s1, s2, s3, s4, s5⟩ := hX
      exact ⟨scr, s1, s2, s3, by rw [s4]; exact Nat.le_refl L, by rw [s4]; first | done | rfl, s5, by omega⟩
    · rw [hAe]
      exact ⟨va_Zof (hts _ x_lc) (hts _ x_is) (va_eqi (hs _ x_cs)) hA, va_Zqof (hts _ x_lf) (hts _ x_if) (hs _ x_sf) hA⟩
    · obtain ⟨a, i, x, hh, rfl⟩ := xnest_form hw
      exact va_Nw.of rfl (hts _ (x_nest _ hw))
    · exact va_AO.of (hts _ x_ao6)
    · exact va_AO.of (hts _ x_ao8)
    · exact va_AO.of (hts _ x_ao10)
  obtain ⟨h', mc, ms, hF, hmc, hms⟩ := G L xs hL
  have hWd : xWd Γ (x_h0 (L, xs)) s.heap := by
    refine ⟨Nat.le_refl 69, by rw [hgb]; rfl, fun k q hq => ?_, fun k hk => ?_, fun k hk => ?_⟩
    · have : (wl Γ (x_h0 (L, xs))) = [] := rfl
      rw [this] at hq
      simp at hq
    · have h2 : 69 ≤ k := hk
      show (if k < 69 then _ else xnil) = _
      rw [if_neg (by omega)]
    · show (if k < 69 then xkc (L, xs) k else xnil) = _
      rw [if_pos hk, hsc]
  have hG := R_L_law (Γ := Γ) (l := l) (d := 2048) (Q := fun a _ => a = some (.int 1)) 68 (x_h0 (L, xs)) (by omega) rfl hF
  have hent := lv_entry ([.ref b]) (n := 4) (Nat.le_of_ble_eq_true rfl)
  rw [lg_entry_eq]
  generalize (lg_sl ([.ref b]) ++ List.replicate (4 - (lg_sl ([.ref b])).length) Slot.unset).toArray = ls at hent ⊢
  refine hG p e room_1 s m #[Value.ref b] below meth c s.heap [] 0 0 ls _ ⟨hx, hb, hml, hown, htx, (fun h => absurd h (by decide)), Nat.le_refl _, by show 41 * 2048 ≤ 84000; omega, hK, hKon, by rw [hgb]; exact Nat.le_refl _⟩ hWd va_S.rf (by show 0 + mc ≤ 600000; omega) (by show 0 + ms ≤ 7302250; omega) ⟨hent.1, hent.2.1, fun i v hi hv => ?_⟩ ?_
  · match i, hi with
    | 0, hi =>
      cases hi
      have e : xv Γ (.ref 68) = .ref b := by show Value.ref (xf Γ 68) = _; unfold xf; rw [if_pos (by omega), had3]
      rw [e]
      exact hent.2.2 _ List.mem_cons_self
    | 1, hi => exact absurd (Option.some.inj hi).symm hv
    | 2, hi => exact absurd (Option.some.inj hi).symm hv
    | 3, hi => exact absurd (Option.some.inj hi).symm hv
    | k + 4, hi => simp at hi
  · intro r u H locs cells slots pc ls' hq hW' hS' hc' hs' hret
    subst hq
    refine va_forget (fun q hq => (hgA _).mp (hS'.2.2 q hq)) ?_
    refine W.widen (k := 600000) (n := 7302250) hc' hs' ?_
    exact lw_ret hx hb hr hlocks hret.1
