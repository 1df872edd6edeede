/-! ===== small helpers of the walks ===== -/
def FU : Nat := 1000000
abbrev RF : Nat := 100
def ush (x y : Int32) : Int32 := (x.toUInt32 >>> (y.toUInt32 &&& Int32.toUInt32 31)).toInt32
def idv (x y : Int32) : Int32 := x / y
def irm (x y : Int32) : Int32 := x - x / y * y
def ldv (x y : Int64) : Int64 := x / y
def lrm (x y : Int64) : Int64 := x - x / y * y
theorem x_t {α : Type} {c : Prop} [Decidable c] {A B v : Option α} (hF : (if c then A else B) = v) (q : c) : A = v := by rw [if_pos q] at hF; exact hF
theorem x_f {α : Type} {c : Prop} [Decidable c] {A B v : Option α} (hF : (if c then A else B) = v) (q : ¬ c) : B = v := by rw [if_neg q] at hF; exact hF
theorem x_nz {α : Type} {c : Prop} [Decidable c] {A : Option α} {v : α} (hF : (if c then none else A) = some v) : ¬ c ∧ A = some v := by
  by_cases q : c
  · rw [if_pos q] at hF; cases hF
  · rw [if_neg q] at hF; exact ⟨q, hF⟩
theorem x_inj {α β : Type} {a c : α} {b d : β} (h : some (a, b) = some (c, d)) : a = c ∧ b = d := by cases h; exact ⟨rfl, rfl⟩
theorem sw_ne {x v : Int32} {k : Int} (c : ¬ x = v) (hk : v.toInt = k) : x.toInt ≠ k := fun e => c (Int32.toInt_inj.mp (e.trans hk.symm))
theorem xs_n {L : List Value} : xsub [] L := trivial
theorem xs_r {v : Value} {L' L : List Value} (h : xsub L' L) : xsub (v :: L') (v :: L) := ⟨Or.inr rfl, h⟩
theorem xs_h {w : Value} {L' L : List Value} (h : xsub L' L) : xsub (xhole :: L') (w :: L) := ⟨Or.inl rfl, h⟩
theorem lk_2 {x : Int} (h0 : x ≠ 0) (h1 : x ≠ 1) : Op.lookupswitch.offset (#[(0, 26), (1, 36)] : Array (Int × Int)).toList 46 x = 46 := by
  simp [Op.lookupswitch.offset, List.find?, Ne.symm h0, Ne.symm h1]
section XHe
variable {Γ : xG} {l : Launch} {d pc bc bs : Nat} {M : xMeth} {L st : List Value} {h : xH} {Q : Option Value → xH → Prop}
theorem q_iinc {i : Nat} {n : Int} {x : Int32} (v : Int32) (L' : List Value) (hd : decode M.2.1 pc = .ok (.iinc i n, 3)) (hv' : Int32.ofInt n = v) (hv : L[i]? = some (.int x)) (hn : i < M.2.2.1) (hL : xst L i (.int (x + v)) = L') (k : Gd Γ l d M (pc + 3) L' st h bc bs Q) : Gd Γ l d M pc L st h bc bs Q := by
  subst hv'
  subst hL
  exact g_iinc hd hv hn k
theorem q_iushr {x y : Int32} (hd : decode M.2.1 pc = .ok (.iushr, 1)) (k : Gd Γ l d M (pc + 1) L (.int (ush x y) :: st) h bc bs Q) : Gd Γ l d M pc L (.int y :: .int x :: st) h bc bs Q := g_iushr hd k
theorem q_idiv {x y : Int32} (hd : decode M.2.1 pc = .ok (.idiv, 1)) (hne : ¬ y = 0) (k : Gd Γ l d M (pc + 1) L (.int (idv x y) :: st) h bc bs Q) : Gd Γ l d M pc L (.int y :: .int x :: st) h bc bs Q := g_idiv hd hne k
theorem q_irem {x y : Int32} (hd : decode M.2.1 pc = .ok (.irem, 1)) (hne : ¬ y = 0) (k : Gd Γ l d M (pc + 1) L (.int (irm x y) :: st) h bc bs Q) : Gd Γ l d M pc L (.int y :: .int x :: st) h bc bs Q := g_irem hd hne k
theorem q_ldiv {x y : Int64} (hd : decode M.2.1 pc = .ok (.ldiv, 1)) (hne : ¬ y = 0) (k : Gd Γ l d M (pc + 1) L (.long (ldv x y) :: st) h bc bs Q) : Gd Γ l d M pc L (.long y :: .long x :: st) h bc bs Q := g_ldiv hd hne k
theorem q_lrem {x y : Int64} (hd : decode M.2.1 pc = .ok (.lrem, 1)) (hne : ¬ y = 0) (k : Gd Γ l d M (pc + 1) L (.long (lrm x y) :: st) h bc bs Q) : Gd Γ l d M pc L (.long y :: .long x :: st) h bc bs Q := g_lrem hd hne k
theorem q_tabIn {dflt lo hi : Int} {offs : Array Int} {len : Nat} {x v : Int32} {off : Int} (tgt : Nat) (hd : decode M.2.1 pc = .ok (.tableswitch dflt lo hi offs, len)) (hx : x = v) (h1 : ¬ v.toInt < lo) (h2 : ¬ hi < v.toInt) (ho : offs[(v.toInt - lo).toNat]? = some off) (ht : (pc : Int) + off = (tgt : Int)) (k : Gd Γ l d M tgt L st h bc bs Q) : Gd Γ l d M pc L (.int x :: st) h bc bs Q := by
  subst hx
  exact g_tabIn tgt hd h1 h2 ho ht k
theorem q_lookup {dflt : Int} {ps : Array (Int × Int)} {len : Nat} {x v : Int32} {off : Int} (tgt : Nat) (hd : decode M.2.1 pc = .ok (.lookupswitch dflt ps, len)) (hx : x = v) (hp : (ps.toList.zip (ps.toList.drop 1)).all (fun (a, next) => a.1 < next.1) = true) (ho : Op.lookupswitch.offset ps.toList dflt v.toInt = off) (ht : (pc : Int) + off = (tgt : Int)) (k : Gd Γ l d M tgt L st h bc bs Q) : Gd Γ l d M pc L (.int x :: st) h bc bs Q := by
  subst hx
  exact g_lookup tgt hd hp ho ht k
theorem q_istore {i : Nat} {x : Int32} (L' : List Value) (hd : decode M.2.1 pc = .ok (.istore i, 2)) (hn : i < M.2.2.1) (hL : xst L (i) (.int x) = L') (k : Gd Γ l d M (pc + 2) L' st h bc bs Q) : Gd Γ l d M pc L (.int x :: st) h bc bs Q := by
  subst hL
  exact g_istore hd hn k
theorem q_istoren {i : Fin 4} {x : Int32} (L' : List Value) (hd : decode M.2.1 pc = .ok (.istore_n i, 1)) (hn : i.val < M.2.2.1) (hL : xst L (i.val) (.int x) = L') (k : Gd Γ l d M (pc + 1) L' st h bc bs Q) : Gd Γ l d M pc L (.int x :: st) h bc bs Q := by
  subst hL
  exact g_istoren hd hn k
theorem q_lstore {i : Nat} {x : Int64} (L' : List Value) (hd : decode M.2.1 pc = .ok (.lstore i, 2)) (hn : i + 1 < M.2.2.1) (hL : xst2 L (i) (.long x) = L') (k : Gd Γ l d M (pc + 2) L' st h bc bs Q) : Gd Γ l d M pc L (.long x :: st) h bc bs Q := by
  subst hL
  exact g_lstore hd hn k
theorem q_lstoren {i : Fin 4} {x : Int64} (L' : List Value) (hd : decode M.2.1 pc = .ok (.lstore_n i, 1)) (hn : i.val + 1 < M.2.2.1) (hL : xst2 L (i.val) (.long x) = L') (k : Gd Γ l d M (pc + 1) L' st h bc bs Q) : Gd Γ l d M pc L (.long x :: st) h bc bs Q := by
  subst hL
  exact g_lstoren hd hn k
theorem q_astore {i x : Nat} (L' : List Value) (hd : decode M.2.1 pc = .ok (.astore i, 2)) (hn : i < M.2.2.1) (hL : xst L (i) (.ref x) = L') (k : Gd Γ l d M (pc + 2) L' st h bc bs Q) : Gd Γ l d M pc L (.ref x :: st) h bc bs Q := by
  subst hL
  exact g_astore hd hn k
theorem q_astoren {i : Fin 4} {x : Nat} (L' : List Value) (hd : decode M.2.1 pc = .ok (.astore_n i, 1)) (hn : i.val < M.2.2.1) (hL : xst L (i.val) (.ref x) = L') (k : Gd Γ l d M (pc + 1) L' st h bc bs Q) : Gd Γ l d M pc L (.ref x :: st) h bc bs Q := by
  subst hL
  exact g_astoren hd hn k
theorem q_astoreN {i : Nat} (L' : List Value) (hd : decode M.2.1 pc = .ok (.astore i, 2)) (hn : i < M.2.2.1) (hL : xst L (i) (.null) = L') (k : Gd Γ l d M (pc + 2) L' st h bc bs Q) : Gd Γ l d M pc L (.null :: st) h bc bs Q := by
  subst hL
  exact g_astoreN hd hn k
theorem q_astorenN {i : Fin 4} (L' : List Value) (hd : decode M.2.1 pc = .ok (.astore_n i, 1)) (hn : i.val < M.2.2.1) (hL : xst L (i.val) (.null) = L') (k : Gd Γ l d M (pc + 1) L' st h bc bs Q) : Gd Γ l d M pc L (.null :: st) h bc bs Q := by
  subst hL
  exact g_astorenN hd hn k
theorem q_aloadQ {i : Nat} {q : Option Nat} (hd : decode M.2.1 pc = .ok (.aload i, 2)) (hv : L[i]? = some (va_rf q)) (k : Gd Γ l d M (pc + 2) L (va_rf q :: st) h bc bs Q) : Gd Γ l d M pc L st h bc bs Q := by
  cases q with
  | none => exact g_aloadN hd hv k
  | some a => exact g_aload hd hv k
theorem q_aloadnQ {i : Fin 4} {q : Option Nat} (hd : decode M.2.1 pc = .ok (.aload_n i, 1)) (hv : L[i.val]? = some (va_rf q)) (k : Gd Γ l d M (pc + 1) L (va_rf q :: st) h bc bs Q) : Gd Γ l d M pc L st h bc bs Q := by
  cases q with
  | none => exact g_aloadnN hd hv k
  | some a => exact g_aloadn hd hv k
theorem q_astoreQ {i : Nat} {q : Option Nat} (L' : List Value) (hd : decode M.2.1 pc = .ok (.astore i, 2)) (hn : i < M.2.2.1) (hL : xst L i (va_rf q) = L') (k : Gd Γ l d M (pc + 2) L' st h bc bs Q) : Gd Γ l d M pc L (va_rf q :: st) h bc bs Q := by
  subst hL
  cases q with
  | none => exact g_astoreN hd hn k
  | some a => exact g_astore hd hn k
theorem q_astorenQ {i : Fin 4} {q : Option Nat} (L' : List Value) (hd : decode M.2.1 pc = .ok (.astore_n i, 1)) (hn : i.val < M.2.2.1) (hL : xst L i.val (va_rf q) = L') (k : Gd Γ l d M (pc + 1) L' st h bc bs Q) : Gd Γ l d M pc L (va_rf q :: st) h bc bs Q := by
  subst hL
  cases q with
  | none => exact g_astorenN hd hn k
  | some a => exact g_astoren hd hn k
theorem q_aretQ {q : Option Nat} {rt : FieldType} (hd : decode M.2.1 pc = .ok (.areturn, 1)) (hr : M.2.2.2 = some rt) (hrt : (∃ n, rt = .object n) ∨ ∃ t, rt = .array t) (hq : Q (some (va_rf q)) h) : Gd Γ l d M pc L [va_rf q] h bc bs Q := by
  cases q with
  | none => exact g_aretN hd hr hrt hq
  | some a => exact g_aret hd hr hrt hq
theorem x_body {mc ms : Nat} {av : List Value} (hlen : (xent0 av).length ≤ M.2.2.1) (k : Gd Γ l d M 0 (xent av M.2.2.1) [] h mc ms Q) {p : Program} {e : Env} {s : State} {m : MethodId} {args : Array Value} {below : List Frame} {meth : Method} {c : Code} {s₁ : State} (B : BodyLoose p l M.1 (headSpec (xws M) (xrm d mc ms)) M.2.1 M.2.2.1 M.2.2.2 e s m args below meth c s₁) (hml : c.maxLocals = M.2.2.1) (hv : xPc Γ av h args s) : W p l e (headSpec (xws M) (xrm d mc ms)).room s m args below meth c s.heap [] 0 0 (MQ below (xQc Γ Q) args s mc ms (xA Γ)) (entryFrame m args M.2.2.1) := by
  obtain ⟨rfl, hWd, hK, hKon⟩ := hv
  have hts := atoms_spec (ws := xws M) B.pre
  have hent := lv_entry (av.map (xv Γ)) (n := M.2.2.1) (by rw [xent0_len]; exact hlen)
  have hsz : gb Γ ≤ s.heap.size := by rw [hWd.2.1]; omega
  rw [lg_entry_eq]
  generalize (lg_sl (av.map (xv Γ)) ++ List.replicate (M.2.2.1 - (lg_sl (av.map (xv Γ))).length) Slot.unset).toArray = ls at hent ⊢
  refine k p e _ s m _ below meth c s.heap [] 0 0 ls _ ⟨B.exec, B.bytes, hml, findClass_of_methodNamed B.named, fun w hw => hts w (List.mem_cons_of_mem _ hw), fun hn => (name_of_methodNamed B.named B.method).1.trans hn, Nat.le_refl _, Nat.le_refl _, hK, hKon, hsz⟩ hWd va_S.rf (by show 0 + mc ≤ mc; omega) (by show 0 + ms ≤ ms; omega) ⟨hent.1, hent.2.1, fun i v hi hv => ?_⟩ ?_
  · have hi0 : (xent0 av)[i]? = some v := by
      unfold xent at hi
      by_cases hlt : i < (xent0 av).length
      · rw [List.getElem?_append_left hlt] at hi
        exact hi
      · rw [List.getElem?_append_right (by omega)] at hi
        have hm := List.mem_of_getElem? hi
        exact absurd (List.eq_of_mem_replicate hm) hv
    have := xent0_args (Γ := Γ) av 0 i v hi0 hv
    rw [Nat.zero_add] at this
    exact hent.2.2 _ this
  · intro r h' H' locs' cells' slots' pc' ls' q hW' hS' hc' hs' hr
    refine W.widen (k := mc) (n := ms) hc' hs' ?_
    have hq : ∀ t : State, t.heap = H' → s.WarmedH t.vm → xQc Γ Q ((av.map (xv Γ)).toArray) s (.returned (r.map (xv Γ))) t := fun t ht _ => ⟨⟨r, h', rfl, q, by rw [ht]; exact hW'⟩, hS'.F ht⟩
    have hlocks := B.notSynchronized
    match r, hr, hq with
    | none, hr, hq => exact W.vret B.exec B.bytes (B.returns.trans hr.2) hq hS'.2.2 hr.1 hlocks
    | some (.int v), hr, hq =>
      obtain ⟨hd, ty, h1, h2⟩ := hr
      exact W.zret B.exec B.bytes (B.returns.trans h1) h2 hq hS'.2.2 hd hlocks
    | some (.long v), hr, hq => exact W.lret B.exec B.bytes (B.returns.trans hr.2) hq hS'.2.2 hr.1 hlocks
    | some (.ref v), hr, hq =>
      obtain ⟨hd, rt, h1, h2⟩ := hr
      exact W.aret B.exec B.bytes (B.returns.trans h1) h2 (Or.inr ⟨_, rfl⟩) hq hS'.2.2 hd hlocks
    | some .null, hr, hq =>
      obtain ⟨hd, rt, h1, h2⟩ := hr
      exact W.aret B.exec B.bytes (B.returns.trans h1) h2 (Or.inl rfl) hq hS'.2.2 hd hlocks
    | some (.float v), hr, hq => exact hr.elim
    | some (.double v), hr, hq => exact hr.elim
    | some (.retAddr v), hr, hq => exact hr.elim
theorem Gm.ofF {mc ms : Nat} {av : List Value} (hy : plainFor M.1 = true) (hlen : (xent0 av).length ≤ M.2.2.1) (k : Gd Γ l d M 0 (xent av M.2.2.1) [] h mc ms Q) : Gm Γ l d mc ms M av h Q := by
  unfold Gm Met
  refine MetFree.of_bodyRF (code := M.2.1) (maxLocals := M.2.2.1) (ret := M.2.2.2) hy ?_ ?_
  · intro args s m h hn
    obtain ⟨meth, c, h1, h2, h3, h4, h5, h6, -, -⟩ := Cond.code_spec hn (atoms_spec (ws := xws M) h _ List.mem_cons_self)
    exact ⟨meth, c, h1, h2, h3, h4, h5, h6⟩
  · intro p e s m args below meth c s₁ B hml hP _ hst
    have hh0 : s₁.heap = s.heap := by rw [B.state]; rfl
    obtain ⟨t, a1, o, b1, b2, b3⟩ := x_body hlen k B hml hP s₁ hh0 (Stand.of_body B)
    exact ⟨t, o, Steps.trans hst a1, b1, b2, ⟨b3.1, b3.2⟩⟩
end XHe
theorem bi_m30 : (Int8.ofInt (-30)).toInt32 = -30 := by decide +kernel
theorem bi_m11 : (Int8.ofInt (-11)).toInt32 = -11 := by decide +kernel
theorem bi_m10 : (Int8.ofInt (-10)).toInt32 = -10 := by decide +kernel
theorem bi_m6 : (Int8.ofInt (-6)).toInt32 = -6 := by decide +kernel
theorem bi_m5 : (Int8.ofInt (-5)).toInt32 = -5 := by decide +kernel
theorem bi_m4 : (Int8.ofInt (-4)).toInt32 = -4 := by decide +kernel
theorem bi_m3 : (Int8.ofInt (-3)).toInt32 = -3 := by decide +kernel
theorem bi_m2 : (Int8.ofInt (-2)).toInt32 = -2 := by decide +kernel
theorem bi_6 : (Int8.ofInt (6)).toInt32 = 6 := by decide +kernel
theorem bi_7 : (Int8.ofInt (7)).toInt32 = 7 := by decide +kernel
theorem bi_8 : (Int8.ofInt (8)).toInt32 = 8 := by decide +kernel
theorem bi_9 : (Int8.ofInt (9)).toInt32 = 9 := by decide +kernel
theorem bi_10 : (Int8.ofInt (10)).toInt32 = 10 := by decide +kernel
theorem bi_11 : (Int8.ofInt (11)).toInt32 = 11 := by decide +kernel
theorem bi_12 : (Int8.ofInt (12)).toInt32 = 12 := by decide +kernel
theorem bi_13 : (Int8.ofInt (13)).toInt32 = 13 := by decide +kernel
theorem bi_14 : (Int8.ofInt (14)).toInt32 = 14 := by decide +kernel
theorem bi_15 : (Int8.ofInt (15)).toInt32 = 15 := by decide +kernel
theorem bi_16 : (Int8.ofInt (16)).toInt32 = 16 := by decide +kernel
theorem bi_17 : (Int8.ofInt (17)).toInt32 = 17 := by decide +kernel
theorem bi_18 : (Int8.ofInt (18)).toInt32 = 18 := by decide +kernel
theorem bi_20 : (Int8.ofInt (20)).toInt32 = 20 := by decide +kernel
theorem bi_22 : (Int8.ofInt (22)).toInt32 = 22 := by decide +kernel
theorem bi_23 : (Int8.ofInt (23)).toInt32 = 23 := by decide +kernel
theorem bi_24 : (Int8.ofInt (24)).toInt32 = 24 := by decide +kernel
theorem bi_25 : (Int8.ofInt (25)).toInt32 = 25 := by decide +kernel
theorem bi_30 : (Int8.ofInt (30)).toInt32 = 30 := by decide +kernel
theorem bi_31 : (Int8.ofInt (31)).toInt32 = 31 := by decide +kernel
theorem bi_32 : (Int8.ofInt (32)).toInt32 = 32 := by decide +kernel
theorem bi_33 : (Int8.ofInt (33)).toInt32 = 33 := by decide +kernel
theorem bi_34 : (Int8.ofInt (34)).toInt32 = 34 := by decide +kernel
theorem bi_35 : (Int8.ofInt (35)).toInt32 = 35 := by decide +kernel
theorem bi_36 : (Int8.ofInt (36)).toInt32 = 36 := by decide +kernel
theorem bi_37 : (Int8.ofInt (37)).toInt32 = 37 := by decide +kernel
theorem bi_38 : (Int8.ofInt (38)).toInt32 = 38 := by decide +kernel
theorem bi_39 : (Int8.ofInt (39)).toInt32 = 39 := by decide +kernel
theorem bi_40 : (Int8.ofInt (40)).toInt32 = 40 := by decide +kernel
theorem bi_41 : (Int8.ofInt (41)).toInt32 = 41 := by decide +kernel
theorem bi_48 : (Int8.ofInt (48)).toInt32 = 48 := by decide +kernel
theorem bi_57 : (Int8.ofInt (57)).toInt32 = 57 := by decide +kernel
theorem bi_60 : (Int8.ofInt (60)).toInt32 = 60 := by decide +kernel
theorem bi_63 : (Int8.ofInt (63)).toInt32 = 63 := by decide +kernel
theorem bi_71 : (Int8.ofInt (71)).toInt32 = 71 := by decide +kernel
theorem bi_72 : (Int8.ofInt (72)).toInt32 = 72 := by decide +kernel
theorem bi_77 : (Int8.ofInt (77)).toInt32 = 77 := by decide +kernel
theorem bi_83 : (Int8.ofInt (83)).toInt32 = 83 := by decide +kernel
theorem bi_97 : (Int8.ofInt (97)).toInt32 = 97 := by decide +kernel
theorem bi_99 : (Int8.ofInt (99)).toInt32 = 99 := by decide +kernel
theorem bi_100 : (Int8.ofInt (100)).toInt32 = 100 := by decide +kernel
theorem bi_107 : (Int8.ofInt (107)).toInt32 = 107 := by decide +kernel
theorem bi_108 : (Int8.ofInt (108)).toInt32 = 108 := by decide +kernel
theorem bi_109 : (Int8.ofInt (109)).toInt32 = 109 := by decide +kernel
theorem bi_115 : (Int8.ofInt (115)).toInt32 = 115 := by decide +kernel
theorem bi_121 : (Int8.ofInt (121)).toInt32 = 121 := by decide +kernel
theorem bi_122 : (Int8.ofInt (122)).toInt32 = 122 := by decide +kernel
theorem bi_127 : (Int8.ofInt (127)).toInt32 = 127 := by decide +kernel
theorem ic_m8 : Int32.ofInt (-8) = -8 := by decide +kernel
theorem ic_m1 : Int32.ofInt (-1) = -1 := by decide +kernel
theorem ic_0 : Int32.ofInt (0) = 0 := by decide +kernel
theorem ic_1 : Int32.ofInt (1) = 1 := by decide +kernel
theorem ic_2 : Int32.ofInt (2) = 2 := by decide +kernel
theorem ic_3 : Int32.ofInt (3) = 3 := by decide +kernel
theorem ic_4 : Int32.ofInt (4) = 4 := by decide +kernel
theorem ic_5 : Int32.ofInt (5) = 5 := by decide +kernel
theorem ic_8 : Int32.ofInt (8) = 8 := by decide +kernel
theorem ic_16 : Int32.ofInt (16) = 16 := by decide +kernel
theorem si_128 : (Int16.ofInt (128)).toInt32 = 128 := by decide +kernel
theorem si_148 : (Int16.ofInt (148)).toInt32 = 148 := by decide +kernel
theorem si_180 : (Int16.ofInt (180)).toInt32 = 180 := by decide +kernel
theorem si_200 : (Int16.ofInt (200)).toInt32 = 200 := by decide +kernel
theorem si_255 : (Int16.ofInt (255)).toInt32 = 255 := by decide +kernel
theorem si_256 : (Int16.ofInt (256)).toInt32 = 256 := by decide +kernel
theorem si_328 : (Int16.ofInt (328)).toInt32 = 328 := by decide +kernel
theorem si_329 : (Int16.ofInt (329)).toInt32 = 329 := by decide +kernel
theorem si_900 : (Int16.ofInt (900)).toInt32 = 900 := by decide +kernel
theorem si_1000 : (Int16.ofInt (1000)).toInt32 = 1000 := by decide +kernel
theorem si_1023 : (Int16.ofInt (1023)).toInt32 = 1023 := by decide +kernel
theorem si_1229 : (Int16.ofInt (1229)).toInt32 = 1229 := by decide +kernel
theorem si_2000 : (Int16.ofInt (2000)).toInt32 = 2000 := by decide +kernel
theorem si_2001 : (Int16.ofInt (2001)).toInt32 = 2001 := by decide +kernel
theorem si_2002 : (Int16.ofInt (2002)).toInt32 = 2002 := by decide +kernel
theorem si_2003 : (Int16.ofInt (2003)).toInt32 = 2003 := by decide +kernel
theorem si_2004 : (Int16.ofInt (2004)).toInt32 = 2004 := by decide +kernel
theorem si_2005 : (Int16.ofInt (2005)).toInt32 = 2005 := by decide +kernel
theorem si_2006 : (Int16.ofInt (2006)).toInt32 = 2006 := by decide +kernel
theorem si_2007 : (Int16.ofInt (2007)).toInt32 = 2007 := by decide +kernel
theorem si_2008 : (Int16.ofInt (2008)).toInt32 = 2008 := by decide +kernel
theorem si_3000 : (Int16.ofInt (3000)).toInt32 = 3000 := by decide +kernel
theorem si_3001 : (Int16.ofInt (3001)).toInt32 = 3001 := by decide +kernel
theorem si_3002 : (Int16.ofInt (3002)).toInt32 = 3002 := by decide +kernel
theorem si_3003 : (Int16.ofInt (3003)).toInt32 = 3003 := by decide +kernel
theorem si_3004 : (Int16.ofInt (3004)).toInt32 = 3004 := by decide +kernel
theorem si_3005 : (Int16.ofInt (3005)).toInt32 = 3005 := by decide +kernel
theorem si_3006 : (Int16.ofInt (3006)).toInt32 = 3006 := by decide +kernel
theorem si_3007 : (Int16.ofInt (3007)).toInt32 = 3007 := by decide +kernel
theorem si_3008 : (Int16.ofInt (3008)).toInt32 = 3008 := by decide +kernel
theorem si_11264 : (Int16.ofInt (11264)).toInt32 = 11264 := by decide +kernel
theorem si_12345 : (Int16.ofInt (12345)).toInt32 = 12345 := by decide +kernel
theorem pn_J0 : plainName RJ0 = true := by decide +kernel
theorem pn_J1 : plainName RJ1 = true := by decide +kernel
theorem pn_J11 : plainName RJ11 = true := by decide +kernel
theorem pn_J2 : plainName RJ2 = true := by decide +kernel
theorem pn_J3 : plainName RJ3 = true := by decide +kernel
theorem pn_J6 : plainName RJ6 = true := by decide +kernel
theorem pn_J7 : plainName RJ7 = true := by decide +kernel
theorem pn_X0 : plainName RX0 = true := by decide +kernel
theorem pn_X1 : plainName RX1 = true := by decide +kernel
theorem pn_X10 : plainName RX10 = true := by decide +kernel
theorem pn_X11 : plainName RX11 = true := by decide +kernel
theorem pn_X12 : plainName RX12 = true := by decide +kernel
theorem pn_X2 : plainName RX2 = true := by decide +kernel
theorem pn_X3 : plainName RX3 = true := by decide +kernel
theorem pn_X4 : plainName RX4 = true := by decide +kernel
theorem pn_X5 : plainName RX5 = true := by decide +kernel
theorem pn_X6 : plainName RX6 = true := by decide +kernel
theorem pn_X7 : plainName RX7 = true := by decide +kernel
theorem pn_X8 : plainName RX8 = true := by decide +kernel
theorem pn_X9 : plainName RX9 = true := by decide +kernel
