/-! ===== the layer: an abstract heap with small addresses, and a judgement over it ===== -/
abbrev xC : Type := (Nat × vp_A) ⊕ (Nat × List Value)
abbrev xH : Type := Nat × (Nat → xC)
abbrev xMeth : Type := MethodName × ByteArray × Nat × Option FieldType
/-- what is fixed: class numbers and slots; array classes; the constants' addresses; our first own address; the script -/
abbrev xG : Type := va_G × (Nat → ClassId) × (Nat → Nat) × Nat × (Nat × (Nat → Int32))
abbrev gD (Γ : xG) : va_G := Γ.1
abbrev gA (Γ : xG) : Nat → ClassId := Γ.2.1
abbrev gad (Γ : xG) : Nat → Nat := Γ.2.2.1
abbrev gb (Γ : xG) : Nat := Γ.2.2.2.1
abbrev gsc (Γ : xG) : Nat × (Nat → Int32) := Γ.2.2.2.2
def xtbl : List Cond := lw_tbl.filter goodWord
def xcl : List vw_C := [(RX1, TX1, 3), (RX2, TX2, 3), (RX3, TX3, 3), (RX4, TX4, 13), (RX5, TX5, 7), (RX6, TX6, 5), (RX7, TX7, 5), (RX8, TX8, 3), (RX9, TX9, 6), (RX10, TX10, 14), (RX11, TX11, 12), (RX12, TX12, 37)]
def xhole : Value := .retAddr 0
def xnil : xC := .inr (999, [])
/-- the String constants: class, pool entry, text, bytes -/
def xstr : List (String × Nat × String × List Nat) := [(RX4, 83, ";:+-*()[]=<>", [59, 58, 43, 45, 42, 40, 41, 91, 93, 61, 60, 62]), (RX4, 106, "scale", [115, 99, 97, 108, 101]), (RX4, 118, ";", [59]), (RX4, 123, "tune", [116, 117, 110, 101]), (RX4, 128, "place", [112, 108, 97, 99, 101]), (RX4, 133, "way", [119, 97, 121]), (RX4, 138, "person", [112, 101, 114, 115, 111, 110]), (RX4, 197, "at", [97, 116]), (RX4, 217, "blank", [98, 108, 97, 110, 107]), (RX4, 219, "ear", [101, 97, 114]), (RX4, 224, "found", [102, 111, 117, 110, 100]), (RX4, 143, "hears", [104, 101, 97, 114, 115]), (RX4, 228, ":", [58]), (RX4, 240, "not", [110, 111, 116]), (RX4, 242, "[", [91]), (RX4, 244, "]", [93]), (RX4, 270, "(", [40]), (RX4, 272, ")", [41]), (RX4, 280, "who", [119, 104, 111]), (RX4, 282, "note", [110, 111, 116, 101]), (RX4, 284, "from", [102, 114, 111, 109]), (RX4, 286, "to", [116, 111]), (RX4, 288, "step", [115, 116, 101, 112]), (RX4, 264, "*", [42]), (RX4, 266, "+", [43]), (RX4, 268, "-", [45]), (RX4, 252, "=", [61]), (RX4, 254, "<", [60]), (RX4, 256, ">", [62]), (RX4, 233, "or", [111, 114]), (RX4, 235, "and", [97, 110, 100]), (RX4, 168, "goes", [103, 111, 101, 115]), (RX12, 92, " scale tune place way person at blank ear found hears goes who note from to step and or not ", [32, 115, 99, 97, 108, 101, 32, 116, 117, 110, 101, 32, 112, 108, 97, 99, 101, 32, 119, 97, 121, 32, 112, 101, 114, 115, 111, 110, 32, 97, 116, 32, 98, 108, 97, 110, 107, 32, 101, 97, 114, 32, 102, 111, 117, 110, 100, 32, 104, 101, 97, 114, 115, 32, 103, 111, 101, 115, 32, 119, 104, 111, 32, 110, 111, 116, 101, 32, 102, 114, 111, 109, 32, 116, 111, 32, 115, 116, 101, 112, 32, 97, 110, 100, 32, 111, 114, 32, 110, 111, 116, 32]), (RX12, 130, ";:+-*()[]=<>", [59, 58, 43, 45, 42, 40, 41, 91, 93, 61, 60, 62])]
def xsl (i : Nat) : Nat := ((xstr.map (fun q => q.2.2.2.length)).getD i 0)
def xsb (i j : Nat) : Int32 := nI (((xstr.map (fun q => q.2.2.2)).getD i []).getD j 0)
/-- the constants' cells: a String and its bytes, two by two; the script -/
def xkc (sc : Nat × (Nat → Int32)) (k : Nat) : xC := if k < 68 then (if k % 2 = 0 then .inr (50, [.ref (k + 1), .int 0]) else .inl (3, xsl (k / 2), .inl (xsb (k / 2)))) else .inl (0, sc.1, .inl sc.2)
def xtys (Γ : xG) : List (ClassId × FieldType) := [(gA Γ 0, .int), (gA Γ 1, .long), (gA Γ 2, .char), (gA Γ 3, .byte), (gA Γ 4, .boolean), (gA Γ 5, .object RX6), (gA Γ 6, .object RX8), (gA Γ 7, .object RX10)]
def xf (Γ : xG) (k : Nat) : Nat := if k < 69 then gad Γ k else gb Γ + (k - 69)
def xv (Γ : xG) : Value → Value
  | .ref k => .ref (xf Γ k)
  | v => v
def xa (Γ : xG) (a : vp_A) : vp_A := match a with
  | (n, .inr (.inr (.inr (.inr f)))) => (n, .inr (.inr (.inr (.inr (fun j => (f j).map (xf Γ))))))
  | a => a
def xe (Γ : xG) : xC → va_E
  | .inl (t, a) => .inl (gA Γ t, xa Γ a)
  | .inr (c, fs) => .inr (c, fs.map (xv Γ))
def wl (Γ : xG) (h : xH) : va_W := (List.range (h.1 - 69)).map (fun j => (xf Γ (69 + j), xe Γ (h.2 (69 + j))))
def xWd (Γ : xG) (h : xH) (H : Heap) : Prop := 69 ≤ h.1 ∧ H.size = gb Γ + (h.1 - 69) ∧ va_P (gD Γ) xcl (wl Γ h) H ∧ (∀ k, h.1 ≤ k → h.2 k = xnil) ∧ ∀ k, k < 69 → h.2 k = xkc (gsc Γ) k
def xA (Γ : xG) : Nat → Prop := fun q => gb Γ ≤ q
def xnest : List Cond := [.methodLinkNest RX11 18 yX10_init "BlankNote", .methodLinkNest RX11 25 yX6_init "BlankNote", .methodLinkNest RX11 56 yX9_init "BlankNote", .methodLinkNest RX11 63 yX7_init "BlankNote", .methodLinkNest RX11 70 yX5_init "BlankNote", .methodLinkNest RX11 77 yX1_init "BlankNote", .methodLinkNest RX11 85 yX8_init "BlankNote", .methodLinkNest RX11 9 yX4_init "BlankNote", .methodLinkNest RX2 24 yX6_init "BlankNote", .methodLinkNest RX4 47 yX10_init "BlankNote", .methodLinkNest RX10 48 yX6_init "BlankNote"]
def xKs (Γ : xG) (i : Nat) (U : State) (H : Heap) : Prop := va_O "java/lang/String" (gad Γ (2 * i)) (xA Γ) U H ∧ va_OF "java/lang/String" "coder" "B" (.int 0) (gad Γ (2 * i)) (xA Γ) U H ∧ va_OF "java/lang/String" "value" "[B" (.ref (gad Γ (2 * i + 1))) (gad Γ (2 * i)) (xA Γ) U H ∧ va_T .byte (gad Γ (2 * i + 1)) (xsl i) (fun j => .int (xsb i j)) (xA Γ) U H
def xKr (Γ : xG) (i : Nat) (U : State) : Prop := ∀ q, xstr[i]? = some q → vk_R q.1 q.2.1 q.2.2.1 (gad Γ (2 * i)) U
/-- the constants, and the words that aren't good ones -/
def xKon (Γ : xG) (U : State) (H : Heap) : Prop :=
  (∀ i, i < 34 → xKs Γ i U H) ∧ (∀ i, i < 34 → xKr Γ i U) ∧ va_T .int (gad Γ 68) (gsc Γ).1 (fun j => .int ((gsc Γ).2 j)) (xA Γ) U H ∧ (va_Z "java/lang/String" "COMPACT_STRINGS" "Z" (.int 1) (xA Γ) U H ∧ va_Zq "jdk/internal/util/Preconditions" "SIOOBE_FORMATTER" "Ljava/util/function/BiFunction;" (xA Γ) U H) ∧ (∀ w ∈ xnest, va_Nw w U) ∧ va_AO RX6 U ∧ va_AO RX8 U ∧ va_AO RX10 U
theorem xnest_form {w : Cond} (h : w ∈ xnest) : ∃ a i x hh, w = .methodLinkNest a i x hh := by
  simp only [xnest, List.mem_cons, List.not_mem_nil, or_false] at h
  rcases h with rfl | rfl | rfl | rfl | rfl | rfl | rfl | rfl | rfl | rfl | rfl <;> exact ⟨_, _, _, _, rfl⟩
theorem xKon.kept {Γ : xG} {U : State} {H H1 : Heap} (h : xKon Γ U H) (hq : ∀ a : Nat, a < H.size → ¬ xA Γ a → H1[a]? = H[a]?) : xKon Γ U H1 := by
  obtain ⟨h1, h2, h3, h4, h5⟩ := h
  exact ⟨fun i hi => ⟨(h1 i hi).1.kept hq, (h1 i hi).2.1.kept hq, (h1 i hi).2.2.1.kept hq, (h1 i hi).2.2.2.kept hq⟩, h2, h3.kept hq, ⟨h4.1.kept hq, h4.2.kept hq⟩, h5⟩
theorem xKon.warm {Γ : xG} {s U : State} {H : Heap} (hW : s.WarmedH U.vm) (h : xKon Γ s H) : xKon Γ U H := by
  obtain ⟨h1, h2, h3, h4, h5, h6, h7, h8⟩ := h
  have hv := hW.alike
  exact ⟨fun i hi => ⟨va_O.moved hv (h1 i hi).1, va_OF.moved hv (h1 i hi).2.1, va_OF.moved hv (h1 i hi).2.2.1, va_T.moved hv (h1 i hi).2.2.2⟩, fun i hi q hq => vk_R.warm hW (h2 i hi q hq), va_T.moved hv h3, ⟨va_Z.moved hv h4.1, va_Zq.moved hv h4.2⟩,
    fun w hw => by
      obtain ⟨a, i, x, hh, rfl⟩ := xnest_form hw
      exact va_Nw.warmM hW (h5 _ hw),
    va_AO.moved hv h6, va_AO.moved hv h7, va_AO.moved hv h8⟩
theorem xKon.same {Γ : xG} {u U : State} {H : Heap} (hv : u.vm = U.vm) (h : xKon Γ u H) : xKon Γ U H := by
  obtain ⟨h1, h2, h3, h4, h5, h6, h7, h8⟩ := h
  have hA : u.vm.Alike U.vm := by rw [hv]; exact Vm.Alike.refl U.vm
  exact ⟨fun i hi => ⟨va_O.moved hA (h1 i hi).1, va_OF.moved hA (h1 i hi).2.1, va_OF.moved hA (h1 i hi).2.2.1, va_T.moved hA (h1 i hi).2.2.2⟩, fun i hi q hq => vk_R.same hv.symm (h2 i hi q hq), va_T.moved hA h3, ⟨va_Z.moved hA h4.1, va_Zq.moved hA h4.2⟩,
    fun w hw => by
      obtain ⟨a, i, x, hh, rfl⟩ := xnest_form hw
      exact va_Nw.same rfl hv (h5 _ hw),
    va_AO.moved hA h6, va_AO.moved hA h7, va_AO.moved hA h8⟩
theorem xf_own {Γ : xG} {k : Nat} (h : 69 ≤ k) : xf Γ k = gb Γ + (k - 69) := by unfold xf; rw [if_neg (by omega)]
theorem wl_len (Γ : xG) (h : xH) : (wl Γ h).length = h.1 - 69 := by simp [wl]
theorem wl_get {Γ : xG} {h : xH} {a : Nat} (h1 : 69 ≤ a) (h2 : a < h.1) : (wl Γ h)[a - 69]? = some (xf Γ a, xe Γ (h.2 a)) := by
  have e : 69 + (a - 69) = a := by omega
  simp only [wl, List.getElem?_map]
  rw [List.getElem?_range (by omega)]
  simp [e]
theorem wl_at {Γ : xG} {h : xH} {k : Nat} {q : Nat × va_E} (hk : (wl Γ h)[k]? = some q) : 69 + k < h.1 ∧ q = (xf Γ (69 + k), xe Γ (h.2 (69 + k))) := by
  have hl : k < (wl Γ h).length := (List.getElem?_eq_some_iff.mp hk).1
  rw [wl_len] at hl
  have e := wl_get (Γ := Γ) (h := h) (a := 69 + k) (by omega) (by omega)
  rw [show 69 + k - 69 = k by omega] at e
  exact ⟨by omega, Option.some.inj (hk.symm.trans e)⟩
theorem wl_D (Γ : xG) (h : xH) : va_D (xA Γ) (wl Γ h) := by
  refine ⟨fun i j p q hp hq e => ?_, fun k q hk => ?_⟩
  · obtain ⟨-, rfl⟩ := wl_at hp
    obtain ⟨-, rfl⟩ := wl_at hq
    dsimp only at e
    rw [xf_own (by omega), xf_own (by omega)] at e
    omega
  · obtain ⟨-, rfl⟩ := wl_at hk
    show gb Γ ≤ xf Γ (69 + k)
    rw [xf_own (by omega)]
    omega
theorem wl_set {Γ : xG} {h : xH} {a : Nat} {c : xC} (h1 : 69 ≤ a) : (wl Γ h).set (a - 69) (xf Γ a, xe Γ c) = wl Γ (h.1, va_up h.2 a c) := by
  apply List.ext_getElem?
  intro k
  by_cases hk : k < h.1 - 69
  · have e2 := wl_get (Γ := Γ) (h := (h.1, va_up h.2 a c)) (a := 69 + k) (by omega) (by show 69 + k < h.1; omega)
    rw [show 69 + k - 69 = k by omega] at e2
    by_cases hka : k = a - 69
    · subst hka
      rw [e2, List.getElem?_set_self (by rw [wl_len]; exact hk)]
      have : 69 + (a - 69) = a := by omega
      simp [this, va_up]
    · rw [List.getElem?_set_ne (Ne.symm hka)]
      have e1 := wl_get (Γ := Γ) (h := h) (a := 69 + k) (by omega) (by omega)
      rw [show 69 + k - 69 = k by omega] at e1
      rw [e1, e2]
      have : 69 + k ≠ a := by omega
      simp [va_up, this]
  · rw [List.getElem?_eq_none (by rw [List.length_set, wl_len]; omega), List.getElem?_eq_none (by rw [wl_len]; show h.1 - 69 ≤ k; omega)]
theorem wl_push {Γ : xG} {h : xH} {c : xC} (h1 : 69 ≤ h.1) : wl Γ h ++ [(gb Γ + (h.1 - 69), xe Γ c)] = wl Γ (h.1 + 1, va_up h.2 h.1 c) := by
  apply List.ext_getElem?
  intro k
  by_cases hk : k < h.1 - 69
  · have e1 := wl_get (Γ := Γ) (h := h) (a := 69 + k) (by omega) (by omega)
    have e2 := wl_get (Γ := Γ) (h := (h.1 + 1, va_up h.2 h.1 c)) (a := 69 + k) (by omega) (by show 69 + k < h.1 + 1; omega)
    rw [show 69 + k - 69 = k by omega] at e1 e2
    rw [List.getElem?_append_left (by rw [wl_len]; exact hk), e1, e2]
    have : 69 + k ≠ h.1 := by omega
    simp [va_up, this]
  · by_cases hk2 : k = h.1 - 69
    · subst hk2
      have e2 := wl_get (Γ := Γ) (h := (h.1 + 1, va_up h.2 h.1 c)) (a := h.1) (by omega) (by show h.1 < h.1 + 1; omega)
      rw [List.getElem?_append_right (by rw [wl_len]; omega), wl_len, Nat.sub_self, e2, xf_own h1]
      simp [va_up]
    · rw [List.getElem?_eq_none (by rw [List.length_append, wl_len]; simp; omega), List.getElem?_eq_none (by rw [wl_len]; show h.1 + 1 - 69 ≤ k; omega)]
theorem xkc_obj {sc : Nat × (Nat → Int32)} {k ci : Nat} {fs : List Value} (h : xkc sc k = .inr (ci, fs)) : ci = 50 := by
  unfold xkc at h
  split at h
  · split at h
    · cases h; rfl
    · cases h
  · cases h
/-- an object of a known class is our own -/
theorem xWd.own {Γ : xG} {h : xH} {H : Heap} {a ci : Nat} {fs : List Value} (hW : xWd Γ h H) (hc : h.2 a = .inr (ci, fs)) (hi : ci < 12) : 69 ≤ a ∧ a < h.1 := by
  obtain ⟨h1, -, -, h4, h5⟩ := hW
  refine ⟨?_, ?_⟩
  · rcases Nat.lt_or_ge a 69 with q | q
    · rw [h5 a q] at hc
      have := xkc_obj hc
      omega
    · exact q
  · rcases Nat.lt_or_ge a h.1 with q | q
    · exact q
    · rw [h4 a q] at hc
      unfold xnil at hc
      cases hc
      omega
theorem xWd.arr {Γ : xG} {h : xH} {H : Heap} {a t : Nat} {x : vp_A} (hW : xWd Γ h H) (hc : h.2 a = .inl (t, x)) : a < h.1 := by
  obtain ⟨h1, -, -, h4, h5⟩ := hW
  rcases Nat.lt_or_ge a h.1 with q | q
  · exact q
  · rw [h4 a q] at hc
    unfold xnil at hc
    cases hc
theorem xWd.at {Γ : xG} {h : xH} {H : Heap} {a : Nat} (hW : xWd Γ h H) (h1 : 69 ≤ a) (h2 : a < h.1) : (wl Γ h)[a - 69]? = some (xf Γ a, xe Γ (h.2 a)) := wl_get h1 h2
/-- a cell of ours is written -/
theorem xWd.set {Γ : xG} {h : xH} {H H1 : Heap} {a : Nat} {c : xC} (hW : xWd Γ h H) (h1 : 69 ≤ a) (h2 : a < h.1) (hz : H1.size = H.size) (hP : va_P (gD Γ) xcl ((wl Γ h).set (a - 69) (xf Γ a, xe Γ c)) H1) : xWd Γ (h.1, va_up h.2 a c) H1 := by
  obtain ⟨q1, q2, q3, q4, q5⟩ := hW
  rw [wl_set h1] at hP
  refine ⟨q1, hz.trans q2, hP, fun k hk => ?_, fun k hk => ?_⟩
  · have : k ≠ a := fun e => by have : h.1 ≤ k := hk; omega
    simp only [va_up, this, if_false]
    exact q4 k hk
  · have : k ≠ a := by omega
    simp only [va_up, this, if_false]
    exact q5 k hk
theorem xWd.push {Γ : xG} {h : xH} {H H1 : Heap} {c : xC} (hW : xWd Γ h H) (hz : H1.size = H.size + 1) (hk : ∀ q : Nat, q < H.size → H1[q]? = H[q]?) (hc : va_at (gD Γ) xcl (H.size, xe Γ c) H1) : xWd Γ (h.1 + 1, va_up h.2 h.1 c) H1 := by
  obtain ⟨q1, q2, q3, q4, q5⟩ := hW
  refine ⟨by show 69 ≤ h.1 + 1; omega, by show H1.size = gb Γ + (h.1 + 1 - 69); omega, ?_, fun k hk => ?_, fun k hk => ?_⟩
  · rw [← wl_push q1]
    refine (q3.kept (fun k q hq => hk q.1 (q3 k q hq).lt)).app (fun k q hq => ?_)
    have hz : k < 1 := (List.getElem?_eq_some_iff.mp hq).1
    rw [show k = 0 by omega] at hq
    cases hq
    rw [← q2]
    exact hc
  · have h2 : h.1 + 1 ≤ k := hk
    have : k ≠ h.1 := by omega
    simp only [va_up, this, if_false]
    exact q4 k (by omega)
  · have : k ≠ h.1 := by omega
    simp only [va_up, this, if_false]
    exact q5 k hk
