/-! ===== new cells, as skeletons ===== -/
def gob (g : Sk) (c : Nat) : Sk := (g.1, gn g + 1, up1 (gS g) (gn g) c, gN g, up1 (gR g) (gn g) (fun _ => none), gQ g)
def tob (g : Sk) (t : Tb) : Tb := (up1 (tI t) (gn g) (fun _ => 0), tA t, tJ t)
def gar (g : Sk) (c m : Nat) : Sk := (g.1, gn g + 1, up1 (gS g) (gn g) c, up1 (gN g) (gn g) m, gR g, gQ g)
def tar (g : Sk) (t : Tb) : Tb := (tI t, up1 (tA t) (gn g) (fun _ => 0), tJ t)
def gsr (g : Sk) (a k : Nat) (x : Option Nat) : Sk := (g.1, gn g, gS g, gN g, up2 (gR g) a k x, gQ g)
section XMk
variable {g g' g'' : Sk} {t t' t'' : Tb} {v w m k c ci a : Nat} {x : Option Nat}
theorem m_nO {fs : List Value} (hc : ci < 12) (ho : oc ci c) (hf : fs = dfl ci) (hn : 69 ≤ gn g) : nO (Em g t) ci fs = Em (gob g c) (tob g t) := E_nO c hc ho hf hn
theorem m_nW (ho : ic c) (hn : 69 ≤ gn g) : nW (Em g t) 0 m = Em (gar g c m) (tar g t) := E_nW0 c ho hn
theorem m_wQ (ha : 69 ≤ a) (hc : ci < 12) (hk : (lay ci)[k]? = some 1) (hs : oc ci (gS g a)) : wQ (Em g t) a ci k x = some (Em (gsr g a k x) t) := E_wQ ha hc hk hs
theorem m_1 : (Em g t).1 = gn g := rfl
theorem gob_n : gn (gob g c) = gn g + 1 := rfl
theorem gar_n : gn (gar g c m) = gn g + 1 := rfl
theorem gsr_n : gn (gsr g a k x) = gn g := rfl
theorem gob_S {b : Nat} (h : b ≠ gn g) : gS (gob g c) b = gS g b := up1_n h
theorem gob_Ss : gS (gob g c) (gn g) = c := up1_s
theorem gar_S {b : Nat} (h : b ≠ gn g) : gS (gar g c m) b = gS g b := up1_n h
theorem gar_Ss : gS (gar g c m) (gn g) = c := up1_s
theorem gar_N {b : Nat} (h : b ≠ gn g) : gN (gar g c m) b = gN g b := up1_n h
theorem gar_Ns : gN (gar g c m) (gn g) = m := up1_s
theorem gob_R {b j : Nat} (h : b ≠ gn g) : gR (gob g c) b j = gR g b j := congrFun (up1_n h) j
theorem gsr_Rs : gR (gsr g a k x) a k = x := up2_s
theorem gsr_Ra {b j : Nat} (h : b ≠ a) : gR (gsr g a k x) b j = gR g b j := up2_a h
theorem gsr_Rk {b j : Nat} (h : j ≠ k) : gR (gsr g a k x) b j = gR g b j := up2_k h
theorem tob_I {b j : Nat} (h : b ≠ gn g) : tI (tob g t) b j = tI t b j := congrFun (up1_n h) j
theorem tar_A {b : Nat} (h : b ≠ gn g) : tA (tar g t) b = tA t b := up1_n h
theorem tar_As : tA (tar g t) (gn g) = fun _ => 0 := up1_s
/-- the store grows, a draft's laws apart -/
def Gv (v : Nat) (g g' : Sk) : Prop := g'.1 = g.1 ∧ gn g ≤ gn g' ∧ (∀ b, b < gn g → gS g' b = gS g b ∧ gN g' b = gN g b) ∧ (∀ b k, b < gn g → ¬ (b = v ∧ (k = 12 ∨ k = 13)) → gR g' b k = gR g b k) ∧ (∀ b, b < gn g → gQ g' b = gQ g b)
theorem Gv_r : Gv v g g := ⟨rfl, Nat.le_refl _, fun _ _ => ⟨rfl, rfl⟩, fun _ _ _ _ => rfl, fun _ _ => rfl⟩
theorem Gv_t (h : Gv v g g') (h2 : Gv v g' g'') : Gv v g g'' := by
  have hl := h.2.1
  exact ⟨h2.1.trans h.1, Nat.le_trans h.2.1 h2.2.1, fun b hb => ⟨(h2.2.2.1 b (by omega)).1.trans (h.2.2.1 b hb).1, (h2.2.2.1 b (by omega)).2.trans (h.2.2.1 b hb).2⟩, fun b k hb c1 => (h2.2.2.2.1 b k (by omega) c1).trans (h.2.2.2.1 b k hb c1), fun b hb => (h2.2.2.2.2 b (by omega)).trans (h.2.2.2.2 b hb)⟩
theorem Gv_ob : Gv v g (gob g c) := ⟨rfl, Nat.le_succ _, fun b hb => ⟨gob_S (by omega), rfl⟩, fun b k hb _ => gob_R (by omega), fun _ _ => rfl⟩
theorem Gv_ar : Gv v g (gar g c m) := ⟨rfl, Nat.le_succ _, fun b hb => ⟨gar_S (by omega), gar_N (by omega)⟩, fun _ _ _ _ => rfl, fun _ _ => rfl⟩
theorem Gv_sv (h : k = 12 ∨ k = 13) : Gv v g (gsr g v k x) := ⟨rfl, Nat.le_refl _, fun _ _ => ⟨rfl, rfl⟩, fun b j hb hn => by
  by_cases e : b = v
  · exact gsr_Rk (fun e2 => hn ⟨e, by omega⟩)
  · exact gsr_Ra e, fun _ _ => rfl⟩
theorem Gv_so (G : Gv v g g') (h : gn g ≤ a) : Gv v g (gsr g' a k x) := ⟨G.1, G.2.1, G.2.2.1, fun b j hb hn => (gsr_Ra (by omega)).trans (G.2.2.2.1 b j hb hn), G.2.2.2.2⟩
theorem Fx_v (X : Fx g) (hv : 205 ≤ v) (G : Gv v g g') : Fx g' := by
  obtain ⟨x1, x2, x3, x4, x5, x6, x7⟩ := X
  obtain ⟨h1, h2, h3, h4, h5⟩ := G
  refine ⟨fun a l h => by rw [(h3 a (by omega)).1, (h3 a (by omega)).2]; exact x1 a l h, fun a k l h r => ?_, fun i hi => by rw [h5 104 (by omega)]; exact x3 i hi, fun i hi => by rw [h5 145 (by omega)]; exact x4 i hi, fun i hi => by rw [h5 147 (by omega)]; exact x5 i hi, by omega, ?_⟩
  · rw [h4 a k (by omega) (by omega)]
    exact x2 a k l h r
  · rw [h4 157 4 (by omega) (by omega)]
    rcases x7 with x7 | ⟨m, m1, m2, m3, m4, m5⟩
    · exact Or.inl x7
    · exact Or.inr ⟨m, m1, m2, by omega, by rw [(h3 m m3).1]; exact m4, by rw [(h3 m m3).2]; exact m5⟩
end XMk
