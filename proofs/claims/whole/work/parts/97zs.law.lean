/-! ===== a law is made ===== -/
def gX3 (g : Sk) (w x : Nat) : Sk := gsr (gsr (gar (gsr (gar g 30 5) w 1 (some (gn g))) 30 24) w 2 (some (gn g + 1))) w 0 (some x)
def tX3 (g : Sk) (t : Tb) : Tb := tar (gsr (gar g 30 5) 0 0 none) (tar g t)
def gLw (g : Sk) (cl : Nat) : Sk := gX3 (gar (gob g 63) 32 cl) (gn g) (gn g + 1)
def tLw (g : Sk) (t : Tb) (cl : Nat) : Tb := tX3 (gar (gob g 63) 32 cl) (wr (tar (gob g 63) (tob g t)) (gn g + 1) (va_cpy (tA t 72) (fun _ => 0) 0 0 cl))
def mkl (v f : Nat) (h : xH) (R : xH → Option (Unit × xH × Nat × Nat)) : Option (Unit × xH × Nat × Nat) := ((some (nO h 2 [.null, .null, .null])).bind fun h136 => (fR h136 70 3 2).bind fun v141 => (fI h136 70 3 3).bind fun v145 => (F_J7_copyOf_59c91 v141 v145 h136).bind fun z148 => ((F_X3_init (h.1) z148.1 z148.2.1).bind fun z151 => ((wQ z151.2.1 v 9 f ((some h.1))).bind fun h154 => R h154).map (ac _ z151.2.2.1 z151.2.2.2)).map (ac _ z148.2.2.1 z148.2.2.2)).map (ac _ 1 3)
section XLw
variable {g g' : Sk} {t t' : Tb} {v w x cl k f : Nat}
theorem k_X3 (hg : 69 ≤ gn g) (hw : 69 ≤ w) (hwn : w < gn g) (hS : oc 2 (gS g w)) : F_X3_init w x (Em g t) = some ((), Em (gX3 g w x) (tX3 g t), 2, 29) := by
  have s1 : oc 2 (gS (gar g 30 5) w) := by rw [gar_S (by omega)]; exact hS
  have s2 : oc 2 (gS (gar (gsr (gar g 30 5) w 1 (some (gn g))) 30 24) w) := by rw [gar_S (by rw [gsr_n, gar_n]; omega)]; exact s1
  unfold F_X3_init
  rw [e_if (k := 5) (m := 5) rfl (by decide), e_cl (k := 5) (m := 5) rfl (by decide), Option.bind_some, m_nW (c := 30) (Or.inr (by decide)) hg, m_1, m_wQ hw (by decide) rfl s1, Option.bind_some, e_if (k := 24) (m := 24) rfl (by decide), e_cl (k := 24) (m := 24) rfl (by decide), Option.bind_some, m_nW (c := 30) (Or.inr (by decide)) (by rw [gsr_n, gar_n]; omega), m_1, m_wQ hw (by decide) rfl s2, Option.bind_some, m_wQ hw (by decide) rfl (show oc 2 (gS (gsr (gar (gsr (gar g 30 5) w 1 (some (gn g))) 30 24) w 2 (some (gn (gsr (gar g 30 5) w 1 (some (gn g)))))) w) from s2), Option.bind_some, Option.map_some, Option.map_some]
  rfl
theorem k_cpy72 (X : Fx g) (hcl : cl < 900) : F_J7_copyOf_59c91 72 (nI cl) (Em g t) = some (gn g, Em (gar g 32 cl) (wr (tar g t) (gn g) (va_cpy (tA t 72) (fun _ => 0) 0 0 cl)), 1, cl) := by
  have h205 := x_205 X
  have S72 : gS g 72 = 20 := x_S X 20 rfl
  have N72 : gN g 72 = 900 := x_N X 900 rfl
  have a1 : al (Em g t) 72 = some (nI 900) := by
    have h := E_al (sc := g.1) (n := gn g) (S := gS g) (N := gN g) (I := tI t) (A := tA t) (J := tJ t) (R := gR g) (Q := gQ g) (a := 72) (by decide) (by rw [S72]; decide)
    rw [N72] at h
    exact h
  have a2 : al (Em (gar g 32 cl) (tar g t)) 72 = some (nI 900) := by
    have h := E_al (sc := g.1) (n := gn g + 1) (S := gS (gar g 32 cl)) (N := gN (gar g 32 cl)) (I := tI (tar g t)) (A := tA (tar g t)) (J := tJ (tar g t)) (R := gR (gar g 32 cl)) (Q := gQ (gar g 32 cl)) (a := 72) (by decide) (by rw [gar_S (by omega), S72]; decide)
    rw [gar_N (by omega), N72] at h
    exact h
  have mn : ∀ h : xH, F_J9_min_7cf53 (nI 900) (nI cl) h = some (nI cl, h) := fun h => by
    unfold F_J9_min_7cf53
    rw [if_pos (by rw [nI_ltI (by omega) (by decide)]; exact hcl)]
  have cp : cpI (Em (gar g 32 cl) (tar g t)) 72 0 (gn g) 0 (nI cl) = some (Em (gar g 32 cl) (wr (tar g t) (gn g) (va_cpy (tA t 72) (fun _ => 0) 0 0 cl))) := by
    have h := E_cpI (sc := g.1) (n := gn g + 1) (S := gS (gar g 32 cl)) (N := gN (gar g 32 cl)) (I := tI (tar g t)) (A := tA (tar g t)) (J := tJ (tar g t)) (R := gR (gar g 32 cl)) (Q := gQ (gar g 32 cl)) (a := 72) (b := gn g) (sp := 0) (dp := 0) (m := nI cl) (by decide) (by omega) (Or.inl (by rw [gar_S (by omega), S72])) (Or.inr (by rw [gar_Ss]; decide)) (by decide) (by decide) (show ¬ nI cl < nI 0 by rw [nI_ltI (by omega) (by decide)]; omega) (by rw [nI_clamp (by omega), gar_N (by omega), N72]; show 0 + cl ≤ 900; omega) (by rw [nI_clamp (by omega), gar_Ns]; show 0 + cl ≤ cl; omega)
    rw [nI_clamp (by omega), tar_A (by omega), tar_As] at h
    exact h
  unfold F_J7_copyOf_59c91
  rw [a1, Option.bind_some, if_pos (show ¬ nI cl = nI 900 by rw [nI_eq (by omega) (by decide)]; omega), e_if (k := nI cl) (m := cl) rfl (by omega), e_cl (k := nI cl) (m := cl) rfl (by omega), Option.bind_some, m_nW (c := 32) (Or.inr (by decide)) (by omega), a2, Option.bind_some, mn, Option.bind_some, m_1, cp, Option.bind_some, Option.map_some]
  unfold ac
  rw [Nat.zero_add, Nat.zero_add]
theorem k_mkl (X : Fx g) (hv : v < gn g) (h69 : 69 ≤ v) (hS : oc 9 (gS g v)) (hf : (lay 9)[f]? = some 1) (hc : tI t 70 3 = nI cl) (hcl : cl < 900) {R : xH → Option (Unit × xH × Nat × Nat)} {h' : xH} (eR : R (Em (gsr (gLw g cl) v f (some (gn g))) (tLw g t cl)) = some ((), h', 0, 0)) : mkl v f (Em g t) R = some ((), h', 4, cl + 32) := by
  have h205 := x_205 X
  have X1 : Fx (gob g 63) := Fx_v X (v := 205) (by omega) Gv_ob
  have e3 : fI (Em (gob g 63) (tob g t)) 70 3 3 = some (nI cl) := by
    rw [x_i70_3 X1, tob_I (by omega), hc]
  have s4 : oc 2 (gS (gar (gob g 63) 32 cl) (gn g)) := by
    rw [gar_S (by rw [gob_n]; omega), gob_Ss]
    exact Or.inr rfl
  have s5 : oc 9 (gS (gLw g cl) v) := by
    have : gS (gLw g cl) v = gS g v := by
      show gS (gar (gsr (gar (gar (gob g 63) 32 cl) 30 5) (gn g) 1 (some (gn g + 1 + 1))) 30 24) v = gS g v
      rw [gar_S (by rw [gsr_n, gar_n, gar_n, gob_n]; omega)]
      show gS (gar (gar (gob g 63) 32 cl) 30 5) v = gS g v
      rw [gar_S (by rw [gar_n, gob_n]; omega), gar_S (by rw [gob_n]; omega), gob_S (by omega)]
    rw [this]
    exact hS
  have hO : nO (Em g t) 2 [.null, .null, .null] = Em (gob g 63) (tob g t) := m_nO (by decide) (Or.inr rfl) rfl (by omega)
  unfold mkl
  rw [Option.bind_some, hO, x_r70_2 X1, Option.bind_some, e3, Option.bind_some, k_cpy72 X1 hcl, Option.bind_some, m_1]
  show Option.map (ac _ 1 3) (Option.map (ac _ 1 cl) ((F_X3_init (gn g) (gn g + 1) (Em (gar (gob g 63) 32 cl) (wr (tar (gob g 63) (tob g t)) (gn g + 1) (va_cpy (tA t 72) (fun _ => 0) 0 0 cl)))).bind fun z151 => ((wQ z151.2.1 v 9 f ((some (gn g)))).bind fun h154 => R h154).map (ac _ z151.2.2.1 z151.2.2.2))) = _
  rw [k_X3 (by rw [gar_n, gob_n]; omega) (by omega) (by rw [gar_n, gob_n]; omega) s4, Option.bind_some]
  show Option.map (ac _ 1 3) (Option.map (ac _ 1 cl) (((wQ (Em (gLw g cl) (tLw g t cl)) v 9 f ((some (gn g)))).bind fun h154 => R h154).map (ac _ 2 29))) = _
  rw [m_wQ h69 (by decide) hf s5, Option.bind_some, eR, Option.map_some, Option.map_some, Option.map_some]
  unfold ac
  rw [show 0 + 2 + 1 + 1 = 4 by omega, show 0 + 29 + cl + 3 = cl + 32 by omega]
/-! what it holds -/
theorem gLw_n : gn (gLw g cl) = gn g + 4 := rfl
theorem tLw_I {b j : Nat} (h : b ≠ gn g) : tI (tLw g t cl) b j = tI t b j := tob_I h
theorem tLw_J : tJ (tLw g t cl) = tJ t := rfl
theorem tLw_A {b : Nat} (h : b < gn g) : tA (tLw g t cl) b = tA t b := by
  have e1 : tA (tLw g t cl) = up1 (up1 (up1 (up1 (tA t) (gn g + 1) (fun _ => 0)) (gn g + 1) (va_cpy (tA t 72) (fun _ => 0) 0 0 cl)) (gn g + 2) (fun _ => 0)) (gn g + 3) (fun _ => 0) := rfl
  rw [e1, up1_n (by omega), up1_n (by omega), up1_n (by omega), up1_n (by omega)]
theorem tLw_s (hk : k < cl) : tA (tLw g t cl) (gn g + 1) k = tA t 72 k := by
  have e1 : tA (tLw g t cl) = up1 (up1 (up1 (up1 (tA t) (gn g + 1) (fun _ => 0)) (gn g + 1) (va_cpy (tA t 72) (fun _ => 0) 0 0 cl)) (gn g + 2) (fun _ => 0)) (gn g + 3) (fun _ => 0) := rfl
  rw [e1, up1_n (by omega), up1_n (by omega), up1_s]
  unfold va_cpy
  rw [if_pos ⟨by omega, by omega⟩]
  show tA t 72 (0 + (k - 0)) = _
  rw [Nat.sub_zero, Nat.zero_add]
theorem gLw_S : gS (gLw g cl) = up1 (up1 (up1 (up1 (gS g) (gn g) 63) (gn g + 1) 32) (gn g + 2) 30) (gn g + 3) 30 := rfl
theorem gLw_N : gN (gLw g cl) = up1 (up1 (up1 (gN g) (gn g + 1) cl) (gn g + 2) 5) (gn g + 3) 24 := rfl
theorem gLw_R : gR (gLw g cl) = up2 (up2 (up2 (up1 (gR g) (gn g) (fun _ => none)) (gn g) 1 (some (gn g + 2))) (gn g) 2 (some (gn g + 3))) (gn g) 0 (some (gn g + 1)) := rfl
theorem Gv_Lw : Gv v g (gLw g cl) := by
  refine ⟨rfl, by rw [gLw_n]; omega, fun b hb => ⟨?_, ?_⟩, fun b k hb _ => ?_, fun _ _ => rfl⟩
  · rw [gLw_S, up1_n (by omega), up1_n (by omega), up1_n (by omega), up1_n (by omega)]
  · rw [gLw_N, up1_n (by omega), up1_n (by omega), up1_n (by omega)]
  · rw [gLw_R, up2_a (by omega), up2_a (by omega), up2_a (by omega), up1_n (by omega)]
theorem LwS_Lw (h205 : 205 ≤ gn g) (hcl : cl ≤ 900) : LwS (gLw g cl) (gn g) cl := by
  refine ⟨⟨h205, hcl, by rw [gLw_n]; omega⟩, ?_, ⟨?_, ?_, ?_⟩, ⟨?_, ?_⟩, ⟨?_, ?_⟩, ⟨?_, ?_⟩⟩
  · rw [gLw_S, up1_n (by omega), up1_n (by omega), up1_n (by omega), up1_s]
    exact Or.inr rfl
  · rw [gLw_R, up2_s]
  · rw [gLw_R, up2_k (by decide), up2_k (by decide), up2_s]
  · rw [gLw_R, up2_k (by decide), up2_s]
  · rw [gLw_S, up1_n (by omega), up1_n (by omega), up1_s]
  · rw [gLw_N, up1_n (by omega), up1_n (by omega), up1_s]
  · rw [gLw_S, up1_n (by omega), up1_s]
  · rw [gLw_N, up1_n (by omega), up1_s]
  · rw [gLw_S, up1_s]
  · rw [gLw_N, up1_s]
end XLw
