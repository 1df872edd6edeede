/-! ===== the law's loop ===== -/
def Stq (g : Sk) (D : Nat) (X : Option (Int32 × xH × Nat × Nat)) (K : xH → Option (Int32 × xH × Nat × Nat)) : Prop := ∃ g2 t2 c s v a n nx, X = (K (Em g2 t2)).map (ac _ c s) ∧ g2.1 = g.1 ∧ c ≤ 1000 ∧ s ≤ 12000 ∧ IV g2 t2 v a (D + 100) n nx
theorem lgc_0 (x : Int64) : lg_cmp x x = 0 := by
  unfold lg_cmp
  simp
theorem rcw {α : Type} {h : xH} {f : xH → Option α} {q : α} (e : (wI h 183 11 0 0).bind f = some q) : rc h 183 11 = some () := by
  obtain ⟨h1, e1, _⟩ := Option.bind_eq_some_iff.mp e
  unfold wI at e1
  unfold rc
  cases hc : h.2 183 with
  | inl x => rw [hc] at e1; cases e1
  | inr x =>
    obtain ⟨c, fs⟩ := x
    rw [hc] at e1
    dsimp only at e1 ⊢
    by_cases q : c = 11
    · rw [if_pos q]
    · rw [if_neg (fun h => q h.1)] at e1
      cases e1
section XLw
variable {g : Sk} {t : Tb} {D L i : Nat} {xs : Nat → Int32} {K : xH → Option (Int32 × xH × Nat × Nat)}
theorem sc_at (hg : g.1 = (L, xs)) : (Em g t).2 68 = .inl (0, L, .inl xs) := by
  have h : (Em g t).2 68 = xkc g.1 68 := rfl
  rw [h, hg]
  rfl
theorem sc_al (hg : g.1 = (L, xs)) : al (Em g t) 68 = some (nI L) := by
  unfold al
  rw [sc_at hg]
  rfl
theorem sc_aI (hg : g.1 = (L, xs)) (hL : L ≤ 3072) {k : Nat} (hk : k < L) : aI (Em g t) 68 (nI k) = some (xs k) := by
  unfold aI
  rw [sc_at hg]
  have hi := nI_in hk (show L < 2 ^ 31 by omega)
  show (if nI k < 0 ∨ L ≤ (nI k).toNatClampNeg then none else some (xs (nI k).toNatClampNeg)) = some (xs k)
  rw [if_neg hi, nI_clamp (by omega)]
def Sd (L : Nat) (xs : Nat → Int32) (i : Nat) (g : Sk) : Prop := g.1 = (L, xs) ∧ L ≤ 3072 ∧ i + 6 ≤ L
theorem sd_1 (h : Sd L xs i g) : aI (Em g t) 68 (nI i + 1) = some (xs (i + 1)) := by
  rw [show nI i + 1 = nI (i + 1) from nI_add i 1]
  exact sc_aI h.1 h.2.1 (by have := h.2.2; omega)
theorem sd_2 (h : Sd L xs i g) : aI (Em g t) 68 (nI i + 2) = some (xs (i + 2)) := by
  rw [show nI i + 2 = nI (i + 2) from nI_add i 2]
  exact sc_aI h.1 h.2.1 (by have := h.2.2; omega)
theorem sd_3 (h : Sd L xs i g) : aI (Em g t) 68 (nI i + 3) = some (xs (i + 3)) := by
  rw [show nI i + 3 = nI (i + 3) from nI_add i 3]
  exact sc_aI h.1 h.2.1 (by have := h.2.2; omega)
theorem sd_4 (h : Sd L xs i g) : aI (Em g t) 68 (nI i + 4) = some (xs (i + 4)) := by
  rw [show nI i + 4 = nI (i + 4) from nI_add i 4]
  exact sc_aI h.1 h.2.1 (by have := h.2.2; omega)
theorem sd_5 (h : Sd L xs i g) : aI (Em g t) 68 (nI i + 5) = some (xs (i + 5)) := by
  rw [show nI i + 5 = nI (i + 5) from nI_add i 5]
  exact sc_aI h.1 h.2.1 (by have := h.2.2; omega)
theorem sd_g {g2 : Sk} (h : Sd L xs i g) (e : g2.1 = g.1) : Sd L xs i g2 := ⟨e.trans h.1, h.2⟩
theorem st_0c (X : Fx g) (h : Sd L xs i g) {fc : xH → Option (Int32 × xH)} {fr : xH → Option (Int32 × xH)} (H : Okc (fc) (fr) g t D) (hw : ∀ h q, fr h = some q → rc h 183 11 = some ()) : Stq g D ((rc (Em g t) 69 10).bind fun _ => (fc (Em g t)).bind fun z => (rc z.2 183 11).bind fun _ => (fr z.2).bind fun y => if z.1 = y.1 then K y.2 else some (0, y.2, 0, 0)) K := by
  obtain ⟨r, g1, t1, g2, t2, v, a, n, nx, e1, e2, k1, k2, _, _, J⟩ := H
  have h1 : Sd L xs i g1 := sd_g h k1
  refine ⟨g2, t2, 0, 0, v, a, n, nx, ?_, k2, by omega, by omega, J⟩
  rw [← ac_0, x_rc69 X, Option.bind_some, e1, Option.bind_some]
  dsimp only
  rw [hw _ _ e2, Option.bind_some, e2, Option.bind_some, if_pos rfl]
theorem st_1c (X : Fx g) (h : Sd L xs i g) {fc : Int32 → xH → Option (Int32 × xH)} {fr : Int32 → xH → Option (Int32 × xH)} (H : Okc (fc (xs (i + 1))) (fr (xs (i + 1))) g t D) (hw : ∀ h q, fr (xs (i + 1)) h = some q → rc h 183 11 = some ()) : Stq g D ((aI (Em g t) 68 (nI i + 1)).bind fun v1 => (rc (Em g t) 69 10).bind fun _ => (fc v1 (Em g t)).bind fun z => (aI z.2 68 (nI i + 1)).bind fun w1 => (rc z.2 183 11).bind fun _ => (fr w1 z.2).bind fun y => if z.1 = y.1 then K y.2 else some (0, y.2, 0, 0)) K := by
  obtain ⟨r, g1, t1, g2, t2, v, a, n, nx, e1, e2, k1, k2, _, _, J⟩ := H
  have h1 : Sd L xs i g1 := sd_g h k1
  refine ⟨g2, t2, 0, 0, v, a, n, nx, ?_, k2, by omega, by omega, J⟩
  rw [← ac_0, sd_1 h, Option.bind_some, x_rc69 X, Option.bind_some, e1, Option.bind_some]
  dsimp only
  rw [sd_1 h1, Option.bind_some, hw _ _ e2, Option.bind_some, e2, Option.bind_some, if_pos rfl]
theorem st_1v (X : Fx g) (h : Sd L xs i g) {fc : Int32 → xH → Option (Int32 × xH × Nat × Nat)} {fr : Int32 → xH → Option (Int32 × xH)} (H : Okv (fc (xs (i + 1))) (fr (xs (i + 1))) g t D) (hw : ∀ h q, fr (xs (i + 1)) h = some q → rc h 183 11 = some ()) : Stq g D ((aI (Em g t) 68 (nI i + 1)).bind fun v1 => (rc (Em g t) 69 10).bind fun _ => (fc v1 (Em g t)).bind fun z => ((aI z.2.1 68 (nI i + 1)).bind fun w1 => (rc z.2.1 183 11).bind fun _ => (fr w1 z.2.1).bind fun y => if z.1 = y.1 then K y.2 else some (0, y.2, 0, 0)).map (ac _ z.2.2.1 z.2.2.2)) K := by
  obtain ⟨r, g1, t1, c, s, g2, t2, v, a, n, nx, e1, e2, k1, k2, hc, hs, J⟩ := H
  have h1 : Sd L xs i g1 := sd_g h k1
  refine ⟨g2, t2, c, s, v, a, n, nx, ?_, k2, hc, hs, J⟩
  rw [sd_1 h, Option.bind_some, x_rc69 X, Option.bind_some, e1, Option.bind_some]
  dsimp only
  rw [sd_1 h1, Option.bind_some, hw _ _ e2, Option.bind_some, e2, Option.bind_some, if_pos rfl]
theorem st_2L (X : Fx g) (h : Sd L xs i g) {fc : Int32 → Int32 → xH → Option (Int64 × xH)} {fr : Int32 → Int32 → xH → Option (Int64 × xH)} (H : OkL (fc (xs (i + 1)) (xs (i + 2))) (fr (xs (i + 1)) (xs (i + 2))) g t D) (hw : ∀ h q, fr (xs (i + 1)) (xs (i + 2)) h = some q → rc h 183 11 = some ()) : Stq g D ((aI (Em g t) 68 (nI i + 1)).bind fun v1 => (aI (Em g t) 68 (nI i + 2)).bind fun v2 => (rc (Em g t) 69 10).bind fun _ => (fc v1 v2 (Em g t)).bind fun z => (aI z.2 68 (nI i + 1)).bind fun w1 => (aI z.2 68 (nI i + 2)).bind fun w2 => (rc z.2 183 11).bind fun _ => (fr w1 w2 z.2).bind fun y => if (lg_cmp z.1 y.1) = 0 then K y.2 else some (0, y.2, 0, 0)) K := by
  obtain ⟨r, g1, t1, g2, t2, v, a, n, nx, e1, e2, k1, k2, _, _, J⟩ := H
  have h1 : Sd L xs i g1 := sd_g h k1
  refine ⟨g2, t2, 0, 0, v, a, n, nx, ?_, k2, by omega, by omega, J⟩
  rw [← ac_0, sd_1 h, Option.bind_some, sd_2 h, Option.bind_some, x_rc69 X, Option.bind_some, e1, Option.bind_some]
  dsimp only
  rw [sd_1 h1, Option.bind_some, sd_2 h1, Option.bind_some, hw _ _ e2, Option.bind_some, e2, Option.bind_some, if_pos (lgc_0 r)]
theorem st_2c (X : Fx g) (h : Sd L xs i g) {fc : Int32 → Int32 → xH → Option (Int32 × xH)} {fr : Int32 → Int32 → xH → Option (Int32 × xH)} (H : Okc (fc (xs (i + 1)) (xs (i + 2))) (fr (xs (i + 1)) (xs (i + 2))) g t D) (hw : ∀ h q, fr (xs (i + 1)) (xs (i + 2)) h = some q → rc h 183 11 = some ()) : Stq g D ((aI (Em g t) 68 (nI i + 1)).bind fun v1 => (aI (Em g t) 68 (nI i + 2)).bind fun v2 => (rc (Em g t) 69 10).bind fun _ => (fc v1 v2 (Em g t)).bind fun z => (aI z.2 68 (nI i + 1)).bind fun w1 => (aI z.2 68 (nI i + 2)).bind fun w2 => (rc z.2 183 11).bind fun _ => (fr w1 w2 z.2).bind fun y => if z.1 = y.1 then K y.2 else some (0, y.2, 0, 0)) K := by
  obtain ⟨r, g1, t1, g2, t2, v, a, n, nx, e1, e2, k1, k2, _, _, J⟩ := H
  have h1 : Sd L xs i g1 := sd_g h k1
  refine ⟨g2, t2, 0, 0, v, a, n, nx, ?_, k2, by omega, by omega, J⟩
  rw [← ac_0, sd_1 h, Option.bind_some, sd_2 h, Option.bind_some, x_rc69 X, Option.bind_some, e1, Option.bind_some]
  dsimp only
  rw [sd_1 h1, Option.bind_some, sd_2 h1, Option.bind_some, hw _ _ e2, Option.bind_some, e2, Option.bind_some, if_pos rfl]
theorem st_2v (X : Fx g) (h : Sd L xs i g) {fc : Int32 → Int32 → xH → Option (Int32 × xH × Nat × Nat)} {fr : Int32 → Int32 → xH → Option (Int32 × xH)} (H : Okv (fc (xs (i + 1)) (xs (i + 2))) (fr (xs (i + 1)) (xs (i + 2))) g t D) (hw : ∀ h q, fr (xs (i + 1)) (xs (i + 2)) h = some q → rc h 183 11 = some ()) : Stq g D ((aI (Em g t) 68 (nI i + 1)).bind fun v1 => (aI (Em g t) 68 (nI i + 2)).bind fun v2 => (rc (Em g t) 69 10).bind fun _ => (fc v1 v2 (Em g t)).bind fun z => ((aI z.2.1 68 (nI i + 1)).bind fun w1 => (aI z.2.1 68 (nI i + 2)).bind fun w2 => (rc z.2.1 183 11).bind fun _ => (fr w1 w2 z.2.1).bind fun y => if z.1 = y.1 then K y.2 else some (0, y.2, 0, 0)).map (ac _ z.2.2.1 z.2.2.2)) K := by
  obtain ⟨r, g1, t1, c, s, g2, t2, v, a, n, nx, e1, e2, k1, k2, hc, hs, J⟩ := H
  have h1 : Sd L xs i g1 := sd_g h k1
  refine ⟨g2, t2, c, s, v, a, n, nx, ?_, k2, hc, hs, J⟩
  rw [sd_1 h, Option.bind_some, sd_2 h, Option.bind_some, x_rc69 X, Option.bind_some, e1, Option.bind_some]
  dsimp only
  rw [sd_1 h1, Option.bind_some, sd_2 h1, Option.bind_some, hw _ _ e2, Option.bind_some, e2, Option.bind_some, if_pos rfl]
theorem st_3L (X : Fx g) (h : Sd L xs i g) {fc : Int32 → Int32 → Int32 → xH → Option (Int64 × xH)} {fr : Int32 → Int32 → Int32 → xH → Option (Int64 × xH)} (H : OkL (fc (xs (i + 1)) (xs (i + 2)) (xs (i + 3))) (fr (xs (i + 1)) (xs (i + 2)) (xs (i + 3))) g t D) (hw : ∀ h q, fr (xs (i + 1)) (xs (i + 2)) (xs (i + 3)) h = some q → rc h 183 11 = some ()) : Stq g D ((aI (Em g t) 68 (nI i + 1)).bind fun v1 => (aI (Em g t) 68 (nI i + 2)).bind fun v2 => (aI (Em g t) 68 (nI i + 3)).bind fun v3 => (rc (Em g t) 69 10).bind fun _ => (fc v1 v2 v3 (Em g t)).bind fun z => (aI z.2 68 (nI i + 1)).bind fun w1 => (aI z.2 68 (nI i + 2)).bind fun w2 => (aI z.2 68 (nI i + 3)).bind fun w3 => (rc z.2 183 11).bind fun _ => (fr w1 w2 w3 z.2).bind fun y => if (lg_cmp z.1 y.1) = 0 then K y.2 else some (0, y.2, 0, 0)) K := by
  obtain ⟨r, g1, t1, g2, t2, v, a, n, nx, e1, e2, k1, k2, _, _, J⟩ := H
  have h1 : Sd L xs i g1 := sd_g h k1
  refine ⟨g2, t2, 0, 0, v, a, n, nx, ?_, k2, by omega, by omega, J⟩
  rw [← ac_0, sd_1 h, Option.bind_some, sd_2 h, Option.bind_some, sd_3 h, Option.bind_some, x_rc69 X, Option.bind_some, e1, Option.bind_some]
  dsimp only
  rw [sd_1 h1, Option.bind_some, sd_2 h1, Option.bind_some, sd_3 h1, Option.bind_some, hw _ _ e2, Option.bind_some, e2, Option.bind_some, if_pos (lgc_0 r)]
theorem st_3c (X : Fx g) (h : Sd L xs i g) {fc : Int32 → Int32 → Int32 → xH → Option (Int32 × xH)} {fr : Int32 → Int32 → Int32 → xH → Option (Int32 × xH)} (H : Okc (fc (xs (i + 1)) (xs (i + 2)) (xs (i + 3))) (fr (xs (i + 1)) (xs (i + 2)) (xs (i + 3))) g t D) (hw : ∀ h q, fr (xs (i + 1)) (xs (i + 2)) (xs (i + 3)) h = some q → rc h 183 11 = some ()) : Stq g D ((aI (Em g t) 68 (nI i + 1)).bind fun v1 => (aI (Em g t) 68 (nI i + 2)).bind fun v2 => (aI (Em g t) 68 (nI i + 3)).bind fun v3 => (rc (Em g t) 69 10).bind fun _ => (fc v1 v2 v3 (Em g t)).bind fun z => (aI z.2 68 (nI i + 1)).bind fun w1 => (aI z.2 68 (nI i + 2)).bind fun w2 => (aI z.2 68 (nI i + 3)).bind fun w3 => (rc z.2 183 11).bind fun _ => (fr w1 w2 w3 z.2).bind fun y => if z.1 = y.1 then K y.2 else some (0, y.2, 0, 0)) K := by
  obtain ⟨r, g1, t1, g2, t2, v, a, n, nx, e1, e2, k1, k2, _, _, J⟩ := H
  have h1 : Sd L xs i g1 := sd_g h k1
  refine ⟨g2, t2, 0, 0, v, a, n, nx, ?_, k2, by omega, by omega, J⟩
  rw [← ac_0, sd_1 h, Option.bind_some, sd_2 h, Option.bind_some, sd_3 h, Option.bind_some, x_rc69 X, Option.bind_some, e1, Option.bind_some]
  dsimp only
  rw [sd_1 h1, Option.bind_some, sd_2 h1, Option.bind_some, sd_3 h1, Option.bind_some, hw _ _ e2, Option.bind_some, e2, Option.bind_some, if_pos rfl]
theorem st_3v (X : Fx g) (h : Sd L xs i g) {fc : Int32 → Int32 → Int32 → xH → Option (Int32 × xH × Nat × Nat)} {fr : Int32 → Int32 → Int32 → xH → Option (Int32 × xH)} (H : Okv (fc (xs (i + 1)) (xs (i + 2)) (xs (i + 3))) (fr (xs (i + 1)) (xs (i + 2)) (xs (i + 3))) g t D) (hw : ∀ h q, fr (xs (i + 1)) (xs (i + 2)) (xs (i + 3)) h = some q → rc h 183 11 = some ()) : Stq g D ((aI (Em g t) 68 (nI i + 1)).bind fun v1 => (aI (Em g t) 68 (nI i + 2)).bind fun v2 => (aI (Em g t) 68 (nI i + 3)).bind fun v3 => (rc (Em g t) 69 10).bind fun _ => (fc v1 v2 v3 (Em g t)).bind fun z => ((aI z.2.1 68 (nI i + 1)).bind fun w1 => (aI z.2.1 68 (nI i + 2)).bind fun w2 => (aI z.2.1 68 (nI i + 3)).bind fun w3 => (rc z.2.1 183 11).bind fun _ => (fr w1 w2 w3 z.2.1).bind fun y => if z.1 = y.1 then K y.2 else some (0, y.2, 0, 0)).map (ac _ z.2.2.1 z.2.2.2)) K := by
  obtain ⟨r, g1, t1, c, s, g2, t2, v, a, n, nx, e1, e2, k1, k2, hc, hs, J⟩ := H
  have h1 : Sd L xs i g1 := sd_g h k1
  refine ⟨g2, t2, c, s, v, a, n, nx, ?_, k2, hc, hs, J⟩
  rw [sd_1 h, Option.bind_some, sd_2 h, Option.bind_some, sd_3 h, Option.bind_some, x_rc69 X, Option.bind_some, e1, Option.bind_some]
  dsimp only
  rw [sd_1 h1, Option.bind_some, sd_2 h1, Option.bind_some, sd_3 h1, Option.bind_some, hw _ _ e2, Option.bind_some, e2, Option.bind_some, if_pos rfl]
theorem st_5c (X : Fx g) (h : Sd L xs i g) {fc : Int32 → Int32 → Int32 → Int32 → Int32 → xH → Option (Int32 × xH)} {fr : Int32 → Int32 → Int32 → Int32 → Int32 → xH → Option (Int32 × xH)} (H : Okc (fc (xs (i + 1)) (xs (i + 2)) (xs (i + 3)) (xs (i + 4)) (xs (i + 5))) (fr (xs (i + 1)) (xs (i + 2)) (xs (i + 3)) (xs (i + 4)) (xs (i + 5))) g t D) (hw : ∀ h q, fr (xs (i + 1)) (xs (i + 2)) (xs (i + 3)) (xs (i + 4)) (xs (i + 5)) h = some q → rc h 183 11 = some ()) : Stq g D ((aI (Em g t) 68 (nI i + 1)).bind fun v1 => (aI (Em g t) 68 (nI i + 2)).bind fun v2 => (aI (Em g t) 68 (nI i + 3)).bind fun v3 => (aI (Em g t) 68 (nI i + 4)).bind fun v4 => (aI (Em g t) 68 (nI i + 5)).bind fun v5 => (rc (Em g t) 69 10).bind fun _ => (fc v1 v2 v3 v4 v5 (Em g t)).bind fun z => (aI z.2 68 (nI i + 1)).bind fun w1 => (aI z.2 68 (nI i + 2)).bind fun w2 => (aI z.2 68 (nI i + 3)).bind fun w3 => (aI z.2 68 (nI i + 4)).bind fun w4 => (aI z.2 68 (nI i + 5)).bind fun w5 => (rc z.2 183 11).bind fun _ => (fr w1 w2 w3 w4 w5 z.2).bind fun y => if z.1 = y.1 then K y.2 else some (0, y.2, 0, 0)) K := by
  obtain ⟨r, g1, t1, g2, t2, v, a, n, nx, e1, e2, k1, k2, _, _, J⟩ := H
  have h1 : Sd L xs i g1 := sd_g h k1
  refine ⟨g2, t2, 0, 0, v, a, n, nx, ?_, k2, by omega, by omega, J⟩
  rw [← ac_0, sd_1 h, Option.bind_some, sd_2 h, Option.bind_some, sd_3 h, Option.bind_some, sd_4 h, Option.bind_some, sd_5 h, Option.bind_some, x_rc69 X, Option.bind_some, e1, Option.bind_some]
  dsimp only
  rw [sd_1 h1, Option.bind_some, sd_2 h1, Option.bind_some, sd_3 h1, Option.bind_some, sd_4 h1, Option.bind_some, sd_5 h1, Option.bind_some, hw _ _ e2, Option.bind_some, e2, Option.bind_some, if_pos rfl]
theorem st_4L (X : Fx g) (h : Sd L xs i g) {fc : Int32 → Int32 → Int32 → Int32 → xH → Option (Int64 × xH)} {fr : Int32 → Int32 → Int32 → Int32 → xH → Option (Int64 × xH)} (H : OkL (fc (xs (i + 1)) (xs (i + 2)) (xs (i + 3)) (xs (i + 4))) (fr (xs (i + 1)) (xs (i + 2)) (xs (i + 3)) (xs (i + 4))) g t D) (hw : ∀ h q, fr (xs (i + 1)) (xs (i + 2)) (xs (i + 3)) (xs (i + 4)) h = some q → rc h 183 11 = some ()) : Stq g D ((aI (Em g t) 68 (nI i + 1)).bind fun v1 => (aI (Em g t) 68 (nI i + 2)).bind fun v2 => (aI (Em g t) 68 (nI i + 3)).bind fun v3 => (aI (Em g t) 68 (nI i + 4)).bind fun v4 => (rc (Em g t) 69 10).bind fun _ => (fc v1 v2 v3 v4 (Em g t)).bind fun z => (aI z.2 68 (nI i + 1)).bind fun w1 => (aI z.2 68 (nI i + 2)).bind fun w2 => (aI z.2 68 (nI i + 3)).bind fun w3 => (aI z.2 68 (nI i + 4)).bind fun w4 => (rc z.2 183 11).bind fun _ => (fr w1 w2 w3 w4 z.2).bind fun y => if (lg_cmp z.1 y.1) = 0 then K y.2 else some (0, y.2, 0, 0)) K := by
  obtain ⟨r, g1, t1, g2, t2, v, a, n, nx, e1, e2, k1, k2, _, _, J⟩ := H
  have h1 : Sd L xs i g1 := sd_g h k1
  refine ⟨g2, t2, 0, 0, v, a, n, nx, ?_, k2, by omega, by omega, J⟩
  rw [← ac_0, sd_1 h, Option.bind_some, sd_2 h, Option.bind_some, sd_3 h, Option.bind_some, sd_4 h, Option.bind_some, x_rc69 X, Option.bind_some, e1, Option.bind_some]
  dsimp only
  rw [sd_1 h1, Option.bind_some, sd_2 h1, Option.bind_some, sd_3 h1, Option.bind_some, sd_4 h1, Option.bind_some, hw _ _ e2, Option.bind_some, e2, Option.bind_some, if_pos (lgc_0 r)]
theorem fin_stp {X : Option (Int32 × xH × Nat × Nat)} {k : Nat} (st : Stq g D X K) (next : ∀ g2 t2 v a n nx, g2.1 = g.1 → IV g2 t2 v a (D + 100) n nx → ∃ h' mc ms, K (Em g2 t2) = some (1, h', mc, ms) ∧ mc ≤ 1000 * k ∧ ms ≤ 12000 * k) : ∃ h' mc ms, X = some (1, h', mc, ms) ∧ mc ≤ 1000 * (k + 1) ∧ ms ≤ 12000 * (k + 1) := by
  obtain ⟨g2, t2, c, s, v, a, n, nx, e, k1, hc, hs, J⟩ := st
  obtain ⟨h', mc, ms, e2, m1, m2⟩ := next g2 t2 v a n nx k1 J
  refine ⟨h', mc + c, ms + s, ?_, by omega, by omega⟩
  rw [e, e2, Option.map_some]
  rfl
theorem lt_6 : ∀ L, L < 6 → nI L - 6 < nI 0 := by decide
theorem lw_c (hL : L ≤ 3072) (hi : i ≤ 4000) : (nI L - 6 < nI i) ↔ ¬ i + 6 ≤ L := by
  by_cases c : 6 ≤ L
  · rw [show nI L - 6 = nI (L - 6) from nI_sub (b := 6) c, nI_ltI (by omega) (by omega)]
    omega
  · refine ⟨fun _ => by omega, fun _ => ?_⟩
    have h1 := lt_6 L (by omega)
    have h2 : nI 0 ≤ nI i := (nI_leI (by decide) (by omega)).mpr (Nat.zero_le _)
    rw [fa_lt] at h1 ⊢
    rw [fa_le] at h2
    omega
theorem lw_st {v n nx f : Nat} {a : Nat → Int32} (I : IV g t v a D n nx) (hD : D + 100 < 2 ^ 30) (h : Sd L xs i g) : ∀ X, X = (if (xs i &&& 63) = 0 then (aI (Em g t) 68 (nI i + 1)).bind fun v229 => (aI (Em g t) 68 (nI i + 2)).bind fun v234 => (aI (Em g t) 68 (nI i + 3)).bind fun v239 => (aI (Em g t) 68 (nI i + 4)).bind fun v244 => (aI (Em g t) 68 (nI i + 5)).bind fun v249 => (rc (Em g t) 69 10).bind fun _ => (F_X11_feed 69 v229 v234 v239 v244 v249 (Em g t)).bind fun z250 => (aI z250.2 68 (nI i + 1)).bind fun v258 => (aI z250.2 68 (nI i + 2)).bind fun v263 => (aI z250.2 68 (nI i + 3)).bind fun v268 => (aI z250.2 68 (nI i + 4)).bind fun v273 => (aI z250.2 68 (nI i + 5)).bind fun v278 => (rc z250.2 183 11).bind fun _ => (F_X12_feed 183 v258 v263 v268 v273 v278 z250.2).bind fun z279 => if z250.1 = z279.1 then F_L_law_b18 f 68 69 183 (nI i + 6) z279.2 else some (0, z279.2, 0, 0) else if (xs i &&& 63) = 1 then (aI (Em g t) 68 (nI i + 1)).bind fun v292 => (rc (Em g t) 69 10).bind fun _ => (F_X11_valley 69 v292 (Em g t)).bind fun z293 => ((aI z293.2.1 68 (nI i + 1)).bind fun v301 => (rc z293.2.1 183 11).bind fun _ => (F_X12_valley 183 v301 z293.2.1).bind fun z302 => if z293.1 = z302.1 then F_L_law_b18 f 68 69 183 (nI i + 6) z302.2 else some (0, z302.2, 0, 0)).map (ac _ z293.2.2.1 z293.2.2.2) else if (xs i &&& 63) = 2 then (aI (Em g t) 68 (nI i + 1)).bind fun v315 => (rc (Em g t) 69 10).bind fun _ => (F_X11_fault 69 v315 (Em g t)).bind fun z316 => (aI z316.2 68 (nI i + 1)).bind fun v324 => (rc z316.2 183 11).bind fun _ => (F_X12_fault 183 v324 z316.2).bind fun z325 => if z316.1 = z325.1 then F_L_law_b18 f 68 69 183 (nI i + 6) z325.2 else some (0, z325.2, 0, 0) else if (xs i &&& 63) = 3 then (aI (Em g t) 68 (nI i + 1)).bind fun v338 => (aI (Em g t) 68 (nI i + 2)).bind fun v343 => (rc (Em g t) 69 10).bind fun _ => (F_X11_person 69 v338 v343 (Em g t)).bind fun z344 => (aI z344.2 68 (nI i + 1)).bind fun v352 => (aI z344.2 68 (nI i + 2)).bind fun v357 => (rc z344.2 183 11).bind fun _ => (F_X12_person 183 v352 v357 z344.2).bind fun z358 => if z344.1 = z358.1 then F_L_law_b18 f 68 69 183 (nI i + 6) z358.2 else some (0, z358.2, 0, 0) else if (xs i &&& 63) = 4 then (aI (Em g t) 68 (nI i + 1)).bind fun v371 => (aI (Em g t) 68 (nI i + 2)).bind fun v376 => (rc (Em g t) 69 10).bind fun _ => (F_X11_sounds 69 v371 v376 (Em g t)).bind fun z377 => (aI z377.2 68 (nI i + 1)).bind fun v385 => (aI z377.2 68 (nI i + 2)).bind fun v390 => (rc z377.2 183 11).bind fun _ => (F_X12_sounds 183 v385 v390 z377.2).bind fun z391 => if z377.1 = z391.1 then F_L_law_b18 f 68 69 183 (nI i + 6) z391.2 else some (0, z391.2, 0, 0) else if (xs i &&& 63) = 5 then (aI (Em g t) 68 (nI i + 1)).bind fun v404 => (aI (Em g t) 68 (nI i + 2)).bind fun v409 => (rc (Em g t) 69 10).bind fun _ => (F_X11_place 69 v404 v409 (Em g t)).bind fun z410 => (aI z410.2 68 (nI i + 1)).bind fun v418 => (aI z410.2 68 (nI i + 2)).bind fun v423 => (rc z410.2 183 11).bind fun _ => (F_X12_place 183 v418 v423 z410.2).bind fun z424 => if z410.1 = z424.1 then F_L_law_b18 f 68 69 183 (nI i + 6) z424.2 else some (0, z424.2, 0, 0) else if (xs i &&& 63) = 6 then (aI (Em g t) 68 (nI i + 1)).bind fun v437 => (aI (Em g t) 68 (nI i + 2)).bind fun v442 => (rc (Em g t) 69 10).bind fun _ => (F_X11_note 69 v437 v442 (Em g t)).bind fun z443 => (aI z443.2 68 (nI i + 1)).bind fun v451 => (aI z443.2 68 (nI i + 2)).bind fun v456 => (rc z443.2 183 11).bind fun _ => (F_X12_note 183 v451 v456 z443.2).bind fun z457 => if z443.1 = z457.1 then F_L_law_b18 f 68 69 183 (nI i + 6) z457.2 else some (0, z457.2, 0, 0) else if (xs i &&& 63) = 7 then (aI (Em g t) 68 (nI i + 1)).bind fun v470 => (aI (Em g t) 68 (nI i + 2)).bind fun v475 => (rc (Em g t) 69 10).bind fun _ => (F_X11_steps 69 v470 v475 (Em g t)).bind fun z476 => (aI z476.2 68 (nI i + 1)).bind fun v484 => (aI z476.2 68 (nI i + 2)).bind fun v489 => (rc z476.2 183 11).bind fun _ => (F_X12_steps 183 v484 v489 z476.2).bind fun z490 => if z476.1 = z490.1 then F_L_law_b18 f 68 69 183 (nI i + 6) z490.2 else some (0, z490.2, 0, 0) else if (xs i &&& 63) = 8 then (aI (Em g t) 68 (nI i + 1)).bind fun v503 => (rc (Em g t) 69 10).bind fun _ => (F_X11_whole 69 v503 (Em g t)).bind fun z504 => (aI z504.2 68 (nI i + 1)).bind fun v512 => (rc z504.2 183 11).bind fun _ => (F_X12_whole 183 v512 z504.2).bind fun z513 => if z504.1 = z513.1 then F_L_law_b18 f 68 69 183 (nI i + 6) z513.2 else some (0, z513.2, 0, 0) else if (xs i &&& 63) = 9 then (aI (Em g t) 68 (nI i + 1)).bind fun v526 => (rc (Em g t) 69 10).bind fun _ => (F_X11_owners 69 v526 (Em g t)).bind fun z527 => (aI z527.2 68 (nI i + 1)).bind fun v535 => (rc z527.2 183 11).bind fun _ => (F_X12_owners 183 v535 z527.2).bind fun z536 => if z527.1 = z536.1 then F_L_law_b18 f 68 69 183 (nI i + 6) z536.2 else some (0, z536.2, 0, 0) else if (xs i &&& 63) = 10 then (aI (Em g t) 68 (nI i + 1)).bind fun v549 => (aI (Em g t) 68 (nI i + 2)).bind fun v554 => (rc (Em g t) 69 10).bind fun _ => (F_X11_go 69 v549 v554 (Em g t)).bind fun z555 => (aI z555.2 68 (nI i + 1)).bind fun v563 => (aI z555.2 68 (nI i + 2)).bind fun v568 => (rc z555.2 183 11).bind fun _ => (F_X12_go 183 v563 v568 z555.2).bind fun z569 => if z555.1 = z569.1 then F_L_law_b18 f 68 69 183 (nI i + 6) z569.2 else some (0, z569.2, 0, 0) else if (xs i &&& 63) = 11 then (aI (Em g t) 68 (nI i + 1)).bind fun v582 => (rc (Em g t) 69 10).bind fun _ => (F_X11_days 69 v582 (Em g t)).bind fun z583 => (aI z583.2 68 (nI i + 1)).bind fun v591 => (rc z583.2 183 11).bind fun _ => (F_X12_days 183 v591 z583.2).bind fun z592 => if z583.1 = z592.1 then F_L_law_b18 f 68 69 183 (nI i + 6) z592.2 else some (0, z592.2, 0, 0) else if (xs i &&& 63) = 12 then (aI (Em g t) 68 (nI i + 1)).bind fun v605 => (aI (Em g t) 68 (nI i + 2)).bind fun v610 => (rc (Em g t) 69 10).bind fun _ => (F_X11_ear 69 v605 v610 (Em g t)).bind fun z611 => (aI z611.2 68 (nI i + 1)).bind fun v619 => (aI z611.2 68 (nI i + 2)).bind fun v624 => (rc z611.2 183 11).bind fun _ => (F_X12_ear 183 v619 v624 z611.2).bind fun z625 => if z611.1 = z625.1 then F_L_law_b18 f 68 69 183 (nI i + 6) z625.2 else some (0, z625.2, 0, 0) else if (xs i &&& 63) = 13 then (aI (Em g t) 68 (nI i + 1)).bind fun v638 => (aI (Em g t) 68 (nI i + 2)).bind fun v643 => (rc (Em g t) 69 10).bind fun _ => (F_X11_blank 69 v638 v643 (Em g t)).bind fun z644 => (aI z644.2 68 (nI i + 1)).bind fun v652 => (aI z644.2 68 (nI i + 2)).bind fun v657 => (rc z644.2 183 11).bind fun _ => (F_X12_blank 183 v652 v657 z644.2).bind fun z658 => if z644.1 = z658.1 then F_L_law_b18 f 68 69 183 (nI i + 6) z658.2 else some (0, z658.2, 0, 0) else if (xs i &&& 63) = 14 then (aI (Em g t) 68 (nI i + 1)).bind fun v671 => (rc (Em g t) 69 10).bind fun _ => (F_X11_undo 69 v671 (Em g t)).bind fun z672 => (aI z672.2 68 (nI i + 1)).bind fun v680 => (rc z672.2 183 11).bind fun _ => (F_X12_undo 183 v680 z672.2).bind fun z681 => if z672.1 = z681.1 then F_L_law_b18 f 68 69 183 (nI i + 6) z681.2 else some (0, z681.2, 0, 0) else if (xs i &&& 63) = 15 then (aI (Em g t) 68 (nI i + 1)).bind fun v694 => (aI (Em g t) 68 (nI i + 2)).bind fun v699 => (rc (Em g t) 69 10).bind fun _ => (F_X11_judge 69 v694 v699 (Em g t)).bind fun z700 => (aI z700.2 68 (nI i + 1)).bind fun v708 => (aI z700.2 68 (nI i + 2)).bind fun v713 => (rc z700.2 183 11).bind fun _ => (F_X12_judge 183 v708 v713 z700.2).bind fun z714 => if z700.1 = z714.1 then F_L_law_b18 f 68 69 183 (nI i + 6) z714.2 else some (0, z714.2, 0, 0) else if (xs i &&& 63) = 16 then (aI (Em g t) 68 (nI i + 1)).bind fun v727 => (rc (Em g t) 69 10).bind fun _ => (F_X11_perform 69 v727 (Em g t)).bind fun z728 => (aI z728.2 68 (nI i + 1)).bind fun v736 => (rc z728.2 183 11).bind fun _ => (F_X12_perform 183 v736 z728.2).bind fun z737 => if z728.1 = z737.1 then F_L_law_b18 f 68 69 183 (nI i + 6) z737.2 else some (0, z737.2, 0, 0) else if (xs i &&& 63) = 17 then (aI (Em g t) 68 (nI i + 1)).bind fun v750 => (aI (Em g t) 68 (nI i + 2)).bind fun v755 => (rc (Em g t) 69 10).bind fun _ => (F_X11_year 69 v750 v755 (Em g t)).bind fun z756 => (aI z756.2 68 (nI i + 1)).bind fun v764 => (aI z756.2 68 (nI i + 2)).bind fun v769 => (rc z756.2 183 11).bind fun _ => (F_X12_year 183 v764 v769 z756.2).bind fun z770 => if z756.1 = z770.1 then F_L_law_b18 f 68 69 183 (nI i + 6) z770.2 else some (0, z770.2, 0, 0) else if (xs i &&& 63) = 18 then (aI (Em g t) 68 (nI i + 1)).bind fun v783 => (aI (Em g t) 68 (nI i + 2)).bind fun v788 => (rc (Em g t) 69 10).bind fun _ => (F_X11_blanks 69 v783 v788 (Em g t)).bind fun z789 => (aI z789.2 68 (nI i + 1)).bind fun v797 => (aI z789.2 68 (nI i + 2)).bind fun v802 => (rc z789.2 183 11).bind fun _ => (F_X12_blanks 183 v797 v802 z789.2).bind fun z803 => if z789.1 = z803.1 then F_L_law_b18 f 68 69 183 (nI i + 6) z803.2 else some (0, z803.2, 0, 0) else if (xs i &&& 63) = 19 then (aI (Em g t) 68 (nI i + 1)).bind fun v816 => (aI (Em g t) 68 (nI i + 2)).bind fun v821 => (rc (Em g t) 69 10).bind fun _ => (F_X11_attempt 69 v816 v821 (Em g t)).bind fun z822 => (aI z822.2 68 (nI i + 1)).bind fun v830 => (aI z822.2 68 (nI i + 2)).bind fun v835 => (rc z822.2 183 11).bind fun _ => (F_X12_attempt 183 v830 v835 z822.2).bind fun z836 => if z822.1 = z836.1 then F_L_law_b18 f 68 69 183 (nI i + 6) z836.2 else some (0, z836.2, 0, 0) else if (xs i &&& 63) = 20 then (aI (Em g t) 68 (nI i + 1)).bind fun v849 => (rc (Em g t) 69 10).bind fun _ => (F_X11_knowing 69 v849 (Em g t)).bind fun z850 => (aI z850.2 68 (nI i + 1)).bind fun v858 => (rc z850.2 183 11).bind fun _ => (F_X12_knowing 183 v858 z850.2).bind fun z859 => if z850.1 = z859.1 then F_L_law_b18 f 68 69 183 (nI i + 6) z859.2 else some (0, z859.2, 0, 0) else if (xs i &&& 63) = 21 then (aI (Em g t) 68 (nI i + 1)).bind fun v872 => (rc (Em g t) 69 10).bind fun _ => (F_X11_begins 69 v872 (Em g t)).bind fun z873 => (aI z873.2 68 (nI i + 1)).bind fun v881 => (rc z873.2 183 11).bind fun _ => (F_X12_begins 183 v881 z873.2).bind fun z882 => if z873.1 = z882.1 then F_L_law_b18 f 68 69 183 (nI i + 6) z882.2 else some (0, z882.2, 0, 0) else if (xs i &&& 63) = 22 then (aI (Em g t) 68 (nI i + 1)).bind fun v895 => (rc (Em g t) 69 10).bind fun _ => (F_X11_atOnce 69 v895 (Em g t)).bind fun z896 => (aI z896.2 68 (nI i + 1)).bind fun v904 => (rc z896.2 183 11).bind fun _ => (F_X12_atOnce 183 v904 z896.2).bind fun z905 => if z896.1 = z905.1 then F_L_law_b18 f 68 69 183 (nI i + 6) z905.2 else some (0, z905.2, 0, 0) else if (xs i &&& 63) = 23 then (aI (Em g t) 68 (nI i + 1)).bind fun v918 => (aI (Em g t) 68 (nI i + 2)).bind fun v923 => (aI (Em g t) 68 (nI i + 3)).bind fun v928 => (rc (Em g t) 69 10).bind fun _ => (F_X11_choir 69 v918 v923 v928 (Em g t)).bind fun z929 => (aI z929.2 68 (nI i + 1)).bind fun v937 => (aI z929.2 68 (nI i + 2)).bind fun v942 => (aI z929.2 68 (nI i + 3)).bind fun v947 => (rc z929.2 183 11).bind fun _ => (F_X12_choir 183 v937 v942 v947 z929.2).bind fun z948 => if z929.1 = z948.1 then F_L_law_b18 f 68 69 183 (nI i + 6) z948.2 else some (0, z948.2, 0, 0) else if (xs i &&& 63) = 24 then (aI (Em g t) 68 (nI i + 1)).bind fun v961 => (aI (Em g t) 68 (nI i + 2)).bind fun v966 => (rc (Em g t) 69 10).bind fun _ => (F_X11_row 69 v961 v966 (Em g t)).bind fun z967 => (aI z967.2 68 (nI i + 1)).bind fun v975 => (aI z967.2 68 (nI i + 2)).bind fun v980 => (rc z967.2 183 11).bind fun _ => (F_X12_row 183 v975 v980 z967.2).bind fun z981 => if z967.1 = z981.1 then F_L_law_b18 f 68 69 183 (nI i + 6) z981.2 else some (0, z981.2, 0, 0) else if (xs i &&& 63) = 25 then (aI (Em g t) 68 (nI i + 1)).bind fun v994 => (rc (Em g t) 69 10).bind fun _ => (F_X11_rows 69 v994 (Em g t)).bind fun z995 => (aI z995.2 68 (nI i + 1)).bind fun v1003 => (rc z995.2 183 11).bind fun _ => (F_X12_rows 183 v1003 z995.2).bind fun z1004 => if z995.1 = z1004.1 then F_L_law_b18 f 68 69 183 (nI i + 6) z1004.2 else some (0, z1004.2, 0, 0) else if (xs i &&& 63) = 26 then (aI (Em g t) 68 (nI i + 1)).bind fun v1017 => (aI (Em g t) 68 (nI i + 2)).bind fun v1022 => (rc (Em g t) 69 10).bind fun _ => (F_X11_pairs 69 v1017 v1022 (Em g t)).bind fun z1023 => (aI z1023.2 68 (nI i + 1)).bind fun v1031 => (aI z1023.2 68 (nI i + 2)).bind fun v1036 => (rc z1023.2 183 11).bind fun _ => (F_X12_pairs 183 v1031 v1036 z1023.2).bind fun z1037 => if z1023.1 = z1037.1 then F_L_law_b18 f 68 69 183 (nI i + 6) z1037.2 else some (0, z1037.2, 0, 0) else if (xs i &&& 63) = 27 then (aI (Em g t) 68 (nI i + 1)).bind fun v1050 => (rc (Em g t) 69 10).bind fun _ => (F_X11_longest 69 v1050 (Em g t)).bind fun z1051 => (aI z1051.2 68 (nI i + 1)).bind fun v1059 => (rc z1051.2 183 11).bind fun _ => (F_X12_longest 183 v1059 z1051.2).bind fun z1060 => if z1051.1 = z1060.1 then F_L_law_b18 f 68 69 183 (nI i + 6) z1060.2 else some (0, z1060.2, 0, 0) else if (xs i &&& 63) = 28 then (aI (Em g t) 68 (nI i + 1)).bind fun v1073 => (aI (Em g t) 68 (nI i + 2)).bind fun v1078 => (rc (Em g t) 69 10).bind fun _ => (F_X11_longNote 69 v1073 v1078 (Em g t)).bind fun z1079 => (aI z1079.2 68 (nI i + 1)).bind fun v1087 => (aI z1079.2 68 (nI i + 2)).bind fun v1092 => (rc z1079.2 183 11).bind fun _ => (F_X12_longNote 183 v1087 v1092 z1079.2).bind fun z1093 => if z1079.1 = z1093.1 then F_L_law_b18 f 68 69 183 (nI i + 6) z1093.2 else some (0, z1093.2, 0, 0) else if (xs i &&& 63) = 29 then (aI (Em g t) 68 (nI i + 1)).bind fun v1106 => (aI (Em g t) 68 (nI i + 2)).bind fun v1111 => (rc (Em g t) 69 10).bind fun _ => (F_X11_through 69 v1106 v1111 (Em g t)).bind fun z1112 => ((aI z1112.2.1 68 (nI i + 1)).bind fun v1120 => (aI z1112.2.1 68 (nI i + 2)).bind fun v1125 => (rc z1112.2.1 183 11).bind fun _ => (F_X12_through 183 v1120 v1125 z1112.2.1).bind fun z1126 => if z1112.1 = z1126.1 then F_L_law_b18 f 68 69 183 (nI i + 6) z1126.2 else some (0, z1126.2, 0, 0)).map (ac _ z1112.2.2.1 z1112.2.2.2) else if (xs i &&& 63) = 30 then (aI (Em g t) 68 (nI i + 1)).bind fun v1139 => (aI (Em g t) 68 (nI i + 2)).bind fun v1144 => (aI (Em g t) 68 (nI i + 3)).bind fun v1149 => (rc (Em g t) 69 10).bind fun _ => (F_X11_throughNote 69 v1139 v1144 v1149 (Em g t)).bind fun z1150 => ((aI z1150.2.1 68 (nI i + 1)).bind fun v1158 => (aI z1150.2.1 68 (nI i + 2)).bind fun v1163 => (aI z1150.2.1 68 (nI i + 3)).bind fun v1168 => (rc z1150.2.1 183 11).bind fun _ => (F_X12_throughNote 183 v1158 v1163 v1168 z1150.2.1).bind fun z1169 => if z1150.1 = z1169.1 then F_L_law_b18 f 68 69 183 (nI i + 6) z1169.2 else some (0, z1169.2, 0, 0)).map (ac _ z1150.2.2.1 z1150.2.2.2) else if (xs i &&& 63) = 31 then (aI (Em g t) 68 (nI i + 1)).bind fun v1182 => (aI (Em g t) 68 (nI i + 2)).bind fun v1187 => (rc (Em g t) 69 10).bind fun _ => (F_X11_tunes 69 v1182 v1187 (Em g t)).bind fun z1188 => (aI z1188.2 68 (nI i + 1)).bind fun v1196 => (aI z1188.2 68 (nI i + 2)).bind fun v1201 => (rc z1188.2 183 11).bind fun _ => (F_X12_tunes 183 v1196 v1201 z1188.2).bind fun z1202 => if (lg_cmp z1188.1 z1202.1) = 0 then F_L_law_b18 f 68 69 183 (nI i + 6) z1202.2 else some (0, z1202.2, 0, 0) else if (xs i &&& 63) = 32 then (aI (Em g t) 68 (nI i + 1)).bind fun v1216 => (rc (Em g t) 69 10).bind fun _ => (F_X11_finds 69 v1216 (Em g t)).bind fun z1217 => (aI z1217.2 68 (nI i + 1)).bind fun v1225 => (rc z1217.2 183 11).bind fun _ => (F_X12_finds 183 v1225 z1217.2).bind fun z1226 => if z1217.1 = z1226.1 then F_L_law_b18 f 68 69 183 (nI i + 6) z1226.2 else some (0, z1226.2, 0, 0) else if (xs i &&& 63) = 33 then (aI (Em g t) 68 (nI i + 1)).bind fun v1239 => (aI (Em g t) 68 (nI i + 2)).bind fun v1244 => (rc (Em g t) 69 10).bind fun _ => (F_X11_route 69 v1239 v1244 (Em g t)).bind fun z1245 => (aI z1245.2 68 (nI i + 1)).bind fun v1253 => (aI z1245.2 68 (nI i + 2)).bind fun v1258 => (rc z1245.2 183 11).bind fun _ => (F_X12_route 183 v1253 v1258 z1245.2).bind fun z1259 => if z1245.1 = z1259.1 then F_L_law_b18 f 68 69 183 (nI i + 6) z1259.2 else some (0, z1259.2, 0, 0) else if (xs i &&& 63) = 34 then (rc (Em g t) 69 10).bind fun _ => (F_X11_all 69 (Em g t)).bind fun z1268 => (rc z1268.2 183 11).bind fun _ => (F_X12_all 183 z1268.2).bind fun z1272 => if z1268.1 = z1272.1 then F_L_law_b18 f 68 69 183 (nI i + 6) z1272.2 else some (0, z1272.2, 0, 0) else if (xs i &&& 63) = 35 then (aI (Em g t) 68 (nI i + 1)).bind fun v1285 => (aI (Em g t) 68 (nI i + 2)).bind fun v1290 => (rc (Em g t) 69 10).bind fun _ => (F_X11_near 69 v1285 v1290 (Em g t)).bind fun z1291 => (aI z1291.2 68 (nI i + 1)).bind fun v1299 => (aI z1291.2 68 (nI i + 2)).bind fun v1304 => (rc z1291.2 183 11).bind fun _ => (F_X12_near 183 v1299 v1304 z1291.2).bind fun z1305 => if z1291.1 = z1305.1 then F_L_law_b18 f 68 69 183 (nI i + 6) z1305.2 else some (0, z1305.2, 0, 0) else if (xs i &&& 63) = 36 then (aI (Em g t) 68 (nI i + 1)).bind fun v1318 => (aI (Em g t) 68 (nI i + 2)).bind fun v1323 => (aI (Em g t) 68 (nI i + 3)).bind fun v1328 => (rc (Em g t) 69 10).bind fun _ => (F_X11_chance 69 v1318 v1323 v1328 (Em g t)).bind fun z1329 => (aI z1329.2 68 (nI i + 1)).bind fun v1337 => (aI z1329.2 68 (nI i + 2)).bind fun v1342 => (aI z1329.2 68 (nI i + 3)).bind fun v1347 => (rc z1329.2 183 11).bind fun _ => (F_X12_chance 183 v1337 v1342 v1347 z1329.2).bind fun z1348 => if (lg_cmp z1329.1 z1348.1) = 0 then F_L_law_b18 f 68 69 183 (nI i + 6) z1348.2 else some (0, z1348.2, 0, 0) else if (xs i &&& 63) = 37 then (aI (Em g t) 68 (nI i + 1)).bind fun v1362 => (rc (Em g t) 69 10).bind fun _ => (F_X11_likeliest 69 v1362 (Em g t)).bind fun z1363 => (aI z1363.2 68 (nI i + 1)).bind fun v1371 => (rc z1363.2 183 11).bind fun _ => (F_X12_likeliest 183 v1371 z1363.2).bind fun z1372 => if z1363.1 = z1372.1 then F_L_law_b18 f 68 69 183 (nI i + 6) z1372.2 else some (0, z1372.2, 0, 0) else if (xs i &&& 63) = 38 then (aI (Em g t) 68 (nI i + 1)).bind fun v1385 => (aI (Em g t) 68 (nI i + 2)).bind fun v1390 => (aI (Em g t) 68 (nI i + 3)).bind fun v1395 => (rc (Em g t) 69 10).bind fun _ => (F_X11_numbers 69 v1385 v1390 v1395 (Em g t)).bind fun z1396 => (aI z1396.2 68 (nI i + 1)).bind fun v1404 => (aI z1396.2 68 (nI i + 2)).bind fun v1409 => (aI z1396.2 68 (nI i + 3)).bind fun v1414 => (rc z1396.2 183 11).bind fun _ => (F_X12_numbers 183 v1404 v1409 v1414 z1396.2).bind fun z1415 => if z1396.1 = z1415.1 then F_L_law_b18 f 68 69 183 (nI i + 6) z1415.2 else some (0, z1415.2, 0, 0) else if (xs i &&& 63) = 39 then (aI (Em g t) 68 (nI i + 1)).bind fun v1428 => (aI (Em g t) 68 (nI i + 2)).bind fun v1433 => (aI (Em g t) 68 (nI i + 3)).bind fun v1438 => (aI (Em g t) 68 (nI i + 4)).bind fun v1447 => (rc (Em g t) 69 10).bind fun _ => (F_X11_write 69 v1428 v1433 ((v1438.toInt64 <<< (((32 : Int32)).toInt64 &&& 63)) ||| (v1447.toInt64 &&& 4294967295)) (Em g t)).bind fun z1454 => (aI z1454.2 68 (nI i + 1)).bind fun v1462 => (aI z1454.2 68 (nI i + 2)).bind fun v1467 => (aI z1454.2 68 (nI i + 3)).bind fun v1472 => (aI z1454.2 68 (nI i + 4)).bind fun v1481 => (rc z1454.2 183 11).bind fun _ => (F_X12_write 183 v1462 v1467 ((v1472.toInt64 <<< (((32 : Int32)).toInt64 &&& 63)) ||| (v1481.toInt64 &&& 4294967295)) z1454.2).bind fun z1488 => if (lg_cmp z1454.1 z1488.1) = 0 then F_L_law_b18 f 68 69 183 (nI i + 6) z1488.2 else some (0, z1488.2, 0, 0) else if (xs i &&& 63) = 40 then (aI (Em g t) 68 (nI i + 1)).bind fun v1502 => (aI (Em g t) 68 (nI i + 2)).bind fun v1507 => (rc (Em g t) 69 10).bind fun _ => (F_X11_lists 69 v1502 v1507 (Em g t)).bind fun z1508 => (aI z1508.2 68 (nI i + 1)).bind fun v1516 => (aI z1508.2 68 (nI i + 2)).bind fun v1521 => (rc z1508.2 183 11).bind fun _ => (F_X12_lists 183 v1516 v1521 z1508.2).bind fun z1522 => if z1508.1 = z1522.1 then F_L_law_b18 f 68 69 183 (nI i + 6) z1522.2 else some (0, z1522.2, 0, 0) else if (xs i &&& 63) = 41 then (aI (Em g t) 68 (nI i + 1)).bind fun v1535 => (rc (Em g t) 69 10).bind fun _ => (F_X11_image 69 v1535 (Em g t)).bind fun z1536 => (aI z1536.2 68 (nI i + 1)).bind fun v1544 => (rc z1536.2 183 11).bind fun _ => (F_X12_image 183 v1544 z1536.2).bind fun z1545 => if z1536.1 = z1545.1 then F_L_law_b18 f 68 69 183 (nI i + 6) z1545.2 else some (0, z1545.2, 0, 0) else if (xs i &&& 63) = 42 then (aI (Em g t) 68 (nI i + 1)).bind fun v1558 => (rc (Em g t) 69 10).bind fun _ => (F_X11_restore 69 v1558 (Em g t)).bind fun z1559 => (aI z1559.2 68 (nI i + 1)).bind fun v1567 => (rc z1559.2 183 11).bind fun _ => (F_X12_restore 183 v1567 z1559.2).bind fun z1568 => if z1559.1 = z1568.1 then F_L_law_b18 f 68 69 183 (nI i + 6) z1568.2 else some (0, z1568.2, 0, 0) else if (xs i &&& 63) = 43 then (aI (Em g t) 68 (nI i + 1)).bind fun v1581 => (rc (Em g t) 69 10).bind fun _ => (F_X11_count 69 v1581 (Em g t)).bind fun z1582 => (aI z1582.2 68 (nI i + 1)).bind fun v1590 => (rc z1582.2 183 11).bind fun _ => (F_X12_count 183 v1590 z1582.2).bind fun z1591 => if z1582.1 = z1591.1 then F_L_law_b18 f 68 69 183 (nI i + 6) z1591.2 else some (0, z1591.2, 0, 0) else F_L_law_b18 f 68 69 183 (nI i + 6) (Em g t)) → Stq g D X (F_L_law_b18 f 68 69 183 (nI i + 6)) := by
  rintro X rfl
  have X := I.1
  by_cases c0 : (xs i &&& 63) = 0
  · rw [if_pos c0]
    exact st_5c (fc := F_X11_feed 69) (fr := F_X12_feed 183) X h (ok_feed I hD _ _ _ _ _) (fun _ _ e => rcw e)
  rw [if_neg c0]
  by_cases c1 : (xs i &&& 63) = 1
  · rw [if_pos c1]
    exact st_1v (fc := F_X11_valley 69) (fr := F_X12_valley 183) X h (ok_valley I hD _) (fun _ _ e => rcw e)
  rw [if_neg c1]
  by_cases c2 : (xs i &&& 63) = 2
  · rw [if_pos c2]
    exact st_1c (fc := F_X11_fault 69) (fr := F_X12_fault 183) X h (ok_fault I hD _) (fun _ _ e => rcw e)
  rw [if_neg c2]
  by_cases c3 : (xs i &&& 63) = 3
  · rw [if_pos c3]
    exact st_2c (fc := F_X11_person 69) (fr := F_X12_person 183) X h (ok_person I hD _ _) (fun _ _ e => rcw e)
  rw [if_neg c3]
  by_cases c4 : (xs i &&& 63) = 4
  · rw [if_pos c4]
    exact st_2c (fc := F_X11_sounds 69) (fr := F_X12_sounds 183) X h (ok_sounds I hD _ _) (fun _ _ e => rcw e)
  rw [if_neg c4]
  by_cases c5 : (xs i &&& 63) = 5
  · rw [if_pos c5]
    exact st_2c (fc := F_X11_place 69) (fr := F_X12_place 183) X h (ok_place I hD _ _) (fun _ _ e => rcw e)
  rw [if_neg c5]
  by_cases c6 : (xs i &&& 63) = 6
  · rw [if_pos c6]
    exact st_2c (fc := F_X11_note 69) (fr := F_X12_note 183) X h (ok_note I hD _ _) (fun _ _ e => rcw e)
  rw [if_neg c6]
  by_cases c7 : (xs i &&& 63) = 7
  · rw [if_pos c7]
    exact st_2c (fc := F_X11_steps 69) (fr := F_X12_steps 183) X h (ok_steps I hD _ _) (fun _ _ e => rcw e)
  rw [if_neg c7]
  by_cases c8 : (xs i &&& 63) = 8
  · rw [if_pos c8]
    exact st_1c (fc := F_X11_whole 69) (fr := F_X12_whole 183) X h (ok_whole I hD _) (fun _ _ e => rcw e)
  rw [if_neg c8]
  by_cases c9 : (xs i &&& 63) = 9
  · rw [if_pos c9]
    exact st_1c (fc := F_X11_owners 69) (fr := F_X12_owners 183) X h (ok_owners I hD _) (fun _ _ e => rcw e)
  rw [if_neg c9]
  by_cases c10 : (xs i &&& 63) = 10
  · rw [if_pos c10]
    exact st_2c (fc := F_X11_go 69) (fr := F_X12_go 183) X h (ok_go I hD _ _) (fun _ _ e => rcw e)
  rw [if_neg c10]
  by_cases c11 : (xs i &&& 63) = 11
  · rw [if_pos c11]
    exact st_1c (fc := F_X11_days 69) (fr := F_X12_days 183) X h (ok_days I hD _) (fun _ _ e => rcw e)
  rw [if_neg c11]
  by_cases c12 : (xs i &&& 63) = 12
  · rw [if_pos c12]
    exact st_2c (fc := F_X11_ear 69) (fr := F_X12_ear 183) X h (ok_ear I hD _ _) (fun _ _ e => rcw e)
  rw [if_neg c12]
  by_cases c13 : (xs i &&& 63) = 13
  · rw [if_pos c13]
    exact st_2c (fc := F_X11_blank 69) (fr := F_X12_blank 183) X h (ok_blank I hD _ _) (fun _ _ e => rcw e)
  rw [if_neg c13]
  by_cases c14 : (xs i &&& 63) = 14
  · rw [if_pos c14]
    exact st_1c (fc := F_X11_undo 69) (fr := F_X12_undo 183) X h (ok_undo I hD _) (fun _ _ e => rcw e)
  rw [if_neg c14]
  by_cases c15 : (xs i &&& 63) = 15
  · rw [if_pos c15]
    exact st_2c (fc := F_X11_judge 69) (fr := F_X12_judge 183) X h (ok_judge I hD _ _) (fun _ _ e => rcw e)
  rw [if_neg c15]
  by_cases c16 : (xs i &&& 63) = 16
  · rw [if_pos c16]
    exact st_1c (fc := F_X11_perform 69) (fr := F_X12_perform 183) X h (ok_perform I hD _) (fun _ _ e => rcw e)
  rw [if_neg c16]
  by_cases c17 : (xs i &&& 63) = 17
  · rw [if_pos c17]
    exact st_2c (fc := F_X11_year 69) (fr := F_X12_year 183) X h (ok_year I hD _ _) (fun _ _ e => rcw e)
  rw [if_neg c17]
  by_cases c18 : (xs i &&& 63) = 18
  · rw [if_pos c18]
    exact st_2c (fc := F_X11_blanks 69) (fr := F_X12_blanks 183) X h (ok_blanks I hD _ _) (fun _ _ e => rcw e)
  rw [if_neg c18]
  by_cases c19 : (xs i &&& 63) = 19
  · rw [if_pos c19]
    exact st_2c (fc := F_X11_attempt 69) (fr := F_X12_attempt 183) X h (ok_attempt I hD _ _) (fun _ _ e => rcw e)
  rw [if_neg c19]
  by_cases c20 : (xs i &&& 63) = 20
  · rw [if_pos c20]
    exact st_1c (fc := F_X11_knowing 69) (fr := F_X12_knowing 183) X h (ok_knowing I hD _) (fun _ _ e => rcw e)
  rw [if_neg c20]
  by_cases c21 : (xs i &&& 63) = 21
  · rw [if_pos c21]
    exact st_1c (fc := F_X11_begins 69) (fr := F_X12_begins 183) X h (ok_begins I hD _) (fun _ _ e => rcw e)
  rw [if_neg c21]
  by_cases c22 : (xs i &&& 63) = 22
  · rw [if_pos c22]
    exact st_1c (fc := F_X11_atOnce 69) (fr := F_X12_atOnce 183) X h (ok_atOnce I hD _) (fun _ _ e => rcw e)
  rw [if_neg c22]
  by_cases c23 : (xs i &&& 63) = 23
  · rw [if_pos c23]
    exact st_3c (fc := F_X11_choir 69) (fr := F_X12_choir 183) X h (ok_choir I hD _ _ _) (fun _ _ e => rcw e)
  rw [if_neg c23]
  by_cases c24 : (xs i &&& 63) = 24
  · rw [if_pos c24]
    exact st_2c (fc := F_X11_row 69) (fr := F_X12_row 183) X h (ok_row I hD _ _) (fun _ _ e => rcw e)
  rw [if_neg c24]
  by_cases c25 : (xs i &&& 63) = 25
  · rw [if_pos c25]
    exact st_1c (fc := F_X11_rows 69) (fr := F_X12_rows 183) X h (ok_rows I hD _) (fun _ _ e => rcw e)
  rw [if_neg c25]
  by_cases c26 : (xs i &&& 63) = 26
  · rw [if_pos c26]
    exact st_2c (fc := F_X11_pairs 69) (fr := F_X12_pairs 183) X h (ok_pairs I hD _ _) (fun _ _ e => rcw e)
  rw [if_neg c26]
  by_cases c27 : (xs i &&& 63) = 27
  · rw [if_pos c27]
    exact st_1c (fc := F_X11_longest 69) (fr := F_X12_longest 183) X h (ok_longest I hD _) (fun _ _ e => rcw e)
  rw [if_neg c27]
  by_cases c28 : (xs i &&& 63) = 28
  · rw [if_pos c28]
    exact st_2c (fc := F_X11_longNote 69) (fr := F_X12_longNote 183) X h (ok_longNote I hD _ _) (fun _ _ e => rcw e)
  rw [if_neg c28]
  by_cases c29 : (xs i &&& 63) = 29
  · rw [if_pos c29]
    exact st_2v (fc := F_X11_through 69) (fr := F_X12_through 183) X h (ok_through I hD _ _) (fun _ _ e => rcw e)
  rw [if_neg c29]
  by_cases c30 : (xs i &&& 63) = 30
  · rw [if_pos c30]
    exact st_3v (fc := F_X11_throughNote 69) (fr := F_X12_throughNote 183) X h (ok_throughNote I hD _ _ _) (fun _ _ e => rcw e)
  rw [if_neg c30]
  by_cases c31 : (xs i &&& 63) = 31
  · rw [if_pos c31]
    exact st_2L (fc := F_X11_tunes 69) (fr := F_X12_tunes 183) X h (ok_tunes I hD _ _) (fun _ _ e => rcw e)
  rw [if_neg c31]
  by_cases c32 : (xs i &&& 63) = 32
  · rw [if_pos c32]
    exact st_1c (fc := F_X11_finds 69) (fr := F_X12_finds 183) X h (ok_finds I hD _) (fun _ _ e => rcw e)
  rw [if_neg c32]
  by_cases c33 : (xs i &&& 63) = 33
  · rw [if_pos c33]
    exact st_2c (fc := F_X11_route 69) (fr := F_X12_route 183) X h (ok_route I hD _ _) (fun _ _ e => rcw e)
  rw [if_neg c33]
  by_cases c34 : (xs i &&& 63) = 34
  · rw [if_pos c34]
    exact st_0c (fc := F_X11_all 69) (fr := F_X12_all 183) X h (ok_all I hD) (fun _ _ e => rcw e)
  rw [if_neg c34]
  by_cases c35 : (xs i &&& 63) = 35
  · rw [if_pos c35]
    exact st_2c (fc := F_X11_near 69) (fr := F_X12_near 183) X h (ok_near I hD _ _) (fun _ _ e => rcw e)
  rw [if_neg c35]
  by_cases c36 : (xs i &&& 63) = 36
  · rw [if_pos c36]
    exact st_3L (fc := F_X11_chance 69) (fr := F_X12_chance 183) X h (ok_chance I hD _ _ _) (fun _ _ e => rcw e)
  rw [if_neg c36]
  by_cases c37 : (xs i &&& 63) = 37
  · rw [if_pos c37]
    exact st_1c (fc := F_X11_likeliest 69) (fr := F_X12_likeliest 183) X h (ok_likeliest I hD _) (fun _ _ e => rcw e)
  rw [if_neg c37]
  by_cases c38 : (xs i &&& 63) = 38
  · rw [if_pos c38]
    exact st_3c (fc := F_X11_numbers 69) (fr := F_X12_numbers 183) X h (ok_numbers I hD _ _ _) (fun _ _ e => rcw e)
  rw [if_neg c38]
  by_cases c39 : (xs i &&& 63) = 39
  · rw [if_pos c39]
    exact st_4L (fc := fun a b c d h => F_X11_write 69 a b ((c.toInt64 <<< (((32 : Int32)).toInt64 &&& 63)) ||| (d.toInt64 &&& 4294967295)) h) (fr := fun a b c d h => F_X12_write 183 a b ((c.toInt64 <<< (((32 : Int32)).toInt64 &&& 63)) ||| (d.toInt64 &&& 4294967295)) h) X h (ok_write I hD _ _ _) (fun _ _ e => rcw e)
  rw [if_neg c39]
  by_cases c40 : (xs i &&& 63) = 40
  · rw [if_pos c40]
    exact st_2c (fc := F_X11_lists 69) (fr := F_X12_lists 183) X h (ok_lists I hD _ _) (fun _ _ e => rcw e)
  rw [if_neg c40]
  by_cases c41 : (xs i &&& 63) = 41
  · rw [if_pos c41]
    exact st_1c (fc := F_X11_image 69) (fr := F_X12_image 183) X h (ok_image I hD _) (fun _ _ e => rcw e)
  rw [if_neg c41]
  by_cases c42 : (xs i &&& 63) = 42
  · rw [if_pos c42]
    exact st_1c (fc := F_X11_restore 69) (fr := F_X12_restore 183) X h (ok_restore I hD _) (fun _ _ e => rcw e)
  rw [if_neg c42]
  by_cases c43 : (xs i &&& 63) = 43
  · rw [if_pos c43]
    exact st_1c (fc := F_X11_count 69) (fr := F_X12_count 183) X h (ok_count I hD _) (fun _ _ e => rcw e)
  rw [if_neg c43]
  exact ⟨g, t, 0, 0, v, a, n, nx, ac_0 _, rfl, by omega, by omega, IV_m (by omega) hD I⟩
theorem lw_loop (hL : L ≤ 3072) : ∀ (k i fuel : Nat) (g : Sk) (t : Tb) (v : Nat) (a : Nat → Int32) (D n nx : Nat), (L - i) / 6 ≤ k → k < fuel → D + 100 * k < 2 ^ 30 → i ≤ L + 6 → g.1 = (L, xs) → IV g t v a D n nx → ∃ h' mc ms, F_L_law_b18 fuel 68 69 183 (nI i) (Em g t) = some (1, h', mc, ms) ∧ mc ≤ 1000 * k ∧ ms ≤ 12000 * k := by
  intro k
  induction k with
  | zero =>
    intro i fuel g t v a D n nx hk hf hD hi hg I
    obtain ⟨f, rfl⟩ : ∃ f, fuel = f + 1 := ⟨fuel - 1, by omega⟩
    refine ⟨Em g t, 0, 0, ?_, by omega, by omega⟩
    rw [F_L_law_b18, sc_al hg, Option.bind_some, if_pos ((lw_c hL (by omega)).mpr (by omega))]
  | succ k ih =>
    intro i fuel g t v a D n nx hk hf hD hi hg I
    obtain ⟨f, rfl⟩ : ∃ f, fuel = f + 1 := ⟨fuel - 1, by omega⟩
    by_cases c : i + 6 ≤ L
    · rw [F_L_law_b18, sc_al hg, Option.bind_some, if_neg (fun h => (lw_c hL (by omega)).mp h c), sc_aI hg hL (by omega), Option.bind_some]
      refine fin_stp (g := g) (D := D) (K := F_L_law_b18 f 68 69 183 (nI i + 6)) (lw_st I (by omega) ⟨hg, hL, c⟩ _ rfl) ?_
      intro g2 t2 v2 a2 n2 nx2 hg2 J
      rw [show nI i + 6 = nI (i + 6) from nI_add i 6]
      exact ih (i + 6) f g2 t2 v2 a2 (D + 100) n2 nx2 (by omega) (by omega) (by omega) (by omega) (hg2.trans hg) J
    · refine ⟨Em g t, 0, 0, ?_, by omega, by omega⟩
      rw [F_L_law_b18, sc_al hg, Option.bind_some, if_pos ((lw_c hL (by omega)).mpr c)]
end XLw
