/-! ===== the history: the class's ring, the reference's rows ===== -/
def Rg (lo hi : Nat) (t t' : Tb) : Prop := (∀ a k, a < lo ∨ hi < a → tI t' a k = tI t a k) ∧ (∀ b, b < lo ∨ hi < b → tA t' b = tA t b) ∧ (∀ b, tJ t' b = tJ t b)
def HP (t : Tb) (a : Nat → Int32) (D n nx : Nat) : Prop := (a 127 = nI n ∧ n ≤ 10 ∧ nx < 10) ∧ (tI t 103 1 = nI nx ∧ tI t 103 2 = nI n) ∧ ∀ j, j < n → WB a (vN a) (vK a) (vP a) D (128 + 20 * j) ∧ StP t (105 + 4 * ((nx + 10 - n + j) % 10)) (vP a) a (128 + 20 * j)
def n10 (n : Nat) : Nat := if 10 < n + 1 then 10 else n + 1
section XH
variable {g : Sk} {t : Tb} {a : Nat → Int32}
variable {D v x y n nx lo hi : Nat} {b c w : Nat → Int32} {t' t'' : Tb}
theorem Rg_r : Rg lo hi t t := ⟨fun _ _ _ => rfl, fun _ _ => rfl, fun _ => rfl⟩
theorem Rg_t (h : Rg lo hi t t') (h2 : Rg lo hi t' t'') : Rg lo hi t t'' := ⟨fun a k q => (h2.1 a k q).trans (h.1 a k q), fun b q => (h2.2.1 b q).trans (h.2.1 b q), fun b => (h2.2.2 b).trans (h.2.2 b)⟩
theorem Rg_o (h : Ox x t t') (h1 : lo ≤ x) (h2 : x + 3 ≤ hi) : Rg lo hi t t' := ⟨fun a k q => h.1 a k (by omega), fun b q => h.2.1 b (by omega) (by omega) (by omega), h.2.2⟩
theorem Rg_wi {k : Nat} {z : Int32} (h : Rg lo hi t t') (h1 : lo ≤ x) (h2 : x ≤ hi) : Rg lo hi t (wi t' x k z) := ⟨fun a j q => (tI_ia (by omega)).trans (h.1 a j q), h.2.1, h.2.2⟩
theorem Rg_w {lo' hi' : Nat} (h : Rg lo hi t t') (h1 : lo' ≤ lo) (h2 : hi ≤ hi') : Rg lo' hi' t t' := ⟨fun a k q => h.1 a k (by omega), fun b q => h.2.1 b (by omega), h.2.2⟩
theorem StP_i {P o k : Nat} {f : Nat → Int32} {z : Int32} (hx : x ≠ y) (h : StP t x P f o) : StP (wi t y k z) x P f o := by
  unfold StP
  rw [tI_ia hx, tI_ia hx, tA_wi]
  exact h
theorem StP_g {P o : Nat} {f : Nat → Int32} (hx : x + 3 < lo ∨ hi < x) (h : StP t x P f o) (s : Rg lo hi t t') : StP t' x P f o := by
  unfold StP
  rw [s.1 x 3 (by omega), s.1 x 4 (by omega), s.2.1 (x + 1) (by omega), s.2.1 (x + 2) (by omega), s.2.1 (x + 3) (by omega)]
  exact h
theorem StS_r (X : Fx g) {i : Nat} (h : i < 10) : StS g (105 + 4 * i) := by
  rcases (show i = 0 ∨ i = 1 ∨ i = 2 ∨ i = 3 ∨ i = 4 ∨ i = 5 ∨ i = 6 ∨ i = 7 ∨ i = 8 ∨ i = 9 by omega) with e | e | e | e | e | e | e | e | e | e <;> subst e <;> exact StS_f X rfl
theorem x_ring (X : Fx g) {i : Nat} (h : i < 10) : aR (Em g t) 104 (nI i) = some (105 + 4 * i) := y_aR (m := 10) (Or.inl (x_S X 25 rfl)) (x_N X 10 rfl) (X.2.2.1 i h) (by decide) (by decide) h
theorem n10_le (h : n ≤ 10) : n10 n ≤ 10 := by unfold n10; split <;> omega
theorem psh_o (hn : a 127 = nI n) (hn2 : n ≤ 10) {i : Nat} (hi : i < 127 ∨ 328 ≤ i) : psh a w i = a i := by
  have e : vDe a = n := by unfold vDe; rw [hn, tn_n (by omega)]
  unfold psh
  rw [e]
  by_cases h : n = 10
  · rw [if_pos h, upd_n (by omega), fb_put_out (by omega), upd_n (by omega), fb_put_out (by omega)]
  · rw [if_neg h, upd_n (by omega), fb_put_out (by omega)]
theorem psh_127 (hn : a 127 = nI n) (hn2 : n ≤ 10) : psh a w 127 = nI (n10 n) := by
  have e : vDe a = n := by unfold vDe; rw [hn, tn_n (by omega)]
  unfold psh n10
  rw [e]
  by_cases h : n = 10
  · rw [if_pos h, upd_s, if_pos (by omega)]
  · rw [if_neg h, upd_s, if_neg (by omega)]
theorem psh_new (hn : a 127 = nI n) (hn2 : n ≤ 10) {k : Nat} (hk : k < 20) : psh a w (128 + 20 * (n10 n - 1) + k) = w k := by
  have e : vDe a = n := by unfold vDe; rw [hn, tn_n (by omega)]
  unfold psh n10
  rw [e]
  by_cases h : n = 10
  · rw [if_pos h, if_pos (by omega), upd_n (by omega), fb_put_in (by omega) (by omega)]
    exact congrArg w (by omega)
  · rw [if_neg h, if_neg (by omega), upd_n (by omega), fb_put_in (by omega) (by omega)]
    exact congrArg w (by omega)
theorem psh_old (hn : a 127 = nI n) (hn2 : n ≤ 10) {j k : Nat} (hk : k < 20) (hj : j + 1 < n10 n) : psh a w (128 + 20 * j + k) = a (128 + 20 * (if n = 10 then j + 1 else j) + k) := by
  have e : vDe a = n := by unfold vDe; rw [hn, tn_n (by omega)]
  unfold n10 at hj
  unfold psh
  rw [e]
  by_cases h : n = 10
  · rw [if_pos (by omega)] at hj
    rw [if_pos h, if_pos h, upd_n (by omega), fb_put_out (by omega), upd_n (by omega), fb_put_in (by omega) (by omega)]
    exact congrArg a (by omega)
  · rw [if_neg (by omega)] at hj
    rw [if_neg h, if_neg h, upd_n (by omega), fb_put_out (by omega)]
theorem Vq_psh (hn : a 127 = nI n) (hn2 : n ≤ 10) : Vq a (psh a w) := fun i hi => psh_o hn hn2 (by omega)
theorem k_remember (X : Fx g) (H : HP t a D n nx) (hP : vP a ≤ 6) (hy : y = 95 ∨ y = 99) (S : StP t y (vP a) c 107) (Wc : WB c (vN a) (vK a) (vP a) D 107) (hw : ∀ k, k < 20 → w k = c (107 + k)) (hb : Nq a b) : ∃ t', F_X2_remember 103 y (Em g t) = some ((), Em g t') ∧ Rg 103 144 t t' ∧ HP t' (psh b w) D (n10 n) ((nx + 1) % 10) := by
  obtain ⟨⟨h1, h2, h3⟩, ⟨h4, h5⟩, h6⟩ := H
  have Zy : StS g y := by
    rcases hy with e | e
    · subst e
      exact StS_95 X
    · subst e
      exact StS_99 X
  obtain ⟨t1, e1, o1, s1⟩ := k_copyP (t := t) (StS_r X h3) Zy (by omega) hP S
  have hbn : b 127 = nI n := by rw [hb 127 (by decide)]; exact h1
  have q : Vq a (psh b w) := Vq_t (Nq_V hb) (Vq_psh hbn h2)
  have hn10 := n10_le h2
  have hmin : ∀ h : xH, F_J9_min_7cf53 (nI (n + 1)) (nI 10) h = some (nI (n10 n), h) := by
    intro h
    unfold F_J9_min_7cf53 n10
    simp (disch := omega) only [nI_ltI]
    split <;> rfl
  refine ⟨wi (wi t1 103 1 (nI ((nx + 1) % 10))) 103 2 (nI (n10 n)), ?_, Rg_wi (Rg_wi (Rg_o o1 (by omega) (by omega)) (by decide) (by decide)) (by decide) (by decide), ?_⟩
  · have z1 : tI t1 103 1 = nI nx := by rw [o1.1 103 1 (by omega)]; exact h4
    have z2 : tI (wi t1 103 1 (nI ((nx + 1) % 10))) 103 2 = nI n := by rw [tI_ik (by decide), o1.1 103 2 (by omega)]; exact h5
    unfold F_X2_remember
    simp (disch := omega) only [x_rc103 X, x_r103_0 X, x_i103_1 X, x_w103_1 X, x_i103_2 X, x_w103_2 X, Option.bind_some, ↓reduceIte, ite_not, fa_lit, nI_add, nI_mulN, nI_an, nI_sub, irm_n, nI_eq, nI_leI, nI_ltI, v_pow, v_shr, v_bit, nI_cl, nI_m1e, h4, x_ring X, z_rc (StS_r X h3), e1, z1, z2, hmin]
  · refine ⟨⟨psh_127 hbn h2, hn10, Nat.mod_lt _ (by decide)⟩, ⟨by rw [tI_ik (by decide), tI_is], tI_is⟩, fun j hj => ?_⟩
    rw [q_vN q, q_vK q, q_vP q]
    by_cases hl : j + 1 < n10 n
    · have hpo : ∀ k, k < 20 → psh b w (128 + 20 * j + k) = a (128 + 20 * (if n = 10 then j + 1 else j) + k) := fun k hk => by
        rw [psh_old hbn h2 hk hl, hb _ (by omega)]
      have hj' : (if n = 10 then j + 1 else j) < n := by
        unfold n10 at hl
        split <;> split at hl <;> omega
      have h := h6 _ hj'
      refine ⟨WB_c hP hpo h.1, ?_⟩
      have hs : (nx + 10 - n + (if n = 10 then j + 1 else j)) % 10 = ((nx + 1) % 10 + 10 - n10 n + j) % 10 ∧ (nx + 10 - n + (if n = 10 then j + 1 else j)) % 10 ≠ nx := by
        unfold n10 at hl ⊢
        split <;> split at hl <;> split <;> omega
      rw [← hs.1]
      generalize hsl : (nx + 10 - n + (if n = 10 then j + 1 else j)) % 10 = sl at h hs
      have hne := hs.2
      exact StP_c hP hpo (StP_i (by omega) (StP_i (by omega) (StP_o (by omega) h.2 o1)))
    · have hje : j = n10 n - 1 := by omega
      have hpn : ∀ k, k < 20 → psh b w (128 + 20 * j + k) = c (107 + k) := fun k hk => by
        rw [hje, psh_new hbn h2 hk, hw k hk]
      refine ⟨WB_c hP hpn Wc, ?_⟩
      have hs : ((nx + 1) % 10 + 10 - n10 n + j) % 10 = nx := by
        have : 1 ≤ n10 n := by unfold n10; split <;> omega
        omega
      rw [hs]
      exact StP_c hP hpn (StP_i (by omega) (StP_i (by omega) s1))
theorem k_fmod {u : Nat} (hx : nx < 10) (hu : u ≤ 10) (h : xH) : F_J9_floorMod_7cf53 (nI nx - nI u) (nI 10) h = some (nI ((nx + 10 - u) % 10), h) := by
  have key : ∀ nx, nx < 10 → ∀ u, u ≤ 10 → (if 0 ≤ ((nI nx - nI u) ^^^ nI 10) then irm (nI nx - nI u) (nI 10) = nI ((nx + 10 - u) % 10) else if irm (nI nx - nI u) (nI 10) = 0 then irm (nI nx - nI u) (nI 10) = nI ((nx + 10 - u) % 10) else irm (nI nx - nI u) (nI 10) + nI 10 = nI ((nx + 10 - u) % 10)) := by decide +kernel
  have k2 := key nx hx u hu
  unfold F_J9_floorMod_7cf53
  rw [if_neg (by decide)]
  split at k2
  · rename_i c; rw [if_pos c, k2]
  · rename_i c
    rw [if_neg c]
    split at k2
    · rename_i c2; rw [if_pos c2, k2]
    · rename_i c2; rw [if_neg c2, k2]
theorem k_back (X : Fx g) (H : HP t a D n nx) (hP : vP a ≤ 6) {u : Nat} (hu1 : 1 ≤ u) (hu : u ≤ n) (hb : ∀ i, i < 107 ∨ 128 ≤ i → b i = a i) (hb1 : b 127 = nI (n - u)) : ∃ t', F_X2_bringBack 103 (nI u) 95 (Em g t) = some ((), Em g t') ∧ Rg 95 144 t t' ∧ HP t' b D (n - u) ((nx + 10 - u) % 10) ∧ StP t' 95 (vP a) a (128 + 20 * (n - u)) ∧ WB a (vN a) (vK a) (vP a) D (128 + 20 * (n - u)) := by
  obtain ⟨⟨h1, h2, h3⟩, ⟨h4, h5⟩, h6⟩ := H
  have hm : (nx + 10 - u) % 10 < 10 := Nat.mod_lt _ (by decide)
  have q : Vq a b := fun i hi => hb i (by omega)
  have hbl := h6 (n - u) (by omega)
  rw [show (nx + 10 - n + (n - u)) % 10 = (nx + 10 - u) % 10 by omega] at hbl
  generalize hs : (nx + 10 - u) % 10 = sl at hm hbl
  obtain ⟨t1, e1, o1, s1⟩ := k_copyP (t := wi (wi t 103 1 (nI sl)) 103 2 (nI (n - u))) (StS_95 X) (StS_r X hm) (by omega) hP (StP_i (by omega) (StP_i (by omega) hbl.2))
  refine ⟨t1, ?_, Rg_t (Rg_wi (Rg_wi Rg_r (by decide) (by decide)) (by decide) (by decide)) (Rg_o o1 (by decide) (by decide)), ⟨⟨hb1, by omega, hm⟩, ⟨?_, ?_⟩, fun j hj => ?_⟩, s1, hbl.1⟩
  · have hf := k_fmod h3 (show u ≤ 10 by omega) (Em g t)
    rw [hs] at hf
    have z2 : tI (wi t 103 1 (nI sl)) 103 2 = nI n := by rw [tI_ik (by decide)]; exact h5
    have z3 : tI (wi (wi t 103 1 (nI sl)) 103 2 (nI (n - u))) 103 1 = nI sl := by rw [tI_ik (by decide), tI_is]
    unfold F_X2_bringBack
    simp only [fa_lit, x_rc103 X, x_r103_0 X, x_i103_1 X, x_w103_1 X, x_i103_2 X, x_w103_2 X, Option.bind_some, h4, hf, z2, nI_sub hu, z3, x_ring X hm, z_rc (StS_95 X), e1]
  · rw [o1.1 103 1 (by decide), tI_ik (by decide), tI_is]
  · rw [o1.1 103 2 (by decide), tI_is]
  · have h := h6 j (by omega)
    have hc : ∀ k, k < 20 → b (128 + 20 * j + k) = a (128 + 20 * j + k) := fun k hk => hb _ (by omega)
    rw [q_vN q, q_vK q, q_vP q]
    refine ⟨WB_c hP hc h.1, ?_⟩
    rw [show (sl + 10 - (n - u) + j) % 10 = (nx + 10 - n + j) % 10 by omega]
    exact StP_c hP hc (StP_o (by omega) (StP_i (by omega) (StP_i (by omega) h.2)) o1)
end XH
