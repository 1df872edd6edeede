/-! ===== what holds between two calls ===== -/
def Sw (P : Nat → Bool) (g : Sk) (t t' : Tb) : Prop := (∀ a k, P a = false → scI a k = false → tI t' a k = tI t a k) ∧ (∀ b, P b = false → scA g b = false → tA t' b = tA t b) ∧ (∀ b, P b = false → scJ b = false → tJ t' b = tJ t b)
/-- the trays -/
def Tr (t : Tb) : Prop := ∀ i, i < 4 → (tA t 202 i = -nI 1 ∧ tI t (167 + 2 * i) 1 = -nI 1) ∨ ∃ s n, s < 4 ∧ n ≤ 40 ∧ (tA t 202 i = nI s ∧ tI t (167 + 2 * i) 2 = nI s) ∧ (tA t 203 i = nI n ∧ tI t (167 + 2 * i) 1 = nI n) ∧ ∀ j, j < n → tJ t 204 (40 * i + j) = tJ t (168 + 2 * i) j
def sgm (a : Nat → Int32) (i : Nat) : Nat → Int32 := fun k => a (1229 * (i + 1) + k)
/-- the images -/
def Im (g : Sk) (t : Tb) (a : Nat → Int32) (D : Nat) : Prop := ∀ i, i < 2 → (tA t 185 i = nI 0 ∧ gQ g 146 i = none) ∨ (tA t 185 i = nI 1 ∧ ∃ v, gQ g 146 i = some v ∧ VaS g v ∧ WA (sgm a i) D ∧ VaP g t v (sgm a i) ∧ StP t (175 + 4 * i) (vP (sgm a i)) (sgm a i) 107)
/-- the tape and the faults -/
def Rd (t : Tb) : Prop := ((∃ n, n ≤ 900 ∧ tI t 70 1 = nI n ∧ tI t 183 5 = nI n ∧ ∀ k, k < n → tA t 71 k = tA t 186 k) ∧ tA t 196 0 = nI 0) ∧ tI t 70 11 = tI t 183 13 ∧ tI t 70 12 = tI t 183 14
def IV (g : Sk) (t : Tb) (v : Nat) (a : Nat → Int32) (D n nx : Nat) : Prop := Fx g ∧ tA t 184 = a ∧ CP g t v a D ∧ HP t a D n nx ∧ Tr t ∧ Im g t a D ∧ Rd t
section XI
variable {g : Sk} {t : Tb} {a : Nat → Int32}
variable {D v x n nx lo hi : Nat} {b w : Nat → Int32} {t' t'' : Tb} {P : Nat → Bool}
theorem Sw_r : Sw P g t t := ⟨fun _ _ _ _ => rfl, fun _ _ _ => rfl, fun _ _ _ => rfl⟩
theorem Sw_t (h : Sw P g t t') (h2 : Sw P g t' t'') : Sw P g t t'' := ⟨fun a k p q => (h2.1 a k p q).trans (h.1 a k p q), fun b p q => (h2.2.1 b p q).trans (h.2.1 b p q), fun b p q => (h2.2.2 b p q).trans (h.2.2 b p q)⟩
theorem Sw_m (h : Sm g t t') : Sw P g t t' := ⟨fun a k _ q => h.1 a k q, fun b _ q => h.2.1 b q, fun b _ q => h.2.2 b q⟩
theorem Sw_g (h : Rg lo hi t t') (hp : ∀ b, lo ≤ b → b ≤ hi → P b = true) : Sw P g t t' := by
  have ho : ∀ b, P b = false → b < lo ∨ hi < b := fun b q => by
    by_cases h1 : lo ≤ b
    · by_cases h2 : b ≤ hi
      · rw [hp b h1 h2] at q
        exact absurd q (by decide)
      · omega
    · omega
  exact ⟨fun a k p _ => h.1 a k (ho a p), fun b p _ => h.2.1 b (ho b p), fun b _ _ => h.2.2 b⟩
theorem Sw_wr {c : Nat} {f : Nat → Int32} (h : Sw P g t t') (hc : P c = true ∨ scA g c = true) : Sw P g t (wr t' c f) := by
  refine ⟨h.1, fun b p q => ?_, h.2.2⟩
  have hne : b ≠ c := by
    rintro rfl
    rcases hc with e | e
    · rw [e] at p; exact absurd p (by decide)
    · rw [e] at q; exact absurd q (by decide)
  exact (tA_rn hne).trans (h.2.1 b p q)
theorem Sw_wi {c k : Nat} {z : Int32} (h : Sw P g t t') (hc : P c = true ∨ scI c k = true) : Sw P g t (wi t' c k z) := by
  refine ⟨fun b j p q => ?_, h.2.1, h.2.2⟩
  have hne : ¬ (b = c ∧ j = k) := by
    rintro ⟨rfl, rfl⟩
    rcases hc with e | e
    · rw [e] at p; exact absurd p (by decide)
    · rw [e] at q; exact absurd q (by decide)
  by_cases e : b = c
  · exact (tI_ik (fun e2 => hne ⟨e, e2⟩)).trans (h.1 b j p q)
  · exact (tI_ia e).trans (h.1 b j p q)
theorem Sw_wj {c k : Nat} {z : Int64} (h : Sw P g t t') (hc : P c = true) : Sw P g t (wj t' c k z) := by
  refine ⟨h.1, h.2.1, fun b p q => ?_⟩
  have hne : b ≠ c := by
    rintro rfl
    rw [hc] at p; exact absurd p (by decide)
  exact (tJ_jn hne).trans (h.2.2 b p q)
theorem Sw_wq {c : Nat} {f : Nat → Int64} (h : Sw P g t t') (hc : P c = true) : Sw P g t (wq t' c f) := by
  refine ⟨h.1, h.2.1, fun b p q => ?_⟩
  have hne : b ≠ c := by
    rintro rfl
    rw [hc] at p; exact absurd p (by decide)
  exact (tJ_ln hne).trans (h.2.2 b p q)
theorem sI_f {b k : Nat} (h : b ≠ 99 ∧ b ≠ 148 ∧ b ≠ 153 ∧ b ≠ 157 ∧ b ≠ 70 ∧ b ≠ 183) : scI b k = false := by
  have h1 : (b == 99) = false := by simp; omega
  have h2 : (b == 148) = false := by simp; omega
  have h3 : (b == 153) = false := by simp; omega
  have h4 : (b == 157) = false := by simp; omega
  have h5 : (b == 70) = false := by simp; omega
  have h6 : (b == 183) = false := by simp; omega
  unfold scI
  rw [h1, h2, h3, h4, h5, h6]
  rfl
theorem sA_f (X : Fx g) {b : Nat} (h1 : 103 ≤ b) (h2 : b < 148 ∨ (167 ≤ b ∧ b < 183)) : scA g b = false := by
  have key : ∀ b, b < 183 → 103 ≤ b → (b < 148 ∨ 167 ≤ b) → S0 b ≠ 30 ∧ S0 b ≠ 33 ∧ scF b = false := by decide +kernel
  have k2 := key b (by omega) h1 (by omega)
  have hs := (X.1 b (by omega) (by omega)).1
  exact sc_n (by rw [hs]; exact k2.1) (by rw [hs]; exact k2.2.1) k2.2.2
theorem LwP_w {l : Nat} (hp : ∀ b, 205 ≤ b → P b = false) (h : LwP g t x a l) (s : Sw P g t t') : LwP g t' x a l := by
  have hx := h.1.1.1
  refine ⟨h.1, fun k hk => ?_⟩
  rw [s.2.1 (x + 1) (hp _ (by omega)) (sc_n (by rw [h.1.2.2.2.1.1]; decide) (by rw [h.1.2.2.2.1.1]; decide) (sc_205 (by omega)))]
  exact h.2 k hk
theorem VaP_w (V : VaS g v) (hp : ∀ b, (84 ≤ b ∧ b ≤ 94) ∨ 205 ≤ b → P b = false) (h : VaP g t v a) (s : Sw P g t t') : VaP g t' v a := by
  have hv := V.1
  have ei : ∀ k, tI t' v k = tI t v k := fun k => s.1 v k (hp v (by omega)) (sI_v V.1)
  have ea : ∀ j, 1 ≤ j → j ≤ 6 → tA t' (v + j) = tA t (v + j) := fun j h1 h6 => s.2.1 (v + j) (hp _ (by omega)) (sA_v V h1 h6)
  unfold VaP
  rw [ei, ei, ei, ei, ei, ea 1 (by decide) (by decide), ea 2 (by decide) (by decide), ea 3 (by decide) (by decide), ea 4 (by decide) (by decide), ea 5 (by decide) (by decide), ea 6 (by decide) (by decide)]
  refine ⟨h.1, h.2.1, h.2.2.1, h.2.2.2.1, ?_⟩
  rcases h.2.2.2.2 with q | ⟨q, w, hw, hL⟩
  · exact Or.inl q
  · exact Or.inr ⟨q, w, hw, LwP_w (fun b hb => hp b (Or.inr hb)) hL s⟩
theorem StP_w {Q o : Nat} {f : Nat → Int32} (h3 : scI x 3 = false) (h4 : scI x 4 = false) (a1 : scA g (x + 1) = false) (a2 : scA g (x + 2) = false) (a3 : scA g (x + 3) = false) (hp : ∀ b, x ≤ b → b ≤ x + 3 → P b = false) (h : StP t x Q f o) (s : Sw P g t t') : StP t' x Q f o := by
  unfold StP
  rw [s.1 x 3 (hp x (by omega) (by omega)) h3, s.1 x 4 (hp x (by omega) (by omega)) h4, s.2.1 _ (hp _ (by omega) (by omega)) a1, s.2.1 _ (hp _ (by omega) (by omega)) a2, s.2.1 _ (hp _ (by omega) (by omega)) a3]
  exact h
theorem StP_f (X : Fx g) {Q o : Nat} {f : Nat → Int32} (hx : 103 ≤ x) (hx2 : x + 3 < 148 ∨ (167 ≤ x ∧ x + 3 < 183)) (hp : ∀ b, x ≤ b → b ≤ x + 3 → P b = false) (h : StP t x Q f o) (s : Sw P g t t') : StP t' x Q f o := StP_w (sI_f (by omega)) (sI_f (by omega)) (sA_f X (by omega) (by omega)) (sA_f X (by omega) (by omega)) (sA_f X (by omega) (by omega)) hp h s
theorem CP_w (X : Fx g) (hp : ∀ b, (84 ≤ b ∧ b ≤ 98) ∨ 205 ≤ b → P b = false) (C : CP g t v a D) (s : Sw P g t t') : CP g t' v a D := ⟨C.1, C.2.1, VaP_w C.2.1 (fun b hb => hp b (by omega)) C.2.2.1 s, C.2.2.2.1, StP_w rfl rfl (sc_x X rfl) (sc_x X rfl) (sc_x X rfl) (fun b h1 h2 => hp b (by omega)) C.2.2.2.2 s⟩
theorem HP_w (X : Fx g) (hp : ∀ b, 103 ≤ b → b ≤ 144 → P b = false) (H : HP t a D n nx) (s : Sw P g t t') : HP t' a D n nx := by
  obtain ⟨h1, h2, h3⟩ := H
  refine ⟨h1, ?_, fun j hj => ⟨(h3 j hj).1, ?_⟩⟩
  · rw [s.1 103 1 (hp _ (by decide) (by decide)) rfl, s.1 103 2 (hp _ (by decide) (by decide)) rfl]
    exact h2
  · have hm : (nx + 10 - n + j) % 10 < 10 := Nat.mod_lt _ (by decide)
    exact StP_f X (by omega) (by omega) (fun b q1 q2 => hp b (by omega) (by omega)) (h3 j hj).2 s
theorem Tr_w (X : Fx g) (hp : ∀ b, (167 ≤ b ∧ b ≤ 174) ∨ (202 ≤ b ∧ b ≤ 204) → P b = false) (T : Tr t) (s : Sw P g t t') : Tr t' := by
  intro i hi
  have e1 : ∀ k, tI t' (167 + 2 * i) k = tI t (167 + 2 * i) k := fun k => s.1 _ k (hp _ (by omega)) (sI_f (by omega))
  have e2 : tA t' 202 = tA t 202 := s.2.1 202 (hp _ (by omega)) (sc_x X rfl)
  have e3 : tA t' 203 = tA t 203 := s.2.1 203 (hp _ (by omega)) (sc_x X rfl)
  have e4 : tJ t' 204 = tJ t 204 := s.2.2 204 (hp _ (by omega)) rfl
  have e5 : tJ t' (168 + 2 * i) = tJ t (168 + 2 * i) := s.2.2 _ (hp _ (by omega)) (by
    unfold scJ
    simp only [List.contains_eq_mem, decide_eq_false_iff_not, List.mem_cons, List.not_mem_nil, or_false]
    omega)
  rw [e1, e1, e2, e3, e4, e5]
  exact T i hi
theorem Im_w (X : Fx g) (hp : ∀ b, (84 ≤ b ∧ b ≤ 94) ∨ 205 ≤ b ∨ (175 ≤ b ∧ b ≤ 182) ∨ b = 185 → P b = false) {D' : Nat} (hD : D ≤ D') (hD2 : D' < 2 ^ 30) (hb : ∀ i, 1229 ≤ i → b i = a i) (I : Im g t a D) (s : Sw P g t t') : Im g t' b D' := by
  intro i hi
  have e0 : sgm b i = sgm a i := by
    funext k
    exact hb _ (by omega)
  rw [e0, s.2.1 185 (hp _ (by omega)) (sc_x X rfl)]
  rcases I i hi with q | ⟨q, v, h1, h2, h3, h4, h5⟩
  · exact Or.inl q
  · exact Or.inr ⟨q, v, h1, h2, WA_m hD hD2 h3, VaP_w h2 (fun b hb => hp b (by omega)) h4 s, StP_f X (by omega) (by omega) (fun b q1 q2 => hp b (by omega)) h5 s⟩
theorem Rd_w (X : Fx g) (hp : ∀ b, b = 70 ∨ b = 71 ∨ b = 183 ∨ b = 186 ∨ b = 196 → P b = false) (R : Rd t) (s : Sw P g t t') : Rd t' := by
  unfold Rd
  rw [s.1 70 1 (hp _ (by omega)) rfl, s.1 70 11 (hp _ (by omega)) rfl, s.1 70 12 (hp _ (by omega)) rfl, s.1 183 5 (hp _ (by omega)) rfl, s.1 183 13 (hp _ (by omega)) rfl, s.1 183 14 (hp _ (by omega)) rfl, s.2.1 71 (hp _ (by omega)) (sc_x X rfl), s.2.1 186 (hp _ (by omega)) (sc_x X rfl), s.2.1 196 (hp _ (by omega)) (sc_x X rfl)]
  exact R
theorem HP_m {D' : Nat} (hD : D ≤ D') (H : HP t a D n nx) : HP t a D' n nx := ⟨H.1, H.2.1, fun j hj => ⟨WB_m hD (H.2.2 j hj).1, (H.2.2 j hj).2⟩⟩
theorem CP_m {D' : Nat} (hD : D ≤ D') (hD2 : D' < 2 ^ 30) (C : CP g t v a D) : CP g t v a D' := ⟨WA_m hD hD2 C.1, C.2⟩
theorem Im_m {D' : Nat} (hD : D ≤ D') (hD2 : D' < 2 ^ 30) (I : Im g t a D) : Im g t a D' := by
  intro i hi
  rcases I i hi with q | ⟨q, v, h1, h2, h3, h4⟩
  · exact Or.inl q
  · exact Or.inr ⟨q, v, h1, h2, WA_m hD hD2 h3, h4⟩
theorem IV_m {D' : Nat} (hD : D ≤ D') (hD2 : D' < 2 ^ 30) (I : IV g t v a D n nx) : IV g t v a D' n nx := ⟨I.1, I.2.1, CP_m hD hD2 I.2.2.1, HP_m hD I.2.2.2.1, I.2.2.2.2.1, Im_m hD hD2 I.2.2.2.2.2.1, I.2.2.2.2.2.2⟩
theorem IV_s (I : IV g t v a D n nx) (s : Sm g t t') : IV g t' v a D n nx := by
  obtain ⟨X, ha, C, H, T, M, R⟩ := I
  have s2 : Sw (fun _ => false) g t t' := Sw_m s
  exact ⟨X, by rw [Sm_a X s]; exact ha, CP_s X C s, HP_w X (fun _ _ _ => rfl) H s2, Tr_w X (fun _ _ => rfl) T s2, Im_w X (fun _ _ => rfl) (Nat.le_refl D) C.1.2.2 (fun _ _ => rfl) M s2, Rd_w X (fun _ _ => rfl) R s2⟩
end XI
