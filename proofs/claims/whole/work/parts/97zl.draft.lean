/-! ===== the draft of a valley against the fresh one: frames ===== -/
def DS (g : Sk) (v : Nat) : Prop := VaS g v ∧ 205 ≤ v ∧ StS g (v + 7) ∧ gR g 70 10 = some v
def Fdw (v : Nat) (t t' : Tb) : Prop := (∀ b k, b < v → tI t' b k = tI t b k) ∧ (∀ b, b < v → tA t' b = tA t b) ∧ tJ t' = tJ t
def Fs (s s' : Tb) : Prop := tI s' = tI s ∧ (∀ b, b ≠ 187 → tA s' b = tA s b) ∧ tJ s' = tJ s
def Kv (v : Nat) (t t' : Tb) : Prop := (∀ b k, b < v → (b = 70 → k ∉ [3, 5, 6, 7, 8, 9, 11, 12]) → tI t' b k = tI t b k) ∧ (∀ b, b < v → b ≠ 72 → tA t' b = tA t b) ∧ (∀ b, b < v → tJ t' b = tJ t b)
def Kn (s s' : Tb) : Prop := (∀ b k, (b = 183 → k ∉ [6, 7, 9, 10, 11, 12, 15]) → tI s' b k = tI s b k) ∧ (∀ b, b ≠ 187 → tA s' b = tA s b) ∧ tJ s' = tJ s
theorem mem_c7 (k : Nat) (h : k ∈ [3, 5, 6, 7, 8, 11, 12]) : k ∈ [3, 5, 6, 7, 8, 9, 11, 12] := by
  simp only [List.mem_cons, List.not_mem_nil, or_false] at h ⊢
  omega
theorem mem_m6 (k : Nat) (h : k ∈ [6, 7, 9, 10, 11, 12]) : k ∈ [6, 7, 9, 10, 11, 12, 15] := by
  simp only [List.mem_cons, List.not_mem_nil, or_false] at h ⊢
  omega
section XDr
variable {g g0 : Sk} {t t' t'' s s' s'' : Tb} {T : Nat → Int32} {n b e km f p q nc v k : Nat} {S : List Nat} {x : Int32}
theorem Fdw_r : Fdw v t t := ⟨fun _ _ _ => rfl, fun _ _ => rfl, rfl⟩
theorem Fdw_t (h : Fdw v t t') (h2 : Fdw v t' t'') : Fdw v t t'' := ⟨fun b k q => (h2.1 b k q).trans (h.1 b k q), fun b q => (h2.2.1 b q).trans (h.2.1 b q), h2.2.2.trans h.2.2⟩
theorem Fdw_a (hb : v ≤ b) : Fdw v t (wa t b k x) := ⟨fun _ _ _ => rfl, fun c hc => tA_an (by omega), rfl⟩
theorem Fdw_i (hb : v ≤ b) : Fdw v t (wi t b k x) := ⟨fun c j hc => tI_ia (by omega), fun _ _ => rfl, rfl⟩
theorem Fs_r : Fs s s := ⟨rfl, fun _ _ => rfl, rfl⟩
theorem Fs_t (h : Fs s s') (h2 : Fs s' s'') : Fs s s'' := ⟨h2.1.trans h.1, fun b q => (h2.2.1 b q).trans (h.2.1 b q), h2.2.2.trans h.2.2⟩
theorem Fs_a : Fs s (wa s 187 k x) := ⟨rfl, fun _ q => tA_an q, rfl⟩
theorem Kv_r : Kv v t t := ⟨fun _ _ _ _ => rfl, fun _ _ _ => rfl, fun _ _ => rfl⟩
theorem Kv_t (h : Kv v t t') (h2 : Kv v t' t'') : Kv v t t'' := ⟨fun b k q r => (h2.1 b k q r).trans (h.1 b k q r), fun b q r => (h2.2.1 b q r).trans (h.2.1 b q r), fun b q => (h2.2.2 b q).trans (h.2.2 b q)⟩
theorem Kv_c (h : Kc t t') : Kv v t t' := ⟨fun b k _ q => h.1 b k (fun e m => q e (mem_c7 k m)), fun b _ q => h.2.1 b q, fun b _ => by rw [h.2.2]⟩
theorem Kv_w (h : Fdw v t t') : Kv v t t' := ⟨fun b k q _ => h.1 b k q, fun b q _ => h.2.1 b q, fun b _ => by rw [h.2.2]⟩
theorem Kn_r : Kn s s := ⟨fun _ _ _ => rfl, fun _ _ => rfl, rfl⟩
theorem Kn_t (h : Kn s s') (h2 : Kn s' s'') : Kn s s'' := ⟨fun b k q => (h2.1 b k q).trans (h.1 b k q), fun b q => (h2.2.1 b q).trans (h.2.1 b q), h2.2.2.trans h.2.2⟩
theorem Kn_m (h : Km s s') : Kn s s' := ⟨fun b k q => h.1 b k (fun e m => q e (mem_m6 k m)), h.2.1, h.2.2.1⟩
theorem Kn_w (h : Fs s s') : Kn s s' := ⟨fun b k _ => by rw [h.1], h.2.1, h.2.2⟩
theorem Lv_w (L : Lv g t g0 s T n b e km) (hv : 205 ≤ v) (h1 : Fdw v t t') (h2 : Fs s s') : Lv g t' g0 s' T n b e km := by
  obtain ⟨X, R, M, ⟨c5, c6, c11⟩, ⟨m6, m7, m9, m11⟩, e0, kc, vl, k1, k2, k3, k4, k5⟩ := L
  refine ⟨X, ⟨R.1, by rw [h1.1 70 4 (by omega)]; exact R.2.1, fun k hk => by rw [h1.2.1 71 (by omega)]; exact R.2.2 k hk⟩, ⟨M.1, by rw [h2.1]; exact M.2.1, fun k hk => by rw [h2.2.1 186 (by decide)]; exact M.2.2 k hk⟩, ⟨by rw [h1.1 70 5 (by omega)]; exact c5, by rw [h1.1 70 6 (by omega)]; exact c6, by rw [h1.1 70 11 (by omega)]; exact c11⟩, ?_, e0, kc, vl, k1, k2, by rw [h1.1 70 7 (by omega)]; exact k3, by rw [h1.1 70 8 (by omega)]; exact k4, by rw [h2.1]; exact k5.1, by rw [h1.1 70 12 (by omega)]; exact k5.2⟩
  rw [h2.1]
  exact ⟨m6, m7, m9, m11⟩
theorem Nc_w (N : Nc t T n f p) (hv : 205 ≤ v) (h1 : Fdw v t t') : Nc t' T n f p := Nc_k N (h1.1 70 4 (by omega)) (h1.1 70 5 (by omega)) (h1.1 70 6 (by omega)) (h1.1 70 11 (by omega)) (h1.1 70 12 (by omega)) (h1.2.1 71 (by omega))
theorem Dd_w (N : Dd s T n f p) (h2 : Fs s s') : Dd s' T n f p := ⟨⟨N.1.1, by rw [h2.1]; exact N.1.2.1, fun k hk => by rw [h2.2.1 186 (by decide)]; exact N.1.2.2 k hk⟩, N.2.1, by rw [h2.1]; exact N.2.2.1, by rw [h2.1]; exact N.2.2.2⟩
theorem Nm_w (N : Nm s T n f p q) (h2 : Fs s s') (h : tA s' 187 328 = tA s 187 328) : Nm s' T n f p q := by
  rcases N with N | ⟨M, m11, m1, m9, m6, hp, nc, m2, m3⟩
  · exact Or.inl (Dd_w N h2)
  · exact Or.inr ⟨⟨M.1, by rw [h2.1]; exact M.2.1, fun k hk => by rw [h2.2.1 186 (by decide)]; exact M.2.2 k hk⟩, by rw [h2.1]; exact m11, m1, by rw [h2.1]; exact m9, by rw [h2.1]; exact m6, hp, nc, by rw [h]; exact m2, m3⟩
/-! the draft's cells -/
theorem d_70 (X : Fx g) (D : DS g v) : fR (Em g t) 70 3 10 = some v := y_fR (Or.inl (x_S X 4 rfl)) D.2.2.2 (by decide) (by decide) rfl
theorem v_w0 (V : VaS g v) : wI (Em g t) v 9 0 x = some (Em g (wi t v 0 x)) := y_wI (Or.inr V.2.1) (v_69 V) (by decide) rfl
theorem v_w1 (V : VaS g v) : wI (Em g t) v 9 1 x = some (Em g (wi t v 1 x)) := y_wI (Or.inr V.2.1) (v_69 V) (by decide) rfl
theorem v_w2 (V : VaS g v) : wI (Em g t) v 9 2 x = some (Em g (wi t v 2 x)) := y_wI (Or.inr V.2.1) (v_69 V) (by decide) rfl
theorem v_w3 (V : VaS g v) : wI (Em g t) v 9 3 x = some (Em g (wi t v 3 x)) := y_wI (Or.inr V.2.1) (v_69 V) (by decide) rfl
theorem v_w4 (V : VaS g v) : wI (Em g t) v 9 4 x = some (Em g (wi t v 4 x)) := y_wI (Or.inr V.2.1) (v_69 V) (by decide) rfl
theorem v_s1 (V : VaS g v) (hk : k < 54) : sI (Em g t) (v + 1) (nI k) x = some (Em g (wa t (v + 1) k x)) := y_sI (Or.inr (by rw [V.2.2.2.1.1]; decide)) V.2.2.2.1.2 (by have := v_69 V; omega) (by decide) hk
theorem v_s2 (V : VaS g v) (hk : k < 6) : sI (Em g t) (v + 2) (nI k) x = some (Em g (wa t (v + 2) k x)) := y_sI (Or.inr (by rw [V.2.2.2.2.1.1]; decide)) V.2.2.2.2.1.2 (by have := v_69 V; omega) (by decide) hk
theorem v_s3 (V : VaS g v) (hk : k < 24) : sI (Em g t) (v + 3) (nI k) x = some (Em g (wa t (v + 3) k x)) := y_sI (Or.inr (by rw [V.2.2.2.2.2.1.1]; decide)) V.2.2.2.2.2.1.2 (by have := v_69 V; omega) (by decide) hk
theorem v_s4 (V : VaS g v) (hk : k < 6) : sI (Em g t) (v + 4) (nI k) x = some (Em g (wa t (v + 4) k x)) := y_sI (Or.inr (by rw [V.2.2.2.2.2.2.1.1]; decide)) V.2.2.2.2.2.2.1.2 (by have := v_69 V; omega) (by decide) hk
theorem v_s5 (V : VaS g v) (hk : k < 6) : sI (Em g t) (v + 5) (nI k) x = some (Em g (wa t (v + 5) k x)) := y_sI (Or.inr (by rw [V.2.2.2.2.2.2.2.1.1]; decide)) V.2.2.2.2.2.2.2.1.2 (by have := v_69 V; omega) (by decide) hk
theorem v_s6 (V : VaS g v) (hk : k < 10) : sI (Em g t) (v + 6) (nI k) x = some (Em g (wa t (v + 6) k x)) := y_sI (Or.inr (by rw [V.2.2.2.2.2.2.2.2.1.1]; decide)) V.2.2.2.2.2.2.2.2.1.2 (by have := v_69 V; omega) (by decide) hk
end XDr
