/-! ===== a line: person ===== -/
def Psi (t0 s0 : Tb) (v u N K fo : Nat) (t s : Tb) : Prop := (∀ b k, v ≤ b → ¬ (b = v + 7 ∧ k = 3) → tI t b k = tI t0 b k) ∧ (∀ b, v ≤ b → b ≠ v + 8 → b ≠ v + 9 → b ≠ v + 10 → tA t b = tA t0 b) ∧ (∀ x, x ≠ u → tA t (v + 8) x = tA t0 (v + 8) x ∧ tA t (v + 9) x = tA t0 (v + 9) x ∧ tA t (v + 10) x = tA t0 (v + 10) x) ∧ (∀ x, x ≠ 108 → x ≠ 109 + u → x ≠ 115 + u → x ≠ 121 + u → tA s 187 x = tA s0 187 x) ∧ (tA t (v + 8) u = tA s 187 (109 + u) ∧ ∃ m, m < K ∧ tA s 187 (109 + u) = nI m) ∧ (tA t (v + 9) u = tA s 187 (115 + u) ∧ ∃ m, m ≤ 9 ∧ tA s 187 (115 + u) = nI m) ∧ (tA t (v + 10) u = tA s 187 (121 + u) ∧ (tA s 187 (121 + u) = -nI 1 ∨ ∃ m, m < N ∧ tA s 187 (121 + u) = nI m)) ∧ (tI t (v + 7) 3 = tA s 187 108 ∧ (tA s 187 108 = nI fo ∨ tA s 187 108 = nI (fo ||| 2 ^ u)))
section XPe
variable {g g0 : Sk} {t t1 t' t0 s s1 s' s0 : Tb} {T : Nat → Int32} {n b e km f p q nc v u N K i m fo : Nat} {x z : Int32} {S S' : List Nat}
theorem d_r0 (D : DS g v) : fR (Em g t) (v + 7) 5 0 = some (v + 8) := z_r0 D.2.2.1
theorem d_r1 (D : DS g v) : fR (Em g t) (v + 7) 5 1 = some (v + 9) := z_r1 D.2.2.1
theorem d_r2 (D : DS g v) : fR (Em g t) (v + 7) 5 2 = some (v + 10) := z_r2 D.2.2.1
theorem d_s8 (D : DS g v) (h : u < 6) : sI (Em g t) (v + 8) (nI u) x = some (Em g (wa t (v + 8) u x)) := z_s1 D.2.2.1 h
theorem d_s9 (D : DS g v) (h : u < 6) : sI (Em g t) (v + 9) (nI u) x = some (Em g (wa t (v + 9) u x)) := z_s2 D.2.2.1 h
theorem d_s10 (D : DS g v) (h : u < 6) : sI (Em g t) (v + 10) (nI u) x = some (Em g (wa t (v + 10) u x)) := z_s3 D.2.2.1 h
theorem Ps_q (hv : 205 ≤ v) (I : Psi t0 s0 v u N K fo t s) (q1 : Qs 70 S t t1) (q2 : Qs 183 S' s s1) : Psi t0 s0 v u N K fo t1 s1 := by
  unfold Psi at I ⊢
  rw [q1.2.1, q2.2.1, q1.1 (v + 7) 3 (fun e => absurd e (by omega))]
  exact ⟨fun b k hb h => (q1.1 b k (fun e => absurd e (by omega))).trans (I.1 b k hb h), I.2⟩
theorem Ps_9 (hu : u < 6) (hm : m ≤ 9) (I : Psi t0 s0 v u N K fo t s) : Psi t0 s0 v u N K fo (wa t (v + 9) u (nI m)) (wa s 187 (115 + u) (nI m)) := by
  obtain ⟨i1, i2, i3, i4, i5, i6, i7, i8⟩ := I
  unfold Psi
  rw [tA_an (show v + 8 ≠ v + 9 by omega), tA_an (show v + 10 ≠ v + 9 by omega), tA_as, tA_as, upd_s, upd_s, upd_n (show 109 + u ≠ 115 + u by omega), upd_n (show 121 + u ≠ 115 + u by omega), upd_n (show 108 ≠ 115 + u by omega)]
  refine ⟨i1, fun b hb h1 h2 h3 => (tA_an h2).trans (i2 b hb h1 h2 h3), fun x hx => ?_, fun x h1 h2 h3 h4 => ?_, i5, ⟨rfl, m, hm, rfl⟩, i7, i8⟩
  · rw [upd_n hx]; exact i3 x hx
  · rw [upd_n h3]; exact i4 x h1 h2 h3 h4
theorem Ps_10 (hu : u < 6) (hm : m < N) (I : Psi t0 s0 v u N K fo t s) : Psi t0 s0 v u N K fo (wa t (v + 10) u (nI m)) (wa s 187 (121 + u) (nI m)) := by
  obtain ⟨i1, i2, i3, i4, i5, i6, i7, i8⟩ := I
  unfold Psi
  rw [tA_an (show v + 8 ≠ v + 10 by omega), tA_an (show v + 9 ≠ v + 10 by omega), tA_as, tA_as, upd_s, upd_s, upd_n (show 109 + u ≠ 121 + u by omega), upd_n (show 115 + u ≠ 121 + u by omega), upd_n (show 108 ≠ 121 + u by omega)]
  refine ⟨i1, fun b hb h1 h2 h3 => (tA_an h3).trans (i2 b hb h1 h2 h3), fun x hx => ?_, fun x h1 h2 h3 h4 => ?_, i5, i6, ⟨rfl, Or.inr ⟨m, hm, rfl⟩⟩, i8⟩
  · rw [upd_n hx]; exact i3 x hx
  · rw [upd_n h4]; exact i4 x h1 h2 h3 h4
theorem or_tw (hu : u < 6) (h : x = nI fo ∨ x = nI (fo ||| 2 ^ u)) : x ||| ((1 : Int32) <<< (nI u &&& 31)) = nI (fo ||| 2 ^ u) := by
  rw [bb_pow u (by omega)]
  rcases h with rfl | rfl
  · exact fa_or _ _
  · rw [fa_or, Nat.or_assoc, Nat.or_self]
theorem Ps_f (hu : u < 6) (I : Psi t0 s0 v u N K fo t s) : Psi t0 s0 v u N K fo (wi t (v + 7) 3 (tI t (v + 7) 3 ||| ((1 : Int32) <<< (nI u &&& 31)))) (wa s 187 108 (tA s 187 108 ||| ((1 : Int32) <<< (nI u &&& 31)))) := by
  obtain ⟨i1, i2, i3, i4, i5, i6, i7, i8⟩ := I
  have o1 := or_tw hu i8.2
  unfold Psi
  rw [tA_wi, tA_as, upd_s, upd_n (show 109 + u ≠ 108 by omega), upd_n (show 115 + u ≠ 108 by omega), upd_n (show 121 + u ≠ 108 by omega), tI_is, i8.1]
  refine ⟨fun b k hb h => ?_, i2, i3, fun x h1 h2 h3 h4 => ?_, i5, i6, i7, rfl, Or.inr o1⟩
  · by_cases c : b = v + 7
    · subst c
      rw [tI_ik (fun e => h ⟨rfl, e⟩)]
      exact i1 _ k hb h
    · rw [tI_ia c]
      exact i1 b k hb h
  · rw [upd_n h1]; exact i4 x h1 h2 h3 h4
/-! after a fault -/
theorem pe_110 (X : Fx g) (D : DS g v) : F_X4_readPerson_b110 70 (Em g t) = some ((), Em g (wi t v 4 (tI t v 4 + 1))) := by
  unfold F_X4_readPerson_b110
  rw [d_70 X D, Option.bind_some, v_i4 D.1, Option.bind_some, v_w4 D.1, Option.bind_some]
theorem pe_nc (X : Fx g) (D : DS g v) (N0 : Nc t T n f p) {x y : Int32} {fuel : Nat} (hf : 1 ≤ fuel) : ∃ t', F_X4_readPerson_b75 fuel 70 x y (Em g t) = some ((), Em g t') ∧ Kv v t t' ∧ Nc t' T n f p := by
  obtain ⟨fu, rfl⟩ : ∃ z, fuel = z + 1 := ⟨fuel - 1, by omega⟩
  have h : Fdw v t (wi t v 4 (tI t v 4 + 1)) := Fdw_i (Nat.le_refl _)
  refine ⟨_, ?_, Kv_w h, Nc_w N0 D.2.1 h⟩
  rw [F_X4_readPerson_b75, x_i70_4 X, Option.bind_some, x_i70_11 X, Option.bind_some, N0.2.2.1, if_pos (show ¬ nI f = (0 : Int32) from f_nz N0.2.1), pe_110 X D]
  split <;> rfl
theorem pe_83 (X0 : Fx g0) (h11 : tI s 183 11 = nI 0) : F_X12_readPerson_b83 183 (Em g0 s) = some ((), Em g0 (wa s 187 4 (tA s 187 4 + 1))) := by
  have hA : ∀ s : Tb, aI (Em g0 s) 187 4 = some (tA s 187 4) := fun s => x_a187 X0 (k := 4) (by decide)
  have hS : ∀ (s : Tb) (z : Int32), sI (Em g0 s) 187 4 z = some (Em g0 (wa s 187 4 z)) := fun s z => x_s187 X0 (k := 4) (by decide)
  unfold F_X12_readPerson_b83
  rw [x_i183_11 X0, Option.bind_some, h11, if_neg (show ¬ ¬ nI 0 = (0 : Int32) from fun h => h rfl), x_r183_4 X0, Option.bind_some, hA, Option.bind_some, hS, Option.bind_some]
theorem pe_83n (X0 : Fx g0) (N0 : Nm s T n f p q) : ∃ s', F_X12_readPerson_b83 183 (Em g0 s) = some ((), Em g0 s') ∧ Kn s s' ∧ Nm s' T n f p q := by
  rcases N0 with N0 | N0
  · refine ⟨s, ?_, Kn_r, Or.inl N0⟩
    unfold F_X12_readPerson_b83
    rw [x_i183_11 X0, Option.bind_some, N0.2.2.1, if_pos (show ¬ nI f = (0 : Int32) from f_nz N0.2.1)]
  · have h : Fs s (wa s 187 4 (tA s 187 4 + 1)) := Fs_a
    exact ⟨_, pe_83 X0 N0.2.1, Kn_w h, Nm_w (Or.inr N0) h (by rw [tA_as, upd_n (by omega)])⟩
theorem pe_nm (X0 : Fx g0) (N0 : Nm s T n f p q) {x : Int32} {fuel : Nat} (hf : 1 ≤ fuel) : ∃ s', F_X12_readPerson_b65 fuel 183 x (Em g0 s) = some ((), Em g0 s') ∧ Kn s s' ∧ Nm s' T n f p q := by
  obtain ⟨fu, rfl⟩ : ∃ z, fuel = z + 1 := ⟨fuel - 1, by omega⟩
  obtain ⟨s', e1, K1, N1⟩ := pe_83n X0 N0
  refine ⟨s', ?_, K1, N1⟩
  have ef : F_X12_readFlag 183 x (Em g0 s) = some (0, Em g0 s) := by
    unfold F_X12_readFlag
    rw [x_rc183 X0, Option.bind_some, show (6 : Int32) = nI 6 from rfl, n_eat X0 N0 (by decide) (by decide), Option.bind_some, if_pos rfl, x_rc183 X0, Option.bind_some, show (7 : Int32) = nI 7 from rfl, n_eat X0 N0 (by decide) (by decide), Option.bind_some, if_pos rfl, x_rc183 X0, Option.bind_some, show (8 : Int32) = nI 8 from rfl, n_eat X0 N0 (by decide) (by decide), Option.bind_some, if_pos rfl]
  rw [F_X12_readPerson_b65, x_i183_11 X0, Option.bind_some, x_rc183 X0, Option.bind_some, ef, Option.bind_some, if_pos rfl, e1]
  split <;> rfl
end XPe
