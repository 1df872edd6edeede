/-! ===== the loop of lines, both readers ===== -/
section XLd
variable {g g' g0 : Sk} {t t1 t' s s1 s' : Tb} {T : Nat → Int32} {n b e km v nc l cl x f p q : Nat}
theorem b53_n (X : Fx g) (N : Nc t T n f p) {i : Int32} {fuel : Nat} (hf : 1 ≤ fuel) : F_X4_read_b53 fuel 70 i (Em g t) = F_X4_read_b86 70 (Em g t) := by
  obtain ⟨fu, rfl⟩ : ∃ z, fuel = z + 1 := ⟨fuel - 1, by omega⟩
  rw [F_X4_read_b53, x_i70_4 X, Option.bind_some, x_i70_11 X, Option.bind_some, N.2.2.1, if_pos (show ¬ nI f = (0 : Int32) from f_nz N.2.1)]
  split <;> rfl
theorem b83_d (X0 : Fx g0) (N : Dd s T n f p) {fuel : Nat} (hf : 1 ≤ fuel) : F_X12_valley_b83 fuel 183 (Em g0 s) = F_X12_valley_b110 183 (Em g0 s) := by
  obtain ⟨fu, rfl⟩ : ∃ z, fuel = z + 1 := ⟨fuel - 1, by omega⟩
  rw [F_X12_valley_b83, x_i183_11 X0, Option.bind_some, N.2.2.1, if_pos (show ¬ nI f = (0 : Int32) from f_nz N.2.1)]
theorem b83_n (X0 : Fx g0) (N : Nm s T n f p q) {fuel : Nat} (hf : 2 ≤ fuel) : ∃ s', F_X12_valley_b83 fuel 183 (Em g0 s) = F_X12_valley_b110 183 (Em g0 s') ∧ Kn s s' ∧ Dd s' T n f p := by
  rcases N with N | N
  · exact ⟨s, b83_d X0 N (by omega), Kn_r, N⟩
  · obtain ⟨fu, rfl⟩ : ∃ z, fuel = z + 2 := ⟨fuel - 2, by omega⟩
    have NN : Nm s T n f p q := Or.inr N
    obtain ⟨s1, e1, q1, d1⟩ := n_fails X0 NN 2
    obtain ⟨s2, e2, K2, d2⟩ := en_nm (q := 0) X0 (Or.inl d1)
    refine ⟨s2, ?_, Kn_t (Kn_m (Km_q (by decide) q1)) K2, d2⟩
    have bf : bI false = (0 : Int32) := by decide
    have no : ∀ k : Nat, k < 2 ^ 31 → k ≠ 25 → F_X12_is 183 (nI k) (Em g0 s) = some (bI false, Em g0 s) := fun k h1 h2 => n_is X0 NN h1 h2
    have el : F_X12_readLine 183 (Em g0 s) = some ((), Em g0 s1) := by
      unfold F_X12_readLine
      rw [x_i183_11 X0, Option.bind_some, N.2.1, if_pos (show nI 0 = (0 : Int32) from rfl), x_rc183 X0, Option.bind_some, show (1 : Int32) = nI 1 from rfl, no 1 (by decide) (by decide), Option.bind_some, if_pos bf, x_rc183 X0, Option.bind_some, show (2 : Int32) = nI 2 from rfl, no 2 (by decide) (by decide), Option.bind_some, if_pos bf, x_rc183 X0, Option.bind_some, show (3 : Int32) = nI 3 from rfl, no 3 (by decide) (by decide), Option.bind_some, if_pos bf, x_rc183 X0, Option.bind_some, show (4 : Int32) = nI 4 from rfl, no 4 (by decide) (by decide), Option.bind_some, if_pos bf, x_rc183 X0, Option.bind_some, show (9 : Int32) = nI 9 from rfl, no 9 (by decide) (by decide), Option.bind_some, if_neg (fun h => h bf), x_rc183 X0, Option.bind_some, show (10 : Int32) = nI 10 from rfl, no 10 (by decide) (by decide), Option.bind_some, if_pos bf, x_rc183 X0, Option.bind_some, show nI 2 = (2 : Int32) from rfl, e1, Option.bind_some]
    rw [F_X12_valley_b83, x_i183_11 X0, Option.bind_some, N.2.1, if_neg (show ¬ ¬ nI 0 = (0 : Int32) from fun h => h rfl), x_i183_9 X0, Option.bind_some, N.2.2.2.1, if_neg (show ¬ nI 25 = (24 : Int32) by decide), x_rc183 X0, Option.bind_some, el, Option.bind_some, x_rc183 X0, Option.bind_some, e2, Option.bind_some]
    exact b83_d X0 d2 (by omega)
end XLd
