/-! ===== the end ===== -/
theorem x_goal_ok : x_goal := by
  intro L xs hL
  obtain ⟨t', e1, I⟩ := law_start (L := L) (xs := xs)
  obtain ⟨h', mc, ms, e2, m1, m2⟩ := lw_loop (xs := xs) hL 512 0 FU (gF (L, xs)) t' 84 _ 0 0 0 (by omega) (by decide) (by omega) (by omega) rfl I
  refine ⟨h', mc + 136, ms + 26952, ?_, by omega, by omega⟩
  have h0 : x_h0 (L, xs) = x_h0' (L, xs) := rfl
  rw [h0, e1, e2, Option.map_some]
  rfl
theorem whole_start {p : Program} {e : Env} {s : State} {m : MethodId} {below : List Frame} {meth : Method} {c : Code} (l : Launch) {b L : Nat} {xs : Nat → Int32} (hL : L ≤ 3072) (C0 : lw_At p s m meth c b L xs) : W p l e room_1 s m #[Value.ref b] below meth c s.heap [] 0 0 (lw_Z below #[Value.ref b] s) (entryFrame m ([Value.ref b] : List Value).toArray 4) := whole_open x_goal_ok l hL C0
