/-! ===== reading: both readers side by side ===== -/
def Lv (g : Sk) (t : Tb) (g0 : Sk) (s : Tb) (T : Nat → Int32) (n b e km : Nat) : Prop := (Fx g ∧ Fx g0) ∧ CR t T n ∧ MR s T n ∧ (tI t 70 5 = nI b ∧ tI t 70 6 = nI e ∧ tI t 70 11 = nI 0) ∧ (tI s 183 6 = nI b ∧ tI s 183 7 = nI e ∧ tI s 183 9 = nI km ∧ tI s 183 11 = nI 0) ∧ ∃ e0 kc vl, e0 ≤ n ∧ tk T n e0 b e km kc vl ∧ tI t 70 7 = nI kc ∧ tI t 70 8 = nI vl ∧ (km = 23 → tI s 183 10 = nI vl) ∧ tI t 70 12 = -nI 1
def Nc (t : Tb) (T : Nat → Int32) (n f p : Nat) : Prop := CR t T n ∧ (1 ≤ f ∧ f ≤ 4) ∧ tI t 70 11 = nI f ∧ tI t 70 12 = nI p ∧ ∃ b e, (b ≤ e ∧ p ≤ n) ∧ e ≤ n ∧ tI t 70 5 = nI b ∧ tI t 70 6 = nI e
def Dd (s : Tb) (T : Nat → Int32) (n f p : Nat) : Prop := MR s T n ∧ (1 ≤ f ∧ f ≤ 4) ∧ tI s 183 11 = nI f ∧ tI s 183 12 = nI p
def Nm (s : Tb) (T : Nat → Int32) (n f p q : Nat) : Prop := Dd s T n f p ∨ (MR s T n ∧ tI s 183 11 = nI 0 ∧ f = 1 ∧ tI s 183 9 = nI 25 ∧ tI s 183 6 = nI p ∧ p ≤ n ∧ ∃ nc, tA s 187 328 = nI nc ∧ nc ≤ q)
section XPr
variable {g g0 : Sk} {t t' s s' : Tb} {T : Nat → Int32} {n b e km f p q nc : Nat} {S : List Nat}
theorem Nm_q {q' : Nat} (h : Nm s T n f p q) (hq : q ≤ q') : Nm s T n f p q' := by
  rcases h with h | ⟨h1, h2, h3, h4, h5, h6, nc, h7, h8⟩
  · exact Or.inl h
  · exact Or.inr ⟨h1, h2, h3, h4, h5, h6, nc, h7, by omega⟩
theorem Nm_MR (h : Nm s T n f p q) : MR s T n := by
  rcases h with h | h
  · exact h.1
  · exact h.1
theorem Nm_f (h : Nm s T n f p q) : 1 ≤ f ∧ f ≤ 4 := by
  rcases h with h | h
  · exact h.2.1
  · have := h.2.2.1; omega
theorem f_nz (h : 1 ≤ f ∧ f ≤ 4) : ¬ nI f = nI 0 := by rw [nI_eq (by omega) (by decide)]; omega
/-- what a token is, live -/
theorem l_b (L : Lv g t g0 s T n b e km) : b ≤ e ∧ e ≤ n ∧ km < 42 ∧ km ≠ 25 ∧ (km = 24 ∨ b < e) ∧ n ≤ 900 := by
  obtain ⟨_, R, _, _, _, e0, kc, vl, h1, h2, _⟩ := L
  have := tk_b h1 h2
  have := R.1
  omega
theorem l_isAt (L : Lv g t g0 s T n b e km) {a i : Nat} (ha : a = 2 * i) (h1 : 1 ≤ i) (h2 : i < 32) : F_X4_isAt 70 a (Em g t) = some (bI (decide (km = kcd i)), Em g t) := by
  obtain ⟨⟨X, _⟩, R, _, ⟨c5, c6, _⟩, _, e0, kc, vl, k1, k2, _⟩ := L
  have hb := tk_b k1 k2
  rw [k_isAt X R ha (by omega) hb.2.1 hb.2.2.1 c5 c6, tk_s k1 k2 h1 h2]
theorem n_isAt (X : Fx g) (N : Nc t T n f p) {a i : Nat} (ha : a = 2 * i) (h2 : i < 32) : ∃ v, F_X4_isAt 70 a (Em g t) = some (bI v, Em g t) := by
  obtain ⟨R, _, _, _, b, e, h3, h4, h5, h6⟩ := N
  exact ⟨_, k_isAt X R ha (by omega) h3.1 h4 h5 h6⟩
theorem r_is (X : Fx g0) (k : Int32) : F_X12_is 183 k (Em g0 s) = some (bI (decide (tI s 183 11 = nI 0 ∧ tI s 183 9 = k)), Em g0 s) := by
  unfold F_X12_is
  rw [x_i183_11 X, Option.bind_some]
  by_cases c1 : tI s 183 11 = nI 0
  · rw [if_neg (show ¬ ¬ tI s 183 11 = (0 : Int32) from fun h => h c1), x_i183_9 X, Option.bind_some]
    by_cases c2 : tI s 183 9 = k
    · rw [if_neg (fun h => h c2), decide_eq_true ⟨c1, c2⟩]; rfl
    · rw [if_pos c2, decide_eq_false (fun h => c2 h.2)]; rfl
  · rw [if_pos (show ¬ tI s 183 11 = (0 : Int32) from c1), decide_eq_false (fun h => c1 h.1)]; rfl
theorem l_is (L : Lv g t g0 s T n b e km) {k : Nat} (hk : k < 2 ^ 31) : F_X12_is 183 (nI k) (Em g0 s) = some (bI (decide (km = k)), Em g0 s) := by
  have hb := l_b L
  rw [r_is L.1.2]
  have e1 : decide (tI s 183 11 = nI 0 ∧ tI s 183 9 = nI k) = decide (km = k) := by
    rw [L.2.2.2.2.1.2.2.1]
    exact decide_eq_decide.mpr ⟨fun h => (nI_eq (by omega) hk).mp h.2, fun h => ⟨L.2.2.2.2.1.2.2.2, by rw [h]⟩⟩
  rw [e1]
theorem n_is (X : Fx g0) (N : Nm s T n f p q) {k : Nat} (hk : k < 2 ^ 31) (h25 : k ≠ 25) : F_X12_is 183 (nI k) (Em g0 s) = some (bI false, Em g0 s) := by
  rw [r_is X]
  rcases N with N | N
  · rw [decide_eq_false (fun h => f_nz N.2.1 (by rw [← N.2.2.1]; exact h.1))]
  · rw [decide_eq_false (fun h => h25 (by
      have := h.2
      rw [N.2.2.2.1, nI_eq (by decide) hk] at this
      exact this.symm))]
/-! the next token -/
theorem l_adv (L : Lv g t g0 s T n b e km) (hnc : tA s 187 328 = nI nc) : ∃ t' s', F_X4_advance 70 (Em g t) = some ((), Em g t') ∧ F_X12_next 183 (Em g0 s) = some ((), Em g0 s') ∧ Qs 70 [5, 6, 7, 8, 11, 12] t t' ∧ Qs 183 [6, 7, 9, 10] s s' ∧ ((∃ b' e' km', Lv g t' g0 s' T n b' e' km' ∧ e ≤ b') ∨ (∃ p, e ≤ p ∧ Nc t' T n 1 p ∧ Nm s' T n 1 p nc)) := by
  have hb := l_b L
  obtain ⟨⟨X, X0⟩, R, M, ⟨c5, c6, c11⟩, ⟨m6, m7, m9, m11⟩, _, _, _, _, _, _, _, _, c12⟩ := L
  rcases tok_c T (n := n) (e0 := e) hb.2.1 with ⟨b', e', km', kc', vl', h⟩ | ⟨p, h⟩
  · obtain ⟨t', e1, q1, k5, k6, k7, k8⟩ := k_adv X R hb.2.1 c6 c11 h
    obtain ⟨s', e2, q2, r6, r7, r9, r10⟩ := r_next X0 M hb.2.1 m7 h
    have hb' := tk_b hb.2.1 h
    refine ⟨t', s', e1, e2, Qs_m (by decide) q1, q2, Or.inl ⟨b', e', km', ⟨⟨X, X0⟩, CR_q R q1 (by decide), MR_q M q2 (by decide), ⟨k5, k6, by rw [q1.1 70 11 (fun _ => by decide)]; exact c11⟩, ⟨r6, r7, r9, by rw [q2.1 183 11 (fun _ => by decide)]; exact m11⟩, e, kc', vl', hb.2.1, h, k7, k8, r10, by rw [q1.1 70 12 (fun _ => by decide)]; exact c12⟩, hb'.1⟩⟩
  · obtain ⟨t', e', e1, q1, k5, k6, k7, k8, k9, k10⟩ := k_advb X R hb.2.1 c6 c11 h
    obtain ⟨s', e'', e2, q2, r6, r7, r8, r9⟩ := r_nextb X0 M hb.2.1 m7 h
    have hs := skp_le (T := T) hb.2.1
    have hp : p = skp T n e := h.1
    refine ⟨t', s', e1, e2, q1, q2, Or.inr ⟨p, by omega, ⟨CR_q R q1 (by decide), ⟨by decide, by decide⟩, k9, k10, p, e', ⟨k7, by omega⟩, k8, k5, k6⟩, Or.inr ⟨MR_q M q2 (by decide), by rw [q2.1 183 11 (fun _ => by decide)]; exact m11, rfl, r9, r6, by omega, nc, by rw [q2.2.1]; exact hnc, Nat.le_refl _⟩⟩⟩
theorem n_adv (X : Fx g) (N : Nc t T n f p) : F_X4_advance 70 (Em g t) = some ((), Em g t) := by
  unfold F_X4_advance
  rw [x_i70_11 X, Option.bind_some, N.2.2.1, if_neg (show ¬ nI f = (0 : Int32) from f_nz N.2.1)]
/-! faults -/
theorem l_fail (L : Lv g t g0 s T n b e km) (hf : 1 ≤ f ∧ f ≤ 4) : ∃ t' s', F_X4_fail 70 (nI f) (Em g t) = some ((), Em g t') ∧ F_X12_fails 183 (nI f) (Em g0 s) = some ((), Em g0 s') ∧ Qs 70 [11, 12] t t' ∧ Qs 183 [11, 12] s s' ∧ Nc t' T n f b ∧ Dd s' T n f b := by
  have hb := l_b L
  obtain ⟨⟨X, X0⟩, R, M, ⟨c5, c6, c11⟩, ⟨m6, m7, m9, m11⟩, _⟩ := L
  have e1 := k_fail X (nI f) c11
  rw [c5] at e1
  have q1 : Qs 70 [11, 12] t (wi (wi t 70 11 (nI f)) 70 12 (nI b)) := Qs_w (by decide) (Qs_w (by decide) Qs_r)
  have q2 : Qs 183 [11, 12] s (wi (wi s 183 11 (nI f)) 183 12 (nI b)) := Qs_w (by decide) (Qs_w (by decide) Qs_r)
  refine ⟨_, _, e1, ?_, q1, q2, ⟨CR_q R q1 (by decide), hf, by rw [tI_ik (by decide)]; exact tI_is, tI_is, b, e, ⟨hb.1, by omega⟩, hb.2.1, by rw [tI_ik (by decide), tI_ik (by decide)]; exact c5, by rw [tI_ik (by decide), tI_ik (by decide)]; exact c6⟩, ⟨MR_q M q2 (by decide), hf, by rw [tI_ik (by decide)]; exact tI_is, tI_is⟩⟩
  unfold F_X12_fails
  rw [x_i183_11 X0, Option.bind_some, m11, if_pos (show nI 0 = (0 : Int32) from rfl), x_i183_9 X0, Option.bind_some, m9, if_pos (show ¬ nI km = (25 : Int32) from show ¬ nI km = nI 25 by rw [nI_eq (by omega) (by decide)]; exact hb.2.2.2.1), x_w183_11 X0, Option.bind_some, x_i183_6 X0, Option.bind_some, tI_ik (by decide), m6, x_w183_12 X0, Option.bind_some]
theorem n_failc (X : Fx g) (N : Nc t T n f p) (x : Int32) : F_X4_fail 70 x (Em g t) = some ((), Em g t) := k_fail1 X x (by rw [N.2.2.1]; exact f_nz N.2.1)
theorem n_fails (X : Fx g0) (N : Nm s T n f p q) (x : Int32) : ∃ s', F_X12_fails 183 x (Em g0 s) = some ((), Em g0 s') ∧ Qs 183 [11, 12] s s' ∧ Dd s' T n f p := by
  rcases N with N | ⟨M, m11, rfl, m9, m6, hp, _⟩
  · refine ⟨s, ?_, Qs_r, N⟩
    unfold F_X12_fails
    rw [x_i183_11 X, Option.bind_some, N.2.2.1, if_neg (show ¬ nI f = (0 : Int32) from f_nz N.2.1)]
  · have q2 : Qs 183 [11, 12] s (wi (wi s 183 11 (nI 1)) 183 12 (nI p)) := Qs_w (by decide) (Qs_w (by decide) Qs_r)
    refine ⟨_, ?_, q2, ⟨MR_q M q2 (by decide), ⟨by decide, by decide⟩, by rw [tI_ik (by decide)]; exact tI_is, tI_is⟩⟩
    unfold F_X12_fails
    rw [x_i183_11 X, Option.bind_some, m11, if_pos (show nI 0 = (0 : Int32) from rfl), x_i183_9 X, Option.bind_some, m9, if_neg (show ¬ ¬ nI 25 = (25 : Int32) from fun h => h rfl), show (1 : Int32) = nI 1 from rfl, x_w183_11 X, Option.bind_some, x_i183_6 X, Option.bind_some, tI_ik (by decide), m6, x_w183_12 X, Option.bind_some]
/-! eats, pass -/
theorem l_eatn (L : Lv g t g0 s T n b e km) {k : Nat} (hk : k < 2 ^ 31) (h : km ≠ k) : F_X12_eats 183 (nI k) (Em g0 s) = some (0, Em g0 s) := by
  unfold F_X12_eats
  rw [x_rc183 L.1.2, Option.bind_some, l_is L hk, Option.bind_some, decide_eq_false h, if_neg (show ¬ ¬ bI false = (0 : Int32) by decide)]
theorem l_eaty (L : Lv g t g0 s T n b e km) {k : Nat} (hk : k < 2 ^ 31) (h : km = k) {s' : Tb} (e1 : F_X12_next 183 (Em g0 s) = some ((), Em g0 s')) : F_X12_eats 183 (nI k) (Em g0 s) = some (1, Em g0 s') := by
  unfold F_X12_eats
  rw [x_rc183 L.1.2, Option.bind_some, l_is L hk, Option.bind_some, decide_eq_true h, if_pos (show ¬ bI true = (0 : Int32) by decide), x_rc183 L.1.2, Option.bind_some, e1, Option.bind_some]
theorem n_eat (X : Fx g0) (N : Nm s T n f p q) {k : Nat} (hk : k < 2 ^ 31) (h25 : k ≠ 25) : F_X12_eats 183 (nI k) (Em g0 s) = some (0, Em g0 s) := by
  unfold F_X12_eats
  rw [x_rc183 X, Option.bind_some, n_is X N hk h25, Option.bind_some, if_neg (show ¬ ¬ bI false = (0 : Int32) by decide)]
/-- pass against: eats, or fails -/
def pasM (k : Int32) (h : xH) : Option (Unit × xH) := (F_X12_eats 183 k h).bind fun z => if ¬ z.1 = 0 then some ((), z.2) else (rc z.2 183 11).bind fun _ => F_X12_fails 183 2 z.2
theorem l_pass (L : Lv g t g0 s T n b e km) (hnc : tA s 187 328 = nI nc) {a i : Nat} (ha : a = 2 * i) (h1 : 1 ≤ i) (h2 : i < 32) (hk : kcd i < 42) : ∃ t' s', F_X4_pass 70 a (Em g t) = some ((), Em g t') ∧ pasM (nI (kcd i)) (Em g0 s) = some ((), Em g0 s') ∧ Qs 70 [5, 6, 7, 8, 11, 12] t t' ∧ Qs 183 [6, 7, 9, 10, 11, 12] s s' ∧ ((∃ b' e' km', km = kcd i ∧ Lv g t' g0 s' T n b' e' km' ∧ e ≤ b') ∨ (∃ f p, b ≤ p ∧ Nc t' T n f p ∧ Nm s' T n f p nc)) := by
  have hb := l_b L
  have X := L.1.1
  have X0 := L.1.2
  unfold F_X4_pass F_X4_pass_b13 pasM
  by_cases c : km = kcd i
  · obtain ⟨t', s', e1, e2, q1, q2, r⟩ := l_adv L hnc
    refine ⟨t', s', ?_, ?_, q1, Qs_m (by decide) q2, ?_⟩
    · rw [x_rc70 X, Option.bind_some, l_isAt L ha h1 h2, Option.bind_some, decide_eq_true c, if_pos (show ¬ bI true = (0 : Int32) by decide), x_rc70 X, Option.bind_some, e1, Option.bind_some]
    · rw [l_eaty L (by omega) c e2, Option.bind_some, if_pos (show ¬ (1 : Int32) = 0 by decide)]
    · rcases r with ⟨b', e', km', r1, r2⟩ | ⟨p, r1, r2, r3⟩
      · exact Or.inl ⟨b', e', km', c, r1, r2⟩
      · exact Or.inr ⟨1, p, by omega, r2, r3⟩
  · obtain ⟨t', s', e1, e2, q1, q2, N1, N2⟩ := l_fail L (f := 2) ⟨by decide, by decide⟩
    refine ⟨t', s', ?_, ?_, Qs_m (by decide) q1, Qs_m (by decide) q2, Or.inr ⟨2, b, Nat.le_refl _, N1, Or.inl N2⟩⟩
    · rw [x_rc70 X, Option.bind_some, l_isAt L ha h1 h2, Option.bind_some, decide_eq_false c, if_neg (show ¬ ¬ bI false = (0 : Int32) by decide), x_rc70 X, Option.bind_some, show (2 : Int32) = nI 2 from rfl, e1, Option.bind_some, x_rc70 X, Option.bind_some, n_adv X N1, Option.bind_some]
    · rw [l_eatn L (by omega) c, Option.bind_some, if_neg (fun h => h rfl), x_rc183 X0, Option.bind_some]
      exact e2
theorem n_passc (X : Fx g) (N : Nc t T n f p) {a i : Nat} (ha : a = 2 * i) (h2 : i < 32) : F_X4_pass 70 a (Em g t) = some ((), Em g t) := by
  obtain ⟨v, e1⟩ := n_isAt X N ha h2
  unfold F_X4_pass F_X4_pass_b13
  rw [x_rc70 X, Option.bind_some, e1, Option.bind_some, x_rc70 X, Option.bind_some, n_adv X N, Option.bind_some]
  cases v
  · rw [if_neg (show ¬ ¬ bI false = (0 : Int32) by decide), Option.bind_some, n_failc X N, Option.bind_some, x_rc70 X, Option.bind_some, n_adv X N, Option.bind_some]
  · rw [if_pos (show ¬ bI true = (0 : Int32) by decide)]
theorem n_passm (X : Fx g0) (N : Nm s T n f p q) {k : Nat} (hk : k < 2 ^ 31) (h25 : k ≠ 25) : ∃ s', pasM (nI k) (Em g0 s) = some ((), Em g0 s') ∧ Qs 183 [11, 12] s s' ∧ Dd s' T n f p := by
  obtain ⟨s', e1, q1, d1⟩ := n_fails X N 2
  refine ⟨s', ?_, q1, d1⟩
  unfold pasM
  rw [n_eat X N hk h25, Option.bind_some, if_neg (fun h => h rfl), x_rc183 X, Option.bind_some]
  exact e1
end XPr
