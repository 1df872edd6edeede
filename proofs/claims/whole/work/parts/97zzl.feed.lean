/-! ===== feed: both answer alike ===== -/
def byt (x : Int32) (q : Nat) : Int32 := (x >>> (nI (24 - 8 * q) &&& 31)) &&& 255
def fdW (x1 x2 x3 x4 x5 : Int32) (q : Nat) : Int32 := if q = 0 then x1 else if q = 1 then x2 else if q = 2 then x3 else if q = 3 then x4 else x5
theorem cn_256 : ∀ k, k < 256 → vp_nar .char (((nI k).toUInt32 % 65536).toInt32) = nI k := by decide +kernel
theorem an_255 (x : Int32) : ∃ k, k < 256 ∧ x &&& 255 = nI k := by
  refine ⟨x.toBitVec.toNat &&& 255, Nat.lt_succ_of_le Nat.and_le_right, ?_⟩
  apply Int32.toBitVec_inj.mp
  apply BitVec.eq_of_toNat_eq
  have h1 : (x &&& 255).toBitVec = x.toBitVec &&& 255#32 := rfl
  have h2 : (nI (x.toBitVec.toNat &&& 255)).toBitVec = BitVec.ofNat 32 (x.toBitVec.toNat &&& 255) := rfl
  have h3 : x.toBitVec.toNat &&& 255 < 2 ^ 32 := Nat.lt_of_le_of_lt Nat.and_le_right (by decide)
  rw [h1, h2, BitVec.toNat_and, show (BitVec.ofNat 32 (x.toBitVec.toNat &&& 255)).toNat = x.toBitVec.toNat &&& 255 from Nat.mod_eq_of_lt h3]
  rfl
theorem bt_g (w : BitVec 32) (k : Nat) (hk : k ≤ 24) : (w >>> k) &&& 255#32 = (w.sshiftRight k) &&& 255#32 := by
  apply BitVec.eq_of_getLsbD_eq
  intro i hi
  rw [BitVec.getLsbD_and, BitVec.getLsbD_and, BitVec.getLsbD_ushiftRight, BitVec.getLsbD_sshiftRight]
  by_cases c : i < 8
  · have h1 : ¬ 32 ≤ i := by omega
    have h2 : k + i < 32 := by omega
    simp [h1, h2]
  · have : (255#32).getLsbD i = false := by
      have key : ∀ i, i < 32 → ¬ i < 8 → (255#32).getLsbD i = false := by decide
      exact key i hi c
    rw [this, Bool.and_false, Bool.and_false]
theorem ush_24 (x : Int32) : ush x 24 &&& 255 = (x >>> (nI 24 &&& 31)) &&& 255 := Int32.toBitVec_inj.mp (bt_g x.toBitVec 24 (by decide))
theorem ush_16 (x : Int32) : ush x 16 &&& 255 = (x >>> (nI 16 &&& 31)) &&& 255 := Int32.toBitVec_inj.mp (bt_g x.toBitVec 16 (by decide))
theorem ush_8 (x : Int32) : ush x 8 &&& 255 = (x >>> (nI 8 &&& 31)) &&& 255 := Int32.toBitVec_inj.mp (bt_g x.toBitVec 8 (by decide))
theorem ush_0 (x : Int32) : ush x 0 &&& 255 = (x >>> (nI 0 &&& 31)) &&& 255 := Int32.toBitVec_inj.mp (bt_g x.toBitVec 0 (by decide))
theorem by_q (x : Int32) {q : Nat} (hq : q < 4) : vp_nar .char ((((ush x (nI 24 - nI (8 * q))) &&& 255).toUInt32 % 65536).toInt32) = byt x q := by
  have e : (ush x (nI 24 - nI (8 * q))) &&& 255 = byt x q := by
    rcases (show q = 0 ∨ q = 1 ∨ q = 2 ∨ q = 3 by omega) with c | c | c | c <;> subst c
    · exact ush_24 x
    · exact ush_16 x
    · exact ush_8 x
    · exact ush_0 x
  rw [e]
  obtain ⟨k, hk, h⟩ := an_255 (x >>> (nI (24 - 8 * q) &&& 31))
  unfold byt
  rw [h]
  exact cn_256 k hk
theorem sh_q : ∀ q, q < 4 → (¬ nI 24 - nI (8 * q) < 0 ∧ (nI 24 - nI (8 * q)) + (-8) = nI 24 - nI (8 * (q + 1))) := by decide +kernel
section XFe
variable {g : Sk} {t t' s s' : Tb} {a : Nat → Int32} {v m n nx D : Nat} {x x1 x2 x3 x4 x5 : Int32}
theorem ab_l (X : Fx g) : ∀ (d q m fuel : Nat) (t : Tb), q + d = 4 → d < fuel → m + d ≤ 900 → tI t 70 1 = nI m → ∃ t', F_X4_addBytes_b3 fuel 70 x (nI 24 - nI (8 * q)) (Em g t) = some ((), Em g t') ∧ (∀ b k, ¬ (b = 70 ∧ k = 1) → tI t' b k = tI t b k) ∧ tI t' 70 1 = nI (m + d) ∧ (∀ b, b ≠ 71 → tA t' b = tA t b) ∧ (∀ i, tA t' 71 i = if m ≤ i ∧ i < m + d then byt x (q + (i - m)) else tA t 71 i) ∧ tJ t' = tJ t := by
  intro d
  induction d with
  | zero =>
    intro q m fuel t hq hf hm h1
    obtain ⟨f, rfl⟩ : ∃ f, fuel = f + 1 := ⟨fuel - 1, by omega⟩
    have : q = 4 := by omega
    subst this
    refine ⟨t, ?_, fun _ _ _ => rfl, h1, fun _ _ => rfl, fun i => by rw [if_neg (by omega)], rfl⟩
    rw [F_X4_addBytes_b3, if_pos (by decide)]
  | succ d ih =>
    intro q m fuel t hq hf hm h1
    obtain ⟨f, rfl⟩ : ∃ f, fuel = f + 1 := ⟨fuel - 1, by omega⟩
    obtain ⟨s1, s2⟩ := sh_q q (by omega)
    obtain ⟨t', e1, r1, r2, r3, r4, r5⟩ := ih (q + 1) (m + 1) f (wi (wa t 71 m (byt x q)) 70 1 (nI (m + 1))) (by omega) (by omega) (by omega) tI_is
    refine ⟨t', ?_, fun b k h => ?_, by rw [r2]; congr 1; omega, fun b hb => ?_, fun i => ?_, r5⟩
    · rw [F_X4_addBytes_b3, if_neg s1, x_i70_1 X, Option.bind_some, h1, if_neg (show ¬ (900 : Int32) ≤ nI m from show ¬ nI 900 ≤ nI m by rw [nI_leI (by decide) (by omega)]; omega), x_r70_0 X, Option.bind_some, Option.bind_some, x_s71 X (by omega), Option.bind_some, by_q x (by omega), x_i70_1 X, Option.bind_some, tI_wa, h1, show nI m + 1 = nI (m + 1) from nI_add m 1, x_w70_1 X, Option.bind_some, s2]
      exact e1
    · rw [r1 b k h]
      by_cases c : b = 70
      · rw [c, tI_ik (fun e => h ⟨c, e⟩), tI_wa]
      · rw [tI_ia c, tI_wa]
    · rw [r3 b hb, tA_wi, tA_an hb]
    · rw [r4, tA_wi, tA_as]
      by_cases c : i = m
      · subst c
        rw [if_neg (by omega), upd_s, if_pos (by omega), Nat.sub_self, Nat.add_zero]
      · rw [upd_n c]
        by_cases c2 : m + 1 ≤ i ∧ i < m + 1 + d
        · rw [if_pos c2, if_pos (by omega), show q + 1 + (i - (m + 1)) = q + (i - m) by omega]
        · rw [if_neg c2, if_neg (by omega)]
theorem ab (X : Fx g) (x : Int32) (hm : m + 4 ≤ 900) (h1 : tI t 70 1 = nI m) : ∃ t', F_X4_addBytes 70 x (Em g t) = some ((), Em g t') ∧ (∀ b k, ¬ (b = 70 ∧ k = 1) → tI t' b k = tI t b k) ∧ tI t' 70 1 = nI (m + 4) ∧ (∀ b, b ≠ 71 → tA t' b = tA t b) ∧ (∀ i, tA t' 71 i = if m ≤ i ∧ i < m + 4 then byt x (i - m) else tA t 71 i) ∧ tJ t' = tJ t := by
  obtain ⟨t', e1, r1, r2, r3, r4, r5⟩ := ab_l (x := x) X 4 0 m FU t (by omega) (by decide) hm h1
  exact ⟨t', e1, r1, r2, r3, fun i => by rw [r4, Nat.zero_add], r5⟩
theorem fd_77 {k24 : Nat → Int32 → Int32 → Int32 → Int32 → Int32 → Int32 → xH → Option (Int32 × xH)} (X : Fx g) {j : Nat} (hj : j < 20) (hm : m < 900) (h5 : tI s 183 5 = nI m) : F_X12_feed_b77 k24 183 x1 x2 x3 x4 x5 (nI j) x (Em g s) = k24 183 x1 x2 x3 x4 x5 (nI (j + 1)) (Em g (wi (wa s 186 m (byt x (j % 4))) 183 5 (nI (m + 1)))) := by
  have e : (24 : Int32) - 8 * (irm (nI j) 4) = nI (24 - 8 * (j % 4)) := by
    rw [show irm (nI j) 4 = nI (j % 4) from irm_n (by omega) (by decide) (by decide)]
    have key : ∀ q, q < 4 → (24 : Int32) - 8 * nI q = nI (24 - 8 * q) := by decide +kernel
    exact key _ (Nat.mod_lt _ (by decide))
  unfold F_X12_feed_b77
  rw [x_r183_3 X, Option.bind_some, x_i183_5 X, Option.bind_some, h5, e, x_s186 X hm, Option.bind_some, x_i183_5 X, Option.bind_some, tI_wa, h5, show nI m + 1 = nI (m + 1) from nI_add m 1, x_w183_5 X, Option.bind_some, show nI j + 1 = nI (j + 1) from nI_add j 1]
  rfl
theorem fd_l (X : Fx g) : ∀ (d j m fuel : Nat) (s : Tb), j + d = 20 → d < fuel → m + d ≤ 900 → tI s 183 5 = nI m → ∃ s', F_X12_feed_b24 fuel 183 x1 x2 x3 x4 x5 (nI j) (Em g s) = some (nI (m + d), Em g s') ∧ (∀ b k, ¬ (b = 183 ∧ k = 5) → tI s' b k = tI s b k) ∧ tI s' 183 5 = nI (m + d) ∧ (∀ b, b ≠ 186 → tA s' b = tA s b) ∧ (∀ i, tA s' 186 i = if m ≤ i ∧ i < m + d then byt (fdW x1 x2 x3 x4 x5 ((j + (i - m)) / 4)) ((j + (i - m)) % 4) else tA s 186 i) ∧ tJ s' = tJ s := by
  intro d
  induction d with
  | zero =>
    intro j m fuel s hj hf hm h5
    obtain ⟨f, rfl⟩ : ∃ f, fuel = f + 1 := ⟨fuel - 1, by omega⟩
    have : j = 20 := by omega
    subst this
    refine ⟨s, ?_, fun _ _ _ => rfl, h5, fun _ _ => rfl, fun i => by rw [if_neg (by omega)], rfl⟩
    rw [F_X12_feed_b24, if_pos (show (20 : Int32) ≤ nI 20 by decide), x_i183_5 X, Option.bind_some, h5]
    rfl
  | succ d ih =>
    intro j m fuel s hj hf hm h5
    obtain ⟨f, rfl⟩ : ∃ f, fuel = f + 1 := ⟨fuel - 1, by omega⟩
    have lc : ∀ k : Nat, k < 100 → (nI k ≤ nI j ↔ k ≤ j) := fun k hk => nI_leI (by omega) (by omega)
    have hw : F_X12_feed_b24 (f + 1) 183 x1 x2 x3 x4 x5 (nI j) (Em g s) = F_X12_feed_b77 (F_X12_feed_b24 f) 183 x1 x2 x3 x4 x5 (nI j) (fdW x1 x2 x3 x4 x5 (j / 4)) (Em g s) := by
      have l20 : ¬ (20 : Int32) ≤ nI j := fun h => absurd ((lc 20 (by decide)).mp h) (by omega)
      have l4 : ((4 : Int32) ≤ nI j) ↔ 4 ≤ j := lc 4 (by decide)
      have l8 : ((8 : Int32) ≤ nI j) ↔ 8 ≤ j := lc 8 (by decide)
      have l12 : ((12 : Int32) ≤ nI j) ↔ 12 ≤ j := lc 12 (by decide)
      have l16 : ((16 : Int32) ≤ nI j) ↔ 16 ≤ j := lc 16 (by decide)
      rw [F_X12_feed_b24, if_neg l20]
      unfold fdW
      by_cases c4 : 4 ≤ j
      · rw [if_pos (l4.mpr c4), if_neg (show ¬ j / 4 = 0 by omega)]
        by_cases c8 : 8 ≤ j
        · rw [if_pos (l8.mpr c8), if_neg (show ¬ j / 4 = 1 by omega)]
          by_cases c12 : 12 ≤ j
          · rw [if_pos (l12.mpr c12), if_neg (show ¬ j / 4 = 2 by omega)]
            by_cases c16 : 16 ≤ j
            · rw [if_pos (l16.mpr c16), if_neg (show ¬ j / 4 = 3 by omega)]
            · rw [if_neg (fun h => c16 (l16.mp h)), if_pos (show j / 4 = 3 by omega)]
          · rw [if_neg (fun h => c12 (l12.mp h)), if_pos (show j / 4 = 2 by omega)]
        · rw [if_neg (fun h => c8 (l8.mp h)), if_pos (show j / 4 = 1 by omega)]
      · rw [if_neg (fun h => c4 (l4.mp h)), if_pos (show j / 4 = 0 by omega)]
    obtain ⟨s', e1, r1, r2, r3, r4, r5⟩ := ih (j + 1) (m + 1) f (wi (wa s 186 m (byt (fdW x1 x2 x3 x4 x5 (j / 4)) (j % 4))) 183 5 (nI (m + 1))) (by omega) (by omega) (by omega) tI_is
    refine ⟨s', ?_, fun b k h => ?_, by rw [r2]; congr 1; omega, fun b hb => ?_, fun i => ?_, r5⟩
    · rw [hw, fd_77 X (by omega) (by omega) h5, e1, show m + 1 + d = m + (d + 1) by omega]
    · rw [r1 b k h]
      by_cases c : b = 183
      · rw [c, tI_ik (fun e => h ⟨c, e⟩), tI_wa]
      · rw [tI_ia c, tI_wa]
    · rw [r3 b hb, tA_wi, tA_an hb]
    · rw [r4, tA_wi, tA_as]
      by_cases c : i = m
      · subst c
        rw [if_neg (by omega), upd_s, if_pos (by omega), Nat.sub_self, Nat.add_zero]
      · rw [upd_n c]
        by_cases c2 : m + 1 ≤ i ∧ i < m + 1 + d
        · rw [if_pos c2, if_pos (by omega), show j + 1 + (i - (m + 1)) = j + (i - m) by omega]
        · rw [if_neg c2, if_neg (by omega)]
def Pf (b : Nat) : Bool := decide (b = 70 ∨ b = 71 ∨ b = 183 ∨ b = 186)
theorem ok_feed (I : IV g t v a D n nx) (hD : D + 100 < 2 ^ 30) (x1 x2 x3 x4 x5 : Int32) : Okc (F_X11_feed 69 x1 x2 x3 x4 x5) (F_X12_feed 183 x1 x2 x3 x4 x5) g t D := by
  have X := I.1
  obtain ⟨⟨⟨m, hm, c1, m5, hT⟩, h196⟩, h11, h12⟩ := I.2.2.2.2.2.2
  have e20 : nI m + 20 = nI (m + 20) := nI_add m 20
  have hw0 : ∀ t, wI (Em g t) 183 11 0 0 = some (Em g (wi t 183 0 (nI 0))) := fun t => x_w183_0 X
  by_cases c : m + 20 ≤ 900
  · have cc : nI (m + 20) ≤ (900 : Int32) := (nI_leI (b := 900) (by omega) (by decide)).mpr c
    obtain ⟨t1, e1, p1, q1, r1, w1, j1⟩ := ab X x1 (show m + 4 ≤ 900 by omega) c1
    obtain ⟨t2, e2, p2, q2, r2, w2, j2⟩ := ab X x2 (show m + 4 + 4 ≤ 900 by omega) q1
    obtain ⟨t3, e3, p3, q3, r3, w3, j3⟩ := ab X x3 (show m + 4 + 4 + 4 ≤ 900 by omega) q2
    obtain ⟨t4, e4, p4, q4, r4, w4, j4⟩ := ab X x4 (show m + 4 + 4 + 4 + 4 ≤ 900 by omega) q3
    obtain ⟨t5, e5, p5, q5, r5, w5, j5⟩ := ab X x5 (show m + 4 + 4 + 4 + 4 + 4 ≤ 900 by omega) q4
    have pt : ∀ b k, ¬ (b = 70 ∧ k = 1) → tI t5 b k = tI t b k := fun b k h => by rw [p5 b k h, p4 b k h, p3 b k h, p2 b k h, p1 b k h]
    have rt : ∀ b, b ≠ 71 → tA t5 b = tA t b := fun b h => by rw [r5 b h, r4 b h, r3 b h, r2 b h, r1 b h]
    have jt : tJ t5 = tJ t := by rw [j5, j4, j3, j2, j1]
    have wt : ∀ i, i < m + 20 → tA t5 71 i = if m ≤ i then byt (fdW x1 x2 x3 x4 x5 ((i - m) / 4)) ((i - m) % 4) else tA t 71 i := fun i hi => by
      rw [w5, w4, w3, w2, w1]
      unfold fdW
      by_cases h1 : m ≤ i
      · rw [if_pos h1]
        rcases (show i < m + 4 ∨ (m + 4 ≤ i ∧ i < m + 8) ∨ (m + 8 ≤ i ∧ i < m + 12) ∨ (m + 12 ≤ i ∧ i < m + 16) ∨ (m + 16 ≤ i ∧ i < m + 20) by omega) with c | c | c | c | c
        · rw [if_neg (by omega), if_neg (by omega), if_neg (by omega), if_neg (by omega), if_pos (by omega), if_pos (show (i - m) / 4 = 0 by omega), show (i - m) % 4 = i - m by omega]
        · rw [if_neg (by omega), if_neg (by omega), if_neg (by omega), if_pos (by omega), if_neg (show ¬ (i - m) / 4 = 0 by omega), if_pos (show (i - m) / 4 = 1 by omega), show (i - m) % 4 = i - (m + 4) by omega]
        · rw [if_neg (by omega), if_neg (by omega), if_pos (by omega), if_neg (show ¬ (i - m) / 4 = 0 by omega), if_neg (show ¬ (i - m) / 4 = 1 by omega), if_pos (show (i - m) / 4 = 2 by omega), show (i - m) % 4 = i - (m + 4 + 4) by omega]
        · rw [if_neg (by omega), if_pos (by omega), if_neg (show ¬ (i - m) / 4 = 0 by omega), if_neg (show ¬ (i - m) / 4 = 1 by omega), if_neg (show ¬ (i - m) / 4 = 2 by omega), if_pos (show (i - m) / 4 = 3 by omega), show (i - m) % 4 = i - (m + 4 + 4 + 4) by omega]
        · rw [if_pos (by omega), if_neg (show ¬ (i - m) / 4 = 0 by omega), if_neg (show ¬ (i - m) / 4 = 1 by omega), if_neg (show ¬ (i - m) / 4 = 2 by omega), if_neg (show ¬ (i - m) / 4 = 3 by omega), show (i - m) % 4 = i - (m + 4 + 4 + 4 + 4) by omega]
      · rw [if_neg h1, if_neg (by omega), if_neg (by omega), if_neg (by omega), if_neg (by omega), if_neg (by omega)]
    have s5 : tI (wi t5 183 0 (nI 0)) 183 5 = nI m := by rw [tI_ik (by decide), pt 183 5 (by omega)]; exact m5
    obtain ⟨s', f1, u1, u2, u3, u4, u5⟩ := fd_l (x1 := x1) (x2 := x2) (x3 := x3) (x4 := x4) (x5 := x5) X 20 0 m FU (wi t5 183 0 (nI 0)) (by omega) (by decide) c s5
    have ui : ∀ b k, b ≠ 183 → tI s' b k = tI t5 b k := fun b k h => by rw [u1 b k (by omega), tI_ia h]
    have uk : ∀ k, k ≠ 5 → k ≠ 0 → tI s' 183 k = tI t5 183 k := fun k h h0 => by rw [u1 183 k (by omega), tI_ik h0]
    have ua : ∀ b, b ≠ 186 → tA s' b = tA t5 b := fun b h => by rw [u3 b h, tA_wi]
    have sw : Sw Pf g t s' := by
      refine ⟨fun b k hp _ => ?_, fun b hp _ => ?_, fun b _ _ => by rw [u5, show tJ (wi t5 183 0 (nI 0)) = tJ t5 from rfl, jt]⟩
      · unfold Pf at hp
        rw [decide_eq_false_iff_not] at hp
        rw [ui b k (by omega), pt b k (by omega)]
      · unfold Pf at hp
        rw [decide_eq_false_iff_not] at hp
        rw [ua b (by omega), rt b (by omega)]
    have pf : ∀ b, b ≠ 70 → b ≠ 71 → b ≠ 183 → b ≠ 186 → Pf b = false := fun b h1 h2 h3 h4 => by unfold Pf; rw [decide_eq_false_iff_not]; omega
    obtain ⟨_, h184, C, H, T, M, _⟩ := I
    have q5' : tI t5 70 1 = nI (m + 20) := q5
    refine ⟨nI (m + 20), g, t5, g, s', v, a, n, nx, ?_, ?_, rfl, rfl, rfl, rfl, X, ?_, CP_m (by omega) hD (CP_w X (fun b hb => pf b (by omega) (by omega) (by omega) (by omega)) C sw), HP_m (by omega) (HP_w X (fun b h1 h2 => pf b (by omega) (by omega) (by omega) (by omega)) H sw), Tr_w X (fun b hb => pf b (by omega) (by omega) (by omega) (by omega)) T sw, Im_m (by omega) hD (Im_w X (fun b hb => pf b (by omega) (by omega) (by omega) (by omega)) (Nat.le_refl D) C.1.2.2 (fun _ _ => rfl) M sw), ⟨⟨m + 20, c, ?_, u2, fun k hk => ?_⟩, ?_⟩, ?_, ?_⟩
    · unfold F_X11_feed
      rw [x_r69_0 X, Option.bind_some, x_i70_1 X, Option.bind_some, c1, e20, if_pos cc, Option.bind_some, x_rc70 X, Option.bind_some, e1, Option.bind_some, x_r69_0 X, Option.bind_some, x_rc70 X, Option.bind_some, e2, Option.bind_some, x_r69_0 X, Option.bind_some, x_rc70 X, Option.bind_some, e3, Option.bind_some, x_r69_0 X, Option.bind_some, x_rc70 X, Option.bind_some, e4, Option.bind_some, x_r69_0 X, Option.bind_some, x_rc70 X, Option.bind_some, e5, Option.bind_some, x_r69_0 X, Option.bind_some, x_i70_1 X, Option.bind_some, q5']
    · unfold F_X12_feed
      rw [hw0, Option.bind_some, x_i183_5 X, Option.bind_some, s5, e20, if_pos cc]
      exact f1
    · rw [ua 184 (by decide), rt 184 (by decide)]; exact h184
    · rw [ui 70 1 (by decide)]; exact q5'
    · rw [ua 71 (by decide), wt k hk, u4]
      by_cases hk2 : m ≤ k
      · rw [if_pos hk2, if_pos ⟨hk2, hk⟩, Nat.zero_add]
      · rw [if_neg hk2, if_neg (by omega), tA_wi, rt 186 (by decide)]
        exact hT k (by omega)
    · rw [ua 196 (by decide), rt 196 (by decide)]; exact h196
    · rw [ui 70 11 (by decide), pt 70 11 (by omega), uk 13 (by decide) (by decide), pt 183 13 (by omega)]; exact h11
    · rw [ui 70 12 (by decide), pt 70 12 (by omega), uk 14 (by decide) (by decide), pt 183 14 (by omega)]; exact h12
  · have cc : ¬ nI (m + 20) ≤ (900 : Int32) := fun h => c ((nI_leI (b := 900) (by omega) (by decide)).mp h)
    refine ok_0 (r := -5) (t1 := t) (t2 := wi t 183 0 (nI 0)) I hD ?_ ?_ Sm_r (Sm_wi (a := 183) (k := 0) rfl Sm_r)
    · unfold F_X11_feed
      rw [x_r69_0 X, Option.bind_some, x_i70_1 X, Option.bind_some, c1, e20, if_neg cc]
    · unfold F_X12_feed
      rw [hw0, Option.bind_some, x_i183_5 X, Option.bind_some, tI_ik (by decide), m5, e20, if_neg cc]
end XFe
