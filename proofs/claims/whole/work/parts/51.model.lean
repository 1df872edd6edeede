/-! ===== the reference: where its cells lie, and how its fields and rows are read and written ===== -/
def Mo (S N : Nat → Nat) (R : Nat → Nat → Option Nat) : Prop := S 183 = 12 ∧ (S 184 = 20 ∧ N 184 = 3687 ∧ R 183 1 = some 184) ∧ (S 185 = 24 ∧ N 185 = 2 ∧ R 183 2 = some 185) ∧ (S 186 = 20 ∧ N 186 = 900 ∧ R 183 3 = some 186) ∧ (S 187 = 20 ∧ N 187 = 1229 ∧ R 183 4 = some 187) ∧ (S 188 = 20 ∧ N 188 = 900 ∧ R 183 16 = some 188) ∧ (S 189 = 20 ∧ N 189 = 8 ∧ R 183 17 = some 189) ∧ (S 190 = 20 ∧ N 190 = 20 ∧ R 183 18 = some 190) ∧ (S 191 = 20 ∧ N 191 = 10 ∧ R 183 21 = some 191) ∧ (S 192 = 20 ∧ N 192 = 2048 ∧ R 183 22 = some 192) ∧ (S 193 = 20 ∧ N 193 = 6 ∧ R 183 23 = some 193) ∧ (S 194 = 20 ∧ N 194 = 6 ∧ R 183 24 = some 194) ∧ (S 195 = 20 ∧ N 195 = 6 ∧ R 183 25 = some 195) ∧ (S 196 = 20 ∧ N 196 = 64 ∧ R 183 27 = some 196) ∧ (S 197 = 20 ∧ N 197 = 11264 ∧ R 183 28 = some 197) ∧ (S 198 = 20 ∧ N 198 = 64 ∧ R 183 29 = some 198) ∧ (S 199 = 21 ∧ N 199 = 12 ∧ R 183 31 = some 199) ∧ (S 200 = 21 ∧ N 200 = 12 ∧ R 183 32 = some 200) ∧ (S 201 = 20 ∧ N 201 = 72 ∧ R 183 33 = some 201) ∧ (S 202 = 20 ∧ N 202 = 4 ∧ R 183 34 = some 202) ∧ (S 203 = 20 ∧ N 203 = 4 ∧ R 183 35 = some 203) ∧ (S 204 = 21 ∧ N 204 = 160 ∧ R 183 36 = some 204)
section XMo
variable {sc : Nat × (Nat → Int32)} {n : Nat} {S N : Nat → Nat} {I A : Nat → Nat → Int32} {J : Nat → Nat → Int64} {R Q : Nat → Nat → Option Nat}
theorem m_rc (H : Mo S N R) : rc (E sc n S N I A J R Q) 183 11 = some () := E_rc (by decide) (by decide) (Or.inl H.1)
theorem m_i0 (H : Mo S N R) : fI (E sc n S N I A J R Q) 183 11 0 = some (I 183 0) := E_fI (by decide) (by decide) rfl (Or.inl H.1)
theorem m_w0 (H : Mo S N R) {x : Int32} : wI (E sc n S N I A J R Q) 183 11 0 x = some (E sc n S N (up2 I 183 0 x) A J R Q) := E_wI (by decide) (by decide) rfl (Or.inl H.1)
theorem m_r1 (H : Mo S N R) : fR (E sc n S N I A J R Q) 183 11 1 = some 184 := E_fR (by decide) (by decide) rfl (Or.inl H.1) (H.2.1).2.2
theorem m_r2 (H : Mo S N R) : fR (E sc n S N I A J R Q) 183 11 2 = some 185 := E_fR (by decide) (by decide) rfl (Or.inl H.1) (H.2.2.1).2.2
theorem m_r3 (H : Mo S N R) : fR (E sc n S N I A J R Q) 183 11 3 = some 186 := E_fR (by decide) (by decide) rfl (Or.inl H.1) (H.2.2.2.1).2.2
theorem m_r4 (H : Mo S N R) : fR (E sc n S N I A J R Q) 183 11 4 = some 187 := E_fR (by decide) (by decide) rfl (Or.inl H.1) (H.2.2.2.2.1).2.2
theorem m_i5 (H : Mo S N R) : fI (E sc n S N I A J R Q) 183 11 5 = some (I 183 5) := E_fI (by decide) (by decide) rfl (Or.inl H.1)
theorem m_w5 (H : Mo S N R) {x : Int32} : wI (E sc n S N I A J R Q) 183 11 5 x = some (E sc n S N (up2 I 183 5 x) A J R Q) := E_wI (by decide) (by decide) rfl (Or.inl H.1)
theorem m_i6 (H : Mo S N R) : fI (E sc n S N I A J R Q) 183 11 6 = some (I 183 6) := E_fI (by decide) (by decide) rfl (Or.inl H.1)
theorem m_w6 (H : Mo S N R) {x : Int32} : wI (E sc n S N I A J R Q) 183 11 6 x = some (E sc n S N (up2 I 183 6 x) A J R Q) := E_wI (by decide) (by decide) rfl (Or.inl H.1)
theorem m_i7 (H : Mo S N R) : fI (E sc n S N I A J R Q) 183 11 7 = some (I 183 7) := E_fI (by decide) (by decide) rfl (Or.inl H.1)
theorem m_w7 (H : Mo S N R) {x : Int32} : wI (E sc n S N I A J R Q) 183 11 7 x = some (E sc n S N (up2 I 183 7 x) A J R Q) := E_wI (by decide) (by decide) rfl (Or.inl H.1)
theorem m_i8 (H : Mo S N R) : fI (E sc n S N I A J R Q) 183 11 8 = some (I 183 8) := E_fI (by decide) (by decide) rfl (Or.inl H.1)
theorem m_w8 (H : Mo S N R) {x : Int32} : wI (E sc n S N I A J R Q) 183 11 8 x = some (E sc n S N (up2 I 183 8 x) A J R Q) := E_wI (by decide) (by decide) rfl (Or.inl H.1)
theorem m_i9 (H : Mo S N R) : fI (E sc n S N I A J R Q) 183 11 9 = some (I 183 9) := E_fI (by decide) (by decide) rfl (Or.inl H.1)
theorem m_w9 (H : Mo S N R) {x : Int32} : wI (E sc n S N I A J R Q) 183 11 9 x = some (E sc n S N (up2 I 183 9 x) A J R Q) := E_wI (by decide) (by decide) rfl (Or.inl H.1)
theorem m_i10 (H : Mo S N R) : fI (E sc n S N I A J R Q) 183 11 10 = some (I 183 10) := E_fI (by decide) (by decide) rfl (Or.inl H.1)
theorem m_w10 (H : Mo S N R) {x : Int32} : wI (E sc n S N I A J R Q) 183 11 10 x = some (E sc n S N (up2 I 183 10 x) A J R Q) := E_wI (by decide) (by decide) rfl (Or.inl H.1)
theorem m_i11 (H : Mo S N R) : fI (E sc n S N I A J R Q) 183 11 11 = some (I 183 11) := E_fI (by decide) (by decide) rfl (Or.inl H.1)
theorem m_w11 (H : Mo S N R) {x : Int32} : wI (E sc n S N I A J R Q) 183 11 11 x = some (E sc n S N (up2 I 183 11 x) A J R Q) := E_wI (by decide) (by decide) rfl (Or.inl H.1)
theorem m_i12 (H : Mo S N R) : fI (E sc n S N I A J R Q) 183 11 12 = some (I 183 12) := E_fI (by decide) (by decide) rfl (Or.inl H.1)
theorem m_w12 (H : Mo S N R) {x : Int32} : wI (E sc n S N I A J R Q) 183 11 12 x = some (E sc n S N (up2 I 183 12 x) A J R Q) := E_wI (by decide) (by decide) rfl (Or.inl H.1)
theorem m_i13 (H : Mo S N R) : fI (E sc n S N I A J R Q) 183 11 13 = some (I 183 13) := E_fI (by decide) (by decide) rfl (Or.inl H.1)
theorem m_w13 (H : Mo S N R) {x : Int32} : wI (E sc n S N I A J R Q) 183 11 13 x = some (E sc n S N (up2 I 183 13 x) A J R Q) := E_wI (by decide) (by decide) rfl (Or.inl H.1)
theorem m_i14 (H : Mo S N R) : fI (E sc n S N I A J R Q) 183 11 14 = some (I 183 14) := E_fI (by decide) (by decide) rfl (Or.inl H.1)
theorem m_w14 (H : Mo S N R) {x : Int32} : wI (E sc n S N I A J R Q) 183 11 14 x = some (E sc n S N (up2 I 183 14 x) A J R Q) := E_wI (by decide) (by decide) rfl (Or.inl H.1)
theorem m_i15 (H : Mo S N R) : fI (E sc n S N I A J R Q) 183 11 15 = some (I 183 15) := E_fI (by decide) (by decide) rfl (Or.inl H.1)
theorem m_w15 (H : Mo S N R) {x : Int32} : wI (E sc n S N I A J R Q) 183 11 15 x = some (E sc n S N (up2 I 183 15 x) A J R Q) := E_wI (by decide) (by decide) rfl (Or.inl H.1)
theorem m_r16 (H : Mo S N R) : fR (E sc n S N I A J R Q) 183 11 16 = some 188 := E_fR (by decide) (by decide) rfl (Or.inl H.1) (H.2.2.2.2.2.1).2.2
theorem m_r17 (H : Mo S N R) : fR (E sc n S N I A J R Q) 183 11 17 = some 189 := E_fR (by decide) (by decide) rfl (Or.inl H.1) (H.2.2.2.2.2.2.1).2.2
theorem m_r18 (H : Mo S N R) : fR (E sc n S N I A J R Q) 183 11 18 = some 190 := E_fR (by decide) (by decide) rfl (Or.inl H.1) (H.2.2.2.2.2.2.2.1).2.2
theorem m_i19 (H : Mo S N R) : fI (E sc n S N I A J R Q) 183 11 19 = some (I 183 19) := E_fI (by decide) (by decide) rfl (Or.inl H.1)
theorem m_w19 (H : Mo S N R) {x : Int32} : wI (E sc n S N I A J R Q) 183 11 19 x = some (E sc n S N (up2 I 183 19 x) A J R Q) := E_wI (by decide) (by decide) rfl (Or.inl H.1)
theorem m_i20 (H : Mo S N R) : fI (E sc n S N I A J R Q) 183 11 20 = some (I 183 20) := E_fI (by decide) (by decide) rfl (Or.inl H.1)
theorem m_w20 (H : Mo S N R) {x : Int32} : wI (E sc n S N I A J R Q) 183 11 20 x = some (E sc n S N (up2 I 183 20 x) A J R Q) := E_wI (by decide) (by decide) rfl (Or.inl H.1)
theorem m_r21 (H : Mo S N R) : fR (E sc n S N I A J R Q) 183 11 21 = some 191 := E_fR (by decide) (by decide) rfl (Or.inl H.1) (H.2.2.2.2.2.2.2.2.1).2.2
theorem m_r22 (H : Mo S N R) : fR (E sc n S N I A J R Q) 183 11 22 = some 192 := E_fR (by decide) (by decide) rfl (Or.inl H.1) (H.2.2.2.2.2.2.2.2.2.1).2.2
theorem m_r23 (H : Mo S N R) : fR (E sc n S N I A J R Q) 183 11 23 = some 193 := E_fR (by decide) (by decide) rfl (Or.inl H.1) (H.2.2.2.2.2.2.2.2.2.2.1).2.2
theorem m_r24 (H : Mo S N R) : fR (E sc n S N I A J R Q) 183 11 24 = some 194 := E_fR (by decide) (by decide) rfl (Or.inl H.1) (H.2.2.2.2.2.2.2.2.2.2.2.1).2.2
theorem m_r25 (H : Mo S N R) : fR (E sc n S N I A J R Q) 183 11 25 = some 195 := E_fR (by decide) (by decide) rfl (Or.inl H.1) (H.2.2.2.2.2.2.2.2.2.2.2.2.1).2.2
theorem m_i26 (H : Mo S N R) : fI (E sc n S N I A J R Q) 183 11 26 = some (I 183 26) := E_fI (by decide) (by decide) rfl (Or.inl H.1)
theorem m_w26 (H : Mo S N R) {x : Int32} : wI (E sc n S N I A J R Q) 183 11 26 x = some (E sc n S N (up2 I 183 26 x) A J R Q) := E_wI (by decide) (by decide) rfl (Or.inl H.1)
theorem m_r27 (H : Mo S N R) : fR (E sc n S N I A J R Q) 183 11 27 = some 196 := E_fR (by decide) (by decide) rfl (Or.inl H.1) (H.2.2.2.2.2.2.2.2.2.2.2.2.2.1).2.2
theorem m_r28 (H : Mo S N R) : fR (E sc n S N I A J R Q) 183 11 28 = some 197 := E_fR (by decide) (by decide) rfl (Or.inl H.1) (H.2.2.2.2.2.2.2.2.2.2.2.2.2.2.1).2.2
theorem m_r29 (H : Mo S N R) : fR (E sc n S N I A J R Q) 183 11 29 = some 198 := E_fR (by decide) (by decide) rfl (Or.inl H.1) (H.2.2.2.2.2.2.2.2.2.2.2.2.2.2.2.1).2.2
theorem m_i30 (H : Mo S N R) : fI (E sc n S N I A J R Q) 183 11 30 = some (I 183 30) := E_fI (by decide) (by decide) rfl (Or.inl H.1)
theorem m_w30 (H : Mo S N R) {x : Int32} : wI (E sc n S N I A J R Q) 183 11 30 x = some (E sc n S N (up2 I 183 30 x) A J R Q) := E_wI (by decide) (by decide) rfl (Or.inl H.1)
theorem m_r31 (H : Mo S N R) : fR (E sc n S N I A J R Q) 183 11 31 = some 199 := E_fR (by decide) (by decide) rfl (Or.inl H.1) (H.2.2.2.2.2.2.2.2.2.2.2.2.2.2.2.2.1).2.2
theorem m_r32 (H : Mo S N R) : fR (E sc n S N I A J R Q) 183 11 32 = some 200 := E_fR (by decide) (by decide) rfl (Or.inl H.1) (H.2.2.2.2.2.2.2.2.2.2.2.2.2.2.2.2.2.1).2.2
theorem m_r33 (H : Mo S N R) : fR (E sc n S N I A J R Q) 183 11 33 = some 201 := E_fR (by decide) (by decide) rfl (Or.inl H.1) (H.2.2.2.2.2.2.2.2.2.2.2.2.2.2.2.2.2.2.1).2.2
theorem m_r34 (H : Mo S N R) : fR (E sc n S N I A J R Q) 183 11 34 = some 202 := E_fR (by decide) (by decide) rfl (Or.inl H.1) (H.2.2.2.2.2.2.2.2.2.2.2.2.2.2.2.2.2.2.2.1).2.2
theorem m_r35 (H : Mo S N R) : fR (E sc n S N I A J R Q) 183 11 35 = some 203 := E_fR (by decide) (by decide) rfl (Or.inl H.1) (H.2.2.2.2.2.2.2.2.2.2.2.2.2.2.2.2.2.2.2.2.1).2.2
theorem m_r36 (H : Mo S N R) : fR (E sc n S N I A J R Q) 183 11 36 = some 204 := E_fR (by decide) (by decide) rfl (Or.inl H.1) (H.2.2.2.2.2.2.2.2.2.2.2.2.2.2.2.2.2.2.2.2.2).2.2
theorem x_idx {k m : Nat} (hk : k < m) (hm : m < 2 ^ 31) : ¬ (nI k < 0 ∨ m ≤ (nI k).toNatClampNeg) := nI_in hk hm
theorem x_cl {k m : Nat} (hk : k < m) (hm : m < 2 ^ 31) : (nI k).toNatClampNeg = k := nI_clamp (by omega)
theorem m_a184 (H : Mo S N R) {k : Nat} (hk : k < 3687) : aI (E sc n S N I A J R Q) 184 (nI k) = some (A 184 k) := by
  have h := E_aI (sc := sc) (n := n) (S := S) (N := N) (I := I) (A := A) (J := J) (R := R) (Q := Q) (a := 184) (i := nI k) (by decide) (Or.inl (H.2.1).1) (by rw [(H.2.1).2.1]; exact x_idx hk (by decide))
  rwa [x_cl hk (by decide)] at h
theorem m_s184 (H : Mo S N R) {k : Nat} {x : Int32} (hk : k < 3687) : sI (E sc n S N I A J R Q) 184 (nI k) x = some (E sc n S N I (up1 A 184 (upd (A 184) k x)) J R Q) := by
  have h := E_sI (sc := sc) (n := n) (S := S) (N := N) (I := I) (A := A) (J := J) (R := R) (Q := Q) (a := 184) (i := nI k) (x := x) (by decide) (Or.inl (H.2.1).1) (by rw [(H.2.1).2.1]; exact x_idx hk (by decide))
  rwa [x_cl hk (by decide)] at h
theorem m_a185 (H : Mo S N R) {k : Nat} (hk : k < 2) : aB (E sc n S N I A J R Q) 185 (nI k) = some (A 185 k) := by
  have h := E_aB (sc := sc) (n := n) (S := S) (N := N) (I := I) (A := A) (J := J) (R := R) (Q := Q) (a := 185) (i := nI k) (by decide) (Or.inr (H.2.2.1).1) (by rw [(H.2.2.1).2.1]; exact x_idx hk (by decide))
  rwa [x_cl hk (by decide)] at h
theorem m_s185 (H : Mo S N R) {k : Nat} {x : Int32} (hk : k < 2) : sB (E sc n S N I A J R Q) 185 (nI k) x = some (E sc n S N I (up1 A 185 (upd (A 185) k (vp_nar .boolean x))) J R Q) := by
  have h := E_sZ (sc := sc) (n := n) (S := S) (N := N) (I := I) (A := A) (J := J) (R := R) (Q := Q) (a := 185) (i := nI k) (x := x) (by decide) (H.2.2.1).1 (by rw [(H.2.2.1).2.1]; exact x_idx hk (by decide))
  rwa [x_cl hk (by decide)] at h
theorem m_a186 (H : Mo S N R) {k : Nat} (hk : k < 900) : aI (E sc n S N I A J R Q) 186 (nI k) = some (A 186 k) := by
  have h := E_aI (sc := sc) (n := n) (S := S) (N := N) (I := I) (A := A) (J := J) (R := R) (Q := Q) (a := 186) (i := nI k) (by decide) (Or.inl (H.2.2.2.1).1) (by rw [(H.2.2.2.1).2.1]; exact x_idx hk (by decide))
  rwa [x_cl hk (by decide)] at h
theorem m_s186 (H : Mo S N R) {k : Nat} {x : Int32} (hk : k < 900) : sI (E sc n S N I A J R Q) 186 (nI k) x = some (E sc n S N I (up1 A 186 (upd (A 186) k x)) J R Q) := by
  have h := E_sI (sc := sc) (n := n) (S := S) (N := N) (I := I) (A := A) (J := J) (R := R) (Q := Q) (a := 186) (i := nI k) (x := x) (by decide) (Or.inl (H.2.2.2.1).1) (by rw [(H.2.2.2.1).2.1]; exact x_idx hk (by decide))
  rwa [x_cl hk (by decide)] at h
theorem m_a187 (H : Mo S N R) {k : Nat} (hk : k < 1229) : aI (E sc n S N I A J R Q) 187 (nI k) = some (A 187 k) := by
  have h := E_aI (sc := sc) (n := n) (S := S) (N := N) (I := I) (A := A) (J := J) (R := R) (Q := Q) (a := 187) (i := nI k) (by decide) (Or.inl (H.2.2.2.2.1).1) (by rw [(H.2.2.2.2.1).2.1]; exact x_idx hk (by decide))
  rwa [x_cl hk (by decide)] at h
theorem m_s187 (H : Mo S N R) {k : Nat} {x : Int32} (hk : k < 1229) : sI (E sc n S N I A J R Q) 187 (nI k) x = some (E sc n S N I (up1 A 187 (upd (A 187) k x)) J R Q) := by
  have h := E_sI (sc := sc) (n := n) (S := S) (N := N) (I := I) (A := A) (J := J) (R := R) (Q := Q) (a := 187) (i := nI k) (x := x) (by decide) (Or.inl (H.2.2.2.2.1).1) (by rw [(H.2.2.2.2.1).2.1]; exact x_idx hk (by decide))
  rwa [x_cl hk (by decide)] at h
theorem m_a188 (H : Mo S N R) {k : Nat} (hk : k < 900) : aI (E sc n S N I A J R Q) 188 (nI k) = some (A 188 k) := by
  have h := E_aI (sc := sc) (n := n) (S := S) (N := N) (I := I) (A := A) (J := J) (R := R) (Q := Q) (a := 188) (i := nI k) (by decide) (Or.inl (H.2.2.2.2.2.1).1) (by rw [(H.2.2.2.2.2.1).2.1]; exact x_idx hk (by decide))
  rwa [x_cl hk (by decide)] at h
theorem m_s188 (H : Mo S N R) {k : Nat} {x : Int32} (hk : k < 900) : sI (E sc n S N I A J R Q) 188 (nI k) x = some (E sc n S N I (up1 A 188 (upd (A 188) k x)) J R Q) := by
  have h := E_sI (sc := sc) (n := n) (S := S) (N := N) (I := I) (A := A) (J := J) (R := R) (Q := Q) (a := 188) (i := nI k) (x := x) (by decide) (Or.inl (H.2.2.2.2.2.1).1) (by rw [(H.2.2.2.2.2.1).2.1]; exact x_idx hk (by decide))
  rwa [x_cl hk (by decide)] at h
theorem m_a189 (H : Mo S N R) {k : Nat} (hk : k < 8) : aI (E sc n S N I A J R Q) 189 (nI k) = some (A 189 k) := by
  have h := E_aI (sc := sc) (n := n) (S := S) (N := N) (I := I) (A := A) (J := J) (R := R) (Q := Q) (a := 189) (i := nI k) (by decide) (Or.inl (H.2.2.2.2.2.2.1).1) (by rw [(H.2.2.2.2.2.2.1).2.1]; exact x_idx hk (by decide))
  rwa [x_cl hk (by decide)] at h
theorem m_s189 (H : Mo S N R) {k : Nat} {x : Int32} (hk : k < 8) : sI (E sc n S N I A J R Q) 189 (nI k) x = some (E sc n S N I (up1 A 189 (upd (A 189) k x)) J R Q) := by
  have h := E_sI (sc := sc) (n := n) (S := S) (N := N) (I := I) (A := A) (J := J) (R := R) (Q := Q) (a := 189) (i := nI k) (x := x) (by decide) (Or.inl (H.2.2.2.2.2.2.1).1) (by rw [(H.2.2.2.2.2.2.1).2.1]; exact x_idx hk (by decide))
  rwa [x_cl hk (by decide)] at h
theorem m_a190 (H : Mo S N R) {k : Nat} (hk : k < 20) : aI (E sc n S N I A J R Q) 190 (nI k) = some (A 190 k) := by
  have h := E_aI (sc := sc) (n := n) (S := S) (N := N) (I := I) (A := A) (J := J) (R := R) (Q := Q) (a := 190) (i := nI k) (by decide) (Or.inl (H.2.2.2.2.2.2.2.1).1) (by rw [(H.2.2.2.2.2.2.2.1).2.1]; exact x_idx hk (by decide))
  rwa [x_cl hk (by decide)] at h
theorem m_s190 (H : Mo S N R) {k : Nat} {x : Int32} (hk : k < 20) : sI (E sc n S N I A J R Q) 190 (nI k) x = some (E sc n S N I (up1 A 190 (upd (A 190) k x)) J R Q) := by
  have h := E_sI (sc := sc) (n := n) (S := S) (N := N) (I := I) (A := A) (J := J) (R := R) (Q := Q) (a := 190) (i := nI k) (x := x) (by decide) (Or.inl (H.2.2.2.2.2.2.2.1).1) (by rw [(H.2.2.2.2.2.2.2.1).2.1]; exact x_idx hk (by decide))
  rwa [x_cl hk (by decide)] at h
theorem m_a191 (H : Mo S N R) {k : Nat} (hk : k < 10) : aI (E sc n S N I A J R Q) 191 (nI k) = some (A 191 k) := by
  have h := E_aI (sc := sc) (n := n) (S := S) (N := N) (I := I) (A := A) (J := J) (R := R) (Q := Q) (a := 191) (i := nI k) (by decide) (Or.inl (H.2.2.2.2.2.2.2.2.1).1) (by rw [(H.2.2.2.2.2.2.2.2.1).2.1]; exact x_idx hk (by decide))
  rwa [x_cl hk (by decide)] at h
theorem m_s191 (H : Mo S N R) {k : Nat} {x : Int32} (hk : k < 10) : sI (E sc n S N I A J R Q) 191 (nI k) x = some (E sc n S N I (up1 A 191 (upd (A 191) k x)) J R Q) := by
  have h := E_sI (sc := sc) (n := n) (S := S) (N := N) (I := I) (A := A) (J := J) (R := R) (Q := Q) (a := 191) (i := nI k) (x := x) (by decide) (Or.inl (H.2.2.2.2.2.2.2.2.1).1) (by rw [(H.2.2.2.2.2.2.2.2.1).2.1]; exact x_idx hk (by decide))
  rwa [x_cl hk (by decide)] at h
theorem m_a192 (H : Mo S N R) {k : Nat} (hk : k < 2048) : aI (E sc n S N I A J R Q) 192 (nI k) = some (A 192 k) := by
  have h := E_aI (sc := sc) (n := n) (S := S) (N := N) (I := I) (A := A) (J := J) (R := R) (Q := Q) (a := 192) (i := nI k) (by decide) (Or.inl (H.2.2.2.2.2.2.2.2.2.1).1) (by rw [(H.2.2.2.2.2.2.2.2.2.1).2.1]; exact x_idx hk (by decide))
  rwa [x_cl hk (by decide)] at h
theorem m_s192 (H : Mo S N R) {k : Nat} {x : Int32} (hk : k < 2048) : sI (E sc n S N I A J R Q) 192 (nI k) x = some (E sc n S N I (up1 A 192 (upd (A 192) k x)) J R Q) := by
  have h := E_sI (sc := sc) (n := n) (S := S) (N := N) (I := I) (A := A) (J := J) (R := R) (Q := Q) (a := 192) (i := nI k) (x := x) (by decide) (Or.inl (H.2.2.2.2.2.2.2.2.2.1).1) (by rw [(H.2.2.2.2.2.2.2.2.2.1).2.1]; exact x_idx hk (by decide))
  rwa [x_cl hk (by decide)] at h
theorem m_a193 (H : Mo S N R) {k : Nat} (hk : k < 6) : aI (E sc n S N I A J R Q) 193 (nI k) = some (A 193 k) := by
  have h := E_aI (sc := sc) (n := n) (S := S) (N := N) (I := I) (A := A) (J := J) (R := R) (Q := Q) (a := 193) (i := nI k) (by decide) (Or.inl (H.2.2.2.2.2.2.2.2.2.2.1).1) (by rw [(H.2.2.2.2.2.2.2.2.2.2.1).2.1]; exact x_idx hk (by decide))
  rwa [x_cl hk (by decide)] at h
theorem m_s193 (H : Mo S N R) {k : Nat} {x : Int32} (hk : k < 6) : sI (E sc n S N I A J R Q) 193 (nI k) x = some (E sc n S N I (up1 A 193 (upd (A 193) k x)) J R Q) := by
  have h := E_sI (sc := sc) (n := n) (S := S) (N := N) (I := I) (A := A) (J := J) (R := R) (Q := Q) (a := 193) (i := nI k) (x := x) (by decide) (Or.inl (H.2.2.2.2.2.2.2.2.2.2.1).1) (by rw [(H.2.2.2.2.2.2.2.2.2.2.1).2.1]; exact x_idx hk (by decide))
  rwa [x_cl hk (by decide)] at h
theorem m_a194 (H : Mo S N R) {k : Nat} (hk : k < 6) : aI (E sc n S N I A J R Q) 194 (nI k) = some (A 194 k) := by
  have h := E_aI (sc := sc) (n := n) (S := S) (N := N) (I := I) (A := A) (J := J) (R := R) (Q := Q) (a := 194) (i := nI k) (by decide) (Or.inl (H.2.2.2.2.2.2.2.2.2.2.2.1).1) (by rw [(H.2.2.2.2.2.2.2.2.2.2.2.1).2.1]; exact x_idx hk (by decide))
  rwa [x_cl hk (by decide)] at h
theorem m_s194 (H : Mo S N R) {k : Nat} {x : Int32} (hk : k < 6) : sI (E sc n S N I A J R Q) 194 (nI k) x = some (E sc n S N I (up1 A 194 (upd (A 194) k x)) J R Q) := by
  have h := E_sI (sc := sc) (n := n) (S := S) (N := N) (I := I) (A := A) (J := J) (R := R) (Q := Q) (a := 194) (i := nI k) (x := x) (by decide) (Or.inl (H.2.2.2.2.2.2.2.2.2.2.2.1).1) (by rw [(H.2.2.2.2.2.2.2.2.2.2.2.1).2.1]; exact x_idx hk (by decide))
  rwa [x_cl hk (by decide)] at h
theorem m_a195 (H : Mo S N R) {k : Nat} (hk : k < 6) : aI (E sc n S N I A J R Q) 195 (nI k) = some (A 195 k) := by
  have h := E_aI (sc := sc) (n := n) (S := S) (N := N) (I := I) (A := A) (J := J) (R := R) (Q := Q) (a := 195) (i := nI k) (by decide) (Or.inl (H.2.2.2.2.2.2.2.2.2.2.2.2.1).1) (by rw [(H.2.2.2.2.2.2.2.2.2.2.2.2.1).2.1]; exact x_idx hk (by decide))
  rwa [x_cl hk (by decide)] at h
theorem m_s195 (H : Mo S N R) {k : Nat} {x : Int32} (hk : k < 6) : sI (E sc n S N I A J R Q) 195 (nI k) x = some (E sc n S N I (up1 A 195 (upd (A 195) k x)) J R Q) := by
  have h := E_sI (sc := sc) (n := n) (S := S) (N := N) (I := I) (A := A) (J := J) (R := R) (Q := Q) (a := 195) (i := nI k) (x := x) (by decide) (Or.inl (H.2.2.2.2.2.2.2.2.2.2.2.2.1).1) (by rw [(H.2.2.2.2.2.2.2.2.2.2.2.2.1).2.1]; exact x_idx hk (by decide))
  rwa [x_cl hk (by decide)] at h
theorem m_a196 (H : Mo S N R) {k : Nat} (hk : k < 64) : aI (E sc n S N I A J R Q) 196 (nI k) = some (A 196 k) := by
  have h := E_aI (sc := sc) (n := n) (S := S) (N := N) (I := I) (A := A) (J := J) (R := R) (Q := Q) (a := 196) (i := nI k) (by decide) (Or.inl (H.2.2.2.2.2.2.2.2.2.2.2.2.2.1).1) (by rw [(H.2.2.2.2.2.2.2.2.2.2.2.2.2.1).2.1]; exact x_idx hk (by decide))
  rwa [x_cl hk (by decide)] at h
theorem m_s196 (H : Mo S N R) {k : Nat} {x : Int32} (hk : k < 64) : sI (E sc n S N I A J R Q) 196 (nI k) x = some (E sc n S N I (up1 A 196 (upd (A 196) k x)) J R Q) := by
  have h := E_sI (sc := sc) (n := n) (S := S) (N := N) (I := I) (A := A) (J := J) (R := R) (Q := Q) (a := 196) (i := nI k) (x := x) (by decide) (Or.inl (H.2.2.2.2.2.2.2.2.2.2.2.2.2.1).1) (by rw [(H.2.2.2.2.2.2.2.2.2.2.2.2.2.1).2.1]; exact x_idx hk (by decide))
  rwa [x_cl hk (by decide)] at h
theorem m_a197 (H : Mo S N R) {k : Nat} (hk : k < 11264) : aI (E sc n S N I A J R Q) 197 (nI k) = some (A 197 k) := by
  have h := E_aI (sc := sc) (n := n) (S := S) (N := N) (I := I) (A := A) (J := J) (R := R) (Q := Q) (a := 197) (i := nI k) (by decide) (Or.inl (H.2.2.2.2.2.2.2.2.2.2.2.2.2.2.1).1) (by rw [(H.2.2.2.2.2.2.2.2.2.2.2.2.2.2.1).2.1]; exact x_idx hk (by decide))
  rwa [x_cl hk (by decide)] at h
theorem m_s197 (H : Mo S N R) {k : Nat} {x : Int32} (hk : k < 11264) : sI (E sc n S N I A J R Q) 197 (nI k) x = some (E sc n S N I (up1 A 197 (upd (A 197) k x)) J R Q) := by
  have h := E_sI (sc := sc) (n := n) (S := S) (N := N) (I := I) (A := A) (J := J) (R := R) (Q := Q) (a := 197) (i := nI k) (x := x) (by decide) (Or.inl (H.2.2.2.2.2.2.2.2.2.2.2.2.2.2.1).1) (by rw [(H.2.2.2.2.2.2.2.2.2.2.2.2.2.2.1).2.1]; exact x_idx hk (by decide))
  rwa [x_cl hk (by decide)] at h
theorem m_a198 (H : Mo S N R) {k : Nat} (hk : k < 64) : aI (E sc n S N I A J R Q) 198 (nI k) = some (A 198 k) := by
  have h := E_aI (sc := sc) (n := n) (S := S) (N := N) (I := I) (A := A) (J := J) (R := R) (Q := Q) (a := 198) (i := nI k) (by decide) (Or.inl (H.2.2.2.2.2.2.2.2.2.2.2.2.2.2.2.1).1) (by rw [(H.2.2.2.2.2.2.2.2.2.2.2.2.2.2.2.1).2.1]; exact x_idx hk (by decide))
  rwa [x_cl hk (by decide)] at h
theorem m_s198 (H : Mo S N R) {k : Nat} {x : Int32} (hk : k < 64) : sI (E sc n S N I A J R Q) 198 (nI k) x = some (E sc n S N I (up1 A 198 (upd (A 198) k x)) J R Q) := by
  have h := E_sI (sc := sc) (n := n) (S := S) (N := N) (I := I) (A := A) (J := J) (R := R) (Q := Q) (a := 198) (i := nI k) (x := x) (by decide) (Or.inl (H.2.2.2.2.2.2.2.2.2.2.2.2.2.2.2.1).1) (by rw [(H.2.2.2.2.2.2.2.2.2.2.2.2.2.2.2.1).2.1]; exact x_idx hk (by decide))
  rwa [x_cl hk (by decide)] at h
theorem m_a199 (H : Mo S N R) {k : Nat} (hk : k < 12) : aJ (E sc n S N I A J R Q) 199 (nI k) = some (J 199 k) := by
  have h := E_aJ (sc := sc) (n := n) (S := S) (N := N) (I := I) (A := A) (J := J) (R := R) (Q := Q) (a := 199) (i := nI k) (by decide) (H.2.2.2.2.2.2.2.2.2.2.2.2.2.2.2.2.1).1 (by rw [(H.2.2.2.2.2.2.2.2.2.2.2.2.2.2.2.2.1).2.1]; exact x_idx hk (by decide))
  rwa [x_cl hk (by decide)] at h
theorem m_s199 (H : Mo S N R) {k : Nat} {x : Int64} (hk : k < 12) : sJ (E sc n S N I A J R Q) 199 (nI k) x = some (E sc n S N I A (up1 J 199 (vp_updL (J 199) k x)) R Q) := by
  have h := E_sJ (sc := sc) (n := n) (S := S) (N := N) (I := I) (A := A) (J := J) (R := R) (Q := Q) (a := 199) (i := nI k) (x := x) (by decide) (H.2.2.2.2.2.2.2.2.2.2.2.2.2.2.2.2.1).1 (by rw [(H.2.2.2.2.2.2.2.2.2.2.2.2.2.2.2.2.1).2.1]; exact x_idx hk (by decide))
  rwa [x_cl hk (by decide)] at h
theorem m_a200 (H : Mo S N R) {k : Nat} (hk : k < 12) : aJ (E sc n S N I A J R Q) 200 (nI k) = some (J 200 k) := by
  have h := E_aJ (sc := sc) (n := n) (S := S) (N := N) (I := I) (A := A) (J := J) (R := R) (Q := Q) (a := 200) (i := nI k) (by decide) (H.2.2.2.2.2.2.2.2.2.2.2.2.2.2.2.2.2.1).1 (by rw [(H.2.2.2.2.2.2.2.2.2.2.2.2.2.2.2.2.2.1).2.1]; exact x_idx hk (by decide))
  rwa [x_cl hk (by decide)] at h
theorem m_s200 (H : Mo S N R) {k : Nat} {x : Int64} (hk : k < 12) : sJ (E sc n S N I A J R Q) 200 (nI k) x = some (E sc n S N I A (up1 J 200 (vp_updL (J 200) k x)) R Q) := by
  have h := E_sJ (sc := sc) (n := n) (S := S) (N := N) (I := I) (A := A) (J := J) (R := R) (Q := Q) (a := 200) (i := nI k) (x := x) (by decide) (H.2.2.2.2.2.2.2.2.2.2.2.2.2.2.2.2.2.1).1 (by rw [(H.2.2.2.2.2.2.2.2.2.2.2.2.2.2.2.2.2.1).2.1]; exact x_idx hk (by decide))
  rwa [x_cl hk (by decide)] at h
theorem m_a201 (H : Mo S N R) {k : Nat} (hk : k < 72) : aI (E sc n S N I A J R Q) 201 (nI k) = some (A 201 k) := by
  have h := E_aI (sc := sc) (n := n) (S := S) (N := N) (I := I) (A := A) (J := J) (R := R) (Q := Q) (a := 201) (i := nI k) (by decide) (Or.inl (H.2.2.2.2.2.2.2.2.2.2.2.2.2.2.2.2.2.2.1).1) (by rw [(H.2.2.2.2.2.2.2.2.2.2.2.2.2.2.2.2.2.2.1).2.1]; exact x_idx hk (by decide))
  rwa [x_cl hk (by decide)] at h
theorem m_s201 (H : Mo S N R) {k : Nat} {x : Int32} (hk : k < 72) : sI (E sc n S N I A J R Q) 201 (nI k) x = some (E sc n S N I (up1 A 201 (upd (A 201) k x)) J R Q) := by
  have h := E_sI (sc := sc) (n := n) (S := S) (N := N) (I := I) (A := A) (J := J) (R := R) (Q := Q) (a := 201) (i := nI k) (x := x) (by decide) (Or.inl (H.2.2.2.2.2.2.2.2.2.2.2.2.2.2.2.2.2.2.1).1) (by rw [(H.2.2.2.2.2.2.2.2.2.2.2.2.2.2.2.2.2.2.1).2.1]; exact x_idx hk (by decide))
  rwa [x_cl hk (by decide)] at h
theorem m_a202 (H : Mo S N R) {k : Nat} (hk : k < 4) : aI (E sc n S N I A J R Q) 202 (nI k) = some (A 202 k) := by
  have h := E_aI (sc := sc) (n := n) (S := S) (N := N) (I := I) (A := A) (J := J) (R := R) (Q := Q) (a := 202) (i := nI k) (by decide) (Or.inl (H.2.2.2.2.2.2.2.2.2.2.2.2.2.2.2.2.2.2.2.1).1) (by rw [(H.2.2.2.2.2.2.2.2.2.2.2.2.2.2.2.2.2.2.2.1).2.1]; exact x_idx hk (by decide))
  rwa [x_cl hk (by decide)] at h
theorem m_s202 (H : Mo S N R) {k : Nat} {x : Int32} (hk : k < 4) : sI (E sc n S N I A J R Q) 202 (nI k) x = some (E sc n S N I (up1 A 202 (upd (A 202) k x)) J R Q) := by
  have h := E_sI (sc := sc) (n := n) (S := S) (N := N) (I := I) (A := A) (J := J) (R := R) (Q := Q) (a := 202) (i := nI k) (x := x) (by decide) (Or.inl (H.2.2.2.2.2.2.2.2.2.2.2.2.2.2.2.2.2.2.2.1).1) (by rw [(H.2.2.2.2.2.2.2.2.2.2.2.2.2.2.2.2.2.2.2.1).2.1]; exact x_idx hk (by decide))
  rwa [x_cl hk (by decide)] at h
theorem m_a203 (H : Mo S N R) {k : Nat} (hk : k < 4) : aI (E sc n S N I A J R Q) 203 (nI k) = some (A 203 k) := by
  have h := E_aI (sc := sc) (n := n) (S := S) (N := N) (I := I) (A := A) (J := J) (R := R) (Q := Q) (a := 203) (i := nI k) (by decide) (Or.inl (H.2.2.2.2.2.2.2.2.2.2.2.2.2.2.2.2.2.2.2.2.1).1) (by rw [(H.2.2.2.2.2.2.2.2.2.2.2.2.2.2.2.2.2.2.2.2.1).2.1]; exact x_idx hk (by decide))
  rwa [x_cl hk (by decide)] at h
theorem m_s203 (H : Mo S N R) {k : Nat} {x : Int32} (hk : k < 4) : sI (E sc n S N I A J R Q) 203 (nI k) x = some (E sc n S N I (up1 A 203 (upd (A 203) k x)) J R Q) := by
  have h := E_sI (sc := sc) (n := n) (S := S) (N := N) (I := I) (A := A) (J := J) (R := R) (Q := Q) (a := 203) (i := nI k) (x := x) (by decide) (Or.inl (H.2.2.2.2.2.2.2.2.2.2.2.2.2.2.2.2.2.2.2.2.1).1) (by rw [(H.2.2.2.2.2.2.2.2.2.2.2.2.2.2.2.2.2.2.2.2.1).2.1]; exact x_idx hk (by decide))
  rwa [x_cl hk (by decide)] at h
theorem m_a204 (H : Mo S N R) {k : Nat} (hk : k < 160) : aJ (E sc n S N I A J R Q) 204 (nI k) = some (J 204 k) := by
  have h := E_aJ (sc := sc) (n := n) (S := S) (N := N) (I := I) (A := A) (J := J) (R := R) (Q := Q) (a := 204) (i := nI k) (by decide) (H.2.2.2.2.2.2.2.2.2.2.2.2.2.2.2.2.2.2.2.2.2).1 (by rw [(H.2.2.2.2.2.2.2.2.2.2.2.2.2.2.2.2.2.2.2.2.2).2.1]; exact x_idx hk (by decide))
  rwa [x_cl hk (by decide)] at h
theorem m_s204 (H : Mo S N R) {k : Nat} {x : Int64} (hk : k < 160) : sJ (E sc n S N I A J R Q) 204 (nI k) x = some (E sc n S N I A (up1 J 204 (vp_updL (J 204) k x)) R Q) := by
  have h := E_sJ (sc := sc) (n := n) (S := S) (N := N) (I := I) (A := A) (J := J) (R := R) (Q := Q) (a := 204) (i := nI k) (x := x) (by decide) (H.2.2.2.2.2.2.2.2.2.2.2.2.2.2.2.2.2.2.2.2.2).1 (by rw [(H.2.2.2.2.2.2.2.2.2.2.2.2.2.2.2.2.2.2.2.2.2).2.1]; exact x_idx hk (by decide))
  rwa [x_cl hk (by decide)] at h
end XMo
