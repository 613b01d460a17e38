/-! THE DEEPEST CELL -/
/-- the first of the greatest, from cell c on, best so far b -/
def dcf (f : Nat → Nat) : Nat → Nat → Nat → Nat
  | 0, _, b => b
  | n + 1, c, b => dcf f n (c + 1) (if f b < f c then c else b)
theorem dcf_lt {f : Nat → Nat} : ∀ (n c b : Nat), c + n = 8 → b < 8 → dcf f n c b < 8
  | 0, _, _, _, hb => hb
  | n + 1, c, b, hc, hb => by
    unfold dcf
    split
    · exact dcf_lt n (c + 1) c (by omega) (by omega)
    · exact dcf_lt n (c + 1) b (by omega) hb
/-- a step's deepest cell, and how deep it is -/
def dc (W : WW) (i : Nat) : Nat := dcf (fun c => W 15 (8 * i + c)) 7 1 0
def dp (W : WW) (i : Nat) : Nat := W 15 (8 * i + dc W i)
theorem dc_lt {W : WW} {i : Nat} : dc W i < 8 := dcf_lt 7 1 0 rfl (by decide)
section DEEP
variable {X : XX} {d : Nat} {sz sl : Nat} {sh : Nat → Nat × Nat} {R : Nat → Nat → Option Nat} {I : Nat → Nat → Int32} {J : Nat → Nat → Int64} {W : WW} {ns : Nat}
theorem s_dcX (G : GS W ns sh R I) {i : Nat} (hi : i < ns) : ∀ (n c b : Nat), c + n = 8 → b < 8 → exe X (d + 1) 73 4 [.ref (W 0 i), .int (Int32.ofNat b), .int (Int32.ofNat c)] [] (sz, sl, sh, R, I, J) = some (some (.int (Int32.ofNat (dcf (fun c => W 15 (8 * i + c)) n c b))), (sz, sl, sh, R, I, J))
  | 0, c, b, h, hb => by
    have h2 := (G.2.2.2.1 i hi).2.1
    have e : 8 ≤ c := by omega
    rw [t73_4 h2]
    simp (disch := first | omega | exact ib_r | exact ib_n | exact isB_rfv _ | assumption) only [k_8, n_le, e, ↓reduceIte, eq_self, and_self, and_true, true_and, not_true_eq_false, not_false_eq_true, ob_s, tl_s, tl_n, rf_ref, orf_ref, orf_null, nn_ref, nn_null, rfv_s, rfv_n, if_true, if_false, bi_01, bi_e0, bi_e1, or_t, Classical.not_not]
    rfl
  | n + 1, c, b, h, hb => by
    have h2 := (G.2.2.2.1 i hi).2.1
    have e : ¬ 8 ≤ c := by omega
    have hc : c < 8 := by omega
    have g1 := (G.2.2.2.2.2.2.2.2.1 i c hi hc).2.2.2.2.1
    have g2 := (G.2.2.2.2.2.2.2.2.1 i b hi hb).2.2.2.2.1
    rw [t73_4 h2]
    simp (disch := first | omega | exact ib_r | exact ib_n | exact isB_rfv _ | assumption) only [k_8, k_1, n_le, e, ↓reduceIte, eq_self, and_self, and_true, true_and, not_true_eq_false, not_false_eq_true, ob_s, tl_s, tl_n, rf_ref, orf_ref, orf_null, nn_ref, nn_null, rfv_s, rfv_n, if_true, if_false, bi_01, bi_e0, bi_e1, or_t, Classical.not_not, s_measure G hi hc, s_measure G hi hb, t73_15 h2, t73_20 h2, n_add]
    unfold dcf
    by_cases hm : W 15 (8 * i + b) < W 15 (8 * i + c)
    · rw [if_neg (by omega), if_pos hm, s_dcX G hi n (c + 1) c (by omega) hc]
    · rw [if_pos (by omega), if_neg hm, s_dcX G hi n (c + 1) b (by omega) hb]
theorem s_deepestCell (G : GS W ns sh R I) {i : Nat} (hi : i < ns) : ev X (d + 2) 73 [.ref (W 0 i)] (sz, sl, sh, R, I, J) = some (some (.int (Int32.ofNat (dc W i))), (sz, sl, sh, R, I, J)) := by
  rw [n73, t73_0 (G.2.2.2.1 i hi).2.1, k_0, k_1, s_dcX G hi 7 1 0 rfl (by decide)]
  rfl
theorem s_deepestX (G : GS W ns sh R I) {i : Nat} (hi : i < ns) : ev X (d + 3) 83 [.ref (W 0 i)] (sz, sl, sh, R, I, J) = some (some (.int (Int32.ofNat (dp W i))), (sz, sl, sh, R, I, J)) := by
  have h2 := (G.2.2.2.1 i hi).2.1
  simp (disch := first | omega | exact ib_r | exact ib_n | exact isB_rfv _ | assumption) only [n83, t83_0 h2, t83_5, t83_8, s_deepestCell G hi, h2, s_measure G hi dc_lt, ↓reduceIte, eq_self, and_self, and_true, true_and, not_true_eq_false, not_false_eq_true, ob_s, tl_s, tl_n, rf_ref, orf_ref, orf_null, nn_ref, nn_null, rfv_s, rfv_n, if_true, if_false, bi_01, bi_e0, bi_e1, or_t, Classical.not_not]
  rfl
theorem s_at0 (hS : SF sh R) (G : GS W ns sh R I) {i c : Nat} (hi : i < ns) (hc : c < 8) : ev X (d + 2) 195 [.ref 37, .int (Int32.ofNat i), .int (Int32.ofNat c)] (sz, sl, sh, R, I, J) = some (some (.int (Int32.ofNat (W 15 (8 * i + c)))), (sz, sl, sh, R, I, J)) := by
  have h40 := G.1
  have e1 : (0 : Int32) ≤ Int32.ofNat c ∧ Int32.ofNat c ≤ 7 := ⟨n_ge (by omega), by rw [k_7, n_le (by omega) (by omega)]; omega⟩
  have e2 : 8 * i + c < 320 := by omega
  have hm := (G.2.2.2.2.2.2.2.2.1 i c hi hc).2.2.1
  simp (disch := first | omega | exact ib_r | exact ib_n | exact isB_rfv _ | assumption) only [n195, t195_0, t195_7 hS, s_in, e1, ↓reduceIte, eq_self, and_self, and_true, true_and, not_true_eq_false, not_false_eq_true, ob_s, tl_s, tl_n, rf_ref, orf_ref, orf_null, nn_ref, nn_null, rfv_s, rfv_n, if_true, if_false, bi_01, bi_e0, bi_e1, or_t, Classical.not_not]
  simp (disch := first | omega | exact ib_r | exact ib_n | exact isB_rfv _ | assumption) only [k_8, n_mul, n_add, n_inb, n_cl, e2, hm, ↓reduceIte, eq_self, and_self, and_true, true_and, not_true_eq_false, not_false_eq_true, ob_s, tl_s, tl_n, rf_ref, orf_ref, orf_null, nn_ref, nn_null, rfv_s, rfv_n, if_true, if_false, bi_01, bi_e0, bi_e1, or_t, Classical.not_not]
theorem s_dcM (hS : SF sh R) (G : GS W ns sh R I) {i : Nat} (hi : i < ns) : ∀ (n c b : Nat), c + n = 8 → b < 8 → exe X (d + 2) 196 4 [.ref 37, .int (Int32.ofNat i), .int (Int32.ofNat b), .int (Int32.ofNat c)] [] (sz, sl, sh, R, I, J) = some (some (.int (Int32.ofNat (dcf (fun c => W 15 (8 * i + c)) n c b))), (sz, sl, sh, R, I, J))
  | 0, c, b, h, hb => by
    have e : 8 ≤ c := by omega
    rw [t196_4 hS]
    simp (disch := first | omega | exact ib_r | exact ib_n | exact isB_rfv _ | assumption) only [k_8, n_le, e, ↓reduceIte, eq_self, and_self, and_true, true_and, not_true_eq_false, not_false_eq_true, ob_s, tl_s, tl_n, rf_ref, orf_ref, orf_null, nn_ref, nn_null, rfv_s, rfv_n, if_true, if_false, bi_01, bi_e0, bi_e1, or_t, Classical.not_not]
    rfl
  | n + 1, c, b, h, hb => by
    have e : ¬ 8 ≤ c := by omega
    have hc : c < 8 := by omega
    have g1 := (G.2.2.2.2.2.2.2.2.1 i c hi hc).2.2.2.2.1
    have g2 := (G.2.2.2.2.2.2.2.2.1 i b hi hb).2.2.2.2.1
    rw [t196_4 hS]
    simp (disch := first | omega | exact ib_r | exact ib_n | exact isB_rfv _ | assumption) only [k_8, k_1, n_le, e, ↓reduceIte, eq_self, and_self, and_true, true_and, not_true_eq_false, not_false_eq_true, ob_s, tl_s, tl_n, rf_ref, orf_ref, orf_null, nn_ref, nn_null, rfv_s, rfv_n, if_true, if_false, bi_01, bi_e0, bi_e1, or_t, Classical.not_not, s_at0 hS G hi hc, s_at0 hS G hi hb, t196_16 hS, t196_22, n_add]
    unfold dcf
    by_cases hm : W 15 (8 * i + b) < W 15 (8 * i + c)
    · rw [if_neg (by omega), if_pos hm, s_dcM hS G hi n (c + 1) c (by omega) hc]
    · rw [if_pos (by omega), if_neg hm, s_dcM hS G hi n (c + 1) b (by omega) hb]
theorem s_deepestM (hS : SF sh R) (G : GS W ns sh R I) {i : Nat} (hi : i < ns) : ev X (d + 3) 196 [.ref 37, .int (Int32.ofNat i)] (sz, sl, sh, R, I, J) = some (some (.int (Int32.ofNat (dc W i))), (sz, sl, sh, R, I, J)) := by
  rw [n196, t196_0, k_0, k_1, s_dcM hS G hi 7 1 0 rfl (by decide)]
  rfl
theorem s_tilt (G : GS W ns sh R I) {i : Nat} (hi : i < ns) : ev X (d + 2) 74 [.ref (W 0 i)] (sz, sl, sh, R, I, J) = some (some (.int (Int32.ofNat (sumf (fun c => W 15 (8 * i + c)) 4 4) - Int32.ofNat (sumf (fun c => W 15 (8 * i + c)) 0 4))), (sz, sl, sh, R, I, J)) := by
  have h := G.2.2.2.1 i hi
  have hf : ∀ c, c < 8 → I (W 1 i) c = Int32.ofNat (W 15 (8 * i + c)) := fun c hc => (G.2.2.2.2.2.2.2.2.1 i c hi hc).1
  simp (disch := first | omega | exact ib_r | exact ib_n | exact isB_rfv _ | assumption) only [n74, t74_0 h.2.1, t74_10 h.2.1, t74_19, h.2.2.2.1, k_0, k_4, k_8, s_sumOfX h.2.2.2.2.2.1 (show 8 ≤ 8 by decide) (show 4 ≤ 8 by decide) hf, s_sumOfX h.2.2.2.2.2.1 (show 4 ≤ 8 by decide) (show 0 ≤ 4 by decide) hf, ↓reduceIte, eq_self, and_self, and_true, true_and, not_true_eq_false, not_false_eq_true, ob_s, tl_s, tl_n, rf_ref, orf_ref, orf_null, nn_ref, nn_null, rfv_s, rfv_n, if_true, if_false, bi_01, bi_e0, bi_e1, or_t, Classical.not_not, Nat.sub_zero]
end DEEP
