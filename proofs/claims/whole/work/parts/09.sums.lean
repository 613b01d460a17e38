/-! CELLS, SUMS, older -/
def sumf (f : Nat → Nat) : Nat → Nat → Nat
  | _, 0 => 0
  | k, n + 1 => f k + sumf f (k + 1) n
theorem sumf_z {f : Nat → Nat} {k : Nat} : sumf f k 0 = 0 := rfl
theorem sumf_s {f : Nat → Nat} {k n : Nat} : sumf f k (n + 1) = f k + sumf f (k + 1) n := rfl
section SUMS
variable {X : XX} {d : Nat} {sz sl : Nat} {sh : Nat → Nat × Nat} {R : Nat → Nat → Option Nat} {I : Nat → Nat → Int32} {J : Nat → Nat → Int64} {W : WW} {ns : Nat}
/-- which step and cell a number tells -/
def celA (ns : Nat) (v : Int32) : Prop := ∃ i c, i < ns ∧ c < 8 ∧ v = Int32.ofNat (10 * i + c)
theorem s_cellX (hS : SF sh R) (G : GS W ns sh R I) {i c : Nat} (hi : i < ns) (hc : c < 8) : ev X (d + 3) 18 [.ref 0, .int (Int32.ofNat (10 * i + c))] (sz, sl, sh, R, I, J) = some (some (.ref (W 0 i)), (sz, sl, sh, R, I, J)) := by
  have h40 := G.1
  have e0 : ¬ Int32.ofNat (10 * i + c) < 0 := Int32.not_lt.mpr (n_ge (by omega))
  have e1 : (10 * i + c) % 10 = c := by omega
  have e2 : (10 * i + c) / 10 = i := by omega
  have e3 : ¬ 8 ≤ c := by omega
  simp (disch := first | omega | exact ib_r | exact ib_n | exact isB_rfv _ | assumption) only [n18, t18_0 hS, k_8, k_10, n_div, n_rem']
  simp (disch := first | omega | exact ib_r | exact ib_n | exact isB_rfv _ | assumption) only [t18_21, e0, n_le, e1, e2, e3, s_stepAt hS G hi, ↓reduceIte, eq_self, and_self, and_true, true_and, not_true_eq_false, not_false_eq_true, ob_s, tl_s, tl_n, rf_ref, orf_ref, orf_null, nn_ref, nn_null, rfv_s, rfv_n, if_true, if_false, bi_01, bi_e0, bi_e1, or_t, Classical.not_not]
theorem s_cellM (hS : SF sh R) (G : GS W ns sh R I) {i c : Nat} (hi : i < ns) (hc : c < 8) : ev X (d + 3) 154 [.ref 37, .int (Int32.ofNat (10 * i + c))] (sz, sl, sh, R, I, J) = some (some (.int 1), (sz, sl, sh, R, I, J)) := by
  have h40 := G.1
  have e0 : ¬ Int32.ofNat (10 * i + c) < 0 := Int32.not_lt.mpr (n_ge (by omega))
  have e1 : (10 * i + c) % 10 = c := by omega
  have e2 : (10 * i + c) / 10 = i := by omega
  have e3 : ¬ 8 ≤ c := by omega
  have hs : (0 : Int32) ≤ Int32.ofNat i ∧ Int32.ofNat i ≤ I 37 0 - 1 := by rw [G.n2, idx (by omega)]; exact ⟨i, hi, rfl⟩
  simp (disch := first | omega | exact ib_r | exact ib_n | exact isB_rfv _ | assumption) only [n154, t154_0 hS, t154_12, s_isStep hS, ob_s, tl_s, k_8, k_10, n_div, n_rem']
  simp (disch := first | omega | exact ib_r | exact ib_n | exact isB_rfv _ | assumption) only [e0, n_le, e1, e2, e3, hs, ↓reduceIte, eq_self, and_self, and_true, true_and, not_true_eq_false, not_false_eq_true, ob_s, tl_s, tl_n, rf_ref, orf_ref, orf_null, nn_ref, nn_null, rfv_s, rfv_n, if_true, if_false, bi_01, bi_e0, bi_e1, or_t, Classical.not_not]
theorem s_cell_no (hS : SF sh R) (G : GS W ns sh R I) {v : Int32} (hv : ¬ celA ns v) : ev X (d + 3) 18 [.ref 0, .int v] (sz, sl, sh, R, I, J) = some (some .null, (sz, sl, sh, R, I, J)) ∧ ev X (d + 3) 154 [.ref 37, .int v] (sz, sl, sh, R, I, J) = some (some (.int 0), (sz, sl, sh, R, I, J)) := by
  have h40 := G.1
  by_cases h0 : v < 0
  · constructor
    · simp (disch := first | omega | exact ib_r | exact ib_n | exact isB_rfv _ | assumption) only [n18, t18_0 hS, t18_21, h0, ↓reduceIte, eq_self, and_self, and_true, true_and, not_true_eq_false, not_false_eq_true, ob_s, tl_s, tl_n, rf_ref, orf_ref, orf_null, nn_ref, nn_null, rfv_s, rfv_n, if_true, if_false, bi_01, bi_e0, bi_e1, or_t, Classical.not_not]
    · simp (disch := first | omega | exact ib_r | exact ib_n | exact isB_rfv _ | assumption) only [n154, t154_0 hS, t154_12, h0, ↓reduceIte, eq_self, and_self, and_true, true_and, not_true_eq_false, not_false_eq_true, ob_s, tl_s, tl_n, rf_ref, orf_ref, orf_null, nn_ref, nn_null, rfv_s, rfv_n, if_true, if_false, bi_01, bi_e0, bi_e1, or_t, Classical.not_not]
  obtain ⟨k, hk, rfl⟩ := n_of (Int32.not_lt.mp h0)
  by_cases hi : k / 10 < ns
  · have hc : 8 ≤ k % 10 := by
      by_cases h : 8 ≤ k % 10
      · exact h
      · exact absurd ⟨k / 10, k % 10, hi, by omega, congrArg _ (by omega)⟩ hv
    have hs : (0 : Int32) ≤ Int32.ofNat (k / 10) ∧ Int32.ofNat (k / 10) ≤ I 37 0 - 1 := by rw [G.n2, idx (by omega)]; exact ⟨_, hi, rfl⟩
    constructor
    · simp (disch := first | omega | exact ib_r | exact ib_n | exact isB_rfv _ | assumption) only [n18, t18_0 hS, t18_21, h0, k_8, k_10, n_div, n_rem', n_le, hc, ↓reduceIte, eq_self, and_self, and_true, true_and, not_true_eq_false, not_false_eq_true, ob_s, tl_s, tl_n, rf_ref, orf_ref, orf_null, nn_ref, nn_null, rfv_s, rfv_n, if_true, if_false, bi_01, bi_e0, bi_e1, or_t, Classical.not_not]
    · simp (disch := first | omega | exact ib_r | exact ib_n | exact isB_rfv _ | assumption) only [n154, t154_0 hS, t154_12, h0, k_8, k_10, n_div, n_rem', n_le, hc, s_isStep hS, hs, ↓reduceIte, eq_self, and_self, and_true, true_and, not_true_eq_false, not_false_eq_true, ob_s, tl_s, tl_n, rf_ref, orf_ref, orf_null, nn_ref, nn_null, rfv_s, rfv_n, if_true, if_false, bi_01, bi_e0, bi_e1, or_t, Classical.not_not]
  · have hj : ¬ ∃ j, j < ns ∧ Int32.ofNat (k / 10) = Int32.ofNat j := by
      rintro ⟨j, hj, e⟩
      rw [n_eq (by omega) (by omega)] at e
      omega
    have hs : ¬ ((0 : Int32) ≤ Int32.ofNat (k / 10) ∧ Int32.ofNat (k / 10) ≤ I 37 0 - 1) := by rw [G.n2, idx (by omega)]; exact hj
    constructor
    · by_cases hc : 8 ≤ k % 10
      · simp (disch := first | omega | exact ib_r | exact ib_n | exact isB_rfv _ | assumption) only [n18, t18_0 hS, t18_21, h0, k_8, k_10, n_div, n_rem', n_le, hc, ↓reduceIte, eq_self, and_self, and_true, true_and, not_true_eq_false, not_false_eq_true, ob_s, tl_s, tl_n, rf_ref, orf_ref, orf_null, nn_ref, nn_null, rfv_s, rfv_n, if_true, if_false, bi_01, bi_e0, bi_e1, or_t, Classical.not_not]
      · simp (disch := first | omega | exact ib_r | exact ib_n | exact isB_rfv _ | assumption) only [n18, t18_0 hS, t18_21, h0, k_8, k_10, n_div, n_rem', n_le, hc, s_stepAt_no hS G hj, ↓reduceIte, eq_self, and_self, and_true, true_and, not_true_eq_false, not_false_eq_true, ob_s, tl_s, tl_n, rf_ref, orf_ref, orf_null, nn_ref, nn_null, rfv_s, rfv_n, if_true, if_false, bi_01, bi_e0, bi_e1, or_t, Classical.not_not]
    · simp (disch := first | omega | exact ib_r | exact ib_n | exact isB_rfv _ | assumption) only [n154, t154_0 hS, t154_12, h0, k_10, n_div, s_isStep hS, hs, ↓reduceIte, eq_self, and_self, and_true, true_and, not_true_eq_false, not_false_eq_true, ob_s, tl_s, tl_n, rf_ref, orf_ref, orf_null, nn_ref, nn_null, rfv_s, rfv_n, if_true, if_false, bi_01, bi_e0, bi_e1, or_t, Classical.not_not]
/-- the sum of a part of a row -/
theorem s_sumX {a to : Nat} {f : Nat → Nat} (ha : sh a = (0, 8)) (hto : to ≤ 8) (hf : ∀ c, c < 8 → I a c = Int32.ofNat (f c)) : ∀ (n k acc : Nat), k + n = to → exe X d 35 5 [.ref a, dm, .int (Int32.ofNat to), .int (Int32.ofNat acc), .int (Int32.ofNat k)] [] (sz, sl, sh, R, I, J) = some (some (.int (Int32.ofNat (acc + sumf f k n))), (sz, sl, sh, R, I, J))
  | 0, k, acc, h => by
    have e : to ≤ k := by omega
    simp (disch := first | omega | exact ib_r | exact ib_n | exact isB_rfv _ | assumption) only [t35_5, n_le, e, ↓reduceIte, eq_self, and_self, and_true, true_and, not_true_eq_false, not_false_eq_true, ob_s, tl_s, tl_n, rf_ref, orf_ref, orf_null, nn_ref, nn_null, rfv_s, rfv_n, if_true, if_false, bi_01, bi_e0, bi_e1, or_t, Classical.not_not, sumf_z, Nat.add_zero]
  | n + 1, k, acc, h => by
    have e0 : ¬ to ≤ k := by omega
    have e1 : ¬ Int32.ofNat k < 0 := Int32.not_lt.mpr (n_ge (by omega))
    have e2 : ¬ 8 ≤ k := by omega
    have e3 : k < 8 := by omega
    have e4 : (0 : Nat) < 7 := by decide
    have ih := s_sumX ha hto hf n (k + 1) (acc + f k) (by omega)
    rw [t35_5]
    simp (disch := first | omega | exact ib_r | exact ib_n | exact isB_rfv _ | assumption) only [n_le, e0, e1, e2, e3, e4, ha, n_inb, n_cl, hf k e3, n_add, k_1, ↓reduceIte, eq_self, and_self, and_true, true_and, not_true_eq_false, not_false_eq_true, ob_s, tl_s, tl_n, rf_ref, orf_ref, orf_null, nn_ref, nn_null, rfv_s, rfv_n, if_true, if_false, bi_01, bi_e0, bi_e1, or_t, Classical.not_not]
    rw [ih, sumf_s, Nat.add_assoc]
theorem s_sumOfX {a fr to : Nat} {f : Nat → Nat} (ha : sh a = (0, 8)) (hto : to ≤ 8) (hfr : fr ≤ to) (hf : ∀ c, c < 8 → I a c = Int32.ofNat (f c)) : ev X (d + 1) 35 [.ref a, .int (Int32.ofNat fr), .int (Int32.ofNat to)] (sz, sl, sh, R, I, J) = some (some (.int (Int32.ofNat (sumf f fr (to - fr)))), (sz, sl, sh, R, I, J)) := by
  rw [n35, t35_0, k_0, s_sumX ha hto hf (to - fr) fr 0 (by omega), Nat.zero_add]
theorem s_sumM5 (hS : SF sh R) (G : GS W ns sh R I) {i : Nat} (hi : i < ns) : ∀ (n k acc : Nat), k + n = 8 → exe X d 162 4 [.ref 37, .int (Int32.ofNat i), .int (Int32.ofNat acc), .int (Int32.ofNat k)] [] (sz, sl, sh, R, I, J) = some (some (.int (Int32.ofNat (acc + sumf (fun c => W 15 (8 * i + c)) k n))), (sz, sl, sh, R, I, J))
  | 0, k, acc, h => by
    have e : 8 ≤ k := by omega
    simp (disch := first | omega | exact ib_r | exact ib_n | exact isB_rfv _ | assumption) only [t162_4 hS, k_8, n_le, e, ↓reduceIte, eq_self, and_self, and_true, true_and, not_true_eq_false, not_false_eq_true, ob_s, tl_s, tl_n, rf_ref, orf_ref, orf_null, nn_ref, nn_null, rfv_s, rfv_n, if_true, if_false, bi_01, bi_e0, bi_e1, or_t, Classical.not_not, sumf_z, Nat.add_zero]
  | n + 1, k, acc, h => by
    have h40 := G.1
    have e2 : ¬ 8 ≤ k := by omega
    have e3 : k < 8 := by omega
    have e4 : 8 * i + k < 320 := by omega
    have hm := (G.2.2.2.2.2.2.2.2.1 i k hi e3).2.2.1
    have ih := s_sumM5 hS G hi n (k + 1) (acc + W 15 (8 * i + k)) (by omega)
    rw [t162_4 hS]
    simp (disch := first | omega | exact ib_r | exact ib_n | exact isB_rfv _ | assumption) only [k_8, k_1, n_le, e2, n_mul, n_add, n_inb, n_cl, e4, hm, ↓reduceIte, eq_self, and_self, and_true, true_and, not_true_eq_false, not_false_eq_true, ob_s, tl_s, tl_n, rf_ref, orf_ref, orf_null, nn_ref, nn_null, rfv_s, rfv_n, if_true, if_false, bi_01, bi_e0, bi_e1, or_t, Classical.not_not]
    rw [ih, sumf_s, Nat.add_assoc]
theorem s_sumOfM (hS : SF sh R) (G : GS W ns sh R I) {i : Nat} (hi : i < ns) : ev X (d + 1) 162 [.ref 37, .int (Int32.ofNat i)] (sz, sl, sh, R, I, J) = some (some (.int (Int32.ofNat (sumf (fun c => W 15 (8 * i + c)) 0 8))), (sz, sl, sh, R, I, J)) := by
  rw [n162, t162_0, k_0, s_sumM5 hS G hi 8 0 0 rfl, Nat.zero_add]
theorem s_together (G : GS W ns sh R I) {i : Nat} (hi : i < ns) : ev X (d + 2) 34 [.ref (W 0 i)] (sz, sl, sh, R, I, J) = some (some (.int (Int32.ofNat (sumf (fun c => W 15 (8 * i + c)) 0 8))), (sz, sl, sh, R, I, J)) := by
  have h := G.2.2.2.1 i hi
  simp (disch := first | omega | exact ib_r | exact ib_n | exact isB_rfv _ | assumption) only [n34, t34_0 h.2.1, t34_10, h.2.2.2.1, k_0, k_8, s_sumOfX h.2.2.2.2.2.1 (Nat.le_refl 8) (Nat.zero_le 8) (fun c hc => (G.2.2.2.2.2.2.2.2.1 i c hi hc).1), ↓reduceIte, eq_self, and_self, and_true, true_and, not_true_eq_false, not_false_eq_true, ob_s, tl_s, tl_n, rf_ref, orf_ref, orf_null, nn_ref, nn_null, rfv_s, rfv_n, if_true, if_false, bi_01, bi_e0, bi_e1, or_t, Classical.not_not, Nat.sub_zero]
theorem s_belowTogether (G : GS W ns sh R I) {i : Nat} (hi : i < ns) : ev X (d + 2) 38 [.ref (W 0 i)] (sz, sl, sh, R, I, J) = some (some (.int (Int32.ofNat (sumf (fun c => W 16 (8 * i + c)) 0 8))), (sz, sl, sh, R, I, J)) := by
  have h := G.2.2.2.1 i hi
  simp (disch := first | omega | exact ib_r | exact ib_n | exact isB_rfv _ | assumption) only [n38, t38_0 h.2.1, t38_10, h.2.2.2.2.1, k_0, k_8, s_sumOfX h.2.2.2.2.2.2 (Nat.le_refl 8) (Nat.zero_le 8) (fun c hc => (G.2.2.2.2.2.2.2.2.1 i c hi hc).2.1), ↓reduceIte, eq_self, and_self, and_true, true_and, not_true_eq_false, not_false_eq_true, ob_s, tl_s, tl_n, rf_ref, orf_ref, orf_null, nn_ref, nn_null, rfv_s, rfv_n, if_true, if_false, bi_01, bi_e0, bi_e1, or_t, Classical.not_not, Nat.sub_zero]
theorem s_olderM (hS : SF sh R) (G : GS W ns sh R I) {i : Nat} (hi : i < ns) : ∀ (n k acc : Nat), k + n = 8 → exe X d 163 29 [.ref 37, .int (Int32.ofNat i), .int (Int32.ofNat acc), .int (Int32.ofNat (8 * i + k))] [] (sz, sl, sh, R, I, J) = some (some (.int (Int32.ofNat (acc + sumf (fun c => W 16 (8 * i + c)) k n))), (sz, sl, sh, R, I, J))
  | 0, k, acc, h => by
    have h40 := G.1
    have e : 8 * i + 8 ≤ 8 * i + k := by omega
    simp (disch := first | omega | exact ib_r | exact ib_n | exact isB_rfv _ | assumption) only [t163_29 hS, k_8, n_mul, n_add, n_le, e, ↓reduceIte, eq_self, and_self, and_true, true_and, not_true_eq_false, not_false_eq_true, ob_s, tl_s, tl_n, rf_ref, orf_ref, orf_null, nn_ref, nn_null, rfv_s, rfv_n, if_true, if_false, bi_01, bi_e0, bi_e1, or_t, Classical.not_not, sumf_z, Nat.add_zero]
  | n + 1, k, acc, h => by
    have h40 := G.1
    have e2 : ¬ 8 * i + 8 ≤ 8 * i + k := by omega
    have e3 : k < 8 := by omega
    have e4 : 8 * i + k < 320 := by omega
    have hm := (G.2.2.2.2.2.2.2.2.1 i k hi e3).2.2.2.1
    have ih := s_olderM hS G hi n (k + 1) (acc + W 16 (8 * i + k)) (by omega)
    rw [t163_29 hS]
    simp (disch := first | omega | exact ib_r | exact ib_n | exact isB_rfv _ | assumption) only [k_8, k_1, n_mul, n_add, n_le, e2, n_inb, n_cl, e4, hm, ↓reduceIte, eq_self, and_self, and_true, true_and, not_true_eq_false, not_false_eq_true, ob_s, tl_s, tl_n, rf_ref, orf_ref, orf_null, nn_ref, nn_null, rfv_s, rfv_n, if_true, if_false, bi_01, bi_e0, bi_e1, or_t, Classical.not_not]
    rw [Nat.add_assoc, ih, sumf_s, Nat.add_assoc]
theorem o_older (hS : SF sh R) (G : GS W ns sh R I) {v : Int32} : ∃ x, ev X (d + 4) 37 [.ref 0, .int v] (sz, sl, sh, R, I, J) = some (some (.int x), (sz, sl, sh, R, I, J)) ∧ ev X (d + 4) 163 [.ref 37, .int v] (sz, sl, sh, R, I, J) = some (some (.int x), (sz, sl, sh, R, I, J)) := by
  have h40 := G.1
  by_cases hv : ∃ j, j < ns ∧ v = Int32.ofNat j
  · obtain ⟨j, hj, rfl⟩ := hv
    have h := G.2.2.2.1 j hj
    have g1 := G.2.2.2.2.2.1 j hj
    have g2 := G.2.2.2.2.2.2.1 j hj
    have e1 : j < 40 := by omega
    have hi : (0 : Int32) ≤ Int32.ofNat j ∧ Int32.ofNat j ≤ I 37 0 - 1 := by rw [G.n2, idx (by omega)]; exact ⟨j, hj, rfl⟩
    by_cases g0 : Int32.ofNat (W 14 j) = 0
    · refine ⟨-5, ?_, ?_⟩
      · simp (disch := first | omega | exact ib_r | exact ib_n | exact isB_rfv _ | assumption) only [n37, t37_0 hS, t37_5, t37_23, s_stepAt hS G hj, ↓reduceIte, eq_self, and_self, and_true, true_and, not_true_eq_false, not_false_eq_true, ob_s, tl_s, tl_n, rf_ref, orf_ref, orf_null, nn_ref, nn_null, rfv_s, rfv_n, if_true, if_false, bi_01, bi_e0, bi_e1, or_t, Classical.not_not, h.2.1, g1, g0]
      · simp (disch := first | omega | exact ib_r | exact ib_n | exact isB_rfv _ | assumption) only [n163, t163_0 hS, t163_5 hS, s_isStep hS, hi, ↓reduceIte, eq_self, and_self, and_true, true_and, not_true_eq_false, not_false_eq_true, ob_s, tl_s, tl_n, rf_ref, orf_ref, orf_null, nn_ref, nn_null, rfv_s, rfv_n, if_true, if_false, bi_01, bi_e0, bi_e1, or_t, Classical.not_not, n_inb, n_cl, e1, g2, g0]
    · refine ⟨Int32.ofNat (sumf (fun c => W 16 (8 * j + c)) 0 8), ?_, ?_⟩
      · simp (disch := first | omega | exact ib_r | exact ib_n | exact isB_rfv _ | assumption) only [n37, t37_0 hS, t37_5, t37_23, s_stepAt hS G hj, ↓reduceIte, eq_self, and_self, and_true, true_and, not_true_eq_false, not_false_eq_true, ob_s, tl_s, tl_n, rf_ref, orf_ref, orf_null, nn_ref, nn_null, rfv_s, rfv_n, if_true, if_false, bi_01, bi_e0, bi_e1, or_t, Classical.not_not, h.2.1, g1, g0, s_belowTogether G hj]
      · have z := s_olderM (X := X) (d := d + 3) (sz := sz) (sl := sl) (J := J) hS G hj 8 0 0 rfl
        rw [Nat.zero_add, Nat.add_zero] at z
        simp (disch := first | omega | exact ib_r | exact ib_n | exact isB_rfv _ | assumption) only [n163, t163_0 hS, t163_5 hS, s_isStep hS, hi, ↓reduceIte, eq_self, and_self, and_true, true_and, not_true_eq_false, not_false_eq_true, ob_s, tl_s, tl_n, rf_ref, orf_ref, orf_null, nn_ref, nn_null, rfv_s, rfv_n, if_true, if_false, bi_01, bi_e0, bi_e1, or_t, Classical.not_not, n_inb, n_cl, e1, g2, g0]
        rw [← z, k_0, k_8, n_mul]; rfl
  · have hi : ¬ ((0 : Int32) ≤ v ∧ v ≤ I 37 0 - 1) := by rw [G.n2, idx (by omega)]; exact hv
    refine ⟨-1, ?_, ?_⟩
    · simp (disch := first | omega | exact ib_r | exact ib_n | exact isB_rfv _ | assumption) only [n37, t37_0 hS, t37_5, t37_23, s_stepAt_no hS G hv, ↓reduceIte, eq_self, and_self, and_true, true_and, not_true_eq_false, not_false_eq_true, ob_s, tl_s, tl_n, rf_ref, orf_ref, orf_null, nn_ref, nn_null, rfv_s, rfv_n, if_true, if_false, bi_01, bi_e0, bi_e1, or_t, Classical.not_not]
    · simp (disch := first | omega | exact ib_r | exact ib_n | exact isB_rfv _ | assumption) only [n163, t163_0 hS, t163_5 hS, s_isStep hS, hi, ↓reduceIte, eq_self, and_self, and_true, true_and, not_true_eq_false, not_false_eq_true, ob_s, tl_s, tl_n, rf_ref, orf_ref, orf_null, nn_ref, nn_null, rfv_s, rfv_n, if_true, if_false, bi_01, bi_e0, bi_e1, or_t, Classical.not_not]
end SUMS
