/-! WHAT HOLDS BETWEEN TWO CALLS. W: all that is told, as natural numbers (row, place):
 0 the step's object, 1 its measures' array, 2 the array below, 3 the law's object, 4 its code, 5 its stack, 6 its names, 7 the story's object, 8 a mark for each made cell (no two roles have the same);
 10 hard, 11 wet, 12 year, 13 rise, 14 turned, 15 measure (8 i + c), 16 below (8 i + c);
 20 .. 26 a story's numbers; 30 the tape; 31 the days; 32 places of changes, 33 what was, 34 what became; 35 the bodies' kinds -/
abbrev WW : Type := Nat → Nat → Nat
/-- a made cell, its mark -/
def mk (W : WW) (a m : Nat) : Prop := 71 ≤ a ∧ W 8 a = m
/-- the steps; ns of them -/
def GS (W : WW) (ns : Nat) (sh : Nat → Nat × Nat) (R : Nat → Nat → Option Nat) (I : Nat → Nat → Int32) : Prop :=
  ns ≤ 40 ∧ I 0 1 = Int32.ofNat ns ∧ I 37 0 = Int32.ofNat ns ∧ (∀ i, i < ns → R 1 i = some (W 0 i) ∧ sh (W 0 i) = (15, 0) ∧ R (W 0 i) 0 = (if i = 0 then none else some (W 0 (i - 1))) ∧ R (W 0 i) 6 = some (W 1 i) ∧ R (W 0 i) 7 = some (W 2 i) ∧ sh (W 1 i) = (0, 8) ∧ sh (W 2 i) = (0, 8)) ∧
  (∀ i, i < ns → mk W (W 0 i) (10 * i) ∧ (mk W (W 1 i) (10 * i + 1) ∧ mk W (W 2 i) (10 * i + 2) ∨ mk W (W 1 i) (10 * i + 2) ∧ mk W (W 2 i) (10 * i + 1))) ∧
  (∀ i, i < ns → I (W 0 i) 1 = Int32.ofNat (W 11 i) ∧ I (W 0 i) 2 = Int32.ofNat (W 10 i) ∧ I (W 0 i) 3 = Int32.ofNat (W 12 i) ∧ I (W 0 i) 4 = Int32.ofNat (W 13 i) ∧ I (W 0 i) 5 = Int32.ofNat (W 14 i)) ∧
  (∀ i, i < ns → I 38 i = Int32.ofNat (W 10 i) ∧ I 39 i = Int32.ofNat (W 11 i) ∧ I 40 i = Int32.ofNat (W 12 i) ∧ I 41 i = Int32.ofNat (W 13 i) ∧ I 44 i = Int32.ofNat (W 14 i)) ∧
  (∀ i, i < ns → (1 ≤ W 10 i ∧ W 10 i ≤ 9) ∧ W 11 i ≤ 1 ∧ W 12 i ≤ 2000 ∧ (1 ≤ W 13 i ∧ W 13 i ≤ 99) ∧ W 14 i ≤ 1) ∧
  (∀ i c, i < ns → c < 8 → I (W 1 i) c = Int32.ofNat (W 15 (8 * i + c)) ∧ I (W 2 i) c = Int32.ofNat (W 16 (8 * i + c)) ∧ I 42 (8 * i + c) = Int32.ofNat (W 15 (8 * i + c)) ∧ I 43 (8 * i + c) = Int32.ofNat (W 16 (8 * i + c)) ∧ W 15 (8 * i + c) ≤ 99999 ∧ W 16 (8 * i + c) ≤ 99999 ∧ (W 14 i = 0 → W 16 (8 * i + c) = 0)) ∧
  (∀ k, 8 * ns ≤ k → k < 320 → I 42 k = 0 ∧ I 43 k = 0) ∧ (∀ i, ns ≤ i → i < 40 → I 44 i = 0)
section STEPS
variable {X : XX} {d : Nat} {sz sl : Nat} {sh : Nat → Nat × Nat} {R : Nat → Nat → Option Nat} {I : Nat → Nat → Int32} {J : Nat → Nat → Int64} {W : WW} {ns : Nat}
theorem GS.n1 (G : GS W ns sh R I) : I 0 1 = Int32.ofNat ns := G.2.1
theorem GS.n2 (G : GS W ns sh R I) : I 37 0 = Int32.ofNat ns := G.2.2.1
/-- is v one of n things? -/
theorem idx {v : Int32} {n : Nat} (hn : n < 2147483648) : (0 ≤ v ∧ v ≤ Int32.ofNat n - 1) = (∃ j, j < n ∧ v = Int32.ofNat j) := by
  refine propext ⟨fun h => ?_, ?_⟩
  · obtain ⟨j, hj, rfl⟩ := n_of h.1
    have h2 := h.2
    rw [Int32.le_iff_toInt_le, n_ti hj] at h2
    by_cases h0 : n = 0
    · subst h0
      have : (Int32.ofNat 0 - 1).toInt = -1 := by decide
      omega
    · rw [k_1, n_sub (by omega), n_ti (by omega)] at h2
      exact ⟨j, by omega, rfl⟩
  · rintro ⟨j, hj, rfl⟩
    refine ⟨n_ge (by omega), ?_⟩
    rw [k_1, n_sub (by omega), n_le (by omega) (by omega)]
    omega
/-- the step's object, or null -/
theorem s_stepAt (hS : SF sh R) (G : GS W ns sh R I) {j : Nat} (hj : j < ns) : ev X (d + 2) 12 [.ref 0, .int (Int32.ofNat j)] (sz, sl, sh, R, I, J) = some (some (.ref (W 0 j)), (sz, sl, sh, R, I, J)) := by
  have h40 : ns ≤ 40 := G.1
  have hi : (0 : Int32) ≤ Int32.ofNat j ∧ Int32.ofNat j ≤ I 0 1 - 1 := by rw [G.n1, idx (by omega)]; exact ⟨j, hj, rfl⟩
  have h1 : j < 40 := by omega
  have h2 : ¬ 40 ≤ j := by omega
  simp (disch := first | omega | exact ib_r | exact ib_n | exact isB_rfv _ | assumption) only [n12, t12_0 hS, t12_11 hS, s_within, ↓reduceIte, eq_self, and_self, and_true, true_and, not_true_eq_false, not_false_eq_true, ob_s, tl_s, tl_n, rf_ref, orf_ref, orf_null, nn_ref, nn_null, rfv_s, rfv_n, if_true, if_false, bi_01, bi_e0, bi_e1, or_t, Classical.not_not, hi]
  simp (disch := first | omega | exact ib_r | exact ib_n | exact isB_rfv _ | assumption) only [k_0, k_1, k_2, k_3, k_4, k_5, k_6, k_7, k_8, k_9, k_10, k_11, k_12, k_13, k_14, k_15, k_16, k_17, k_18, k_19, k_20, k_21, k_22, k_24, k_30, k_32, k_33, k_37, k_38, k_39, k_40, k_41, k_42, k_43, k_45, k_47, k_48, k_50, k_57, k_59, k_60, k_61, k_62, k_63, k_70, k_79, k_80, k_81, k_99, k_100, k_120, k_124, k_130, k_200, k_241, k_255, k_256, k_320, k_360, k_799, k_800, k_1000, k_2000, k_3200, k_7999, k_9999, k_10000, k_12345, k_20000, k_20045, k_20059, k_20061, k_20063, k_99999, k_100000, k_999999, k_252645135, k_858993459, k_1103515245, k_1431655765, k_2000000000, n_cl, n_lt, n_le, n_eq, n_rem, n_rem', n_add, n_mul, n_sub, n_div, n_inb, n_64, ↓reduceIte, eq_self, and_self, and_true, true_and, not_true_eq_false, not_false_eq_true, ob_s, tl_s, tl_n, rf_ref, orf_ref, orf_null, nn_ref, nn_null, rfv_s, rfv_n, if_true, if_false, bi_01, bi_e0, bi_e1, or_t, Classical.not_not, h1, h2, (G.2.2.2.1 j hj).1]
theorem s_stepAt_no (hS : SF sh R) (G : GS W ns sh R I) {v : Int32} (hv : ¬ ∃ j, j < ns ∧ v = Int32.ofNat j) : ev X (d + 2) 12 [.ref 0, .int v] (sz, sl, sh, R, I, J) = some (some .null, (sz, sl, sh, R, I, J)) := by
  have h40 : ns ≤ 40 := G.1
  have hi : ¬ ((0 : Int32) ≤ v ∧ v ≤ I 0 1 - 1) := by rw [G.n1, idx (by omega)]; exact hv
  simp only [n12, t12_0 hS, t12_11 hS, s_within, ↓reduceIte, eq_self, and_self, and_true, true_and, not_true_eq_false, not_false_eq_true, ob_s, tl_s, tl_n, rf_ref, orf_ref, orf_null, nn_ref, nn_null, rfv_s, rfv_n, if_true, if_false, bi_01, bi_e0, bi_e1, or_t, Classical.not_not, hi, not_false_eq_true, if_true]
/-- a cell's measure -/
theorem s_measure (G : GS W ns sh R I) {i c : Nat} (hi : i < ns) (hc : c < 8) : ev X (d + 1) 16 [.ref (W 0 i), .int (Int32.ofNat c)] (sz, sl, sh, R, I, J) = some (some (.int (Int32.ofNat (W 15 (8 * i + c)))), (sz, sl, sh, R, I, J)) := by
  have h := G.2.2.2.1 i hi
  have hm := (G.2.2.2.2.2.2.2.2.1 i c hi hc).1
  have h0 : ¬ Int32.ofNat c < 0 := Int32.not_lt.mpr (n_ge (by omega))
  have h1 : ¬ 8 ≤ c := by omega
  simp only [n16, t16_0 h.2.1, h.2.2.2.1, h.2.2.2.2.2.1, ↓reduceIte, eq_self, and_self, and_true, true_and, not_true_eq_false, not_false_eq_true, ob_s, tl_s, tl_n, rf_ref, orf_ref, orf_null, nn_ref, nn_null, rfv_s, rfv_n, if_true, if_false, bi_01, bi_e0, bi_e1, or_t, Classical.not_not, h0]
  simp (disch := first | omega | exact ib_r | exact ib_n | exact isB_rfv _ | assumption) only [k_0, k_1, k_2, k_3, k_4, k_5, k_6, k_7, k_8, k_9, k_10, k_11, k_12, k_13, k_14, k_15, k_16, k_17, k_18, k_19, k_20, k_21, k_22, k_24, k_30, k_32, k_33, k_37, k_38, k_39, k_40, k_41, k_42, k_43, k_45, k_47, k_48, k_50, k_57, k_59, k_60, k_61, k_62, k_63, k_70, k_79, k_80, k_81, k_99, k_100, k_120, k_124, k_130, k_200, k_241, k_255, k_256, k_320, k_360, k_799, k_800, k_1000, k_2000, k_3200, k_7999, k_9999, k_10000, k_12345, k_20000, k_20045, k_20059, k_20061, k_20063, k_99999, k_100000, k_999999, k_252645135, k_858993459, k_1103515245, k_1431655765, k_2000000000, n_cl, n_lt, n_le, n_eq, n_rem, n_rem', n_add, n_mul, n_sub, n_div, n_inb, n_64, ↓reduceIte, eq_self, and_self, and_true, true_and, not_true_eq_false, not_false_eq_true, ob_s, tl_s, tl_n, rf_ref, orf_ref, orf_null, nn_ref, nn_null, rfv_s, rfv_n, if_true, if_false, bi_01, bi_e0, bi_e1, or_t, Classical.not_not, h1, hc, hm]
  rfl
end STEPS
