/-! STEPS READ: of, unlike -/
/-- how unlike the one under it -/
def unl (W : WW) (i : Nat) : Nat := if i = 0 then 0 else (W 13 i - W 13 (i - 1)) + (W 13 (i - 1) - W 13 i)
section OF
variable {X : XX} {d : Nat} {sz sl : Nat} {sh : Nat → Nat × Nat} {R : Nat → Nat → Option Nat} {I : Nat → Nat → Int32} {J : Nat → Nat → Int64} {W : WW} {ns : Nat}
theorem s_unlikeX (G : GS W ns sh R I) {i : Nat} (hi : i < ns) : ev X (d + 1) 15 [.ref (W 0 i)] (sz, sl, sh, R, I, J) = some (some (.int (Int32.ofNat (unl W i))), (sz, sl, sh, R, I, J)) := by
  have h := G.2.2.2.1 i hi
  have hr := (G.2.2.2.2.2.2.2.1 i hi).2.2.2.1
  have hI := (G.2.2.2.2.2.1 i hi).2.2.2.1
  rw [n15, t15_0 h.2.1, h.2.2.1]
  unfold unl
  by_cases h0 : i = 0
  · simp only [h0, if_true, rfv_n, nn_null]; rfl
  · have hi' : i - 1 < ns := by omega
    have hr' := (G.2.2.2.2.2.2.2.1 (i - 1) hi').2.2.2.1
    have hI' := (G.2.2.2.2.2.1 (i - 1) hi').2.2.2.1
    simp only [h0, if_false, rfv_s, nn_ref, rf_ref, (G.2.2.2.1 (i - 1) hi').2.1, if_true, hI, hI']
    rw [n_abs (by omega) (by omega)]
theorem s_unlikeM (hS : SF sh R) (G : GS W ns sh R I) {i : Nat} (hi : i < ns) : ev X (d + 2) 151 [.ref 37, .int (Int32.ofNat i)] (sz, sl, sh, R, I, J) = some (some (.int (Int32.ofNat (unl W i))), (sz, sl, sh, R, I, J)) := by
  have h40 := G.1
  have hr := (G.2.2.2.2.2.2.2.1 i hi).2.2.2.1
  have hI := (G.2.2.2.2.2.2.1 i hi).2.2.2.1
  rw [n151, t151_0 hS]
  unfold unl
  by_cases h0 : i = 0
  · subst h0; rfl
  · have hi' : i - 1 < ns := by omega
    have hr' := (G.2.2.2.2.2.2.2.1 (i - 1) hi').2.2.2.1
    have hI' := (G.2.2.2.2.2.2.1 (i - 1) hi').2.2.2.1
    have e1 : i < 40 := by omega
    have e2 : i - 1 < 40 := by omega
    rw [if_pos (by rw [k_0, n_eq (by omega) (by omega)]; exact h0), show Int32.ofNat i - 1 = Int32.ofNat (i - 1) from by rw [k_1, n_sub (by omega)]]
    simp (disch := first | omega | exact ib_r | exact ib_n | exact isB_rfv _ | assumption) only [n_inb, n_cl, e1, e2, if_true, s_size, hI, hI', ↓reduceIte, eq_self, and_self, and_true, true_and, not_true_eq_false, not_false_eq_true, ob_s, tl_s, tl_n, rf_ref, orf_ref, orf_null, nn_ref, nn_null, rfv_s, rfv_n, if_true, if_false, bi_01, bi_e0, bi_e1, or_t, Classical.not_not, t151_27, l_abs]
    rw [n_abs (by omega) (by omega), if_neg h0]
theorem o_of (hS : SF sh R) (G : GS W ns sh R I) {v w : Int32} : ∃ x, ev X (d + 4) 14 [.ref 0, .int v, .int w] (sz, sl, sh, R, I, J) = some (some (.int x), (sz, sl, sh, R, I, J)) ∧ ev X (d + 4) 149 [.ref 37, .int v, .int w] (sz, sl, sh, R, I, J) = some (some (.int x), (sz, sl, sh, R, I, J)) := by
  have h40 := G.1
  by_cases hv : ∃ j, j < ns ∧ v = Int32.ofNat j
  · obtain ⟨j, hj, rfl⟩ := hv
    have h := G.2.2.2.1 j hj
    have g1 := G.2.2.2.2.2.1 j hj
    have g2 := G.2.2.2.2.2.2.1 j hj
    have e1 : j < 40 := by omega
    have hi : (0 : Int32) ≤ Int32.ofNat j ∧ Int32.ofNat j ≤ I 37 0 - 1 := by rw [G.n2, idx (by omega)]; exact ⟨j, hj, rfl⟩
    by_cases hw : 10 ≤ w ∧ w ≤ 17
    · obtain ⟨c, hc1, hc2, rfl⟩ := n_in (a := 10) (b := 17) (by decide) hw.1 hw.2 (by decide)
      have e2 : c - 10 < 8 := by omega
      have e3 : 8 * j + c - 10 < 320 := by omega
      have e4 : 8 * j + c - 10 = 8 * j + (c - 10) := by omega
      have gm := (G.2.2.2.2.2.2.2.2.1 j (c - 10) hj e2).2.2.1
      refine ⟨Int32.ofNat (W 15 (8 * j + (c - 10))), ?_, ?_⟩
      · have z0 : ¬ c = 0 := by omega
        have z1 : ¬ c = 1 := by omega
        have z2 : ¬ c = 2 := by omega
        have z3 : ¬ c = 3 := by omega
        have z4 : ¬ c = 4 := by omega
        have z5 : ¬ c = 5 := by omega
        simp (disch := first | omega | exact ib_r | exact ib_n | exact isB_rfv _ | assumption) only [n14, t14_0 hS, t14_5, t14_76, t14_98, t14_109, s_stepAt hS G hj, s_within, ib_r, ↓reduceIte, eq_self, and_self, and_true, true_and, not_true_eq_false, not_false_eq_true, ob_s, tl_s, tl_n, rf_ref, orf_ref, orf_null, nn_ref, nn_null, rfv_s, rfv_n, if_true, if_false, bi_01, bi_e0, bi_e1, or_t, Classical.not_not, hw]
        simp (disch := first | omega | exact ib_r | exact ib_n | exact isB_rfv _ | assumption) only [k_0, k_1, k_2, k_3, k_4, k_5, k_6, k_7, k_8, k_9, k_10, k_11, k_12, k_13, k_14, k_15, k_16, k_17, k_18, k_19, k_20, k_21, k_22, k_24, k_30, k_32, k_33, k_37, k_38, k_39, k_40, k_41, k_42, k_43, k_45, k_47, k_48, k_50, k_57, k_59, k_60, k_61, k_62, k_63, k_70, k_79, k_80, k_81, k_99, k_100, k_120, k_124, k_130, k_200, k_241, k_255, k_256, k_320, k_360, k_799, k_800, k_1000, k_2000, k_3200, k_7999, k_9999, k_10000, k_12345, k_20000, k_20045, k_20059, k_20061, k_20063, k_99999, k_100000, k_999999, k_252645135, k_858993459, k_1103515245, k_1431655765, k_2000000000, n_cl, n_lt, n_le, n_eq, n_rem, n_rem', n_add, n_mul, n_sub, n_div, n_inb, n_64, z0, z1, z2, z3, z4, z5, ↓reduceIte, eq_self, and_self, and_true, true_and, not_true_eq_false, not_false_eq_true, ob_s, tl_s, tl_n, rf_ref, orf_ref, orf_null, nn_ref, nn_null, rfv_s, rfv_n, if_true, if_false, bi_01, bi_e0, bi_e1, or_t, Classical.not_not, h.2.1, s_measure G hj e2, n14, t14_0 hS, t14_5, t14_76, t14_98, t14_109]
      · simp (disch := first | omega | exact ib_r | exact ib_n | exact isB_rfv _ | assumption) only [n149, t149_0 hS, t149_5, t149_18 hS, t149_109, s_isStep hS, s_in, hi, hw, ↓reduceIte, eq_self, and_self, and_true, true_and, not_true_eq_false, not_false_eq_true, ob_s, tl_s, tl_n, rf_ref, orf_ref, orf_null, nn_ref, nn_null, rfv_s, rfv_n, if_true, if_false, bi_01, bi_e0, bi_e1, or_t, Classical.not_not]
        simp (disch := first | omega | exact ib_r | exact ib_n | exact isB_rfv _ | assumption) only [k_0, k_1, k_2, k_3, k_4, k_5, k_6, k_7, k_8, k_9, k_10, k_11, k_12, k_13, k_14, k_15, k_16, k_17, k_18, k_19, k_20, k_21, k_22, k_24, k_30, k_32, k_33, k_37, k_38, k_39, k_40, k_41, k_42, k_43, k_45, k_47, k_48, k_50, k_57, k_59, k_60, k_61, k_62, k_63, k_70, k_79, k_80, k_81, k_99, k_100, k_120, k_124, k_130, k_200, k_241, k_255, k_256, k_320, k_360, k_799, k_800, k_1000, k_2000, k_3200, k_7999, k_9999, k_10000, k_12345, k_20000, k_20045, k_20059, k_20061, k_20063, k_99999, k_100000, k_999999, k_252645135, k_858993459, k_1103515245, k_1431655765, k_2000000000, n_cl, n_lt, n_le, n_eq, n_rem, n_rem', n_add, n_mul, n_sub, n_div, n_inb, n_64, e3, ↓reduceIte, eq_self, and_self, and_true, true_and, not_true_eq_false, not_false_eq_true, ob_s, tl_s, tl_n, rf_ref, orf_ref, orf_null, nn_ref, nn_null, rfv_s, rfv_n, if_true, if_false, bi_01, bi_e0, bi_e1, or_t, Classical.not_not]
        rw [e4, gm]
    · by_cases w0 : w = 0
      · subst w0
        refine ⟨Int32.ofNat (W 10 j), ?_, ?_⟩
        · simp (disch := first | omega | exact ib_r | exact ib_n | exact isB_rfv _ | assumption) only [n14, t14_0 hS, t14_5, t14_76, t14_98, t14_109, s_stepAt hS G hj, ↓reduceIte, eq_self, and_self, and_true, true_and, not_true_eq_false, not_false_eq_true, ob_s, tl_s, tl_n, rf_ref, orf_ref, orf_null, nn_ref, nn_null, rfv_s, rfv_n, if_true, if_false, bi_01, bi_e0, bi_e1, or_t, Classical.not_not, h.2.1, g1]
        · simp (disch := first | omega | exact ib_r | exact ib_n | exact isB_rfv _ | assumption) only [n149, t149_0 hS, t149_5, t149_18 hS, t149_109, s_isStep hS, s_in, hi, hw, ↓reduceIte, eq_self, and_self, and_true, true_and, not_true_eq_false, not_false_eq_true, ob_s, tl_s, tl_n, rf_ref, orf_ref, orf_null, nn_ref, nn_null, rfv_s, rfv_n, if_true, if_false, bi_01, bi_e0, bi_e1, or_t, Classical.not_not, n_inb, n_cl, e1, g2]
      by_cases w1 : w = 1
      · subst w1
        refine ⟨Int32.ofNat (W 11 j), ?_, ?_⟩
        · simp (disch := first | omega | exact ib_r | exact ib_n | exact isB_rfv _ | assumption) only [n14, t14_0 hS, t14_5, t14_76, t14_98, t14_109, s_stepAt hS G hj, ↓reduceIte, eq_self, and_self, and_true, true_and, not_true_eq_false, not_false_eq_true, ob_s, tl_s, tl_n, rf_ref, orf_ref, orf_null, nn_ref, nn_null, rfv_s, rfv_n, if_true, if_false, bi_01, bi_e0, bi_e1, or_t, Classical.not_not, h.2.1, g1, w0]
        · simp (disch := first | omega | exact ib_r | exact ib_n | exact isB_rfv _ | assumption) only [n149, t149_0 hS, t149_5, t149_18 hS, t149_109, s_isStep hS, s_in, hi, hw, ↓reduceIte, eq_self, and_self, and_true, true_and, not_true_eq_false, not_false_eq_true, ob_s, tl_s, tl_n, rf_ref, orf_ref, orf_null, nn_ref, nn_null, rfv_s, rfv_n, if_true, if_false, bi_01, bi_e0, bi_e1, or_t, Classical.not_not, n_inb, n_cl, e1, g2, w0]
      by_cases w2 : w = 2
      · subst w2
        refine ⟨Int32.ofNat (W 12 j), ?_, ?_⟩
        · simp (disch := first | omega | exact ib_r | exact ib_n | exact isB_rfv _ | assumption) only [n14, t14_0 hS, t14_5, t14_76, t14_98, t14_109, s_stepAt hS G hj, ↓reduceIte, eq_self, and_self, and_true, true_and, not_true_eq_false, not_false_eq_true, ob_s, tl_s, tl_n, rf_ref, orf_ref, orf_null, nn_ref, nn_null, rfv_s, rfv_n, if_true, if_false, bi_01, bi_e0, bi_e1, or_t, Classical.not_not, h.2.1, g1, w0, w1]
        · simp (disch := first | omega | exact ib_r | exact ib_n | exact isB_rfv _ | assumption) only [n149, t149_0 hS, t149_5, t149_18 hS, t149_109, s_isStep hS, s_in, hi, hw, ↓reduceIte, eq_self, and_self, and_true, true_and, not_true_eq_false, not_false_eq_true, ob_s, tl_s, tl_n, rf_ref, orf_ref, orf_null, nn_ref, nn_null, rfv_s, rfv_n, if_true, if_false, bi_01, bi_e0, bi_e1, or_t, Classical.not_not, n_inb, n_cl, e1, g2, w0, w1]
      by_cases w3 : w = 3
      · subst w3
        refine ⟨Int32.ofNat (W 13 j), ?_, ?_⟩
        · simp (disch := first | omega | exact ib_r | exact ib_n | exact isB_rfv _ | assumption) only [n14, t14_0 hS, t14_5, t14_76, t14_98, t14_109, s_stepAt hS G hj, ↓reduceIte, eq_self, and_self, and_true, true_and, not_true_eq_false, not_false_eq_true, ob_s, tl_s, tl_n, rf_ref, orf_ref, orf_null, nn_ref, nn_null, rfv_s, rfv_n, if_true, if_false, bi_01, bi_e0, bi_e1, or_t, Classical.not_not, h.2.1, g1, w0, w1, w2]
        · simp (disch := first | omega | exact ib_r | exact ib_n | exact isB_rfv _ | assumption) only [n149, t149_0 hS, t149_5, t149_18 hS, t149_109, s_isStep hS, s_in, hi, hw, ↓reduceIte, eq_self, and_self, and_true, true_and, not_true_eq_false, not_false_eq_true, ob_s, tl_s, tl_n, rf_ref, orf_ref, orf_null, nn_ref, nn_null, rfv_s, rfv_n, if_true, if_false, bi_01, bi_e0, bi_e1, or_t, Classical.not_not, n_inb, n_cl, e1, g2, w0, w1, w2]
      by_cases w4 : w = 4
      · subst w4
        refine ⟨Int32.ofNat (unl W j), ?_, ?_⟩
        · simp (disch := first | omega | exact ib_r | exact ib_n | exact isB_rfv _ | assumption) only [n14, t14_0 hS, t14_5, t14_76, t14_98, t14_109, s_stepAt hS G hj, ↓reduceIte, eq_self, and_self, and_true, true_and, not_true_eq_false, not_false_eq_true, ob_s, tl_s, tl_n, rf_ref, orf_ref, orf_null, nn_ref, nn_null, rfv_s, rfv_n, if_true, if_false, bi_01, bi_e0, bi_e1, or_t, Classical.not_not, h.2.1, s_unlikeX G hj, w0, w1, w2, w3]
        · simp (disch := first | omega | exact ib_r | exact ib_n | exact isB_rfv _ | assumption) only [n149, t149_0 hS, t149_5, t149_18 hS, t149_109, s_isStep hS, s_in, hi, hw, ↓reduceIte, eq_self, and_self, and_true, true_and, not_true_eq_false, not_false_eq_true, ob_s, tl_s, tl_n, rf_ref, orf_ref, orf_null, nn_ref, nn_null, rfv_s, rfv_n, if_true, if_false, bi_01, bi_e0, bi_e1, or_t, Classical.not_not, s_unlikeM hS G hj, w0, w1, w2, w3]
      by_cases w5 : w = 5
      · subst w5
        have g := (G.2.2.2.2.2.2.2.1 j hj).2.2.2.2
        by_cases g0 : Int32.ofNat (W 14 j) = 0
        · refine ⟨0, ?_, ?_⟩
          · simp (disch := first | omega | exact ib_r | exact ib_n | exact isB_rfv _ | assumption) only [n14, t14_0 hS, t14_5, t14_76, t14_98, t14_109, s_stepAt hS G hj, ↓reduceIte, eq_self, and_self, and_true, true_and, not_true_eq_false, not_false_eq_true, ob_s, tl_s, tl_n, rf_ref, orf_ref, orf_null, nn_ref, nn_null, rfv_s, rfv_n, if_true, if_false, bi_01, bi_e0, bi_e1, or_t, Classical.not_not, h.2.1, g1, g0, w0, w1, w2, w3, w4]
          · simp (disch := first | omega | exact ib_r | exact ib_n | exact isB_rfv _ | assumption) only [n149, t149_0 hS, t149_5, t149_18 hS, t149_109, s_isStep hS, s_in, hi, hw, ↓reduceIte, eq_self, and_self, and_true, true_and, not_true_eq_false, not_false_eq_true, ob_s, tl_s, tl_n, rf_ref, orf_ref, orf_null, nn_ref, nn_null, rfv_s, rfv_n, if_true, if_false, bi_01, bi_e0, bi_e1, or_t, Classical.not_not, n_inb, n_cl, e1, g2, g0, w0, w1, w2, w3, w4]
        · refine ⟨1, ?_, ?_⟩
          · simp (disch := first | omega | exact ib_r | exact ib_n | exact isB_rfv _ | assumption) only [n14, t14_0 hS, t14_5, t14_76, t14_98, t14_109, s_stepAt hS G hj, ↓reduceIte, eq_self, and_self, and_true, true_and, not_true_eq_false, not_false_eq_true, ob_s, tl_s, tl_n, rf_ref, orf_ref, orf_null, nn_ref, nn_null, rfv_s, rfv_n, if_true, if_false, bi_01, bi_e0, bi_e1, or_t, Classical.not_not, h.2.1, g1, g0, w0, w1, w2, w3, w4]
          · simp (disch := first | omega | exact ib_r | exact ib_n | exact isB_rfv _ | assumption) only [n149, t149_0 hS, t149_5, t149_18 hS, t149_109, s_isStep hS, s_in, hi, hw, ↓reduceIte, eq_self, and_self, and_true, true_and, not_true_eq_false, not_false_eq_true, ob_s, tl_s, tl_n, rf_ref, orf_ref, orf_null, nn_ref, nn_null, rfv_s, rfv_n, if_true, if_false, bi_01, bi_e0, bi_e1, or_t, Classical.not_not, n_inb, n_cl, e1, g2, g0, w0, w1, w2, w3, w4]
      refine ⟨-1, ?_, ?_⟩
      · simp (disch := first | omega | exact ib_r | exact ib_n | exact isB_rfv _ | assumption) only [n14, t14_0 hS, t14_5, t14_76, t14_98, t14_109, s_stepAt hS G hj, s_within, hw, ↓reduceIte, eq_self, and_self, and_true, true_and, not_true_eq_false, not_false_eq_true, ob_s, tl_s, tl_n, rf_ref, orf_ref, orf_null, nn_ref, nn_null, rfv_s, rfv_n, if_true, if_false, bi_01, bi_e0, bi_e1, or_t, Classical.not_not, w0, w1, w2, w3, w4, w5]
      · simp (disch := first | omega | exact ib_r | exact ib_n | exact isB_rfv _ | assumption) only [n149, t149_0 hS, t149_5, t149_18 hS, t149_109, s_isStep hS, s_in, hi, hw, ↓reduceIte, eq_self, and_self, and_true, true_and, not_true_eq_false, not_false_eq_true, ob_s, tl_s, tl_n, rf_ref, orf_ref, orf_null, nn_ref, nn_null, rfv_s, rfv_n, if_true, if_false, bi_01, bi_e0, bi_e1, or_t, Classical.not_not, w0, w1, w2, w3, w4, w5]
  · have hi : ¬ ((0 : Int32) ≤ v ∧ v ≤ I 37 0 - 1) := by rw [G.n2, idx (by omega)]; exact hv
    refine ⟨-1, ?_, ?_⟩
    · simp (disch := first | omega | exact ib_r | exact ib_n | exact isB_rfv _ | assumption) only [n14, t14_0 hS, t14_5, t14_76, t14_98, t14_109, s_stepAt_no hS G hv, ib_n, ↓reduceIte, eq_self, and_self, and_true, true_and, not_true_eq_false, not_false_eq_true, ob_s, tl_s, tl_n, rf_ref, orf_ref, orf_null, nn_ref, nn_null, rfv_s, rfv_n, if_true, if_false, bi_01, bi_e0, bi_e1, or_t, Classical.not_not]
    · simp only [n149, t149_0 hS, t149_5, t149_18 hS, t149_109, s_isStep hS, hi, ↓reduceIte, eq_self, and_self, and_true, true_and, not_true_eq_false, not_false_eq_true, ob_s, tl_s, tl_n, rf_ref, orf_ref, orf_null, nn_ref, nn_null, rfv_s, rfv_n, if_true, if_false, bi_01, bi_e0, bi_e1, or_t, Classical.not_not]
end OF
