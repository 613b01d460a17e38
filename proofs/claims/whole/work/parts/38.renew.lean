/-! RENEWED -/
section RENEW
variable {X : XX} {d : Nat} {sz sl : Nat} {sh : Nat → Nat × Nat} {R : Nat → Nat → Option Nat} {I : Nat → Nat → Int32} {J : Nat → Nat → Int64} {W : WW} {ns : Nat}
theorem l_s32 {a b : Nat} : (Int64.ofNat a - Int64.ofNat b).toInt32 = Int32.ofNat a - Int32.ofNat b := by
  rw [Int64.toInt32_sub, l_32, l_32]
theorem o_renewed (hS : SF sh R) (G : GS W ns sh R I) {v w z : Int32} : ∃ x, ev X (d + 6) 84 [.ref 0, .int v, .int w, .int z] (sz, sl, sh, R, I, J) = some (some (.int x), (sz, sl, sh, R, I, J)) ∧ ev X (d + 6) 202 [.ref 37, .int v, .int w, .int z] (sz, sl, sh, R, I, J) = some (some (.int x), (sz, sl, sh, R, I, J)) := by
  have h40 := G.1
  have z1 : ¬ (1 : Int32) = 0 := by decide
  by_cases hv : 0 ≤ v
  · obtain ⟨y, hy, rfl⟩ := n_of hv
    have hv2 : ¬ Int32.ofNat y < 0 := by rw [nlt32]; exact hv
    have p1 : Int32.ofNat y / 100 = Int32.ofNat (y / 100) := by rw [k_100, n_div (by omega) (by decide)]
    have p2 : Int32.ofNat y - Int32.ofNat (y / 100) * 100 = Int32.ofNat (y % 100) := by rw [k_100, n_rem']
    by_cases ha : y / 100 < ns
    · have ia : (0 : Int32) ≤ Int32.ofNat (y / 100) ∧ Int32.ofNat (y / 100) ≤ I 37 0 - 1 := by rw [G.n2, idx (by omega)]; exact ⟨_, ha, rfl⟩
      by_cases hb : y % 100 < ns
      · have ib : (0 : Int32) ≤ Int32.ofNat (y % 100) ∧ Int32.ofNat (y % 100) ≤ I 37 0 - 1 := by rw [G.n2, idx (by omega)]; exact ⟨_, hb, rfl⟩
        by_cases hw : 0 ≤ w ∧ w ≤ 2000
        · by_cases hz : 0 ≤ z ∧ z ≤ 1
          · obtain ⟨u, -, hu, rfl⟩ := n_in (a := 0) (b := 2000) (by decide) hw.1 hw.2 (by decide)
            have hst := (G.2.2.2.1 _ ha).2.1
            have hst2 := (G.2.2.2.1 _ hb).2.1
            have h3 := (G.2.2.2.2.2.1 _ ha).2.2.1
            have h40 := (G.2.2.2.2.2.2.1 _ ha).2.2.1
            have hy12 : W 12 (y / 100) ≤ 2000 := (G.2.2.2.2.2.2.2.1 _ ha).2.2.1
            have da : dp W (y / 100) ≤ 99999 := (G.2.2.2.2.2.2.2.2.1 _ (dc W (y / 100)) ha dc_lt).2.2.2.2.1
            have db : dp W (y % 100) ≤ 99999 := (G.2.2.2.2.2.2.2.2.1 _ (dc W (y % 100)) hb dc_lt).2.2.2.2.1
            have ea : W 15 (8 * (y / 100) + dc W (y / 100)) = dp W (y / 100) := rfl
            have eb : W 15 (8 * (y % 100) + dc W (y % 100)) = dp W (y % 100) := rfl
            have r4 : (Int32.ofNat (y / 100)).toNatClampNeg = y / 100 := n_cl (by omega)
            have r5 : inb (Int32.ofNat (y / 100)) 40 := by rw [n_inb (by omega)]; omega
            by_cases hq : W 12 (y / 100) < u
            · have q1 : Int32.ofNat u - Int32.ofNat (W 12 (y / 100)) = Int32.ofNat (u - W 12 (y / 100)) := n_sub (by omega)
              have q2 : (0 : Int32) < Int32.ofNat (u - W 12 (y / 100)) := by rw [k_0, n_lt (by decide) (by omega)]; omega
              have q2z : ¬ Int32.ofNat (u - W 12 (y / 100)) = 0 := by rw [k_0, n_eq (by omega) (by decide)]; omega
              have q3 : Int32.ofNat (W 12 (y / 100)) < Int32.ofNat u := by rw [n_lt (by omega) (by omega)]; exact hq
              have q4 : Int32.ofNat (dp W (y / 100)) * 1000 / Int32.ofNat (u - W 12 (y / 100)) = Int32.ofNat (dp W (y / 100) * 1000 / (u - W 12 (y / 100))) := by rw [k_1000, n_mul, n_div (by omega) (by omega)]
              have q5 : Int64.toInt32 ((1000 : Int64) * Int32.toInt64 (Int32.ofNat (dp W (y / 100))) / Int32.toInt64 (Int32.ofNat (u - W 12 (y / 100)))) = Int32.ofNat (dp W (y / 100) * 1000 / (u - W 12 (y / 100))) := by
                rw [n_64 (by omega), n_64 (by omega), kl_1000, l_mul, l_div (by omega) (by omega), l_32, Nat.mul_comm]
              have q5z : ¬ Int32.toInt64 (Int32.ofNat (u - W 12 (y / 100))) = 0 := by rw [n_64 (by omega), kl_0, l_eq (by omega) (by decide)]; omega
              have qle : dp W (y / 100) * 1000 / (u - W 12 (y / 100)) ≤ dp W (y / 100) * 1000 := Nat.div_le_self _ _
              generalize hr : dp W (y / 100) * 1000 / (u - W 12 (y / 100)) = r at *
              by_cases r0 : r = 0
              · have rz : Int32.ofNat r = 0 := by rw [r0]; rfl
                refine ⟨-2, ?_, ?_⟩
                · simp (disch := first | omega | exact ib_r | exact ib_n | exact isB_rfv _ | assumption) only [n84, t84_0 hS, t84_16 hS, t84_34, t84_50, t84_59, t84_86, t84_118, hv, p1, p2, s_stepAt hS G ha, s_stepAt hS G hb, s_isYear, s_within, hw, hz, hst, h3, q1, q2, q2z, q3, s_deepestX G ha, q4, rz, ↓reduceIte, eq_self, and_self, and_true, true_and, not_true_eq_false, not_false_eq_true, ob_s, tl_s, tl_n, rf_ref, orf_ref, orf_null, nn_ref, nn_null, rfv_s, rfv_n, if_true, if_false, bi_01, bi_e0, bi_e1, or_t, Classical.not_not]
                · simp (disch := first | omega | exact ib_r | exact ib_n | exact isB_rfv _ | assumption) only [n202, t202_0 hS, t202_12 hS, t202_23, t202_34, t202_43 hS, t202_80, t202_83 hS, t202_134, t202_137, hv2, p1, p2, s_isStep hS, ia, ib, s_in, hw, hz, z1, r4, h40, q3, s_deepestM hS G ha, zS37 hS, s_at0 hS G ha dc_lt, ea, q1, q5, q5z, rz, ↓reduceIte, eq_self, and_self, and_true, true_and, not_true_eq_false, not_false_eq_true, ob_s, tl_s, tl_n, rf_ref, orf_ref, orf_null, nn_ref, nn_null, rfv_s, rfv_n, if_true, if_false, bi_01, bi_e0, bi_e1, or_t, Classical.not_not]
                  simp (disch := first | omega | exact ib_r | exact ib_n | exact isB_rfv _ | assumption) only [if_pos r5, ↓reduceIte, eq_self, and_self, and_true, true_and, not_true_eq_false, not_false_eq_true, ob_s, tl_s, tl_n, rf_ref, orf_ref, orf_null, nn_ref, nn_null, rfv_s, rfv_n, if_true, if_false, bi_01, bi_e0, bi_e1, or_t, Classical.not_not]
              · have rz : ¬ Int32.ofNat r = 0 := by rw [k_0, n_eq (by omega) (by decide)]; exact r0
                have rzl : ¬ Int32.toInt64 (Int32.ofNat r) = 0 := by rw [n_64 (by omega), kl_0, l_eq (by omega) (by decide)]; exact r0
                by_cases z0 : z = 0
                · have hz0 : (0 : Int32) ≤ 0 ∧ (0 : Int32) ≤ 1 := by decide
                  refine ⟨Int32.ofNat r, ?_, ?_⟩
                  · simp (disch := first | omega | exact ib_r | exact ib_n | exact isB_rfv _ | assumption) only [n84, t84_0 hS, t84_16 hS, t84_34, t84_50, t84_59, t84_86, t84_118, hv, p1, p2, s_stepAt hS G ha, s_stepAt hS G hb, s_isYear, s_within, hw, hz, hst, h3, q1, q2, q2z, q3, s_deepestX G ha, q4, rz, z0, hz0, ↓reduceIte, eq_self, and_self, and_true, true_and, not_true_eq_false, not_false_eq_true, ob_s, tl_s, tl_n, rf_ref, orf_ref, orf_null, nn_ref, nn_null, rfv_s, rfv_n, if_true, if_false, bi_01, bi_e0, bi_e1, or_t, Classical.not_not]
                  · simp (disch := first | omega | exact ib_r | exact ib_n | exact isB_rfv _ | assumption) only [n202, t202_0 hS, t202_12 hS, t202_23, t202_34, t202_43 hS, t202_80, t202_83 hS, t202_134, t202_137, hv2, p1, p2, s_isStep hS, ia, ib, s_in, hw, hz, z1, r4, h40, q3, s_deepestM hS G ha, zS37 hS, s_at0 hS G ha dc_lt, ea, q1, q5, q5z, rz, z0, hz0, ↓reduceIte, eq_self, and_self, and_true, true_and, not_true_eq_false, not_false_eq_true, ob_s, tl_s, tl_n, rf_ref, orf_ref, orf_null, nn_ref, nn_null, rfv_s, rfv_n, if_true, if_false, bi_01, bi_e0, bi_e1, or_t, Classical.not_not]
                    simp (disch := first | omega | exact ib_r | exact ib_n | exact isB_rfv _ | assumption) only [if_pos r5, ↓reduceIte, eq_self, and_self, and_true, true_and, not_true_eq_false, not_false_eq_true, ob_s, tl_s, tl_n, rf_ref, orf_ref, orf_null, nn_ref, nn_null, rfv_s, rfv_n, if_true, if_false, bi_01, bi_e0, bi_e1, or_t, Classical.not_not]
                · have s1 : Int32.ofNat (dp W (y % 100)) * 1000 / Int32.ofNat r = Int32.ofNat (dp W (y % 100) * 1000 / r) := by rw [k_1000, n_mul, n_div (by omega) (by omega)]
                  have s2 : Int64.toInt32 (Int32.toInt64 (Int32.ofNat u) - (1000 : Int64) * Int32.toInt64 (Int32.ofNat (dp W (y % 100))) / Int32.toInt64 (Int32.ofNat r)) = Int32.ofNat u - Int32.ofNat (dp W (y % 100) * 1000 / r) := by
                    rw [n_64 (by omega), n_64 (by omega), n_64 (by omega), kl_1000, l_mul, l_div (by omega) (by omega), l_s32, Nat.mul_comm]
                  refine ⟨Int32.ofNat u - Int32.ofNat (dp W (y % 100) * 1000 / r), ?_, ?_⟩
                  · simp (disch := first | omega | exact ib_r | exact ib_n | exact isB_rfv _ | assumption) only [n84, t84_0 hS, t84_16 hS, t84_34, t84_50, t84_59, t84_86, t84_118, hv, p1, p2, s_stepAt hS G ha, s_stepAt hS G hb, s_isYear, s_within, hw, hz, hst, hst2, h3, q1, q2, q2z, q3, s_deepestX G ha, s_deepestX G hb, q4, rz, z0, s1, ↓reduceIte, eq_self, and_self, and_true, true_and, not_true_eq_false, not_false_eq_true, ob_s, tl_s, tl_n, rf_ref, orf_ref, orf_null, nn_ref, nn_null, rfv_s, rfv_n, if_true, if_false, bi_01, bi_e0, bi_e1, or_t, Classical.not_not]
                  · simp (disch := first | omega | exact ib_r | exact ib_n | exact isB_rfv _ | assumption) only [n202, t202_0 hS, t202_12 hS, t202_23, t202_34, t202_43 hS, t202_80, t202_83 hS, t202_134, t202_137, hv2, p1, p2, s_isStep hS, ia, ib, s_in, hw, hz, z1, r4, h40, q3, s_deepestM hS G ha, s_deepestM hS G hb, zS37 hS, s_at0 hS G ha dc_lt, s_at0 hS G hb dc_lt, ea, eb, q1, q5, q5z, rz, rzl, z0, s2, ↓reduceIte, eq_self, and_self, and_true, true_and, not_true_eq_false, not_false_eq_true, ob_s, tl_s, tl_n, rf_ref, orf_ref, orf_null, nn_ref, nn_null, rfv_s, rfv_n, if_true, if_false, bi_01, bi_e0, bi_e1, or_t, Classical.not_not]
                    simp (disch := first | omega | exact ib_r | exact ib_n | exact isB_rfv _ | assumption) only [if_pos r5, ↓reduceIte, eq_self, and_self, and_true, true_and, not_true_eq_false, not_false_eq_true, ob_s, tl_s, tl_n, rf_ref, orf_ref, orf_null, nn_ref, nn_null, rfv_s, rfv_n, if_true, if_false, bi_01, bi_e0, bi_e1, or_t, Classical.not_not]
            · have q2 : ¬ (0 : Int32) < Int32.ofNat u - Int32.ofNat (W 12 (y / 100)) := by
                rw [Int32.lt_iff_toInt_lt, Int32.toInt_sub, n_ti (by omega), n_ti (by omega), Int.bmod_eq_of_le (by omega) (by omega), show (0 : Int32).toInt = 0 from rfl]
                omega
              have q3 : ¬ Int32.ofNat (W 12 (y / 100)) < Int32.ofNat u := by rw [n_lt (by omega) (by omega)]; exact hq
              refine ⟨-2, ?_, ?_⟩
              · simp (disch := first | omega | exact ib_r | exact ib_n | exact isB_rfv _ | assumption) only [n84, t84_0 hS, t84_16 hS, t84_34, t84_50, t84_59, t84_86, t84_118, hv, p1, p2, s_stepAt hS G ha, s_stepAt hS G hb, s_isYear, s_within, hw, hz, hst, h3, q2, q3, ↓reduceIte, eq_self, and_self, and_true, true_and, not_true_eq_false, not_false_eq_true, ob_s, tl_s, tl_n, rf_ref, orf_ref, orf_null, nn_ref, nn_null, rfv_s, rfv_n, if_true, if_false, bi_01, bi_e0, bi_e1, or_t, Classical.not_not]
              · simp (disch := first | omega | exact ib_r | exact ib_n | exact isB_rfv _ | assumption) only [n202, t202_0 hS, t202_12 hS, t202_23, t202_34, t202_43 hS, t202_80, t202_83 hS, t202_134, t202_137, hv2, p1, p2, s_isStep hS, ia, ib, s_in, hw, hz, z1, r4, h40, q3, ↓reduceIte, eq_self, and_self, and_true, true_and, not_true_eq_false, not_false_eq_true, ob_s, tl_s, tl_n, rf_ref, orf_ref, orf_null, nn_ref, nn_null, rfv_s, rfv_n, if_true, if_false, bi_01, bi_e0, bi_e1, or_t, Classical.not_not]
                exact if_pos r5
          · refine ⟨-1, ?_, ?_⟩
            · simp (disch := first | omega | exact ib_r | exact ib_n | exact isB_rfv _ | assumption) only [n84, t84_0 hS, t84_16 hS, t84_34, t84_50, t84_59, t84_86, t84_118, hv, p1, p2, s_stepAt hS G ha, s_stepAt hS G hb, s_isYear, s_within, hw, hz, ↓reduceIte, eq_self, and_self, and_true, true_and, not_true_eq_false, not_false_eq_true, ob_s, tl_s, tl_n, rf_ref, orf_ref, orf_null, nn_ref, nn_null, rfv_s, rfv_n, if_true, if_false, bi_01, bi_e0, bi_e1, or_t, Classical.not_not]
            · simp (disch := first | omega | exact ib_r | exact ib_n | exact isB_rfv _ | assumption) only [n202, t202_0 hS, t202_12 hS, t202_23, t202_34, t202_43 hS, t202_80, t202_83 hS, t202_134, t202_137, hv2, p1, p2, s_isStep hS, ia, ib, s_in, hw, hz, z1, ↓reduceIte, eq_self, and_self, and_true, true_and, not_true_eq_false, not_false_eq_true, ob_s, tl_s, tl_n, rf_ref, orf_ref, orf_null, nn_ref, nn_null, rfv_s, rfv_n, if_true, if_false, bi_01, bi_e0, bi_e1, or_t, Classical.not_not]
        · refine ⟨-1, ?_, ?_⟩
          · simp (disch := first | omega | exact ib_r | exact ib_n | exact isB_rfv _ | assumption) only [n84, t84_0 hS, t84_16 hS, t84_34, t84_50, t84_59, t84_86, t84_118, hv, p1, p2, s_stepAt hS G ha, s_stepAt hS G hb, s_isYear, hw, ↓reduceIte, eq_self, and_self, and_true, true_and, not_true_eq_false, not_false_eq_true, ob_s, tl_s, tl_n, rf_ref, orf_ref, orf_null, nn_ref, nn_null, rfv_s, rfv_n, if_true, if_false, bi_01, bi_e0, bi_e1, or_t, Classical.not_not]
          · simp (disch := first | omega | exact ib_r | exact ib_n | exact isB_rfv _ | assumption) only [n202, t202_0 hS, t202_12 hS, t202_23, t202_34, t202_43 hS, t202_80, t202_83 hS, t202_134, t202_137, hv2, p1, p2, s_isStep hS, ia, ib, s_in, hw, z1, ↓reduceIte, eq_self, and_self, and_true, true_and, not_true_eq_false, not_false_eq_true, ob_s, tl_s, tl_n, rf_ref, orf_ref, orf_null, nn_ref, nn_null, rfv_s, rfv_n, if_true, if_false, bi_01, bi_e0, bi_e1, or_t, Classical.not_not]
      · have ib : ¬ ((0 : Int32) ≤ Int32.ofNat (y % 100) ∧ Int32.ofNat (y % 100) ≤ I 37 0 - 1) := by
          rw [G.n2, idx (by omega)]
          rintro ⟨j, hj, q⟩
          rw [n_eq (by omega) (by omega)] at q
          omega
        have nb : ¬ ∃ j, j < ns ∧ Int32.ofNat (y % 100) = Int32.ofNat j := by
          rintro ⟨j, hj, q⟩
          rw [n_eq (by omega) (by omega)] at q
          omega
        refine ⟨-1, ?_, ?_⟩
        · simp (disch := first | omega | exact ib_r | exact ib_n | exact isB_rfv _ | assumption) only [n84, t84_0 hS, t84_16 hS, t84_34, t84_50, t84_59, t84_86, t84_118, hv, p1, p2, s_stepAt hS G ha, s_stepAt_no hS G nb, ↓reduceIte, eq_self, and_self, and_true, true_and, not_true_eq_false, not_false_eq_true, ob_s, tl_s, tl_n, rf_ref, orf_ref, orf_null, nn_ref, nn_null, rfv_s, rfv_n, if_true, if_false, bi_01, bi_e0, bi_e1, or_t, Classical.not_not]
        · simp (disch := first | omega | exact ib_r | exact ib_n | exact isB_rfv _ | assumption) only [n202, t202_0 hS, t202_12 hS, t202_23, t202_34, t202_43 hS, t202_80, t202_83 hS, t202_134, t202_137, hv2, p1, p2, s_isStep hS, ia, ib, z1, ↓reduceIte, eq_self, and_self, and_true, true_and, not_true_eq_false, not_false_eq_true, ob_s, tl_s, tl_n, rf_ref, orf_ref, orf_null, nn_ref, nn_null, rfv_s, rfv_n, if_true, if_false, bi_01, bi_e0, bi_e1, or_t, Classical.not_not]
    · have na : ¬ ∃ j, j < ns ∧ Int32.ofNat (y / 100) = Int32.ofNat j := by
        rintro ⟨j, hj, q⟩
        rw [n_eq (by omega) (by omega)] at q
        omega
      have ia : ¬ ((0 : Int32) ≤ Int32.ofNat (y / 100) ∧ Int32.ofNat (y / 100) ≤ I 37 0 - 1) := by rw [G.n2, idx (by omega)]; exact na
      refine ⟨-1, ?_, ?_⟩
      · by_cases hb : y % 100 < ns
        · simp (disch := first | omega | exact ib_r | exact ib_n | exact isB_rfv _ | assumption) only [n84, t84_0 hS, t84_16 hS, t84_34, t84_50, t84_59, t84_86, t84_118, hv, p1, p2, s_stepAt_no hS G na, s_stepAt hS G hb, ↓reduceIte, eq_self, and_self, and_true, true_and, not_true_eq_false, not_false_eq_true, ob_s, tl_s, tl_n, rf_ref, orf_ref, orf_null, nn_ref, nn_null, rfv_s, rfv_n, if_true, if_false, bi_01, bi_e0, bi_e1, or_t, Classical.not_not]
        · have nb : ¬ ∃ j, j < ns ∧ Int32.ofNat (y % 100) = Int32.ofNat j := by
            rintro ⟨j, hj, q⟩
            rw [n_eq (by omega) (by omega)] at q
            omega
          simp (disch := first | omega | exact ib_r | exact ib_n | exact isB_rfv _ | assumption) only [n84, t84_0 hS, t84_16 hS, t84_34, t84_50, t84_59, t84_86, t84_118, hv, p1, p2, s_stepAt_no hS G na, s_stepAt_no hS G nb, ↓reduceIte, eq_self, and_self, and_true, true_and, not_true_eq_false, not_false_eq_true, ob_s, tl_s, tl_n, rf_ref, orf_ref, orf_null, nn_ref, nn_null, rfv_s, rfv_n, if_true, if_false, bi_01, bi_e0, bi_e1, or_t, Classical.not_not]
      · simp (disch := first | omega | exact ib_r | exact ib_n | exact isB_rfv _ | assumption) only [n202, t202_0 hS, t202_12 hS, t202_23, t202_34, t202_43 hS, t202_80, t202_83 hS, t202_134, t202_137, hv2, p1, s_isStep hS, ia, ↓reduceIte, eq_self, and_self, and_true, true_and, not_true_eq_false, not_false_eq_true, ob_s, tl_s, tl_n, rf_ref, orf_ref, orf_null, nn_ref, nn_null, rfv_s, rfv_n, if_true, if_false, bi_01, bi_e0, bi_e1, or_t, Classical.not_not]
  · have hv2 : v < 0 := by rw [← nle32]; exact hv
    refine ⟨-1, ?_, ?_⟩
    · simp (disch := first | omega | exact ib_r | exact ib_n | exact isB_rfv _ | assumption) only [n84, t84_0 hS, t84_16 hS, t84_34, t84_50, t84_59, t84_86, t84_118, hv, ↓reduceIte, eq_self, and_self, and_true, true_and, not_true_eq_false, not_false_eq_true, ob_s, tl_s, tl_n, rf_ref, orf_ref, orf_null, nn_ref, nn_null, rfv_s, rfv_n, if_true, if_false, bi_01, bi_e0, bi_e1, or_t, Classical.not_not]
    · simp (disch := first | omega | exact ib_r | exact ib_n | exact isB_rfv _ | assumption) only [n202, t202_0 hS, t202_12 hS, t202_23, t202_34, t202_43 hS, t202_80, t202_83 hS, t202_134, t202_137, hv2, ↓reduceIte, eq_self, and_self, and_true, true_and, not_true_eq_false, not_false_eq_true, ob_s, tl_s, tl_n, rf_ref, orf_ref, orf_null, nn_ref, nn_null, rfv_s, rfv_n, if_true, if_false, bi_01, bi_e0, bi_e1, or_t, Classical.not_not]
end RENEW
