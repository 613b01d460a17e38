/-! THE TRACE -/
def GR (rn : Nat) (I : Nat → Nat → Int32) : Prop := rn < 2147483648 ∧ I 21 4 = Int32.ofNat rn ∧ I 37 30 = Int32.ofNat rn ∧ ∀ k, k < 24 → I 23 k = I 60 k
section TRACE
variable {X : XX} {d : Nat} {sz sl : Nat} {sh : Nat → Nat × Nat} {R : Nat → Nat → Option Nat} {I : Nat → Nat → Int32} {J : Nat → Nat → Int64}
theorem o_trace (hS : SF sh R) {rn : Nat} (G : GR rn I) {v : Int32} : ∃ x, ev X (d + 4) 127 [.ref 0, .int v] (sz, sl, sh, R, I, J) = some (some (.int x), (sz, sl, sh, R, I, J)) ∧ ev X (d + 4) 225 [.ref 37, .int v] (sz, sl, sh, R, I, J) = some (some (.int x), (sz, sl, sh, R, I, J)) := by
  obtain ⟨h31, e1, e2, hk⟩ := G
  have em : (if (24 : Int32) < I 21 4 then (24 : Int32) else I 21 4) = Int32.ofNat (min 24 rn) := by
    rw [e1, k_24]
    by_cases h : 24 < rn
    · rw [if_pos (by rw [n_lt (by omega) (by omega)]; exact h), Nat.min_eq_left (by omega)]
    · rw [if_neg (by rw [n_lt (by omega) (by omega)]; exact h), Nat.min_eq_right (by omega)]
  have en : (24 : Int32) - 1 = Int32.ofNat 24 - 1 := rfl
  have hm : min 24 rn < 2147483648 := by omega
  have M1 : ev X (d + 4) 225 [.ref 37, .int v] (sz, sl, sh, R, I, J) = exe X (d + 3) 225 25 [.ref 37, .int v] [.int (bi (0 ≤ v ∧ v ≤ Int32.ofNat (min 24 rn) - 1))] (sz, sl, sh, R, I, J) := by
    rw [n225, t225_0 hS]
    by_cases h : 24 ≤ rn
    · rw [if_pos (by rw [e2, k_24, n_le (by omega) (by omega)]; exact h), s_in, en, Nat.min_eq_left h]; rfl
    · rw [if_neg (by rw [e2, k_24, n_le (by omega) (by omega)]; exact h), s_in, e2, Nat.min_eq_right (by omega)]; rfl
  rw [M1, t225_25 hS]
  by_cases hv : 0 ≤ v ∧ v ≤ Int32.ofNat (min 24 rn) - 1
  · have hv' := hv
    rw [idx hm] at hv'
    obtain ⟨j, hj, rfl⟩ := hv'
    have h24 : j < 24 := by omega
    have z0 : ¬ Int32.ofNat j < 0 := Int32.not_lt.mpr (n_ge (by omega))
    have z1 : ¬ 24 ≤ j := by omega
    refine ⟨I 23 j, ?_, ?_⟩
    · simp (disch := first | omega | exact ib_r | exact ib_n | exact isB_rfv _ | assumption) only [n127, t127_0 hS, t127_9, t127_14 hS, t127_25, n128, t128_0 hS, n129, t129_0 hS, em, s_within, hv, z0, ↓reduceIte, eq_self, and_self, and_true, true_and, not_true_eq_false, not_false_eq_true, ob_s, tl_s, tl_n, rf_ref, orf_ref, orf_null, nn_ref, nn_null, rfv_s, rfv_n, if_true, if_false, bi_01, bi_e0, bi_e1, or_t, Classical.not_not]
      simp (disch := first | omega | exact ib_r | exact ib_n | exact isB_rfv _ | assumption) only [k_24, n_le, n_inb, n_cl, z1, h24, ↓reduceIte, eq_self, and_self, and_true, true_and, not_true_eq_false, not_false_eq_true, ob_s, tl_s, tl_n, rf_ref, orf_ref, orf_null, nn_ref, nn_null, rfv_s, rfv_n, if_true, if_false, bi_01, bi_e0, bi_e1, or_t, Classical.not_not, n127, t127_0 hS, t127_9, t127_14 hS, t127_25]
    · simp (disch := first | omega | exact ib_r | exact ib_n | exact isB_rfv _ | assumption) only [hv, n_inb, n_cl, h24, hk j h24, ↓reduceIte, eq_self, and_self, and_true, true_and, not_true_eq_false, not_false_eq_true, ob_s, tl_s, tl_n, rf_ref, orf_ref, orf_null, nn_ref, nn_null, rfv_s, rfv_n, if_true, if_false, bi_01, bi_e0, bi_e1, or_t, Classical.not_not]
  · refine ⟨-1, ?_, ?_⟩
    · simp (disch := first | omega | exact ib_r | exact ib_n | exact isB_rfv _ | assumption) only [n127, t127_0 hS, t127_9, t127_14 hS, t127_25, n128, t128_0 hS, em, s_within, hv, ↓reduceIte, eq_self, and_self, and_true, true_and, not_true_eq_false, not_false_eq_true, ob_s, tl_s, tl_n, rf_ref, orf_ref, orf_null, nn_ref, nn_null, rfv_s, rfv_n, if_true, if_false, bi_01, bi_e0, bi_e1, or_t, Classical.not_not]
    · simp (disch := first | omega | exact ib_r | exact ib_n | exact isB_rfv _ | assumption) only [hv, ↓reduceIte, eq_self, and_self, and_true, true_and, not_true_eq_false, not_false_eq_true, ob_s, tl_s, tl_n, rf_ref, orf_ref, orf_null, nn_ref, nn_null, rfv_s, rfv_n, if_true, if_false, bi_01, bi_e0, bi_e1, or_t, Classical.not_not]
end TRACE
