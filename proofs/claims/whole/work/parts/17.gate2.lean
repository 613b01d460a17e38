/-! GATE, whole -/
section GATE2
variable {X : XX} {d : Nat} {sz sl : Nat} {sh : Nat → Nat × Nat} {R : Nat → Nat → Option Nat} {I : Nat → Nat → Int32} {J : Nat → Nat → Int64}
theorem s_gate28 (hS : SF sh R) {D : Nat → Nat} {nd : Nat} (G : GD D nd I) {w : Int32} : ∀ (n k su m : Nat), k + n = nd → exe X (d + 1) 213 28 [.ref 37, .int w, .int (Int32.ofNat su), .int (Int32.ofNat m), .int (Int32.ofNat k), dm, dm, dm] [] (sz, sl, sh, R, I, J) = exe X (d + 1) 213 28 [.ref 37, .int w, .int (Int32.ofNat (su + sumf D k n)), .int (Int32.ofNat (mm D nd ((nd - 1) / 2) n k m)), .int (Int32.ofNat nd), dm, dm, dm] [] (sz, sl, sh, R, I, J)
  | 0, k, su, m, h => by
    obtain rfl : k = nd := by omega
    rfl
  | n + 1, k, su, m, h => by
    have G' := G
    obtain ⟨h30, e1, e2, hk⟩ := G
    have e : ¬ nd ≤ k := by omega
    have f1 : k < 30 := by omega
    have hkk := hk k (by omega)
    have ih := fun su m => s_gate28 (w := w) hS G' n (k + 1) su m (by omega)
    have b1 : lss D nd k ≤ nd := cnt_le nd 0
    have b2 : lke D nd k ≤ nd := cnt_le nd 0
    have b3 : 1 ≤ lke D nd k := cnt_pos (p := fun j => decide (D j = D k)) (i := k) (by simp) nd 0 (by omega) (by omega)
    have b4 := leq_sum (D := D) (nd := nd) (i := k)
    have inn := s_gate56 (X := X) (d := d + 1) (sz := sz) (sl := sl) (J := J) (w := w) (su := Int32.ofNat (su + D k)) (md := Int32.ofNat m) hS G' (show k < nd by omega) nd 0 0 0 (by omega)
    rw [Nat.zero_add, Nat.zero_add] at inn
    have z : (nd ≤ nd) = True := eq_true (Nat.le_refl _)
    rw [t213_28 hS]
    simp (disch := first | omega | exact ib_r | exact ib_n | exact isB_rfv _ | assumption) only [e2, k_0, n_le, n_inb, n_cl, n_add, e, f1, hkk.2.1, ↓reduceIte, eq_self, and_self, and_true, true_and, not_true_eq_false, not_false_eq_true, ob_s, tl_s, tl_n, rf_ref, orf_ref, orf_null, nn_ref, nn_null, rfv_s, rfv_n, if_true, if_false, bi_01, bi_e0, bi_e1, or_t, Classical.not_not]
    refine inn.trans ?_
    rw [t213_56 hS]
    simp (disch := first | omega | exact ib_r | exact ib_n | exact isB_rfv _ | assumption) only [e2, n_le, z, ↓reduceIte, eq_self, and_self, and_true, true_and, not_true_eq_false, not_false_eq_true, ob_s, tl_s, tl_n, rf_ref, orf_ref, orf_null, nn_ref, nn_null, rfv_s, rfv_n, if_true, if_false, bi_01, bi_e0, bi_e1, or_t, Classical.not_not, s_in]
    show exe X (d + 1) 213 145 _ [.int (bi (Int32.ofNat (lss D nd k) ≤ (Int32.ofNat nd - 1) / 2 ∧ (Int32.ofNat nd - 1) / 2 ≤ Int32.ofNat (lss D nd k) + Int32.ofNat (lke D nd k) - 1))] _ = _
    have ez : (Int32.ofNat nd - 1) / 2 = Int32.ofNat ((nd - 1) / 2) := by rw [k_1, k_2, n_sub (by omega), n_div (by omega) (by omega)]
    have ey : Int32.ofNat (lss D nd k) + Int32.ofNat (lke D nd k) - 1 = Int32.ofNat (lss D nd k + lke D nd k - 1) := by rw [k_1, n_add, n_sub (by omega)]
    rw [ez, ey, t213_145 hS, sumf_s, ← Nat.add_assoc, mm]
    simp (disch := first | omega | exact ib_r | exact ib_n | exact isB_rfv _ | assumption) only [bi_e0, n_le]
    by_cases c : lss D nd k ≤ (nd - 1) / 2 ∧ (nd - 1) / 2 < leq D nd k
    · rw [if_neg (fun z => z ⟨c.1, by omega⟩), if_pos c]
      simp (disch := first | omega | exact ib_r | exact ib_n | exact isB_rfv _ | assumption) only [n_inb, n_cl, f1, hkk.2.1, k_1, n_add, ↓reduceIte, eq_self, and_self, and_true, true_and, not_true_eq_false, not_false_eq_true, ob_s, tl_s, tl_n, rf_ref, orf_ref, orf_null, nn_ref, nn_null, rfv_s, rfv_n, if_true, if_false, bi_01, bi_e0, bi_e1, or_t, Classical.not_not]
      exact ih _ _
    · rw [if_pos (fun z => c ⟨z.1, by omega⟩), if_neg c, k_1, n_add]
      exact ih _ _
theorem o_gate (hS : SF sh R) {D : Nat → Nat} {nd : Nat} (G : GD D nd I) {v : Int32} : ∃ x, ev X (d + 4) 105 [.ref 0, .int v] (sz, sl, sh, R, I, J) = some (some (.int x), (sz, sl, sh, R, I, J)) ∧ ev X (d + 4) 213 [.ref 37, .int v] (sz, sl, sh, R, I, J) = some (some (.int x), (sz, sl, sh, R, I, J)) := by
  have h30 := G.1
  by_cases hv : 0 ≤ v ∧ v ≤ 1
  · by_cases h0 : nd = 0
    · have z1 : (I 15 1 = 0) = True := eq_true (by rw [G.2.1, h0]; rfl)
      have z2 : (I 37 21 = 0) = True := eq_true (by rw [G.2.2.1, h0]; rfl)
      refine ⟨-5, ?_, ?_⟩
      · simp (disch := first | omega | exact ib_r | exact ib_n | exact isB_rfv _ | assumption) only [n105, t105_0, t105_6 hS, s_within, hv, z1, ↓reduceIte, eq_self, and_self, and_true, true_and, not_true_eq_false, not_false_eq_true, ob_s, tl_s, tl_n, rf_ref, orf_ref, orf_null, nn_ref, nn_null, rfv_s, rfv_n, if_true, if_false, bi_01, bi_e0, bi_e1, or_t, Classical.not_not]
      · simp (disch := first | omega | exact ib_r | exact ib_n | exact isB_rfv _ | assumption) only [n213, t213_0, t213_6 hS, s_in, hv, z2, ↓reduceIte, eq_self, and_self, and_true, true_and, not_true_eq_false, not_false_eq_true, ob_s, tl_s, tl_n, rf_ref, orf_ref, orf_null, nn_ref, nn_null, rfv_s, rfv_n, if_true, if_false, bi_01, bi_e0, bi_e1, or_t, Classical.not_not]
    · have n1 : (Int32.ofNat nd = 0) = False := eq_false (by rw [k_0, n_eq (by omega) (by omega)]; exact h0)
      have z1 : (I 15 1 = 0) = False := by rw [G.2.1]; exact n1
      have z2 : (I 37 21 = 0) = False := by rw [G.2.2.1]; exact n1
      have gm := s_gate28 (X := X) (d := d + 2) (sz := sz) (sl := sl) (J := J) (w := v) hS G nd 0 0 0 (by omega)
      rw [← k_0, Nat.zero_add, mm_mx, t213_28 hS (l4 := Int32.ofNat nd)] at gm
      have z : (Int32.ofNat nd ≤ Int32.ofNat nd) = True := eq_true (Int32.le_refl _)
      have md := s_mid (X := X) (d := d + 1) (sz := sz) (sl := sl) (J := J) hS G (ah := (nd - 1) / 2) (by omega) nd 0 (by omega)
      have ez : (Int32.ofNat nd - 1) / 2 = Int32.ofNat ((nd - 1) / 2) := by rw [k_1, k_2, n_sub (by omega), n_div (by omega) (by omega)]
      have me := s_mean (X := X) (d := d + 2) (sz := sz) (sl := sl) (J := J) hS G (by omega)
      rw [← k_0] at md
      have M1 : ev X (d + 4) 213 [.ref 37, .int v] (sz, sl, sh, R, I, J) = exe X (d + 3) 213 28 [.ref 37, .int v, .int 0, .int 0, .int 0, dm, dm, dm] [] (sz, sl, sh, R, I, J) := by
        simp (disch := first | omega | exact ib_r | exact ib_n | exact isB_rfv _ | assumption) only [n213, t213_0, t213_6 hS, s_in, hv, z2, ↓reduceIte, eq_self, and_self, and_true, true_and, not_true_eq_false, not_false_eq_true, ob_s, tl_s, tl_n, rf_ref, orf_ref, orf_null, nn_ref, nn_null, rfv_s, rfv_n, if_true, if_false, bi_01, bi_e0, bi_e1, or_t, Classical.not_not]
      rw [M1, gm]
      simp (disch := first | omega | exact ib_r | exact ib_n | exact isB_rfv _ | assumption) only [G.2.2.1, z, n1, ↓reduceIte, eq_self, and_self, and_true, true_and, not_true_eq_false, not_false_eq_true, ob_s, tl_s, tl_n, rf_ref, orf_ref, orf_null, nn_ref, nn_null, rfv_s, rfv_n, if_true, if_false, bi_01, bi_e0, bi_e1, or_t, Classical.not_not]
      by_cases hv0 : v = 0
      · have y : (v = 0) = True := eq_true hv0
        refine ⟨Int32.ofNat (sumf D 0 nd) / Int32.ofNat nd, ?_, ?_⟩
        · simp (disch := first | omega | exact ib_r | exact ib_n | exact isB_rfv _ | assumption) only [n105, t105_0, t105_6 hS, t105_35, t105_45, s_within, hv, z1, y, ↓reduceIte, eq_self, and_self, and_true, true_and, not_true_eq_false, not_false_eq_true, ob_s, tl_s, tl_n, rf_ref, orf_ref, orf_null, nn_ref, nn_null, rfv_s, rfv_n, if_true, if_false, bi_01, bi_e0, bi_e1, or_t, Classical.not_not, me]
        · simp (disch := first | omega | exact ib_r | exact ib_n | exact isB_rfv _ | assumption) only [y, ↓reduceIte, eq_self, and_self, and_true, true_and, not_true_eq_false, not_false_eq_true, ob_s, tl_s, tl_n, rf_ref, orf_ref, orf_null, nn_ref, nn_null, rfv_s, rfv_n, if_true, if_false, bi_01, bi_e0, bi_e1, or_t, Classical.not_not]
      · have y : (v = 0) = False := eq_false hv0
        refine ⟨Int32.ofNat (mx D nd ((nd - 1) / 2) nd 0), ?_, ?_⟩
        · simp (disch := first | omega | exact ib_r | exact ib_n | exact isB_rfv _ | assumption) only [n105, t105_0, t105_6 hS, t105_35, t105_45, s_within, hv, z1, y, ↓reduceIte, eq_self, and_self, and_true, true_and, not_true_eq_false, not_false_eq_true, ob_s, tl_s, tl_n, rf_ref, orf_ref, orf_null, nn_ref, nn_null, rfv_s, rfv_n, if_true, if_false, bi_01, bi_e0, bi_e1, or_t, Classical.not_not, n107, t107_0 hS, G.2.1, ez, md, n1]
        · simp (disch := first | omega | exact ib_r | exact ib_n | exact isB_rfv _ | assumption) only [y, ↓reduceIte, eq_self, and_self, and_true, true_and, not_true_eq_false, not_false_eq_true, ob_s, tl_s, tl_n, rf_ref, orf_ref, orf_null, nn_ref, nn_null, rfv_s, rfv_n, if_true, if_false, bi_01, bi_e0, bi_e1, or_t, Classical.not_not]
  · refine ⟨-1, ?_, ?_⟩
    · simp (disch := first | omega | exact ib_r | exact ib_n | exact isB_rfv _ | assumption) only [n105, t105_0, t105_6 hS, s_within, hv, ↓reduceIte, eq_self, and_self, and_true, true_and, not_true_eq_false, not_false_eq_true, ob_s, tl_s, tl_n, rf_ref, orf_ref, orf_null, nn_ref, nn_null, rfv_s, rfv_n, if_true, if_false, bi_01, bi_e0, bi_e1, or_t, Classical.not_not]
    · simp (disch := first | omega | exact ib_r | exact ib_n | exact isB_rfv _ | assumption) only [n213, t213_0, t213_6 hS, s_in, hv, ↓reduceIte, eq_self, and_self, and_true, true_and, not_true_eq_false, not_false_eq_true, ob_s, tl_s, tl_n, rf_ref, orf_ref, orf_null, nn_ref, nn_null, rfv_s, rfv_n, if_true, if_false, bi_01, bi_e0, bi_e1, or_t, Classical.not_not]
end GATE2
