/-! depth, mend, undo, redo -/
/-- only rows that tell steps' numbers are told anew -/
def sameW (W W' : WW) : Prop := ∀ r k, ¬ (10 ≤ r ∧ r ≤ 16) → W' r k = W r k
theorem sameW.refl {W : WW} : sameW W W := fun _ _ _ => rfl
theorem pr_in {p : Nat} : 10 ≤ pr_ p ∧ pr_ p ≤ 16 := by unfold pr_; split; exact ⟨by decide, by decide⟩; split; exact ⟨by decide, by decide⟩; exact ⟨by decide, by decide⟩
theorem sameW.pr {W : WW} {p v : Nat} : sameW W (u2 W (pr_ p) (pk_ p) v) := fun r k h => u2_pa (fun z => h (by rw [z]; exact pr_in))
section UNDO
variable {X : XX} {d : Nat} {sz sl : Nat} {sh : Nat → Nat × Nat} {R : Nat → Nat → Option Nat} {I : Nat → Nat → Int32} {J : Nat → Nat → Int64} {W : WW} {ns : Nat}
theorem s_cellM0 (hS : SF sh R) (h40 : ns ≤ 40) (hn : I 37 0 = Int32.ofNat ns) {i c : Nat} (hi : i < ns) (hc : c < 8) : ev X (d + 3) 154 [.ref 37, .int (Int32.ofNat (10 * i + c))] (sz, sl, sh, R, I, J) = some (some (.int 1), (sz, sl, sh, R, I, J)) := by
  have e0 : ¬ Int32.ofNat (10 * i + c) < 0 := Int32.not_lt.mpr (n_ge (by omega))
  have e1 : (10 * i + c) % 10 = c := by omega
  have e2 : (10 * i + c) / 10 = i := by omega
  have e3 : ¬ 8 ≤ c := by omega
  have hs : (0 : Int32) ≤ Int32.ofNat i ∧ Int32.ofNat i ≤ I 37 0 - 1 := by rw [hn, idx (by omega)]; exact ⟨i, hi, rfl⟩
  simp (disch := first | omega | exact ib_r | exact ib_n | exact isB_rfv _ | assumption) only [n154, t154_0 hS, t154_12, s_isStep hS, ob_s, tl_s, k_8, k_10, n_div, n_rem']
  simp (disch := first | omega | exact ib_r | exact ib_n | exact isB_rfv _ | assumption) only [e0, n_le, e1, e2, e3, hs, ↓reduceIte, eq_self, and_self, and_true, true_and, not_true_eq_false, not_false_eq_true, ob_s, tl_s, tl_n, rf_ref, orf_ref, orf_null, nn_ref, nn_null, rfv_s, rfv_n, if_true, if_false, bi_01, bi_e0, bi_e1, or_t, Classical.not_not]
theorem o_depth (hS : SF sh R) (G : GS W ns sh R I) {P A B : Nat → Nat} {nd nl : Nat} (C : GC P A B ns nd nl I) {v w : Int32} : ∃ x I1 I2 W', ev X (d + 5) 17 [.ref 0, .int v, .int w] (sz, sl, sh, R, I, J) = some (some (.int x), (sz, sl, sh, R, I1, J)) ∧ ev X (d + 5) 153 [.ref 37, .int v, .int w] (sz, sl, sh, R, I1, J) = some (some (.int x), (sz, sl, sh, R, I2, J)) ∧ sameW W W' ∧ GS W' ns sh R I2 ∧ (∃ P' A' B' nd' nl', GC P' A' B' ns nd' nl' I2) ∧ eqO (C15 W) I I2 := by
  have h40 := G.1
  by_cases hv : celA ns v
  · obtain ⟨i, c, hi, hc, rfl⟩ := hv
    by_cases hw : 0 ≤ w ∧ w ≤ 99999
    · obtain ⟨u, -, hu, rfl⟩ := n_in (a := 0) (b := 99999) (by decide) hw.1 hw.2 (by decide)
      have ok : okv ns (10 * i + c) u := ⟨by omega, fun _ => hu, fun z => by omega, fun z => by omega⟩
      obtain ⟨x, I1, I2, a1, a2, a3, a4, a5, a6⟩ := o_tell (X := X) (d := d) (sz := sz) (sl := sl) (J := J) hS G C ok
      have ic := s_cellM0 (X := X) (d := d + 1) (sz := sz) (sl := sl) (J := J) (I := I1) hS h40 ((a6 37 0 (by decide) (by decide)).trans G.n2) hi hc
      refine ⟨x, I1, I2, _, ?_, ?_, sameW.pr, a3, a4, a5⟩
      · simp (disch := first | omega | exact ib_r | exact ib_n | exact isB_rfv _ | assumption) only [n17, t17_0 hS, t17_5, t17_15 hS, t17_26, s_cellX hS G hi hc, s_within, hw, ↓reduceIte, eq_self, and_self, and_true, true_and, not_true_eq_false, not_false_eq_true, ob_s, tl_s, tl_n, rf_ref, orf_ref, orf_null, nn_ref, nn_null, rfv_s, rfv_n, if_true, if_false, bi_01, bi_e0, bi_e1, or_t, Classical.not_not, a1]
      · simp (disch := first | omega | exact ib_r | exact ib_n | exact isB_rfv _ | assumption) only [n153, t153_0 hS, t153_5, t153_15 hS, t153_24, ic, s_in, hw, ↓reduceIte, eq_self, and_self, and_true, true_and, not_true_eq_false, not_false_eq_true, ob_s, tl_s, tl_n, rf_ref, orf_ref, orf_null, nn_ref, nn_null, rfv_s, rfv_n, if_true, if_false, bi_01, bi_e0, bi_e1, or_t, Classical.not_not, a2]
        rw [if_neg (by decide)]
    · refine ⟨-1, I, I, W, ?_, ?_, sameW.refl, G, ⟨P, A, B, nd, nl, C⟩, eqO.refl⟩
      · simp (disch := first | omega | exact ib_r | exact ib_n | exact isB_rfv _ | assumption) only [n17, t17_0 hS, t17_5, t17_15 hS, t17_26, s_cellX hS G hi hc, s_within, hw, ↓reduceIte, eq_self, and_self, and_true, true_and, not_true_eq_false, not_false_eq_true, ob_s, tl_s, tl_n, rf_ref, orf_ref, orf_null, nn_ref, nn_null, rfv_s, rfv_n, if_true, if_false, bi_01, bi_e0, bi_e1, or_t, Classical.not_not]
      · simp (disch := first | omega | exact ib_r | exact ib_n | exact isB_rfv _ | assumption) only [n153, t153_0 hS, t153_5, t153_15 hS, t153_24, s_cellM hS G hi hc, s_in, hw, ↓reduceIte, eq_self, and_self, and_true, true_and, not_true_eq_false, not_false_eq_true, ob_s, tl_s, tl_n, rf_ref, orf_ref, orf_null, nn_ref, nn_null, rfv_s, rfv_n, if_true, if_false, bi_01, bi_e0, bi_e1, or_t, Classical.not_not]
        rw [if_neg (by decide)]
  · refine ⟨-1, I, I, W, ?_, ?_, sameW.refl, G, ⟨P, A, B, nd, nl, C⟩, eqO.refl⟩
    · simp (disch := first | omega | exact ib_r | exact ib_n | exact isB_rfv _ | assumption) only [n17, t17_0 hS, t17_5, (s_cell_no hS G hv).1, ↓reduceIte, eq_self, and_self, and_true, true_and, not_true_eq_false, not_false_eq_true, ob_s, tl_s, tl_n, rf_ref, orf_ref, orf_null, nn_ref, nn_null, rfv_s, rfv_n, if_true, if_false, bi_01, bi_e0, bi_e1, or_t, Classical.not_not]
    · simp (disch := first | omega | exact ib_r | exact ib_n | exact isB_rfv _ | assumption) only [n153, t153_0 hS, t153_5, (s_cell_no hS G hv).2, ↓reduceIte, eq_self, and_self, and_true, true_and, not_true_eq_false, not_false_eq_true, ob_s, tl_s, tl_n, rf_ref, orf_ref, orf_null, nn_ref, nn_null, rfv_s, rfv_n, if_true, if_false, bi_01, bi_e0, bi_e1, or_t, Classical.not_not]
theorem o_mend (hS : SF sh R) (G : GS W ns sh R I) {P A B : Nat → Nat} {nd nl : Nat} (C : GC P A B ns nd nl I) {v q w : Int32} : ∃ x I1 I2 W', ev X (d + 5) 24 [.ref 0, .int v, .int q, .int w] (sz, sl, sh, R, I, J) = some (some (.int x), (sz, sl, sh, R, I1, J)) ∧ ev X (d + 5) 158 [.ref 37, .int v, .int q, .int w] (sz, sl, sh, R, I1, J) = some (some (.int x), (sz, sl, sh, R, I2, J)) ∧ sameW W W' ∧ GS W' ns sh R I2 ∧ (∃ P' A' B' nd' nl', GC P' A' B' ns nd' nl' I2) ∧ eqO (C15 W) I I2 := by
  have h40 := G.1
  by_cases hv : ∃ j, j < ns ∧ v = Int32.ofNat j
  · obtain ⟨j, hj, rfl⟩ := hv
    have h := G.2.2.2.1 j hj
    have hi : (0 : Int32) ≤ Int32.ofNat j ∧ Int32.ofNat j ≤ I 37 0 - 1 := by rw [G.n2, idx (by omega)]; exact ⟨j, hj, rfl⟩
    by_cases hq : 0 ≤ q ∧ q ≤ 1
    · obtain ⟨g, -, hg, rfl⟩ := n_in (a := 0) (b := 1) (by decide) hq.1 hq.2 (by decide)
      rcases (show g = 0 ∨ g = 1 by omega) with rfl | rfl
      · have b2 : Int32.ofNat 0 = 0 := rfl
        have hq0 : (0 : Int32) ≤ 0 ∧ (0 : Int32) ≤ 1 := by decide
        by_cases hw : 1 ≤ w ∧ w ≤ 9
        · obtain ⟨u, hu0, hu, rfl⟩ := n_in (a := 1) (b := 9) (by decide) hw.1 hw.2 (by decide)
          have ok : okv ns (10 * j + 8) u := ⟨by omega, fun _ => by omega, fun _ => ⟨hu0, hu⟩, fun z => by omega⟩
          obtain ⟨x, I1, I2, a1, a2, a3, a4, a5, a6⟩ := o_tell (X := X) (d := d) (sz := sz) (sl := sl) (J := J) hS G C ok
          have hi1 : (0 : Int32) ≤ Int32.ofNat j ∧ Int32.ofNat j ≤ I1 37 0 - 1 := by rw [a6 37 0 (by decide) (by decide)]; exact hi
          have ep : (10 : Int32) * Int32.ofNat j + 8 = Int32.ofNat (10 * j + 8) := by rw [k_10, n_mul, k_8, n_add]
          have ez : Int32.ofNat (10 * j + 8) + 0 = Int32.ofNat (10 * j + 8) := by rw [Int32.add_zero]
          refine ⟨x, I1, I2, _, ?_, ?_, sameW.pr, a3, a4, a5⟩
          · simp (disch := first | omega | exact ib_r | exact ib_n | exact isB_rfv _ | assumption) only [n24, t24_0 hS, t24_5, t24_14, t24_33 hS, t24_59, s_stepAt hS G hj, h.2.1, s_within, hq0, hw, b2, ↓reduceIte, eq_self, and_self, and_true, true_and, not_true_eq_false, not_false_eq_true, ob_s, tl_s, tl_n, rf_ref, orf_ref, orf_null, nn_ref, nn_null, rfv_s, rfv_n, if_true, if_false, bi_01, bi_e0, bi_e1, or_t, Classical.not_not, ep, a1]
          · simp (disch := first | omega | exact ib_r | exact ib_n | exact isB_rfv _ | assumption) only [n158, t158_0 hS, t158_5, t158_14, t158_33 hS, t158_52, s_isStep hS, hi1, s_in, hq0, hw, b2, ↓reduceIte, eq_self, and_self, and_true, true_and, not_true_eq_false, not_false_eq_true, ob_s, tl_s, tl_n, rf_ref, orf_ref, orf_null, nn_ref, nn_null, rfv_s, rfv_n, if_true, if_false, bi_01, bi_e0, bi_e1, or_t, Classical.not_not, ep, ez, a2]
        · refine ⟨-1, I, I, W, ?_, ?_, sameW.refl, G, ⟨P, A, B, nd, nl, C⟩, eqO.refl⟩
          · simp (disch := first | omega | exact ib_r | exact ib_n | exact isB_rfv _ | assumption) only [n24, t24_0 hS, t24_5, t24_14, t24_33 hS, t24_59, s_stepAt hS G hj, h.2.1, s_within, hq0, hw, b2, ↓reduceIte, eq_self, and_self, and_true, true_and, not_true_eq_false, not_false_eq_true, ob_s, tl_s, tl_n, rf_ref, orf_ref, orf_null, nn_ref, nn_null, rfv_s, rfv_n, if_true, if_false, bi_01, bi_e0, bi_e1, or_t, Classical.not_not]
          · simp (disch := first | omega | exact ib_r | exact ib_n | exact isB_rfv _ | assumption) only [n158, t158_0 hS, t158_5, t158_14, t158_33 hS, t158_52, s_isStep hS, hi, s_in, hq0, hw, b2, ↓reduceIte, eq_self, and_self, and_true, true_and, not_true_eq_false, not_false_eq_true, ob_s, tl_s, tl_n, rf_ref, orf_ref, orf_null, nn_ref, nn_null, rfv_s, rfv_n, if_true, if_false, bi_01, bi_e0, bi_e1, or_t, Classical.not_not]
      · have b2 : ¬ Int32.ofNat 1 = 0 := by decide
        by_cases hw : 1 ≤ w ∧ w ≤ 99
        · obtain ⟨u, hu0, hu, rfl⟩ := n_in (a := 1) (b := 99) (by decide) hw.1 hw.2 (by decide)
          have ok : okv ns (10 * j + 9) u := ⟨by omega, fun _ => by omega, fun z => by omega, fun _ => ⟨hu0, hu⟩⟩
          obtain ⟨x, I1, I2, a1, a2, a3, a4, a5, a6⟩ := o_tell (X := X) (d := d) (sz := sz) (sl := sl) (J := J) hS G C ok
          have hi1 : (0 : Int32) ≤ Int32.ofNat j ∧ Int32.ofNat j ≤ I1 37 0 - 1 := by rw [a6 37 0 (by decide) (by decide)]; exact hi
          have ep : (10 : Int32) * Int32.ofNat j + 9 = Int32.ofNat (10 * j + 9) := by rw [k_10, n_mul, k_9, n_add]
          have em : (10 : Int32) * Int32.ofNat j + 8 + Int32.ofNat 1 = Int32.ofNat (10 * j + 9) := by rw [k_10, n_mul, k_8, n_add, n_add]
          refine ⟨x, I1, I2, _, ?_, ?_, sameW.pr, a3, a4, a5⟩
          · simp (disch := first | omega | exact ib_r | exact ib_n | exact isB_rfv _ | assumption) only [n24, t24_0 hS, t24_5, t24_14, t24_33 hS, t24_59, s_stepAt hS G hj, h.2.1, s_within, hq, hw, b2, ↓reduceIte, eq_self, and_self, and_true, true_and, not_true_eq_false, not_false_eq_true, ob_s, tl_s, tl_n, rf_ref, orf_ref, orf_null, nn_ref, nn_null, rfv_s, rfv_n, if_true, if_false, bi_01, bi_e0, bi_e1, or_t, Classical.not_not, ep, a1]
          · simp (disch := first | omega | exact ib_r | exact ib_n | exact isB_rfv _ | assumption) only [n158, t158_0 hS, t158_5, t158_14, t158_33 hS, t158_52, s_isStep hS, hi1, s_in, hq, hw, b2, ↓reduceIte, eq_self, and_self, and_true, true_and, not_true_eq_false, not_false_eq_true, ob_s, tl_s, tl_n, rf_ref, orf_ref, orf_null, nn_ref, nn_null, rfv_s, rfv_n, if_true, if_false, bi_01, bi_e0, bi_e1, or_t, Classical.not_not, em, a2]
        · refine ⟨-1, I, I, W, ?_, ?_, sameW.refl, G, ⟨P, A, B, nd, nl, C⟩, eqO.refl⟩
          · simp (disch := first | omega | exact ib_r | exact ib_n | exact isB_rfv _ | assumption) only [n24, t24_0 hS, t24_5, t24_14, t24_33 hS, t24_59, s_stepAt hS G hj, h.2.1, s_within, hq, hw, b2, ↓reduceIte, eq_self, and_self, and_true, true_and, not_true_eq_false, not_false_eq_true, ob_s, tl_s, tl_n, rf_ref, orf_ref, orf_null, nn_ref, nn_null, rfv_s, rfv_n, if_true, if_false, bi_01, bi_e0, bi_e1, or_t, Classical.not_not]
          · simp (disch := first | omega | exact ib_r | exact ib_n | exact isB_rfv _ | assumption) only [n158, t158_0 hS, t158_5, t158_14, t158_33 hS, t158_52, s_isStep hS, hi, s_in, hq, hw, b2, ↓reduceIte, eq_self, and_self, and_true, true_and, not_true_eq_false, not_false_eq_true, ob_s, tl_s, tl_n, rf_ref, orf_ref, orf_null, nn_ref, nn_null, rfv_s, rfv_n, if_true, if_false, bi_01, bi_e0, bi_e1, or_t, Classical.not_not]
    · refine ⟨-1, I, I, W, ?_, ?_, sameW.refl, G, ⟨P, A, B, nd, nl, C⟩, eqO.refl⟩
      · simp (disch := first | omega | exact ib_r | exact ib_n | exact isB_rfv _ | assumption) only [n24, t24_0 hS, t24_5, t24_14, t24_33 hS, t24_59, s_stepAt hS G hj, h.2.1, s_within, hq, ↓reduceIte, eq_self, and_self, and_true, true_and, not_true_eq_false, not_false_eq_true, ob_s, tl_s, tl_n, rf_ref, orf_ref, orf_null, nn_ref, nn_null, rfv_s, rfv_n, if_true, if_false, bi_01, bi_e0, bi_e1, or_t, Classical.not_not]
      · simp (disch := first | omega | exact ib_r | exact ib_n | exact isB_rfv _ | assumption) only [n158, t158_0 hS, t158_5, t158_14, t158_33 hS, t158_52, s_isStep hS, hi, s_in, hq, ↓reduceIte, eq_self, and_self, and_true, true_and, not_true_eq_false, not_false_eq_true, ob_s, tl_s, tl_n, rf_ref, orf_ref, orf_null, nn_ref, nn_null, rfv_s, rfv_n, if_true, if_false, bi_01, bi_e0, bi_e1, or_t, Classical.not_not]
  · have hi : ¬ ((0 : Int32) ≤ v ∧ v ≤ I 37 0 - 1) := by rw [G.n2, idx (by omega)]; exact hv
    refine ⟨-1, I, I, W, ?_, ?_, sameW.refl, G, ⟨P, A, B, nd, nl, C⟩, eqO.refl⟩
    · simp (disch := first | omega | exact ib_r | exact ib_n | exact isB_rfv _ | assumption) only [n24, t24_0 hS, t24_5, t24_14, t24_33 hS, t24_59, s_stepAt_no hS G hv, ↓reduceIte, eq_self, and_self, and_true, true_and, not_true_eq_false, not_false_eq_true, ob_s, tl_s, tl_n, rf_ref, orf_ref, orf_null, nn_ref, nn_null, rfv_s, rfv_n, if_true, if_false, bi_01, bi_e0, bi_e1, or_t, Classical.not_not]
    · simp (disch := first | omega | exact ib_r | exact ib_n | exact isB_rfv _ | assumption) only [n158, t158_0 hS, t158_5, t158_14, t158_33 hS, t158_52, s_isStep hS, hi, ↓reduceIte, eq_self, and_self, and_true, true_and, not_true_eq_false, not_false_eq_true, ob_s, tl_s, tl_n, rf_ref, orf_ref, orf_null, nn_ref, nn_null, rfv_s, rfv_n, if_true, if_false, bi_01, bi_e0, bi_e1, or_t, Classical.not_not]
/-- the i-th change -/
theorem s_placeOf (hS : SF sh R) {k : Nat} (hk : k < 40) : ev X (d + 1) 112 [.ref 17, .int (Int32.ofNat k)] (sz, sl, sh, R, I, J) = some (some (.int (I 18 k)), (sz, sl, sh, R, I, J)) ∧ ev X (d + 1) 113 [.ref 17, .int (Int32.ofNat k)] (sz, sl, sh, R, I, J) = some (some (.int (I 19 k)), (sz, sl, sh, R, I, J)) ∧ ev X (d + 1) 115 [.ref 17, .int (Int32.ofNat k)] (sz, sl, sh, R, I, J) = some (some (.int (I 20 k)), (sz, sl, sh, R, I, J)) := by
  have e0 : ¬ Int32.ofNat k < 0 := Int32.not_lt.mpr (n_ge (by omega))
  have e1 : ¬ 40 ≤ k := by omega
  refine ⟨?_, ?_, ?_⟩
  · simp (disch := first | omega | exact ib_r | exact ib_n | exact isB_rfv _ | assumption) only [n112, t112_0 hS, e0, k_40, n_le, n_inb, n_cl, e1, hk, ↓reduceIte, eq_self, and_self, and_true, true_and, not_true_eq_false, not_false_eq_true, ob_s, tl_s, tl_n, rf_ref, orf_ref, orf_null, nn_ref, nn_null, rfv_s, rfv_n, if_true, if_false, bi_01, bi_e0, bi_e1, or_t, Classical.not_not]
  · simp (disch := first | omega | exact ib_r | exact ib_n | exact isB_rfv _ | assumption) only [n113, t113_0 hS, e0, k_40, n_le, n_inb, n_cl, e1, hk, ↓reduceIte, eq_self, and_self, and_true, true_and, not_true_eq_false, not_false_eq_true, ob_s, tl_s, tl_n, rf_ref, orf_ref, orf_null, nn_ref, nn_null, rfv_s, rfv_n, if_true, if_false, bi_01, bi_e0, bi_e1, or_t, Classical.not_not]
  · simp (disch := first | omega | exact ib_r | exact ib_n | exact isB_rfv _ | assumption) only [n115, t115_0 hS, e0, k_40, n_le, n_inb, n_cl, e1, hk, ↓reduceIte, eq_self, and_self, and_true, true_and, not_true_eq_false, not_false_eq_true, ob_s, tl_s, tl_n, rf_ref, orf_ref, orf_null, nn_ref, nn_null, rfv_s, rfv_n, if_true, if_false, bi_01, bi_e0, bi_e1, or_t, Classical.not_not]
theorem o_undo (hS : SF sh R) (G : GS W ns sh R I) {P A B : Nat → Nat} {nd nl : Nat} (C : GC P A B ns nd nl I) : ∃ x I1 I2 W', ev X (d + 5) 111 [.ref 0] (sz, sl, sh, R, I, J) = some (some (.int x), (sz, sl, sh, R, I1, J)) ∧ ev X (d + 5) 215 [.ref 37] (sz, sl, sh, R, I1, J) = some (some (.int x), (sz, sl, sh, R, I2, J)) ∧ sameW W W' ∧ GS W' ns sh R I2 ∧ (∃ P' A' B' nd' nl', GC P' A' B' ns nd' nl' I2) ∧ eqO (C15 W) I I2 := by
  have h40 := G.1
  have C' := C
  obtain ⟨h1, h2, e1, e2, e3, e4, hk⟩ := C
  by_cases h0 : nd = 0
  · subst h0
    have z1 : (I 17 3 = 0) = True := eq_true e1
    have z2 : (I 37 27 = 0) = True := eq_true e2
    refine ⟨-5, I, I, W, ?_, ?_, sameW.refl, G, ⟨P, A, B, 0, nl, C'⟩, eqO.refl⟩
    · simp (disch := first | omega | exact ib_r | exact ib_n | exact isB_rfv _ | assumption) only [n111, t111_0 hS, z1, ↓reduceIte, eq_self, and_self, and_true, true_and, not_true_eq_false, not_false_eq_true, ob_s, tl_s, tl_n, rf_ref, orf_ref, orf_null, nn_ref, nn_null, rfv_s, rfv_n, if_true, if_false, bi_01, bi_e0, bi_e1, or_t, Classical.not_not]
    · simp (disch := first | omega | exact ib_r | exact ib_n | exact isB_rfv _ | assumption) only [n215, t215_0 hS, z2, ↓reduceIte, eq_self, and_self, and_true, true_and, not_true_eq_false, not_false_eq_true, ob_s, tl_s, tl_n, rf_ref, orf_ref, orf_null, nn_ref, nn_null, rfv_s, rfv_n, if_true, if_false, bi_01, bi_e0, bi_e1, or_t, Classical.not_not]
  · obtain ⟨m, rfl⟩ : ∃ m, nd = m + 1 := ⟨nd - 1, by omega⟩
    have q := hk m (by omega)
    have ok := q.2.2.1
    have hp := ok.1
    have xc := xa_c G hp
    have hm40 : m < 40 := by omega
    have em : Int32.ofNat (m + 1) - 1 = Int32.ofNat m := by rw [k_1, n_sub (by omega), Nat.add_sub_cancel]
    have z1 : (Int32.ofNat (m + 1) = 0) = False := eq_false (by rw [k_0, n_eq (by omega) (by omega)]; omega)
    have G1 : GS W ns sh R (u2 I 17 3 (Int32.ofNat m)) := G.fr (fun _ _ _ => rfl) (fun _ _ => rfl) (fun _ _ => rfl) (fun _ _ _ => rfl) (fun a k hc => if_neg (fun z => absurd hc (by rw [z.1, z.2]; show ¬ (5 : Nat) = 1; decide)))
    have bx := s_become (X := X) (d := d + 1) (sz := sz) (sl := sl) (J := J) (v := Int32.ofNat (A m)) hS G1 hp
    have pl := s_placeOf (X := X) (d := d + 3) (sz := sz) (sl := sl) (J := J) (I := u2 I 17 3 (Int32.ofNat m)) hS hm40
    rw [u2_pa (show (18 : Nat) ≠ 17 by decide), u2_pa (show (19 : Nat) ≠ 17 by decide), q.1.1, q.1.2.1] at pl
    have xn : ∀ a k, a < 71 → u2 (u2 I 17 3 (Int32.ofNat m)) (xa_ W (P m)) (xk_ (P m)) (Int32.ofNat (A m)) a k = u2 I 17 3 (Int32.ofNat m) a k := fun a k ha => u2_pa (by omega)
    refine ⟨Int32.ofNat m, u2 (u2 I 17 3 (Int32.ofNat m)) (xa_ W (P m)) (xk_ (P m)) (Int32.ofNat (A m)), u2 (u2 (u2 (u2 I 17 3 (Int32.ofNat m)) (xa_ W (P m)) (xk_ (P m)) (Int32.ofNat (A m))) 37 27 (Int32.ofNat m)) (pa_ (P m)) (pk_ (P m)) (Int32.ofNat (A m)), _, ?_, ?_, sameW.pr, G.become ok ?_ u2_at0 (fun a k hc n1 n2 => ?_), ⟨P, A, B, m, nl, by omega, h2, ?_, ?_, ?_, ?_, fun k hk' => ?_⟩, fun a k hn => ?_⟩
    · have r17 : u2 (u2 I 17 3 (Int32.ofNat m)) (xa_ W (P m)) (xk_ (P m)) (Int32.ofNat (A m)) 17 3 = Int32.ofNat m := by rw [xn _ _ (by decide), u2_at0]
      simp (disch := first | omega | exact ib_r | exact ib_n | exact isB_rfv _ | assumption) only [n111, t111_0 hS, e1, em, z1, ↓reduceIte, eq_self, and_self, and_true, true_and, not_true_eq_false, not_false_eq_true, ob_s, tl_s, tl_n, rf_ref, orf_ref, orf_null, nn_ref, nn_null, rfv_s, rfv_n, if_true, if_false, bi_01, bi_e0, bi_e1, or_t, Classical.not_not, pl.1, t111_41 hS, u2_at0, pl.2.1, t111_55, zS0 hS, bx, t111_58 hS, r17]
    · have r27 : u2 (u2 I 17 3 (Int32.ofNat m)) (xa_ W (P m)) (xk_ (P m)) (Int32.ofNat (A m)) 37 27 = Int32.ofNat (m + 1) := by rw [xn _ _ (by decide), u2_pa (by decide)]; exact e2
      have r56 : u2 (u2 (u2 I 17 3 (Int32.ofNat m)) (xa_ W (P m)) (xk_ (P m)) (Int32.ofNat (A m))) 37 27 (Int32.ofNat m) 56 m = Int32.ofNat (P m) := by rw [u2_pa (by decide), xn _ _ (by decide), u2_pa (by decide)]; exact q.2.1.1
      have r57 : u2 (u2 (u2 I 17 3 (Int32.ofNat m)) (xa_ W (P m)) (xk_ (P m)) (Int32.ofNat (A m))) 37 27 (Int32.ofNat m) 57 m = Int32.ofNat (A m) := by rw [u2_pa (by decide), xn _ _ (by decide), u2_pa (by decide)]; exact q.2.1.2.1
      have r27' : u2 (u2 (u2 (u2 I 17 3 (Int32.ofNat m)) (xa_ W (P m)) (xk_ (P m)) (Int32.ofNat (A m))) 37 27 (Int32.ofNat m)) (pa_ (P m)) (pk_ (P m)) (Int32.ofNat (A m)) 37 27 = Int32.ofNat m := by rw [u2_pa (by rcases pa_ne (p := P m) with z | z | z <;> omega), u2_at0]
      simp (disch := first | omega | exact ib_r | exact ib_n | exact isB_rfv _ | assumption) only [n215, t215_0 hS, r27, em, z1, n_inb, n_cl, hm40, ↓reduceIte, eq_self, and_self, and_true, true_and, not_true_eq_false, not_false_eq_true, ob_s, tl_s, tl_n, rf_ref, orf_ref, orf_null, nn_ref, nn_null, rfv_s, rfv_n, if_true, if_false, bi_01, bi_e0, bi_e1, or_t, Classical.not_not, r56, r57, s_holds hS (show P m / 10 < 40 by omega), t215_42 hS, r27']
    · rw [u2_pa (by rcases pa_ne (p := P m) with z | z | z <;> omega), u2_pa (by omega), u2_at0]
    · have hne : ∀ b j, cI W b j ≠ 1 → ¬ (a = b ∧ k = j) := fun b j hb z => hb (by rw [← z.1, ← z.2]; exact hc)
      show (if a = pa_ (P m) ∧ k = pk_ (P m) then _ else if a = 37 ∧ k = 27 then _ else if a = xa_ W (P m) ∧ k = xk_ (P m) then _ else if a = 17 ∧ k = 3 then _ else I a k) = I a k
      rw [if_neg n2, if_neg (hne 37 27 (by show (5 : Nat) ≠ 1; decide)), if_neg n1, if_neg (hne 17 3 (by show (5 : Nat) ≠ 1; decide))]
    · rw [u2_pa (by rcases pa_ne (p := P m) with z | z | z <;> omega), u2_pa (by decide), xn _ _ (by decide), u2_at0]
    · rw [u2_pa (by rcases pa_ne (p := P m) with z | z | z <;> omega), u2_at0]
    · rw [u2_pa (by rcases pa_ne (p := P m) with z | z | z <;> omega), u2_pa (by decide), xn _ _ (by decide), u2_pj (by decide)]; exact e3
    · rw [u2_pa (by rcases pa_ne (p := P m) with z | z | z <;> omega), u2_pj (by decide), xn _ _ (by decide), u2_pa (by decide)]; exact e4
    · have r : ∀ a k, a < 71 → a ≠ 17 → a ≠ 37 → a ≠ 42 → a ≠ 38 → a ≠ 41 → u2 (u2 (u2 (u2 I 17 3 (Int32.ofNat m)) (xa_ W (P m)) (xk_ (P m)) (Int32.ofNat (A m))) 37 27 (Int32.ofNat m)) (pa_ (P m)) (pk_ (P m)) (Int32.ofNat (A m)) a k = I a k := fun a k ha n1 n2 n3 n4 n5 => by rw [u2_pa (by rcases pa_ne (p := P m) with z | z | z <;> omega), u2_pa n2, xn _ _ ha, u2_pa n1]
      rw [r 18 _ (by decide) (by decide) (by decide) (by decide) (by decide) (by decide), r 19 _ (by decide) (by decide) (by decide) (by decide) (by decide) (by decide), r 20 _ (by decide) (by decide) (by decide) (by decide) (by decide) (by decide), r 56 _ (by decide) (by decide) (by decide) (by decide) (by decide) (by decide), r 57 _ (by decide) (by decide) (by decide) (by decide) (by decide) (by decide), r 58 _ (by decide) (by decide) (by decide) (by decide) (by decide) (by decide)]
      exact hk k hk'
    · show (if a = pa_ (P m) ∧ k = pk_ (P m) then _ else if a = 37 ∧ k = 27 then _ else if a = xa_ W (P m) ∧ k = xk_ (P m) then _ else if a = 17 ∧ k = 3 then _ else I a k) = I a k
      rw [if_neg (fun z => hn (Or.inl (by rw [z.1, z.2]; exact pa_c))), if_neg (fun z => hn (Or.inr (by rw [z.1, z.2]; rfl))), if_neg (fun z => hn (Or.inl (by rw [z.1, z.2]; exact xc.1))), if_neg (fun z => hn (Or.inr (by rw [z.1, z.2]; rfl)))]
theorem o_redo (hS : SF sh R) (G : GS W ns sh R I) {P A B : Nat → Nat} {nd nl : Nat} (C : GC P A B ns nd nl I) : ∃ x I1 I2 W', ev X (d + 5) 114 [.ref 0] (sz, sl, sh, R, I, J) = some (some (.int x), (sz, sl, sh, R, I1, J)) ∧ ev X (d + 5) 216 [.ref 37] (sz, sl, sh, R, I1, J) = some (some (.int x), (sz, sl, sh, R, I2, J)) ∧ sameW W W' ∧ GS W' ns sh R I2 ∧ (∃ P' A' B' nd' nl', GC P' A' B' ns nd' nl' I2) ∧ eqO (C15 W) I I2 := by
  have h40 := G.1
  have C' := C
  obtain ⟨h1, h2, e1, e2, e3, e4, hk⟩ := C
  by_cases h0 : nd < nl
  · have q := hk nd h0
    have ok := q.2.2.2
    have hp := ok.1
    have xc := xa_c G hp
    have hm40 : nd < 40 := by omega
    have hne : ¬ nd = nl := by omega
    have eb : Int32.ofNat nl - Int32.ofNat (nd + 1) = Int32.ofNat (nl - (nd + 1)) := n_sub (by omega)
    have bx := s_become (X := X) (d := d + 1) (sz := sz) (sl := sl) (J := J) (v := Int32.ofNat (B nd)) hS G hp
    have pl := s_placeOf (X := X) (d := d + 3) (sz := sz) (sl := sl) (J := J) (I := I) hS hm40
    rw [q.1.1, q.1.2.2] at pl
    have xn : ∀ a k, a < 71 → u2 I (xa_ W (P nd)) (xk_ (P nd)) (Int32.ofNat (B nd)) a k = I a k := fun a k ha => u2_pa (by omega)
    have pn : ∀ a, a ≠ 42 → a ≠ 38 → a ≠ 41 → a ≠ pa_ (P nd) := fun a n1 n2 n3 => by rcases pa_ne (p := P nd) with z | z | z <;> omega
    refine ⟨Int32.ofNat (nl - (nd + 1)), u2 (u2 I (xa_ W (P nd)) (xk_ (P nd)) (Int32.ofNat (B nd))) 17 3 (Int32.ofNat (nd + 1)), u2 (u2 (u2 (u2 I (xa_ W (P nd)) (xk_ (P nd)) (Int32.ofNat (B nd))) 17 3 (Int32.ofNat (nd + 1))) (pa_ (P nd)) (pk_ (P nd)) (Int32.ofNat (B nd))) 37 27 (Int32.ofNat (nd + 1)), _, ?_, ?_, sameW.pr, G.become ok ?_ ?_ (fun a k hc n1 n2 => ?_), ⟨P, A, B, nd + 1, nl, by omega, h2, ?_, ?_, ?_, ?_, fun k hk' => ?_⟩, fun a k hn => ?_⟩
    · have r3 : u2 I (xa_ W (P nd)) (xk_ (P nd)) (Int32.ofNat (B nd)) 17 3 = Int32.ofNat nd := by rw [xn _ _ (by decide)]; exact e1
      have r4 : u2 I (xa_ W (P nd)) (xk_ (P nd)) (Int32.ofNat (B nd)) 17 4 = Int32.ofNat nl := by rw [xn _ _ (by decide)]; exact e3
      simp (disch := first | omega | exact ib_r | exact ib_n | exact isB_rfv _ | assumption) only [n114, t114_0 hS, e1, e3, n_lt, h0, ↓reduceIte, eq_self, and_self, and_true, true_and, not_true_eq_false, not_false_eq_true, ob_s, tl_s, tl_n, rf_ref, orf_ref, orf_null, nn_ref, nn_null, rfv_s, rfv_n, if_true, if_false, bi_01, bi_e0, bi_e1, or_t, Classical.not_not, pl.1, t114_35 hS, pl.2.2, t114_49, zS0 hS, bx, t114_52 hS, r3, r4, n_suc, eb]
    · have r27 : u2 (u2 I (xa_ W (P nd)) (xk_ (P nd)) (Int32.ofNat (B nd))) 17 3 (Int32.ofNat (nd + 1)) 37 27 = Int32.ofNat nd := by rw [u2_pa (by decide), xn _ _ (by decide)]; exact e2
      have r26 : u2 (u2 I (xa_ W (P nd)) (xk_ (P nd)) (Int32.ofNat (B nd))) 17 3 (Int32.ofNat (nd + 1)) 37 26 = Int32.ofNat nl := by rw [u2_pa (by decide), xn _ _ (by decide)]; exact e4
      have r56 : u2 (u2 I (xa_ W (P nd)) (xk_ (P nd)) (Int32.ofNat (B nd))) 17 3 (Int32.ofNat (nd + 1)) 56 nd = Int32.ofNat (P nd) := by rw [u2_pa (by decide), xn _ _ (by decide)]; exact q.2.1.1
      have r58 : u2 (u2 I (xa_ W (P nd)) (xk_ (P nd)) (Int32.ofNat (B nd))) 17 3 (Int32.ofNat (nd + 1)) 58 nd = Int32.ofNat (B nd) := by rw [u2_pa (by decide), xn _ _ (by decide)]; exact q.2.1.2.2
      have r27' : ∀ x, u2 (u2 (u2 I (xa_ W (P nd)) (xk_ (P nd)) (Int32.ofNat (B nd))) 17 3 (Int32.ofNat (nd + 1))) (pa_ (P nd)) (pk_ (P nd)) x 37 27 = Int32.ofNat nd := fun x => by rw [u2_pa (pn 37 (by decide) (by decide) (by decide))]; exact r27
      have r26' : ∀ x, u2 (u2 (u2 I (xa_ W (P nd)) (xk_ (P nd)) (Int32.ofNat (B nd))) 17 3 (Int32.ofNat (nd + 1))) (pa_ (P nd)) (pk_ (P nd)) x 37 26 = Int32.ofNat nl := fun x => by rw [u2_pa (pn 37 (by decide) (by decide) (by decide))]; exact r26
      simp (disch := first | omega | exact ib_r | exact ib_n | exact isB_rfv _ | assumption) only [n216, t216_0 hS, r27, r26, n_eq, hne, n_inb, n_cl, hm40, ↓reduceIte, eq_self, and_self, and_true, true_and, not_true_eq_false, not_false_eq_true, ob_s, tl_s, tl_n, rf_ref, orf_ref, orf_null, nn_ref, nn_null, rfv_s, rfv_n, if_true, if_false, bi_01, bi_e0, bi_e1, or_t, Classical.not_not, r56, r58, s_holds hS (show P nd / 10 < 40 by omega), t216_36 hS, r27', r26', n_suc, eb]
    · rw [u2_pa (by omega), u2_pa (by rcases pa_ne (p := P nd) with z | z | z <;> omega), u2_pa (by omega), u2_at0]
    · rw [u2_pa (by rcases pa_ne (p := P nd) with z | z | z <;> omega), u2_at0]
    · have hne : ∀ b j, cI W b j ≠ 1 → ¬ (a = b ∧ k = j) := fun b j hb z => hb (by rw [← z.1, ← z.2]; exact hc)
      show (if a = 37 ∧ k = 27 then _ else if a = pa_ (P nd) ∧ k = pk_ (P nd) then _ else if a = 17 ∧ k = 3 then _ else if a = xa_ W (P nd) ∧ k = xk_ (P nd) then _ else I a k) = I a k
      rw [if_neg (hne 37 27 (by show (5 : Nat) ≠ 1; decide)), if_neg n2, if_neg (hne 17 3 (by show (5 : Nat) ≠ 1; decide)), if_neg n1]
    · rw [u2_pa (by decide), u2_pa (pn 17 (by decide) (by decide) (by decide)), u2_at0]
    · rw [u2_at0]
    · rw [u2_pa (by decide), u2_pa (pn 17 (by decide) (by decide) (by decide)), u2_pj (by decide), xn _ _ (by decide)]; exact e3
    · rw [u2_pj (by decide), u2_pa (pn 37 (by decide) (by decide) (by decide)), u2_pa (by decide), xn _ _ (by decide)]; exact e4
    · have r : ∀ a k, a < 71 → a ≠ 17 → a ≠ 37 → a ≠ 42 → a ≠ 38 → a ≠ 41 → u2 (u2 (u2 (u2 I (xa_ W (P nd)) (xk_ (P nd)) (Int32.ofNat (B nd))) 17 3 (Int32.ofNat (nd + 1))) (pa_ (P nd)) (pk_ (P nd)) (Int32.ofNat (B nd))) 37 27 (Int32.ofNat (nd + 1)) a k = I a k := fun a k ha n1 n2 n3 n4 n5 => by rw [u2_pa n2, u2_pa (pn a n3 n4 n5), u2_pa n1, xn _ _ ha]
      rw [r 18 _ (by decide) (by decide) (by decide) (by decide) (by decide) (by decide), r 19 _ (by decide) (by decide) (by decide) (by decide) (by decide) (by decide), r 20 _ (by decide) (by decide) (by decide) (by decide) (by decide) (by decide), r 56 _ (by decide) (by decide) (by decide) (by decide) (by decide) (by decide), r 57 _ (by decide) (by decide) (by decide) (by decide) (by decide) (by decide), r 58 _ (by decide) (by decide) (by decide) (by decide) (by decide) (by decide)]
      exact hk k hk'
    · show (if a = 37 ∧ k = 27 then _ else if a = pa_ (P nd) ∧ k = pk_ (P nd) then _ else if a = 17 ∧ k = 3 then _ else if a = xa_ W (P nd) ∧ k = xk_ (P nd) then _ else I a k) = I a k
      rw [if_neg (fun z => hn (Or.inr (by rw [z.1, z.2]; rfl))), if_neg (fun z => hn (Or.inl (by rw [z.1, z.2]; exact pa_c))), if_neg (fun z => hn (Or.inr (by rw [z.1, z.2]; rfl))), if_neg (fun z => hn (Or.inl (by rw [z.1, z.2]; exact xc.1)))]
  · obtain rfl : nd = nl := by omega
    have z : ¬ nd < nd := by omega
    refine ⟨-5, I, I, W, ?_, ?_, sameW.refl, G, ⟨P, A, B, nd, nd, C'⟩, eqO.refl⟩
    · simp (disch := first | omega | exact ib_r | exact ib_n | exact isB_rfv _ | assumption) only [n114, t114_0 hS, e1, e3, n_lt, z, ↓reduceIte, eq_self, and_self, and_true, true_and, not_true_eq_false, not_false_eq_true, ob_s, tl_s, tl_n, rf_ref, orf_ref, orf_null, nn_ref, nn_null, rfv_s, rfv_n, if_true, if_false, bi_01, bi_e0, bi_e1, or_t, Classical.not_not]
    · simp (disch := first | omega | exact ib_r | exact ib_n | exact isB_rfv _ | assumption) only [n216, t216_0 hS, e2, e4, ↓reduceIte, eq_self, and_self, and_true, true_and, not_true_eq_false, not_false_eq_true, ob_s, tl_s, tl_n, rf_ref, orf_ref, orf_null, nn_ref, nn_null, rfv_s, rfv_n, if_true, if_false, bi_01, bi_e0, bi_e1, or_t, Classical.not_not]
end UNDO
