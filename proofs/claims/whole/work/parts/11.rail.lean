/-! RAIL -/
/-- how many on end are below t -/
def shf (v : Nat → Nat) (t : Nat) : Nat → Nat → Nat
  | 0, k => k
  | n + 1, k => if v k < t then shf v t n (k + 1) else k
theorem shf_le {v : Nat → Nat} {t : Nat} : ∀ (n k : Nat), k + n = 8 → shf v t n k ≤ 8
  | 0, k, h => by unfold shf; omega
  | n + 1, k, h => by
    unfold shf
    split
    · exact shf_le n (k + 1) (by omega)
    · omega
section RAIL
variable {X : XX} {d : Nat} {sz sl : Nat} {sh : Nat → Nat × Nat} {R : Nat → Nat → Option Nat} {I : Nat → Nat → Int32} {J : Nat → Nat → Int64} {W : WW} {ns : Nat}
theorem s_shX (G : GS W ns sh R I) {i t : Nat} (hi : i < ns) (ht : t < 2147483648) {a w : Int32} {g : Nat → Nat} (hg : ∀ k, k < 8 → a + Int32.ofNat k * w = Int32.ofNat (g k) ∧ g k < 8) : ∀ (n k : Nat), k + n = 8 → exe X (d + 1) 76 6 [.ref (W 0 i), .int a, .int w, .int (Int32.ofNat t), .int (Int32.ofNat k), .int (Int32.ofNat k)] [] (sz, sl, sh, R, I, J) = some (some (.int (Int32.ofNat (shf (fun k => W 15 (8 * i + g k)) t n k))), (sz, sl, sh, R, I, J))
  | 0, k, h => by
    have h2 := (G.2.2.2.1 i hi).2.1
    have e : 8 ≤ k := by omega
    rw [t76_6 h2]
    simp (disch := first | omega | exact ib_r | exact ib_n | exact isB_rfv _ | assumption) only [k_8, n_le, e, ↓reduceIte, eq_self, and_self, and_true, true_and, not_true_eq_false, not_false_eq_true, ob_s, tl_s, tl_n, rf_ref, orf_ref, orf_null, nn_ref, nn_null, rfv_s, rfv_n, if_true, if_false, bi_01, bi_e0, bi_e1, or_t, Classical.not_not]
    rfl
  | n + 1, k, h => by
    have h2 := (G.2.2.2.1 i hi).2.1
    have e : ¬ 8 ≤ k := by omega
    have hk : k < 8 := by omega
    have g1 := (G.2.2.2.2.2.2.2.2.1 i (g k) hi (hg k hk).2).2.2.2.2.1
    rw [t76_6 h2]
    simp (disch := first | omega | exact ib_r | exact ib_n | exact isB_rfv _ | assumption) only [k_8, k_1, n_le, e, (hg k hk).1, ↓reduceIte, eq_self, and_self, and_true, true_and, not_true_eq_false, not_false_eq_true, ob_s, tl_s, tl_n, rf_ref, orf_ref, orf_null, nn_ref, nn_null, rfv_s, rfv_n, if_true, if_false, bi_01, bi_e0, bi_e1, or_t, Classical.not_not, s_measure G hi (hg k hk).2, t76_23 h2, n_add]
    unfold shf
    by_cases hm : W 15 (8 * i + g k) < t
    · rw [if_neg (by omega), if_pos hm, s_shX G hi ht hg n (k + 1) (by omega)]
    · rw [if_pos (by omega), if_neg hm]
theorem s_shallow (G : GS W ns sh R I) {i t : Nat} (hi : i < ns) (ht : t < 2147483648) {a w : Int32} {g : Nat → Nat} (hg : ∀ k, k < 8 → a + Int32.ofNat k * w = Int32.ofNat (g k) ∧ g k < 8) : ev X (d + 2) 76 [.ref (W 0 i), .int a, .int w, .int (Int32.ofNat t)] (sz, sl, sh, R, I, J) = some (some (.int (Int32.ofNat (shf (fun k => W 15 (8 * i + g k)) t 8 0))), (sz, sl, sh, R, I, J)) := by
  rw [n76, t76_0 (G.2.2.2.1 i hi).2.1, k_0, s_shX G hi ht hg 8 0 rfl]
theorem g_up : ∀ k, k < 8 → (0 : Int32) + Int32.ofNat k * 1 = Int32.ofNat k ∧ k < 8 := by decide
theorem g_down : ∀ k, k < 8 → (7 : Int32) + Int32.ofNat k * (-1) = Int32.ofNat (7 - k) ∧ 7 - k < 8 := by decide
theorem s_lowM (hS : SF sh R) (G : GS W ns sh R I) {i t : Nat} (hi : i < ns) (ht : t < 2147483648) {w : Int32} : ∀ (n k : Nat), k + n = 8 → exe X (d + 2) 197 32 [.ref 37, .int (Int32.ofNat i), .int (Int32.ofNat t), .int w, .int (Int32.ofNat k), dm] [] (sz, sl, sh, R, I, J) = exe X (d + 2) 197 59 [.ref 37, .int (Int32.ofNat i), .int (Int32.ofNat t), .int w, .int (Int32.ofNat (shf (fun k => W 15 (8 * i + k)) t n k)), .int 0] [] (sz, sl, sh, R, I, J)
  | 0, k, h => by
    have e : 8 ≤ k := by omega
    rw [t197_32 hS, if_pos (by rw [k_8, n_le (by decide) (by omega)]; exact e)]
    rfl
  | n + 1, k, h => by
    have e : ¬ 8 ≤ k := by omega
    have hk : k < 8 := by omega
    have g1 := (G.2.2.2.2.2.2.2.2.1 i k hi hk).2.2.2.2.1
    have ih := s_lowM (w := w) hS G hi ht n (k + 1) (by omega)
    rw [t197_32 hS, if_neg (by rw [k_8, n_le (by decide) (by omega)]; exact e), s_at0 hS G hi hk, ob_s]
    show exe X (d + 2) 197 46 _ [.int _] _ = _
    rw [t197_46, shf]
    simp (disch := first | omega | exact ib_r | exact ib_n | exact isB_rfv _ | assumption) only [n_le, k_1, n_add]
    by_cases hm : W 15 (8 * i + k) < t
    · rw [if_neg (by omega), if_pos hm, ih]
    · rw [if_pos (by omega), if_neg hm]
theorem s_highM (hS : SF sh R) (G : GS W ns sh R I) {i t : Nat} (hi : i < ns) (ht : t < 2147483648) {w lo : Int32} : ∀ (n k : Nat), k + n = 8 → exe X (d + 2) 197 59 [.ref 37, .int (Int32.ofNat i), .int (Int32.ofNat t), .int w, .int lo, .int (Int32.ofNat k)] [] (sz, sl, sh, R, I, J) = exe X (d + 2) 197 86 [dm, dm, dm, .int w, .int lo, .int (Int32.ofNat (shf (fun k => W 15 (8 * i + (7 - k))) t n k))] [] (sz, sl, sh, R, I, J)
  | 0, k, h => by
    have e : 8 ≤ k := by omega
    rw [t197_59 hS, if_pos (by rw [k_8, n_le (by decide) (by omega)]; exact e)]
    rfl
  | n + 1, k, h => by
    have e : ¬ 8 ≤ k := by omega
    have hk : 7 - k < 8 := by omega
    have g1 := (G.2.2.2.2.2.2.2.2.1 i (7 - k) hi hk).2.2.2.2.1
    have ih := s_highM (w := w) (lo := lo) hS G hi ht n (k + 1) (by omega)
    rw [t197_59 hS, if_neg (by rw [k_8, n_le (by decide) (by omega)]; exact e), k_7, n_sub (by omega), s_at0 hS G hi hk, ob_s]
    show exe X (d + 2) 197 76 _ [.int _] _ = _
    rw [t197_76, shf]
    simp (disch := first | omega | exact ib_r | exact ib_n | exact isB_rfv _ | assumption) only [n_le, k_1, n_add]
    by_cases hm : W 15 (8 * i + (7 - k)) < t
    · rw [if_neg (by omega), if_pos hm, ih]
    · rw [if_pos (by omega), if_neg hm]
theorem o_rail (hS : SF sh R) (G : GS W ns sh R I) {v t w : Int32} : ∃ x, ev X (d + 4) 75 [.ref 0, .int v, .int t, .int w] (sz, sl, sh, R, I, J) = some (some (.int x), (sz, sl, sh, R, I, J)) ∧ ev X (d + 4) 197 [.ref 37, .int v, .int t, .int w] (sz, sl, sh, R, I, J) = some (some (.int x), (sz, sl, sh, R, I, J)) := by
  have h40 := G.1
  by_cases hv : ∃ j, j < ns ∧ v = Int32.ofNat j
  · obtain ⟨j, hj, rfl⟩ := hv
    have h := G.2.2.2.1 j hj
    have hi : (0 : Int32) ≤ Int32.ofNat j ∧ Int32.ofNat j ≤ I 37 0 - 1 := by rw [G.n2, idx (by omega)]; exact ⟨j, hj, rfl⟩
    by_cases ht : 0 ≤ t ∧ t ≤ 99999
    · by_cases hw : 0 ≤ w ∧ w ≤ 1
      · obtain ⟨u, -, hu, rfl⟩ := n_in (a := 0) (b := 99999) (by decide) ht.1 ht.2 (by decide)
        have hu' : u < 2147483648 := by omega
        have l1 := shf_le (v := fun k => W 15 (8 * j + k)) (t := u) 8 0 rfl
        have l2 := shf_le (v := fun k => W 15 (8 * j + (7 - k))) (t := u) 8 0 rfl
        have mlow := s_lowM (X := X) (d := d + 1) (sz := sz) (sl := sl) (J := J) (w := w) hS G hj hu' 8 0 rfl
        have mhigh := s_highM (X := X) (d := d + 1) (sz := sz) (sl := sl) (J := J) (w := w) (lo := Int32.ofNat (shf (fun k => W 15 (8 * j + k)) u 8 0)) hS G hj hu' 8 0 rfl
        have M1 : ev X (d + 4) 197 [.ref 37, .int (Int32.ofNat j), .int (Int32.ofNat u), .int w] (sz, sl, sh, R, I, J) = exe X (d + 3) 197 86 [dm, dm, dm, .int w, .int (Int32.ofNat (shf (fun k => W 15 (8 * j + k)) u 8 0)), .int (Int32.ofNat (shf (fun k => W 15 (8 * j + (7 - k))) u 8 0))] [] (sz, sl, sh, R, I, J) := by
          rw [← mhigh, ← k_0, ← mlow]
          simp (disch := first | omega | exact ib_r | exact ib_n | exact isB_rfv _ | assumption) only [n197, t197_0 hS, t197_5, t197_15, t197_24, s_isStep hS, hi, s_in, ht, hw, ↓reduceIte, eq_self, and_self, and_true, true_and, not_true_eq_false, not_false_eq_true, ob_s, tl_s, tl_n, rf_ref, orf_ref, orf_null, nn_ref, nn_null, rfv_s, rfv_n, if_true, if_false, bi_01, bi_e0, bi_e1, or_t, Classical.not_not]
          rfl
        have X1 : ev X (d + 4) 75 [.ref 0, .int (Int32.ofNat j), .int (Int32.ofNat u), .int w] (sz, sl, sh, R, I, J) = exe X (d + 3) 75 52 [dm, dm, dm, .int w, dm, .int (Int32.ofNat (shf (fun k => W 15 (8 * j + k)) u 8 0)), dm] [.int (Int32.ofNat (shf (fun k => W 15 (8 * j + (7 - k))) u 8 0))] (sz, sl, sh, R, I, J) := by
          simp (disch := first | omega | exact ib_r | exact ib_n | exact isB_rfv _ | assumption) only [n75, t75_0 hS, t75_5, t75_19, t75_28, t75_41, s_stepAt hS G hj, h.2.1, s_within, ht, hw, s_shallow G hj hu' g_up, s_shallow G hj hu' g_down, ↓reduceIte, eq_self, and_self, and_true, true_and, not_true_eq_false, not_false_eq_true, ob_s, tl_s, tl_n, rf_ref, orf_ref, orf_null, nn_ref, nn_null, rfv_s, rfv_n, if_true, if_false, bi_01, bi_e0, bi_e1, or_t, Classical.not_not]
        rw [M1, X1, t197_86, t75_52, t75_67]
        generalize shf (fun k => W 15 (8 * j + k)) u 8 0 = a at l1
        generalize shf (fun k => W 15 (8 * j + (7 - k))) u 8 0 = b at l2
        simp (disch := first | omega | exact ib_r | exact ib_n | exact isB_rfv _ | assumption) only [k_0, n_add, n_eq, n_lt]
        by_cases h0 : a + b = 0
        · refine ⟨-2, ?_, ?_⟩
          · rw [if_neg (by omega), if_neg (by omega)]
          · rw [if_neg (by omega)]
        · have c1 : (if ¬ a = 0 then (if ¬ w = 1 then some (some (Value.int (if a < b then Int32.ofNat b else Int32.ofNat a)), (sz, sl, sh, R, I, J)) else if a < b then some (some (Value.int 1), (sz, sl, sh, R, I, J)) else some (some (Value.int (Int32.ofNat 0)), (sz, sl, sh, R, I, J))) else (if ¬ b = 0 then (if ¬ w = 1 then some (some (Value.int (if a < b then Int32.ofNat b else Int32.ofNat a)), (sz, sl, sh, R, I, J)) else if a < b then some (some (Value.int 1), (sz, sl, sh, R, I, J)) else some (some (Value.int (Int32.ofNat 0)), (sz, sl, sh, R, I, J))) else some (some (Value.int (-2)), (sz, sl, sh, R, I, J)))) = (if ¬ w = 1 then some (some (Value.int (if a < b then Int32.ofNat b else Int32.ofNat a)), (sz, sl, sh, R, I, J)) else if a < b then some (some (Value.int 1), (sz, sl, sh, R, I, J)) else some (some (Value.int (Int32.ofNat 0)), (sz, sl, sh, R, I, J)) : Option Rs) := by
            by_cases ha : a = 0
            · rw [if_neg (by omega), if_pos (by omega)]
            · rw [if_pos ha]
          rw [c1, if_pos h0]
          obtain ⟨q, -, hq, rfl⟩ := n_in (a := 0) (b := 1) (by decide) hw.1 hw.2 (by decide)
          simp (disch := first | omega | exact ib_r | exact ib_n | exact isB_rfv _ | assumption) only [k_0, k_1, n_eq]
          by_cases hq0 : q = 0
          · have z0 : (q = 0) = True := eq_true hq0
            have z1 : (q = 1) = False := eq_false (by omega)
            by_cases hab : a < b
            · exact ⟨Int32.ofNat b, by simp only [z0, z1, hab, ↓reduceIte, eq_self, and_self, and_true, true_and, not_true_eq_false, not_false_eq_true, ob_s, tl_s, tl_n, rf_ref, orf_ref, orf_null, nn_ref, nn_null, rfv_s, rfv_n, if_true, if_false, bi_01, bi_e0, bi_e1, or_t, Classical.not_not], by simp only [z0, z1, hab, ↓reduceIte, eq_self, and_self, and_true, true_and, not_true_eq_false, not_false_eq_true, ob_s, tl_s, tl_n, rf_ref, orf_ref, orf_null, nn_ref, nn_null, rfv_s, rfv_n, if_true, if_false, bi_01, bi_e0, bi_e1, or_t, Classical.not_not]⟩
            · exact ⟨Int32.ofNat a, by simp only [z0, z1, hab, ↓reduceIte, eq_self, and_self, and_true, true_and, not_true_eq_false, not_false_eq_true, ob_s, tl_s, tl_n, rf_ref, orf_ref, orf_null, nn_ref, nn_null, rfv_s, rfv_n, if_true, if_false, bi_01, bi_e0, bi_e1, or_t, Classical.not_not], by simp only [z0, z1, hab, ↓reduceIte, eq_self, and_self, and_true, true_and, not_true_eq_false, not_false_eq_true, ob_s, tl_s, tl_n, rf_ref, orf_ref, orf_null, nn_ref, nn_null, rfv_s, rfv_n, if_true, if_false, bi_01, bi_e0, bi_e1, or_t, Classical.not_not]⟩
          · have z0 : (q = 0) = False := eq_false hq0
            have z1 : (q = 1) = True := eq_true (by omega)
            by_cases hab : a < b
            · exact ⟨Int32.ofNat 1, by simp only [z0, z1, hab, ↓reduceIte, eq_self, and_self, and_true, true_and, not_true_eq_false, not_false_eq_true, ob_s, tl_s, tl_n, rf_ref, orf_ref, orf_null, nn_ref, nn_null, rfv_s, rfv_n, if_true, if_false, bi_01, bi_e0, bi_e1, or_t, Classical.not_not], by simp only [z0, z1, hab, ↓reduceIte, eq_self, and_self, and_true, true_and, not_true_eq_false, not_false_eq_true, ob_s, tl_s, tl_n, rf_ref, orf_ref, orf_null, nn_ref, nn_null, rfv_s, rfv_n, if_true, if_false, bi_01, bi_e0, bi_e1, or_t, Classical.not_not]⟩
            · exact ⟨Int32.ofNat 0, by simp only [z0, z1, hab, ↓reduceIte, eq_self, and_self, and_true, true_and, not_true_eq_false, not_false_eq_true, ob_s, tl_s, tl_n, rf_ref, orf_ref, orf_null, nn_ref, nn_null, rfv_s, rfv_n, if_true, if_false, bi_01, bi_e0, bi_e1, or_t, Classical.not_not], by simp only [z0, z1, hab, ↓reduceIte, eq_self, and_self, and_true, true_and, not_true_eq_false, not_false_eq_true, ob_s, tl_s, tl_n, rf_ref, orf_ref, orf_null, nn_ref, nn_null, rfv_s, rfv_n, if_true, if_false, bi_01, bi_e0, bi_e1, or_t, Classical.not_not]⟩
      · refine ⟨-1, ?_, ?_⟩
        · simp (disch := first | omega | exact ib_r | exact ib_n | exact isB_rfv _ | assumption) only [n75, t75_0 hS, t75_5, t75_19, t75_28, s_stepAt hS G hj, s_within, ht, hw, ↓reduceIte, eq_self, and_self, and_true, true_and, not_true_eq_false, not_false_eq_true, ob_s, tl_s, tl_n, rf_ref, orf_ref, orf_null, nn_ref, nn_null, rfv_s, rfv_n, if_true, if_false, bi_01, bi_e0, bi_e1, or_t, Classical.not_not]
        · simp (disch := first | omega | exact ib_r | exact ib_n | exact isB_rfv _ | assumption) only [n197, t197_0 hS, t197_5, t197_15, t197_24, s_isStep hS, hi, s_in, ht, hw, ↓reduceIte, eq_self, and_self, and_true, true_and, not_true_eq_false, not_false_eq_true, ob_s, tl_s, tl_n, rf_ref, orf_ref, orf_null, nn_ref, nn_null, rfv_s, rfv_n, if_true, if_false, bi_01, bi_e0, bi_e1, or_t, Classical.not_not]
    · refine ⟨-1, ?_, ?_⟩
      · simp (disch := first | omega | exact ib_r | exact ib_n | exact isB_rfv _ | assumption) only [n75, t75_0 hS, t75_5, t75_19, s_stepAt hS G hj, s_within, ht, ↓reduceIte, eq_self, and_self, and_true, true_and, not_true_eq_false, not_false_eq_true, ob_s, tl_s, tl_n, rf_ref, orf_ref, orf_null, nn_ref, nn_null, rfv_s, rfv_n, if_true, if_false, bi_01, bi_e0, bi_e1, or_t, Classical.not_not]
      · simp (disch := first | omega | exact ib_r | exact ib_n | exact isB_rfv _ | assumption) only [n197, t197_0 hS, t197_5, t197_15, s_isStep hS, hi, s_in, ht, ↓reduceIte, eq_self, and_self, and_true, true_and, not_true_eq_false, not_false_eq_true, ob_s, tl_s, tl_n, rf_ref, orf_ref, orf_null, nn_ref, nn_null, rfv_s, rfv_n, if_true, if_false, bi_01, bi_e0, bi_e1, or_t, Classical.not_not]
  · have hi : ¬ ((0 : Int32) ≤ v ∧ v ≤ I 37 0 - 1) := by rw [G.n2, idx (by omega)]; exact hv
    refine ⟨-1, ?_, ?_⟩
    · simp (disch := first | omega | exact ib_r | exact ib_n | exact isB_rfv _ | assumption) only [n75, t75_0 hS, t75_5, s_stepAt_no hS G hv, ↓reduceIte, eq_self, and_self, and_true, true_and, not_true_eq_false, not_false_eq_true, ob_s, tl_s, tl_n, rf_ref, orf_ref, orf_null, nn_ref, nn_null, rfv_s, rfv_n, if_true, if_false, bi_01, bi_e0, bi_e1, or_t, Classical.not_not]
    · simp (disch := first | omega | exact ib_r | exact ib_n | exact isB_rfv _ | assumption) only [n197, t197_0 hS, t197_5, s_isStep hS, hi, ↓reduceIte, eq_self, and_self, and_true, true_and, not_true_eq_false, not_false_eq_true, ob_s, tl_s, tl_n, rf_ref, orf_ref, orf_null, nn_ref, nn_null, rfv_s, rfv_n, if_true, if_false, bi_01, bi_e0, bi_e1, or_t, Classical.not_not]
end RAIL
