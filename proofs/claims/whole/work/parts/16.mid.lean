/-! THE MIDDLE -/
theorem n_pred {a b : Nat} (ha : a < 2147483648) (hb : b < 2147483648) : (Int32.ofNat a - 1 < Int32.ofNat b) = (a ≤ b) := by
  rw [Int32.lt_iff_toInt_lt, Int32.toInt_sub, n_ti ha, n_ti hb, show (1 : Int32).toInt = 1 from rfl, Int.bmod_eq_of_le (by omega) (by omega)]
  exact propext ⟨fun z => by omega, fun z => by omega⟩
def lss (D : Nat → Nat) (nd i : Nat) : Nat := cnt (fun k => decide (D k < D i)) 0 nd
def leq (D : Nat → Nat) (nd i : Nat) : Nat := cnt (fun k => decide (D k ≤ D i)) 0 nd
def lke (D : Nat → Nat) (nd i : Nat) : Nat := cnt (fun k => decide (D k = D i)) 0 nd
theorem leq_sum {D : Nat → Nat} {nd i : Nat} : leq D nd i = lss D nd i + lke D nd i := by
  refine cnt_add (fun k => ?_) nd 0
  simp only [decide_eq_true_eq]
  omega
/-- the first in the middle -/
def mx (D : Nat → Nat) (nd ah : Nat) : Nat → Nat → Nat
  | 0, _ => 0
  | n + 1, k => if lss D nd k ≤ ah ∧ ah < leq D nd k then D k else mx D nd ah n (k + 1)
/-- the last in the middle -/
def mm (D : Nat → Nat) (nd ah : Nat) : Nat → Nat → Nat → Nat
  | 0, _, m => m
  | n + 1, k, m => mm D nd ah n (k + 1) (if lss D nd k ≤ ah ∧ ah < leq D nd k then D k else m)
/-- two in the middle are alike -/
theorem mid_one {D : Nat → Nat} {nd ah i j : Nat} (hi : lss D nd i ≤ ah ∧ ah < leq D nd i) (hj : lss D nd j ≤ ah ∧ ah < leq D nd j) : D i = D j := by
  by_cases h1 : D i < D j
  · have : leq D nd i ≤ lss D nd j := cnt_mono (fun k hk => by simp only [decide_eq_true_eq] at hk ⊢; omega) nd 0
    omega
  · by_cases h2 : D j < D i
    · have : leq D nd j ≤ lss D nd i := cnt_mono (fun k hk => by simp only [decide_eq_true_eq] at hk ⊢; omega) nd 0
      omega
    · omega
theorem mm_same {D : Nat → Nat} {nd ah i : Nat} (hi : lss D nd i ≤ ah ∧ ah < leq D nd i) : ∀ (n k : Nat), mm D nd ah n k (D i) = D i
  | 0, _ => rfl
  | n + 1, k => by
    unfold mm
    by_cases h : lss D nd k ≤ ah ∧ ah < leq D nd k
    · rw [if_pos h, mid_one h hi]; exact mm_same hi n (k + 1)
    · rw [if_neg h]; exact mm_same hi n (k + 1)
theorem mm_mx {D : Nat → Nat} {nd ah : Nat} : ∀ (n k : Nat), mm D nd ah n k 0 = mx D nd ah n k
  | 0, _ => rfl
  | n + 1, k => by
    unfold mm mx
    by_cases h : lss D nd k ≤ ah ∧ ah < leq D nd k
    · rw [if_pos h, if_pos h]; exact mm_same h n (k + 1)
    · rw [if_neg h, if_neg h]; exact mm_mx n (k + 1)
section MID
variable {X : XX} {d : Nat} {sz sl : Nat} {sh : Nat → Nat × Nat} {R : Nat → Nat → Option Nat} {I : Nat → Nat → Int32} {J : Nat → Nat → Int64}
theorem s_mid (hS : SF sh R) {D : Nat → Nat} {nd ah : Nat} (G : GD D nd I) (hah : ah < 100) : ∀ (n k : Nat), k + n = nd → exe X (d + 1) 107 11 [.ref 15, .int (Int32.ofNat ah), .int (Int32.ofNat k)] [] (sz, sl, sh, R, I, J) = some (some (.int (Int32.ofNat (mx D nd ah n k))), (sz, sl, sh, R, I, J))
  | 0, k, h => by
    obtain ⟨h30, e1, e2, hk⟩ := G
    have e : nd ≤ k := by omega
    rw [t107_11 hS]
    simp (disch := first | omega | exact ib_r | exact ib_n | exact isB_rfv _ | assumption) only [e1, n_le, e, ↓reduceIte, eq_self, and_self, and_true, true_and, not_true_eq_false, not_false_eq_true, ob_s, tl_s, tl_n, rf_ref, orf_ref, orf_null, nn_ref, nn_null, rfv_s, rfv_n, if_true, if_false, bi_01, bi_e0, bi_e1, or_t, Classical.not_not]
    rfl
  | n + 1, k, h => by
    have G' := G
    obtain ⟨h30, e1, e2, hk⟩ := G
    have e : ¬ nd ≤ k := by omega
    have f1 : ¬ 30 ≤ k := by omega
    have f2 : k < 30 := by omega
    have hkk := hk k (by omega)
    have ih := s_mid hS G' hah n (k + 1) (by omega)
    have b1 : lss D nd k ≤ nd := cnt_le nd 0
    have b2 : leq D nd k ≤ nd := cnt_le nd 0
    have na1 := s_notAbove (X := X) (d := d) (sz := sz) (sl := sl) (J := J) hS G' (v := Int32.ofNat (D k) - 1) (p := fun j => decide (D j < D k)) (fun j hj => by
      rw [(hk j hj).1, n_pred (by omega) (by have := (hk j hj).2.2; omega)]
      simp only [decide_eq_true_eq]
      exact propext ⟨fun z => by omega, fun z => by omega⟩)
    have na2 := s_notAbove (X := X) (d := d) (sz := sz) (sl := sl) (J := J) hS G' (v := Int32.ofNat (D k)) (p := fun j => decide (D j ≤ D k)) (fun j hj => by
      rw [(hk j hj).1, n_lt (by omega) (by have := (hk j hj).2.2; omega)]
      simp only [decide_eq_true_eq]
      exact propext ⟨fun z => by omega, fun z => by omega⟩)
    rw [t107_11 hS]
    simp (disch := first | omega | exact ib_r | exact ib_n | exact isB_rfv _ | assumption) only [e1, k_30, n_le, n_inb, n_cl, e, f1, f2, hkk.1, na1, na2, ↓reduceIte, eq_self, and_self, and_true, true_and, not_true_eq_false, not_false_eq_true, ob_s, tl_s, tl_n, rf_ref, orf_ref, orf_null, nn_ref, nn_null, rfv_s, rfv_n, if_true, if_false, bi_01, bi_e0, bi_e1, or_t, Classical.not_not, t107_40 hS]
    show (if Int32.ofNat ah < Int32.ofNat (lss D nd k) then _ else _) = _
    by_cases c1 : ah < lss D nd k
    · rw [if_pos (by rw [n_lt (by omega) (by omega)]; exact c1), mx, if_neg (by omega), k_1, n_add, ih]
    · rw [if_neg (by rw [n_lt (by omega) (by omega)]; exact c1), t107_54 hS]
      show (if Int32.ofNat (leq D nd k) ≤ Int32.ofNat ah then _ else _) = _
      by_cases c2 : leq D nd k ≤ ah
      · rw [if_pos (by rw [n_le (by omega) (by omega)]; exact c2), mx, if_neg (by omega), k_1, n_add, ih]
      · rw [if_neg (by rw [n_le (by omega) (by omega)]; exact c2)]
        simp (disch := first | omega | exact ib_r | exact ib_n | exact isB_rfv _ | assumption) only [n_inb, n_cl, f2, hkk.1, ↓reduceIte, eq_self, and_self, and_true, true_and, not_true_eq_false, not_false_eq_true, ob_s, tl_s, tl_n, rf_ref, orf_ref, orf_null, nn_ref, nn_null, rfv_s, rfv_n, if_true, if_false, bi_01, bi_e0, bi_e1, or_t, Classical.not_not]
        rw [mx, if_pos (by omega)]
theorem s_gate56 (hS : SF sh R) {D : Nat → Nat} {nd i : Nat} (G : GD D nd I) (hi : i < nd) {w su md : Int32} : ∀ (n j a b : Nat), j + n = nd → exe X d 213 56 [.ref 37, .int w, .int su, .int md, .int (Int32.ofNat i), .int (Int32.ofNat a), .int (Int32.ofNat b), .int (Int32.ofNat j)] [] (sz, sl, sh, R, I, J) = exe X d 213 56 [.ref 37, .int w, .int su, .int md, .int (Int32.ofNat i), .int (Int32.ofNat (a + cnt (fun k => decide (D k < D i)) j n)), .int (Int32.ofNat (b + cnt (fun k => decide (D k = D i)) j n)), .int (Int32.ofNat nd)] [] (sz, sl, sh, R, I, J)
  | 0, j, a, b, h => by
    obtain rfl : j = nd := by omega
    rfl
  | n + 1, j, a, b, h => by
    have G' := G
    obtain ⟨h30, e1, e2, hk⟩ := G
    have e : ¬ nd ≤ j := by omega
    have f1 : j < 30 := by omega
    have f2 : i < 30 := by omega
    have gj := hk j (by omega)
    have gi := hk i hi
    have ih := fun a b => s_gate56 (w := w) (su := su) (md := md) hS G' hi n (j + 1) a b (by omega)
    rw [t213_56 hS]
    simp (disch := first | omega | exact ib_r | exact ib_n | exact isB_rfv _ | assumption) only [e2, n_le, n_inb, n_cl, e, f1, f2, gj.2.1, gi.2.1, ↓reduceIte, eq_self, and_self, and_true, true_and, not_true_eq_false, not_false_eq_true, ob_s, tl_s, tl_n, rf_ref, orf_ref, orf_null, nn_ref, nn_null, rfv_s, rfv_n, if_true, if_false, bi_01, bi_e0, bi_e1, or_t, Classical.not_not]
    by_cases c1 : D i ≤ D j
    · by_cases c2 : D j = D i
      · have z : (D i ≤ D i) = True := eq_true (Nat.le_refl _)
        simp (disch := first | omega | exact ib_r | exact ib_n | exact isB_rfv _ | assumption) only [c1, c2, z, ↓reduceIte, eq_self, and_self, and_true, true_and, not_true_eq_false, not_false_eq_true, ob_s, tl_s, tl_n, rf_ref, orf_ref, orf_null, nn_ref, nn_null, rfv_s, rfv_n, if_true, if_false, bi_01, bi_e0, bi_e1, or_t, Classical.not_not, t213_89 hS, n_inb, n_cl, f1, f2, gj.2.1, gi.2.1, k_0, k_1, n_add, n_eq]
        rw [ih, cnt, cnt, if_neg (by rw [c2]; simp), if_pos (by rw [c2]; simp)]
        simp only [Nat.add_assoc, Nat.add_zero, Nat.zero_add]
      · simp (disch := first | omega | exact ib_r | exact ib_n | exact isB_rfv _ | assumption) only [c1, c2, ↓reduceIte, eq_self, and_self, and_true, true_and, not_true_eq_false, not_false_eq_true, ob_s, tl_s, tl_n, rf_ref, orf_ref, orf_null, nn_ref, nn_null, rfv_s, rfv_n, if_true, if_false, bi_01, bi_e0, bi_e1, or_t, Classical.not_not, t213_89 hS, n_inb, n_cl, f1, f2, gj.2.1, gi.2.1, k_0, k_1, n_add, n_eq]
        rw [ih, cnt, cnt, if_neg (by simp only [decide_eq_true_eq]; omega), if_neg (by simp only [decide_eq_true_eq]; omega)]
        simp only [Nat.add_zero, Nat.zero_add]
    · have c2 : ¬ D j = D i := by omega
      simp (disch := first | omega | exact ib_r | exact ib_n | exact isB_rfv _ | assumption) only [c1, c2, ↓reduceIte, eq_self, and_self, and_true, true_and, not_true_eq_false, not_false_eq_true, ob_s, tl_s, tl_n, rf_ref, orf_ref, orf_null, nn_ref, nn_null, rfv_s, rfv_n, if_true, if_false, bi_01, bi_e0, bi_e1, or_t, Classical.not_not, t213_89 hS, n_inb, n_cl, f1, f2, gj.2.1, gi.2.1, k_0, k_1, n_add, n_eq]
      rw [ih, cnt, cnt, if_pos (by simp only [decide_eq_true_eq]; omega), if_neg (by simp only [decide_eq_true_eq]; omega)]
      simp only [Nat.add_assoc, Nat.add_zero, Nat.zero_add]
end MID
