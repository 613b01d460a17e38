/-! GATE: the mean, the counts -/
def cnt (p : Nat → Bool) : Nat → Nat → Nat
  | _, 0 => 0
  | k, n + 1 => (if p k = true then 1 else 0) + cnt p (k + 1) n
theorem cnt_le {p : Nat → Bool} : ∀ (n k : Nat), cnt p k n ≤ n
  | 0, _ => Nat.le_refl 0
  | n + 1, k => by
    have := cnt_le (p := p) n (k + 1)
    unfold cnt
    split <;> omega
theorem cnt_mono {p q : Nat → Bool} (h : ∀ k, p k = true → q k = true) : ∀ (n k : Nat), cnt p k n ≤ cnt q k n
  | 0, _ => Nat.le_refl 0
  | n + 1, k => by
    have := cnt_mono h n (k + 1)
    have hk := h k
    unfold cnt
    by_cases hp : p k = true
    · rw [if_pos hp, if_pos (hk hp)]; omega
    · rw [if_neg hp]; split <;> omega
theorem cnt_add {p q r : Nat → Bool} (h : ∀ k, (r k = true ↔ (p k = true ∨ q k = true)) ∧ ¬ (p k = true ∧ q k = true)) : ∀ (n k : Nat), cnt r k n = cnt p k n + cnt q k n
  | 0, _ => rfl
  | n + 1, k => by
    have ih := cnt_add h n (k + 1)
    have hk := h k
    unfold cnt
    by_cases hp : p k = true <;> by_cases hq : q k = true
    · exact absurd ⟨hp, hq⟩ hk.2
    · rw [if_pos hp, if_neg hq, if_pos (hk.1.mpr (Or.inl hp))]; omega
    · rw [if_neg hp, if_pos hq, if_pos (hk.1.mpr (Or.inr hq))]; omega
    · rw [if_neg hp, if_neg hq, if_neg (fun z => (hk.1.mp z).elim hp hq)]; omega
theorem cnt_pos {p : Nat → Bool} {i : Nat} (hp : p i = true) : ∀ (n k : Nat), k ≤ i → i < k + n → 1 ≤ cnt p k n
  | 0, k, h1, h2 => by omega
  | n + 1, k, h1, h2 => by
    unfold cnt
    by_cases he : k = i
    · subst he; rw [if_pos hp]; omega
    · have := cnt_pos hp n (k + 1) (by omega) (by omega)
      split <;> omega
section GATE
variable {X : XX} {d : Nat} {sz sl : Nat} {sh : Nat → Nat × Nat} {R : Nat → Nat → Option Nat} {I : Nat → Nat → Int32} {J : Nat → Nat → Int64}
theorem s_notAbove4 (hS : SF sh R) {D : Nat → Nat} {nd : Nat} (G : GD D nd I) {v : Int32} {p : Nat → Bool} (hp : ∀ k, k < nd → (v < I 16 k) = ¬ p k = true) : ∀ (n k s : Nat), k + n = nd → exe X d 108 4 [.ref 15, .int v, .int (Int32.ofNat s), .int (Int32.ofNat k)] [] (sz, sl, sh, R, I, J) = some (some (.int (Int32.ofNat (s + cnt p k n))), (sz, sl, sh, R, I, J))
  | 0, k, s, h => by
    obtain ⟨h30, e1, e2, hk⟩ := G
    have e : nd ≤ k := by omega
    rw [t108_4 hS]
    simp (disch := first | omega | exact ib_r | exact ib_n | exact isB_rfv _ | assumption) only [e1, n_le, e, ↓reduceIte, eq_self, and_self, and_true, true_and, not_true_eq_false, not_false_eq_true, ob_s, tl_s, tl_n, rf_ref, orf_ref, orf_null, nn_ref, nn_null, rfv_s, rfv_n, if_true, if_false, bi_01, bi_e0, bi_e1, or_t, Classical.not_not]
    rfl
  | n + 1, k, s, h => by
    obtain ⟨h30, e1, e2, hk⟩ := G
    have e : ¬ nd ≤ k := by omega
    have f1 : ¬ 30 ≤ k := by omega
    have f2 : k < 30 := by omega
    have hpk := hp k (by omega)
    have ih := s_notAbove4 hS ⟨h30, e1, e2, hk⟩ hp n (k + 1)
    rw [t108_4 hS]
    simp (disch := first | omega | exact ib_r | exact ib_n | exact isB_rfv _ | assumption) only [e1, k_30, k_1, n_le, n_inb, n_cl, n_add, e, f1, f2, hpk, ↓reduceIte, eq_self, and_self, and_true, true_and, not_true_eq_false, not_false_eq_true, ob_s, tl_s, tl_n, rf_ref, orf_ref, orf_null, nn_ref, nn_null, rfv_s, rfv_n, if_true, if_false, bi_01, bi_e0, bi_e1, or_t, Classical.not_not]
    by_cases hb : p k = true
    · rw [if_neg (fun z => z hb), ih (s + 1) (by omega), cnt, if_pos hb, Nat.add_assoc]
    · rw [if_pos hb, ih s (by omega), cnt, if_neg hb, Nat.zero_add]
theorem s_notAbove (hS : SF sh R) {D : Nat → Nat} {nd : Nat} (G : GD D nd I) {v : Int32} {p : Nat → Bool} (hp : ∀ k, k < nd → (v < I 16 k) = ¬ p k = true) : ev X (d + 1) 108 [.ref 15, .int v] (sz, sl, sh, R, I, J) = some (some (.int (Int32.ofNat (cnt p 0 nd))), (sz, sl, sh, R, I, J)) := by
  rw [n108, t108_0, k_0, s_notAbove4 hS G hp nd 0 0 (by omega), Nat.zero_add]
theorem s_mean4 (hS : SF sh R) {D : Nat → Nat} {nd : Nat} (G : GD D nd I) : ∀ (n k s : Nat), k + n = nd → exe X d 106 4 [.ref 15, .int (Int32.ofNat s), .int (Int32.ofNat k)] [] (sz, sl, sh, R, I, J) = exe X d 106 36 [.ref 15, .int (Int32.ofNat (s + sumf D k n)), dm] [] (sz, sl, sh, R, I, J)
  | 0, k, s, h => by
    obtain ⟨h30, e1, e2, hk⟩ := G
    have e : nd ≤ k := by omega
    rw [t106_4 hS]
    simp (disch := first | omega | exact ib_r | exact ib_n | exact isB_rfv _ | assumption) only [e1, n_le, e, ↓reduceIte, eq_self, and_self, and_true, true_and, not_true_eq_false, not_false_eq_true, ob_s, tl_s, tl_n, rf_ref, orf_ref, orf_null, nn_ref, nn_null, rfv_s, rfv_n, if_true, if_false, bi_01, bi_e0, bi_e1, or_t, Classical.not_not]
    rfl
  | n + 1, k, s, h => by
    obtain ⟨h30, e1, e2, hk⟩ := G
    have e : ¬ nd ≤ k := by omega
    have f1 : ¬ 30 ≤ k := by omega
    have f2 : k < 30 := by omega
    have ih := s_mean4 hS ⟨h30, e1, e2, hk⟩ n (k + 1) (s + D k) (by omega)
    rw [t106_4 hS]
    simp (disch := first | omega | exact ib_r | exact ib_n | exact isB_rfv _ | assumption) only [e1, k_30, k_1, n_le, n_inb, n_cl, n_add, e, f1, f2, (hk k (by omega)).1, ↓reduceIte, eq_self, and_self, and_true, true_and, not_true_eq_false, not_false_eq_true, ob_s, tl_s, tl_n, rf_ref, orf_ref, orf_null, nn_ref, nn_null, rfv_s, rfv_n, if_true, if_false, bi_01, bi_e0, bi_e1, or_t, Classical.not_not]
    rw [ih, sumf_s, Nat.add_assoc]
theorem s_mean (hS : SF sh R) {D : Nat → Nat} {nd : Nat} (G : GD D nd I) (h0 : 0 < nd) : ev X (d + 1) 106 [.ref 15] (sz, sl, sh, R, I, J) = some (some (.int (Int32.ofNat (sumf D 0 nd) / Int32.ofNat nd)), (sz, sl, sh, R, I, J)) := by
  have h30 := G.1
  have z : (Int32.ofNat nd = 0) = False := eq_false (by rw [k_0, n_eq (by omega) (by omega)]; omega)
  rw [n106, t106_0, k_0, s_mean4 hS G nd 0 0 (by omega), t106_36 hS]
  simp (disch := first | omega | exact ib_r | exact ib_n | exact isB_rfv _ | assumption) only [G.2.1, z, Nat.zero_add, ↓reduceIte, eq_self, and_self, and_true, true_and, not_true_eq_false, not_false_eq_true, ob_s, tl_s, tl_n, rf_ref, orf_ref, orf_null, nn_ref, nn_null, rfv_s, rfv_n, if_true, if_false, bi_01, bi_e0, bi_e1, or_t, Classical.not_not]
end GATE
