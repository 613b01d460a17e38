/-! WALK -/
theorem ush_8 (x : Int32) : ∃ m, m < 16777216 ∧ ush x 8 = Int32.ofNat m := by
  refine ⟨(x.toUInt32 >>> ((8 : Int32).toUInt32 &&& Int32.toUInt32 31)).toNat, ?_, ?_⟩
  · rw [UInt32.toNat_shiftRight, show ((8 : Int32).toUInt32 &&& Int32.toUInt32 31).toNat % 32 = 8 from by decide, Nat.shiftRight_eq_div_pow]
    have := x.toUInt32.toNat_lt
    omega
  · unfold ush
    rw [← UInt32.toInt32_ofNat', UInt32.ofNat_toNat]
/-- n days on, from seed z, s so far -/
def wk (D : Nat → Nat) (nd : Nat) : Nat → Int32 → Nat → Nat
  | 0, _, s => s
  | n + 1, z, s => wk D nd n (z * 1103515245 + 12345) (s + D ((ush (z * 1103515245 + 12345) 8).toNatClampNeg % nd))
section WALK
variable {X : XX} {d : Nat} {sz sl : Nat} {sh : Nat → Nat × Nat} {R : Nat → Nat → Option Nat} {I : Nat → Nat → Int32} {J : Nat → Nat → Int64}
theorem s_walkX (hS : SF sh R) {D : Nat → Nat} {nd : Nat} (G : GD D nd I) (h0 : 0 < nd) {N : Nat} (hN : N < 2147483648) : ∀ (n k : Nat) (z : Int32) (s : Nat), k + n = N → exe X d 110 8 [.ref 15, .int (Int32.ofNat N), dm, .int z, .int (Int32.ofNat s), .int (Int32.ofNat k), dm] [] (sz, sl, sh, R, I, J) = some (some (.int (Int32.ofNat (wk D nd n z s))), (sz, sl, sh, R, I, J))
  | 0, k, z, s, h => by
    have e : N ≤ k := by omega
    rw [t110_8 hS]
    simp (disch := first | omega | exact ib_r | exact ib_n | exact isB_rfv _ | assumption) only [n_le, e, ↓reduceIte, eq_self, and_self, and_true, true_and, not_true_eq_false, not_false_eq_true, ob_s, tl_s, tl_n, rf_ref, orf_ref, orf_null, nn_ref, nn_null, rfv_s, rfv_n, if_true, if_false, bi_01, bi_e0, bi_e1, or_t, Classical.not_not]
    rfl
  | n + 1, k, z, s, h => by
    obtain ⟨h30, e1, e2, hk⟩ := G
    obtain ⟨m, hm, em⟩ := ush_8 (z * 1103515245 + 12345)
    have hr : m % nd < nd := Nat.mod_lt _ h0
    have e : ¬ N ≤ k := by omega
    have f1 : ¬ nd ≤ 0 := by omega
    have f2 : ¬ nd = 0 := by omega
    have f3 : ¬ 30 ≤ m % nd := by omega
    have f4 : m % nd < 30 := by omega
    have ih := s_walkX hS ⟨h30, e1, e2, hk⟩ h0 hN n (k + 1) (z * 1103515245 + 12345) (s + D (m % nd)) (by omega)
    rw [t110_8 hS, wk, em]
    simp (disch := first | omega | exact ib_r | exact ib_n | exact isB_rfv _ | assumption) only [e1, k_0, k_1, k_30, n_le, n_eq, n_div, n_rem', n_inb, n_cl, n_add, e, f1, f2, f3, f4, (hk _ hr).1, ↓reduceIte, eq_self, and_self, and_true, true_and, not_true_eq_false, not_false_eq_true, ob_s, tl_s, tl_n, rf_ref, orf_ref, orf_null, nn_ref, nn_null, rfv_s, rfv_n, if_true, if_false, bi_01, bi_e0, bi_e1, or_t, Classical.not_not]
    exact ih
theorem s_walkM (hS : SF sh R) {D : Nat → Nat} {nd : Nat} (G : GD D nd I) (h0 : 0 < nd) {N : Nat} (hN : N < 2147483648) : ∀ (n k : Nat) (z : Int32) (s : Nat), k + n = N → exe X d 214 30 [.ref 37, .int (Int32.ofNat N), dm, .int z, .int (Int32.ofNat s), .int (Int32.ofNat k)] [] (sz, sl, sh, R, I, J) = some (some (.int (Int32.ofNat (wk D nd n z s))), (sz, sl, sh, R, I, J))
  | 0, k, z, s, h => by
    have e : N ≤ k := by omega
    rw [t214_30 hS]
    simp (disch := first | omega | exact ib_r | exact ib_n | exact isB_rfv _ | assumption) only [n_le, e, ↓reduceIte, eq_self, and_self, and_true, true_and, not_true_eq_false, not_false_eq_true, ob_s, tl_s, tl_n, rf_ref, orf_ref, orf_null, nn_ref, nn_null, rfv_s, rfv_n, if_true, if_false, bi_01, bi_e0, bi_e1, or_t, Classical.not_not]
    rfl
  | n + 1, k, z, s, h => by
    obtain ⟨h30, e1, e2, hk⟩ := G
    obtain ⟨m, hm, em⟩ := ush_8 (z * 1103515245 + 12345)
    have hr : m % nd < nd := Nat.mod_lt _ h0
    have e : ¬ N ≤ k := by omega
    have f2 : ¬ nd = 0 := by omega
    have f4 : m % nd < 30 := by omega
    have ih := s_walkM hS ⟨h30, e1, e2, hk⟩ h0 hN n (k + 1) (z * 1103515245 + 12345) (s + D (m % nd)) (by omega)
    rw [t214_30 hS, wk, em]
    simp (disch := first | omega | exact ib_r | exact ib_n | exact isB_rfv _ | assumption) only [e2, k_0, k_1, n_le, n_eq, n_div, n_rem', n_inb, n_cl, n_add, e, f2, f4, (hk _ hr).2.1, ↓reduceIte, eq_self, and_self, and_true, true_and, not_true_eq_false, not_false_eq_true, ob_s, tl_s, tl_n, rf_ref, orf_ref, orf_null, nn_ref, nn_null, rfv_s, rfv_n, if_true, if_false, bi_01, bi_e0, bi_e1, or_t, Classical.not_not]
    exact ih
theorem o_walk (hS : SF sh R) {D : Nat → Nat} {nd : Nat} (G : GD D nd I) {v z : Int32} : ∃ x, ev X (d + 4) 109 [.ref 0, .int v, .int z] (sz, sl, sh, R, I, J) = some (some (.int x), (sz, sl, sh, R, I, J)) ∧ ev X (d + 4) 214 [.ref 37, .int v, .int z] (sz, sl, sh, R, I, J) = some (some (.int x), (sz, sl, sh, R, I, J)) := by
  by_cases hv : 1 ≤ v ∧ v ≤ 100
  · obtain ⟨N, hN1, hN2, rfl⟩ := n_in (a := 1) (b := 100) (by decide) hv.1 hv.2 (by decide)
    by_cases h0 : nd = 0
    · have z1 : (I 15 1 = 0) = True := eq_true (by rw [G.2.1, h0]; rfl)
      have z2 : (I 37 21 = 0) = True := eq_true (by rw [G.2.2.1, h0]; rfl)
      refine ⟨-5, ?_, ?_⟩
      · simp (disch := first | omega | exact ib_r | exact ib_n | exact isB_rfv _ | assumption) only [n109, t109_0, t109_7 hS, t109_36, s_within, hv, z1, ↓reduceIte, eq_self, and_self, and_true, true_and, not_true_eq_false, not_false_eq_true, ob_s, tl_s, tl_n, rf_ref, orf_ref, orf_null, nn_ref, nn_null, rfv_s, rfv_n, if_true, if_false, bi_01, bi_e0, bi_e1, or_t, Classical.not_not]
      · simp (disch := first | omega | exact ib_r | exact ib_n | exact isB_rfv _ | assumption) only [n214, t214_0, t214_7 hS, s_in, hv, z2, ↓reduceIte, eq_self, and_self, and_true, true_and, not_true_eq_false, not_false_eq_true, ob_s, tl_s, tl_n, rf_ref, orf_ref, orf_null, nn_ref, nn_null, rfv_s, rfv_n, if_true, if_false, bi_01, bi_e0, bi_e1, or_t, Classical.not_not]
    · have h30 := G.1
      have n1 : (Int32.ofNat nd = 0) = False := eq_false (by rw [k_0, n_eq (by omega) (by omega)]; exact h0)
      have z1 : (I 15 1 = 0) = False := by rw [G.2.1]; exact n1
      have z2 : (I 37 21 = 0) = False := by rw [G.2.2.1]; exact n1
      have wx := s_walkX (X := X) (d := d + 2) (sz := sz) (sl := sl) (J := J) hS G (by omega) (N := N) (by omega) N 0 z 0 (by omega)
      have wm := s_walkM (X := X) (d := d + 3) (sz := sz) (sl := sl) (J := J) hS G (by omega) (N := N) (by omega) N 0 z 0 (by omega)
      rw [← k_0] at wx wm
      refine ⟨Int32.ofNat (wk D nd N z 0), ?_, ?_⟩
      · simp (disch := first | omega | exact ib_r | exact ib_n | exact isB_rfv _ | assumption) only [n109, t109_0, t109_7 hS, t109_36, s_within, hv, z1, ↓reduceIte, eq_self, and_self, and_true, true_and, not_true_eq_false, not_false_eq_true, ob_s, tl_s, tl_n, rf_ref, orf_ref, orf_null, nn_ref, nn_null, rfv_s, rfv_n, if_true, if_false, bi_01, bi_e0, bi_e1, or_t, Classical.not_not, n110, t110_0, wx]
      · simp (disch := first | omega | exact ib_r | exact ib_n | exact isB_rfv _ | assumption) only [n214, t214_0, t214_7 hS, s_in, hv, z2, ↓reduceIte, eq_self, and_self, and_true, true_and, not_true_eq_false, not_false_eq_true, ob_s, tl_s, tl_n, rf_ref, orf_ref, orf_null, nn_ref, nn_null, rfv_s, rfv_n, if_true, if_false, bi_01, bi_e0, bi_e1, or_t, Classical.not_not, wm]
  · refine ⟨-1, ?_, ?_⟩
    · simp (disch := first | omega | exact ib_r | exact ib_n | exact isB_rfv _ | assumption) only [n109, t109_0, t109_7 hS, t109_36, s_within, hv, ↓reduceIte, eq_self, and_self, and_true, true_and, not_true_eq_false, not_false_eq_true, ob_s, tl_s, tl_n, rf_ref, orf_ref, orf_null, nn_ref, nn_null, rfv_s, rfv_n, if_true, if_false, bi_01, bi_e0, bi_e1, or_t, Classical.not_not]
    · simp (disch := first | omega | exact ib_r | exact ib_n | exact isB_rfv _ | assumption) only [n214, t214_0, t214_7 hS, s_in, hv, ↓reduceIte, eq_self, and_self, and_true, true_and, not_true_eq_false, not_false_eq_true, ob_s, tl_s, tl_n, rf_ref, orf_ref, orf_null, nn_ref, nn_null, rfv_s, rfv_n, if_true, if_false, bi_01, bi_e0, bi_e1, or_t, Classical.not_not]
end WALK
