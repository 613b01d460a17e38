/-! BODIES, with what stays -/
theorem cD_C {W : WW} {a k : Nat} (h : cD a k) : CC W 2 a k := by
  rcases h with rfl | rfl | ⟨rfl, rfl⟩ | ⟨rfl, rfl⟩ <;> exact Or.inl rfl
theorem cB_C {W : WW} {a k : Nat} (h : cB a k) : CC W 3 a k := by
  rcases h with rfl | rfl | ⟨rfl, rfl⟩ | ⟨rfl, rfl⟩ <;> exact Or.inl rfl
section BODY2
variable {X : XX} {d : Nat} {sz sl : Nat} {sh : Nat → Nat × Nat} {R : Nat → Nat → Option Nat} {I : Nat → Nat → Int32} {J : Nat → Nat → Int64}
theorem o_body2 (hS : SF sh R) {B : Nat → Nat} {nb : Nat} (G : GB B nb I) {v : Int32} : ∃ x I1 I2, ev X (d + 4) 116 [.ref 0, .int v] (sz, sl, sh, R, I, J) = some (some (.int x), (sz, sl, sh, R, I1, J)) ∧ ev X (d + 4) 217 [.ref 37, .int v] (sz, sl, sh, R, I1, J) = some (some (.int x), (sz, sl, sh, R, I2, J)) ∧ (∃ B' nb', GB B' nb' I2 ∧ nb ≤ nb' ∧ ∀ b, b < nb → B' b = B b) ∧ eqO cB I I2 := by
  obtain ⟨h50, e1, e2, hk⟩ := G
  by_cases hv : 0 ≤ v ∧ v ≤ 7
  · obtain ⟨u, -, hu, rfl⟩ := n_in (a := 0) (b := 7) (by decide) hv.1 hv.2 (by decide)
    by_cases hn : nb < 50
    · have z0 : ¬ nb = 50 := by omega
      have z1 : nb + 1 - 1 = nb := by omega
      refine ⟨Int32.ofNat nb, u2 (u2 I 22 nb (Int32.ofNat u)) 21 3 (Int32.ofNat (nb + 1)), u2 (u2 (u2 (u2 I 22 nb (Int32.ofNat u)) 21 3 (Int32.ofNat (nb + 1))) 59 nb (Int32.ofNat u)) 37 28 (Int32.ofNat (nb + 1)), ?_, ?_, ⟨fun k => if k = nb then u else B k, nb + 1, ⟨by omega, ?_, ?_, fun k hk' => ?_⟩, by omega, fun b hb => if_neg (by omega)⟩, ?_⟩
      · simp (disch := first | omega | exact ib_r | exact ib_n | exact isB_rfv _ | assumption) only [n116, t116_0, t116_4 hS, t116_17 hS, n118, t118_0 hS, s_isKind, hv, ↓reduceIte, eq_self, and_self, and_true, true_and, not_true_eq_false, not_false_eq_true, ob_s, tl_s, tl_n, rf_ref, orf_ref, orf_null, nn_ref, nn_null, rfv_s, rfv_n, if_true, if_false, bi_01, bi_e0, bi_e1, or_t, Classical.not_not, e1]
        simp (disch := first | omega | exact ib_r | exact ib_n | exact isB_rfv _ | assumption) only [k_1, k_50, k_0, n_lt, n_eq, n_inb, n_cl, n_add, hn, ↓reduceIte, eq_self, and_self, and_true, true_and, not_true_eq_false, not_false_eq_true, ob_s, tl_s, tl_n, rf_ref, orf_ref, orf_null, nn_ref, nn_null, rfv_s, rfv_n, if_true, if_false, bi_01, bi_e0, bi_e1, or_t, Classical.not_not, n116, t116_0, t116_4 hS, t116_17 hS, u2_at0]
        simp (disch := first | omega | exact ib_r | exact ib_n | exact isB_rfv _ | assumption) only [k_1, n_sub, z1, ↓reduceIte, eq_self, and_self, and_true, true_and, not_true_eq_false, not_false_eq_true, ob_s, tl_s, tl_n, rf_ref, orf_ref, orf_null, nn_ref, nn_null, rfv_s, rfv_n, if_true, if_false, bi_01, bi_e0, bi_e1, or_t, Classical.not_not, Nat.one_ne_zero]
      · have e3 : u2 (u2 I 22 nb (Int32.ofNat u)) 21 3 (Int32.ofNat (nb + 1)) 37 28 = Int32.ofNat nb := by
          rw [u2_pa (by decide), u2_pa (by decide)]; exact e2
        simp (disch := first | omega | exact ib_r | exact ib_n | exact isB_rfv _ | assumption) only [n217, t217_0, t217_7 hS, s_in, hv, ↓reduceIte, eq_self, and_self, and_true, true_and, not_true_eq_false, not_false_eq_true, ob_s, tl_s, tl_n, rf_ref, orf_ref, orf_null, nn_ref, nn_null, rfv_s, rfv_n, if_true, if_false, bi_01, bi_e0, bi_e1, or_t, Classical.not_not, e3]
        simp (disch := first | omega | exact ib_r | exact ib_n | exact isB_rfv _ | assumption) only [k_1, k_50, n_lt, n_eq, n_inb, n_cl, n_add, n_sub, hn, z0, z1, ↓reduceIte, eq_self, and_self, and_true, true_and, not_true_eq_false, not_false_eq_true, ob_s, tl_s, tl_n, rf_ref, orf_ref, orf_null, nn_ref, nn_null, rfv_s, rfv_n, if_true, if_false, bi_01, bi_e0, bi_e1, or_t, Classical.not_not]
      · rw [u2_pa (by decide), u2_pa (by decide), u2_at0]
      · rw [u2_at0]
      · dsimp only
        by_cases hkn : k = nb
        · subst hkn
          refine ⟨?_, ?_, ?_⟩
          · rw [u2_pa (by decide), u2_pa (by decide), u2_pa (by decide), u2_at0, if_pos rfl]
          · rw [u2_pa (by decide), u2_at0, if_pos rfl]
          · rw [if_pos rfl]; exact hu
        · have hk2 := hk k (by omega)
          refine ⟨?_, ?_, ?_⟩
          · rw [u2_pa (by decide), u2_pa (by decide), u2_pa (by decide), u2_pj hkn, if_neg hkn]; exact hk2.1
          · rw [u2_pa (by decide), u2_pj hkn, u2_pa (by decide), u2_pa (by decide), if_neg hkn]; exact hk2.2.1
          · rw [if_neg hkn]; exact hk2.2.2
      · exact (((eqO.refl.u2 (Or.inl rfl)).u2 (Or.inr (Or.inr (Or.inl ⟨rfl, rfl⟩)))).u2 (Or.inr (Or.inl rfl))).u2 (Or.inr (Or.inr (Or.inr ⟨rfl, rfl⟩)))
    · obtain rfl : nb = 50 := by omega
      refine ⟨-3, I, I, ?_, ?_, ⟨B, 50, ⟨h50, e1, e2, hk⟩, Nat.le_refl _, fun _ _ => rfl⟩, eqO.refl⟩
      · have z : ¬ Int32.ofNat 50 < 50 := by decide
        simp (disch := first | omega | exact ib_r | exact ib_n | exact isB_rfv _ | assumption) only [n116, t116_0, t116_4 hS, t116_17 hS, n118, t118_0 hS, s_isKind, hv, ↓reduceIte, eq_self, and_self, and_true, true_and, not_true_eq_false, not_false_eq_true, ob_s, tl_s, tl_n, rf_ref, orf_ref, orf_null, nn_ref, nn_null, rfv_s, rfv_n, if_true, if_false, bi_01, bi_e0, bi_e1, or_t, Classical.not_not, e1, z]
      · have z : (Int32.ofNat 50 = 50) = True := eq_true rfl
        simp (disch := first | omega | exact ib_r | exact ib_n | exact isB_rfv _ | assumption) only [n217, t217_0, t217_7 hS, s_in, hv, ↓reduceIte, eq_self, and_self, and_true, true_and, not_true_eq_false, not_false_eq_true, ob_s, tl_s, tl_n, rf_ref, orf_ref, orf_null, nn_ref, nn_null, rfv_s, rfv_n, if_true, if_false, bi_01, bi_e0, bi_e1, or_t, Classical.not_not, e2, z]
  · refine ⟨-1, I, I, ?_, ?_, ⟨B, nb, ⟨h50, e1, e2, hk⟩, Nat.le_refl _, fun _ _ => rfl⟩, eqO.refl⟩
    · simp (disch := first | omega | exact ib_r | exact ib_n | exact isB_rfv _ | assumption) only [n116, t116_0, t116_4 hS, t116_17 hS, s_isKind, hv, ↓reduceIte, eq_self, and_self, and_true, true_and, not_true_eq_false, not_false_eq_true, ob_s, tl_s, tl_n, rf_ref, orf_ref, orf_null, nn_ref, nn_null, rfv_s, rfv_n, if_true, if_false, bi_01, bi_e0, bi_e1, or_t, Classical.not_not]
    · simp (disch := first | omega | exact ib_r | exact ib_n | exact isB_rfv _ | assumption) only [n217, t217_0, t217_7 hS, s_in, hv, ↓reduceIte, eq_self, and_self, and_true, true_and, not_true_eq_false, not_false_eq_true, ob_s, tl_s, tl_n, rf_ref, orf_ref, orf_null, nn_ref, nn_null, rfv_s, rfv_n, if_true, if_false, bi_01, bi_e0, bi_e1, or_t, Classical.not_not]
end BODY2
