/-! DAYS -/
/-- the same but at the places that C tells -/
def eqO {α : Type} (C : Nat → Nat → Prop) (f g : Nat → Nat → α) : Prop := ∀ a k, ¬ C a k → g a k = f a k
theorem eqO.refl {α : Type} {C : Nat → Nat → Prop} {f : Nat → Nat → α} : eqO C f f := fun _ _ _ => rfl
theorem eqO.u2 {α : Type} {C : Nat → Nat → Prop} {f g : Nat → Nat → α} (h : eqO C f g) {a k : Nat} {x : α} (hc : C a k) : eqO C f (u2 g a k x) := fun b j hn => by
  show (if b = a ∧ j = k then x else g b j) = f b j
  rw [if_neg (fun z => hn (by rw [z.1, z.2]; exact hc))]
  exact h b j hn
/-- nd days stand, D tells them -/
def GD (D : Nat → Nat) (nd : Nat) (I : Nat → Nat → Int32) : Prop := nd ≤ 30 ∧ I 15 1 = Int32.ofNat nd ∧ I 37 21 = Int32.ofNat nd ∧ ∀ k, k < nd → I 16 k = Int32.ofNat (D k) ∧ I 55 k = Int32.ofNat (D k) ∧ D k ≤ 9999
def cD (a k : Nat) : Prop := a = 16 ∨ a = 55 ∨ (a = 15 ∧ k = 1) ∨ (a = 37 ∧ k = 21)
section DAYS
variable {X : XX} {d : Nat} {sz sl : Nat} {sh : Nat → Nat × Nat} {R : Nat → Nat → Option Nat} {I : Nat → Nat → Int32} {J : Nat → Nat → Int64}
theorem o_day (hS : SF sh R) {D : Nat → Nat} {nd : Nat} (G : GD D nd I) {v : Int32} : ∃ x I1 I2, ev X (d + 4) 103 [.ref 0, .int v] (sz, sl, sh, R, I, J) = some (some (.int x), (sz, sl, sh, R, I1, J)) ∧ ev X (d + 4) 212 [.ref 37, .int v] (sz, sl, sh, R, I1, J) = some (some (.int x), (sz, sl, sh, R, I2, J)) ∧ (∃ D' nd', GD D' nd' I2) ∧ eqO cD I I2 := by
  obtain ⟨h30, e1, e2, hk⟩ := G
  by_cases hv : 0 ≤ v ∧ v ≤ 9999
  · obtain ⟨u, -, hu, rfl⟩ := n_in (a := 0) (b := 9999) (by decide) hv.1 hv.2 (by decide)
    by_cases hn : nd < 30
    · have z0 : ¬ nd = 30 := by omega
      refine ⟨Int32.ofNat (nd + 1), u2 (u2 I 16 nd (Int32.ofNat u)) 15 1 (Int32.ofNat (nd + 1)), u2 (u2 (u2 (u2 I 16 nd (Int32.ofNat u)) 15 1 (Int32.ofNat (nd + 1))) 55 nd (Int32.ofNat u)) 37 21 (Int32.ofNat (nd + 1)), ?_, ?_, ⟨fun k => if k = nd then u else D k, nd + 1, by omega, ?_, ?_, fun k hk' => ?_⟩, ?_⟩
      · simp (disch := first | omega | exact ib_r | exact ib_n | exact isB_rfv _ | assumption) only [n103, t103_0, t103_8 hS, t103_21 hS, n104, t104_0 hS, s_within, hv, ↓reduceIte, eq_self, and_self, and_true, true_and, not_true_eq_false, not_false_eq_true, ob_s, tl_s, tl_n, rf_ref, orf_ref, orf_null, nn_ref, nn_null, rfv_s, rfv_n, if_true, if_false, bi_01, bi_e0, bi_e1, or_t, Classical.not_not, e1]
        simp (disch := first | omega | exact ib_r | exact ib_n | exact isB_rfv _ | assumption) only [k_1, k_30, k_0, n_lt, n_eq, n_inb, n_cl, n_add, hn, ↓reduceIte, eq_self, and_self, and_true, true_and, not_true_eq_false, not_false_eq_true, ob_s, tl_s, tl_n, rf_ref, orf_ref, orf_null, nn_ref, nn_null, rfv_s, rfv_n, if_true, if_false, bi_01, bi_e0, bi_e1, or_t, Classical.not_not, n103, t103_0, t103_8 hS, t103_21 hS, u2_at0]
        rfl
      · have e3 : u2 (u2 I 16 nd (Int32.ofNat u)) 15 1 (Int32.ofNat (nd + 1)) 37 21 = Int32.ofNat nd := by
          rw [u2_pa (by decide), u2_pa (by decide)]; exact e2
        simp (disch := first | omega | exact ib_r | exact ib_n | exact isB_rfv _ | assumption) only [n212, t212_0, t212_8 hS, s_in, hv, ↓reduceIte, eq_self, and_self, and_true, true_and, not_true_eq_false, not_false_eq_true, ob_s, tl_s, tl_n, rf_ref, orf_ref, orf_null, nn_ref, nn_null, rfv_s, rfv_n, if_true, if_false, bi_01, bi_e0, bi_e1, or_t, Classical.not_not, e3]
        simp (disch := first | omega | exact ib_r | exact ib_n | exact isB_rfv _ | assumption) only [k_1, k_30, n_lt, n_eq, n_inb, n_cl, n_add, hn, z0, ↓reduceIte, eq_self, and_self, and_true, true_and, not_true_eq_false, not_false_eq_true, ob_s, tl_s, tl_n, rf_ref, orf_ref, orf_null, nn_ref, nn_null, rfv_s, rfv_n, if_true, if_false, bi_01, bi_e0, bi_e1, or_t, Classical.not_not]
      · rw [u2_pa (by decide), u2_pa (by decide), u2_at0]
      · rw [u2_at0]
      · dsimp only
        by_cases hkn : k = nd
        · subst hkn
          refine ⟨?_, ?_, ?_⟩
          · rw [u2_pa (by decide), u2_pa (by decide), u2_pa (by decide), u2_at0, if_pos rfl]
          · rw [u2_pa (by decide), u2_at0, if_pos rfl]
          · rw [if_pos rfl]; exact hu
        · have hk2 := hk k (by omega)
          refine ⟨?_, ?_, ?_⟩
          · rw [u2_pa (by decide), u2_pa (by decide), u2_pa (by decide), u2_pj hkn, if_neg hkn]; exact hk2.1
          · rw [u2_pa (by decide), u2_pj hkn, u2_pa (by decide), u2_pa (by decide), if_neg hkn]; exact hk2.2.1
          · rw [if_neg hkn]; exact hk2.2.2
      · exact (((eqO.refl.u2 (Or.inl rfl)).u2 (Or.inr (Or.inr (Or.inl ⟨rfl, rfl⟩)))).u2 (Or.inr (Or.inl rfl))).u2 (Or.inr (Or.inr (Or.inr ⟨rfl, rfl⟩)))
    · obtain rfl : nd = 30 := by omega
      refine ⟨-3, I, I, ?_, ?_, ⟨D, 30, h30, e1, e2, hk⟩, eqO.refl⟩
      · have z : ¬ Int32.ofNat 30 < 30 := by decide
        simp (disch := first | omega | exact ib_r | exact ib_n | exact isB_rfv _ | assumption) only [n103, t103_0, t103_8 hS, t103_21 hS, n104, t104_0 hS, s_within, hv, ↓reduceIte, eq_self, and_self, and_true, true_and, not_true_eq_false, not_false_eq_true, ob_s, tl_s, tl_n, rf_ref, orf_ref, orf_null, nn_ref, nn_null, rfv_s, rfv_n, if_true, if_false, bi_01, bi_e0, bi_e1, or_t, Classical.not_not, e1, z]
      · have z : (Int32.ofNat 30 = 30) = True := eq_true rfl
        simp (disch := first | omega | exact ib_r | exact ib_n | exact isB_rfv _ | assumption) only [n212, t212_0, t212_8 hS, s_in, hv, ↓reduceIte, eq_self, and_self, and_true, true_and, not_true_eq_false, not_false_eq_true, ob_s, tl_s, tl_n, rf_ref, orf_ref, orf_null, nn_ref, nn_null, rfv_s, rfv_n, if_true, if_false, bi_01, bi_e0, bi_e1, or_t, Classical.not_not, e2, z]
  · refine ⟨-1, I, I, ?_, ?_, ⟨D, nd, h30, e1, e2, hk⟩, eqO.refl⟩
    · simp (disch := first | omega | exact ib_r | exact ib_n | exact isB_rfv _ | assumption) only [n103, t103_0, t103_8 hS, t103_21 hS, s_within, hv, ↓reduceIte, eq_self, and_self, and_true, true_and, not_true_eq_false, not_false_eq_true, ob_s, tl_s, tl_n, rf_ref, orf_ref, orf_null, nn_ref, nn_null, rfv_s, rfv_n, if_true, if_false, bi_01, bi_e0, bi_e1, or_t, Classical.not_not]
    · simp (disch := first | omega | exact ib_r | exact ib_n | exact isB_rfv _ | assumption) only [n212, t212_0, t212_8 hS, s_in, hv, ↓reduceIte, eq_self, and_self, and_true, true_and, not_true_eq_false, not_false_eq_true, ob_s, tl_s, tl_n, rf_ref, orf_ref, orf_null, nn_ref, nn_null, rfv_s, rfv_n, if_true, if_false, bi_01, bi_e0, bi_e1, or_t, Classical.not_not]
end DAYS
