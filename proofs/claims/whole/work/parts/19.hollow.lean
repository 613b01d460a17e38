/-! SHAPE: hollows, tilt -/
theorem m1_ge {a : Nat} (h : a < 2147483648) : (Int32.ofNat a ≤ -1) = False := eq_false (by rw [Int32.le_iff_toInt_le, n_ti h, show (-1 : Int32).toInt = -1 from by decide]; omega)
theorem m1_le {a : Nat} (h : a < 2147483648) : ((-1 : Int32) ≤ Int32.ofNat a) = True := eq_true (by rw [Int32.le_iff_toInt_le, n_ti h, show (-1 : Int32).toInt = -1 from by decide]; omega)
theorem m1_lt {a : Nat} (h : a < 2147483648) : ((-1 : Int32) < Int32.ofNat a) = True := eq_true (by rw [Int32.lt_iff_toInt_lt, n_ti h, show (-1 : Int32).toInt = -1 from by decide]; omega)
theorem m1_eq {a : Nat} (h : a < 2147483648) : ((-1 : Int32) = Int32.ofNat a) = False := eq_false (fun z => by have := congrArg Int32.toInt z; rw [n_ti h, show (-1 : Int32).toInt = -1 from by decide] at this; omega)
theorem m1_eq' {a : Nat} (h : a < 2147483648) : (Int32.ofNat a = (-1 : Int32)) = False := eq_false (fun z => by have := congrArg Int32.toInt z; rw [n_ti h, show (-1 : Int32).toInt = -1 from by decide] at this; omega)
/-- hollows from cell c on: h so far, w whether the way led down -/
def hx (v : Nat → Nat) : Nat → Nat → Nat → Int32 → Nat
  | 0, _, h, _ => h
  | n + 1, c, h, w => hx v n (c + 1) (if (c = 7 ∨ v (c + 1) < v c) ∧ ¬ w = 0 then h + 1 else h) (if c < 7 ∧ v (c + 1) = v c then w else if c < 7 ∧ v c < v (c + 1) then 1 else 0)
/-- the way led down to cell c -/
def wq (v : Nat → Nat) (c : Nat) : Int32 := if c = 0 ∨ v (c - 1) < v c then 1 else 0
theorem hx_eq {v : Nat → Nat} {n e h : Nat} {w : Int32} (h1 : ¬ e = 7) (h2 : e < 7) (h3 : v (e + 1) = v e) : hx v (n + 1) e h w = hx v n (e + 1) h w := by
  rw [hx, if_neg (fun z => z.1.elim h1 (fun q => by omega)), if_pos ⟨h2, h3⟩]
theorem hx_ne {v : Nat → Nat} {n e h : Nat} {w : Int32} (h1 : ¬ e = 7) (h2 : e < 7) (h3 : ¬ v (e + 1) = v e) : hx v (n + 1) e h w = hx v n (e + 1) (if (e = 7 ∨ v (e + 1) < v e) ∧ ¬ w = 0 then h + 1 else h) (wq v (e + 1)) := by
  rw [hx, if_neg (show ¬ (e < 7 ∧ v (e + 1) = v e) from fun z => h3 z.2)]
  congr 1
  unfold wq
  rw [Nat.add_sub_cancel]
  by_cases c : v e < v (e + 1)
  · rw [if_pos ⟨h2, c⟩, if_pos (Or.inr c)]
  · rw [if_neg (fun z => c z.2), if_neg (fun z => z.elim (by omega) c)]
section HOLLOW
variable {X : XX} {d : Nat} {sz sl : Nat} {sh : Nat → Nat × Nat} {R : Nat → Nat → Option Nat} {I : Nat → Nat → Int32} {J : Nat → Nat → Int64} {W : WW} {ns : Nat}
theorem n_suc (c : Nat) : Int32.ofNat c + 1 = Int32.ofNat (c + 1) := by rw [k_1, n_add]
theorem s_hX (G : GS W ns sh R I) {i : Nat} (hi : i < ns) : ∀ (n c h : Nat) (w : Int32), c + n = 8 → exe X (d + 1) 72 6 [.ref (W 0 i), .int (Int32.ofNat h), .int w, .int (Int32.ofNat c), dm] [] (sz, sl, sh, R, I, J) = some (some (.int (Int32.ofNat (hx (fun c => W 15 (8 * i + c)) n c h w))), (sz, sl, sh, R, I, J))
  | 0, c, h, w, e0 => by
    have h2 := (G.2.2.2.1 i hi).2.1
    have e : 8 ≤ c := by omega
    rw [t72_6 h2]
    simp (disch := first | omega | exact ib_r | exact ib_n | exact isB_rfv _ | assumption) only [k_8, n_le, e, ↓reduceIte, eq_self, and_self, and_true, true_and, not_true_eq_false, not_false_eq_true, ob_s, tl_s, tl_n, rf_ref, orf_ref, orf_null, nn_ref, nn_null, rfv_s, rfv_n, if_true, if_false, bi_01, bi_e0, bi_e1, or_t, Classical.not_not]
    rfl
  | n + 1, c, h, w, e0 => by
    have h2 := (G.2.2.2.1 i hi).2.1
    have e : ¬ 8 ≤ c := by omega
    have hc : c < 8 := by omega
    have g1 := (G.2.2.2.2.2.2.2.2.1 i c hi hc).2.2.2.2.1
    have ih := fun h w => s_hX G hi n (c + 1) h w (by omega)
    rw [t72_6 h2, hx]
    by_cases c7 : c = 7
    · have e1 : 8 ≤ c + 1 := by omega
      have e2 : ¬ c < 7 := by omega
      by_cases w0 : w = 0
      · simp (disch := first | omega | exact ib_r | exact ib_n | exact isB_rfv _ | assumption) only [k_8, n_suc, n_le, e, e1, e2, c7, ↓reduceIte, eq_self, and_self, and_true, true_and, not_true_eq_false, not_false_eq_true, ob_s, tl_s, tl_n, rf_ref, orf_ref, orf_null, nn_ref, nn_null, rfv_s, rfv_n, if_true, if_false, bi_01, bi_e0, bi_e1, or_t, Classical.not_not, s_measure G hi hc, t72_40 h2, t72_57 h2, t72_67 h2, m1_ge, m1_le, m1_eq, w0]
        subst c7
        simp (disch := first | omega | exact ib_r | exact ib_n | exact isB_rfv _ | assumption) only [n_suc, s_measure G hi hc, ↓reduceIte, eq_self, and_self, and_true, true_and, not_true_eq_false, not_false_eq_true, ob_s, tl_s, tl_n, rf_ref, orf_ref, orf_null, nn_ref, nn_null, rfv_s, rfv_n, if_true, if_false, bi_01, bi_e0, bi_e1, or_t, Classical.not_not, t72_40 h2, t72_57 h2, t72_67 h2, m1_ge, m1_le, m1_eq, false_and, or_false, and_false, true_or]
        exact ih _ _
      · subst c7
        simp (disch := first | omega | exact ib_r | exact ib_n | exact isB_rfv _ | assumption) only [k_8, n_suc, n_le, e, e1, e2, ↓reduceIte, eq_self, and_self, and_true, true_and, not_true_eq_false, not_false_eq_true, ob_s, tl_s, tl_n, rf_ref, orf_ref, orf_null, nn_ref, nn_null, rfv_s, rfv_n, if_true, if_false, bi_01, bi_e0, bi_e1, or_t, Classical.not_not, s_measure G hi hc, t72_40 h2, t72_57 h2, t72_67 h2, m1_ge, m1_le, m1_eq, w0, false_and, or_false, and_false, true_or]
        exact ih _ _
    · have e1 : ¬ 8 ≤ c + 1 := by omega
      have e2 : c < 7 := by omega
      have e3 : c + 1 < 8 := by omega
      have g2 := (G.2.2.2.2.2.2.2.2.1 i (c + 1) hi e3).2.2.2.2.1
      rcases Nat.lt_trichotomy (W 15 (8 * i + (c + 1))) (W 15 (8 * i + c)) with hl | he | hg
      · have f1 : ¬ W 15 (8 * i + c) ≤ W 15 (8 * i + (c + 1)) := by omega
        have f2 : ¬ W 15 (8 * i + (c + 1)) = W 15 (8 * i + c) := by omega
        have f3 : ¬ W 15 (8 * i + c) < W 15 (8 * i + (c + 1)) := by omega
        have f4 : W 15 (8 * i + (c + 1)) ≤ W 15 (8 * i + c) := by omega
        by_cases w0 : w = 0
        · simp (disch := first | omega | exact ib_r | exact ib_n | exact isB_rfv _ | assumption) only [k_8, n_suc, n_le, n_eq, e, e1, e2, c7, f1, f2, f3, f4, hl, ↓reduceIte, eq_self, and_self, and_true, true_and, not_true_eq_false, not_false_eq_true, ob_s, tl_s, tl_n, rf_ref, orf_ref, orf_null, nn_ref, nn_null, rfv_s, rfv_n, if_true, if_false, bi_01, bi_e0, bi_e1, or_t, Classical.not_not, s_measure G hi hc, s_measure G hi e3, t72_27 h2, t72_40 h2, t72_57 h2, t72_67 h2, w0, false_and, or_false, and_false, true_or, or_true]
          exact ih _ _
        · simp (disch := first | omega | exact ib_r | exact ib_n | exact isB_rfv _ | assumption) only [k_8, n_suc, n_le, n_eq, e, e1, e2, c7, f1, f2, f3, f4, hl, ↓reduceIte, eq_self, and_self, and_true, true_and, not_true_eq_false, not_false_eq_true, ob_s, tl_s, tl_n, rf_ref, orf_ref, orf_null, nn_ref, nn_null, rfv_s, rfv_n, if_true, if_false, bi_01, bi_e0, bi_e1, or_t, Classical.not_not, s_measure G hi hc, s_measure G hi e3, t72_27 h2, t72_40 h2, t72_57 h2, t72_67 h2, w0, false_and, or_false, and_false, true_or, or_true]
          exact ih _ _
      · have f1 : W 15 (8 * i + c) ≤ W 15 (8 * i + (c + 1)) := by omega
        have f3 : ¬ W 15 (8 * i + (c + 1)) < W 15 (8 * i + c) := by omega
        simp (disch := first | omega | exact ib_r | exact ib_n | exact isB_rfv _ | assumption) only [k_8, n_suc, n_le, n_eq, e, e1, e2, c7, f1, f3, he, ↓reduceIte, eq_self, and_self, and_true, true_and, not_true_eq_false, not_false_eq_true, ob_s, tl_s, tl_n, rf_ref, orf_ref, orf_null, nn_ref, nn_null, rfv_s, rfv_n, if_true, if_false, bi_01, bi_e0, bi_e1, or_t, Classical.not_not, s_measure G hi hc, s_measure G hi e3, t72_27 h2, t72_40 h2, t72_57 h2, t72_67 h2, Nat.le_refl, Nat.lt_irrefl, false_and, or_false, and_false, true_or, or_true]
        exact ih _ _
      · have f1 : W 15 (8 * i + c) ≤ W 15 (8 * i + (c + 1)) := by omega
        have f2 : ¬ W 15 (8 * i + (c + 1)) = W 15 (8 * i + c) := by omega
        have f3 : ¬ W 15 (8 * i + (c + 1)) < W 15 (8 * i + c) := by omega
        have f4 : ¬ W 15 (8 * i + (c + 1)) ≤ W 15 (8 * i + c) := by omega
        simp (disch := first | omega | exact ib_r | exact ib_n | exact isB_rfv _ | assumption) only [k_8, n_suc, n_le, n_eq, e, e1, e2, c7, f1, f2, f3, f4, hg, ↓reduceIte, eq_self, and_self, and_true, true_and, not_true_eq_false, not_false_eq_true, ob_s, tl_s, tl_n, rf_ref, orf_ref, orf_null, nn_ref, nn_null, rfv_s, rfv_n, if_true, if_false, bi_01, bi_e0, bi_e1, or_t, Classical.not_not, s_measure G hi hc, s_measure G hi e3, t72_27 h2, t72_40 h2, t72_57 h2, t72_67 h2, false_and, or_false, and_false, true_or, or_true]
        exact ih _ _
theorem s_at0_no (hS : SF sh R) {i : Nat} {v : Int32} (hv : ¬ (0 ≤ v ∧ v ≤ 7)) : ev X (d + 2) 195 [.ref 37, .int (Int32.ofNat i), .int v] (sz, sl, sh, R, I, J) = some (some (.int (-1)), (sz, sl, sh, R, I, J)) := by
  simp (disch := first | omega | exact ib_r | exact ib_n | exact isB_rfv _ | assumption) only [n195, t195_0, t195_7 hS, s_in, hv, ↓reduceIte, eq_self, and_self, and_true, true_and, not_true_eq_false, not_false_eq_true, ob_s, tl_s, tl_n, rf_ref, orf_ref, orf_null, nn_ref, nn_null, rfv_s, rfv_n, if_true, if_false, bi_01, bi_e0, bi_e1, or_t, Classical.not_not]
theorem s_h51 (hS : SF sh R) (G : GS W ns sh R I) {i : Nat} (hi : i < ns) {c e h : Nat} (hc : c < 8) (he : e < 8) : exe X (d + 2) 194 51 [.ref 37, .int (Int32.ofNat i), dm, .int (Int32.ofNat c), .int (Int32.ofNat e)] [.int (Int32.ofNat (W 15 (8 * i + c))), .int (Int32.ofNat h)] (sz, sl, sh, R, I, J) = exe X (d + 2) 194 4 [.ref 37, .int (Int32.ofNat i), .int (Int32.ofNat (if (e = 7 ∨ W 15 (8 * i + (e + 1)) < W 15 (8 * i + c)) ∧ ¬ wq (fun c => W 15 (8 * i + c)) c = 0 then h + 1 else h)), .int (Int32.ofNat (e + 1)), dm] [] (sz, sl, sh, R, I, J) := by
  have g1 := (G.2.2.2.2.2.2.2.2.1 i c hi hc).2.2.2.2.1
  have hz : Int32.ofNat h + 0 = Int32.ofNat h := by rw [Int32.add_zero]
  have w1 : ¬ (1 : Int32) = 0 := by decide
  have e0 : exe X (d + 2) 194 68 [.ref 37, .int (Int32.ofNat i), dm, dm, .int (Int32.ofNat e)] [.int (Int32.ofNat (W 15 (8 * i + c))), .int (Int32.ofNat h)] (sz, sl, sh, R, I, J) = exe X (d + 2) 194 4 [.ref 37, .int (Int32.ofNat i), .int (Int32.ofNat (if e = 7 ∨ W 15 (8 * i + (e + 1)) < W 15 (8 * i + c) then h + 1 else h)), .int (Int32.ofNat (e + 1)), dm] [] (sz, sl, sh, R, I, J) := by
    by_cases e7 : e = 7
    · subst e7
      have z : ¬ ((0 : Int32) ≤ Int32.ofNat (7 + 1) ∧ Int32.ofNat (7 + 1) ≤ 7) := by decide
      simp (disch := first | omega | exact ib_r | exact ib_n | exact isB_rfv _ | assumption) only [t194_68 hS, n_suc, s_at0_no hS z, t194_77, m1_ge, ↓reduceIte, eq_self, and_self, and_true, true_and, not_true_eq_false, not_false_eq_true, ob_s, tl_s, tl_n, rf_ref, orf_ref, orf_null, nn_ref, nn_null, rfv_s, rfv_n, if_true, if_false, bi_01, bi_e0, bi_e1, or_t, Classical.not_not, true_or]
    · have e8 : e + 1 < 8 := by omega
      have g2 := (G.2.2.2.2.2.2.2.2.1 i (e + 1) hi e8).2.2.2.2.1
      by_cases hl : W 15 (8 * i + (e + 1)) < W 15 (8 * i + c)
      · have f : ¬ W 15 (8 * i + c) ≤ W 15 (8 * i + (e + 1)) := by omega
        simp (disch := first | omega | exact ib_r | exact ib_n | exact isB_rfv _ | assumption) only [t194_68 hS, n_suc, s_at0 hS G hi e8, t194_77, n_le, hl, f, ↓reduceIte, eq_self, and_self, and_true, true_and, not_true_eq_false, not_false_eq_true, ob_s, tl_s, tl_n, rf_ref, orf_ref, orf_null, nn_ref, nn_null, rfv_s, rfv_n, if_true, if_false, bi_01, bi_e0, bi_e1, or_t, Classical.not_not, or_true]
      · have f : W 15 (8 * i + c) ≤ W 15 (8 * i + (e + 1)) := by omega
        simp (disch := first | omega | exact ib_r | exact ib_n | exact isB_rfv _ | assumption) only [t194_68 hS, n_suc, s_at0 hS G hi e8, t194_77, n_le, e7, hl, f, ↓reduceIte, eq_self, and_self, and_true, true_and, not_true_eq_false, not_false_eq_true, ob_s, tl_s, tl_n, rf_ref, orf_ref, orf_null, nn_ref, nn_null, rfv_s, rfv_n, if_true, if_false, bi_01, bi_e0, bi_e1, or_t, Classical.not_not, or_false, hz]
  by_cases c0 : c = 0
  · subst c0
    have z : ¬ ((0 : Int32) ≤ Int32.ofNat 0 - 1 ∧ Int32.ofNat 0 - 1 ≤ 7) := by decide
    simp (disch := first | omega | exact ib_r | exact ib_n | exact isB_rfv _ | assumption) only [t194_51 hS, s_at0_no hS z, t194_59 hS, m1_ge, ↓reduceIte, eq_self, and_self, and_true, true_and, not_true_eq_false, not_false_eq_true, ob_s, tl_s, tl_n, rf_ref, orf_ref, orf_null, nn_ref, nn_null, rfv_s, rfv_n, if_true, if_false, bi_01, bi_e0, bi_e1, or_t, Classical.not_not, s_at0 hS G hi hc, e0, wq, true_or, w1, and_true]
  · have hp : c - 1 < 8 := by omega
    have g2 := (G.2.2.2.2.2.2.2.2.1 i (c - 1) hi hp).2.2.2.2.1
    have ec : Int32.ofNat c - 1 = Int32.ofNat (c - 1) := by rw [k_1, n_sub (by omega)]
    by_cases hl : W 15 (8 * i + (c - 1)) < W 15 (8 * i + c)
    · have f : ¬ W 15 (8 * i + c) ≤ W 15 (8 * i + (c - 1)) := by omega
      simp (disch := first | omega | exact ib_r | exact ib_n | exact isB_rfv _ | assumption) only [t194_51 hS, ec, s_at0 hS G hi hp, t194_59 hS, n_le, f, ↓reduceIte, eq_self, and_self, and_true, true_and, not_true_eq_false, not_false_eq_true, ob_s, tl_s, tl_n, rf_ref, orf_ref, orf_null, nn_ref, nn_null, rfv_s, rfv_n, if_true, if_false, bi_01, bi_e0, bi_e1, or_t, Classical.not_not, s_at0 hS G hi hc, e0, wq, hl, or_true, w1, and_true]
    · have f : W 15 (8 * i + c) ≤ W 15 (8 * i + (c - 1)) := by omega
      simp (disch := first | omega | exact ib_r | exact ib_n | exact isB_rfv _ | assumption) only [t194_51 hS, ec, s_at0 hS G hi hp, t194_59 hS, n_le, f, ↓reduceIte, eq_self, and_self, and_true, true_and, not_true_eq_false, not_false_eq_true, ob_s, tl_s, tl_n, rf_ref, orf_ref, orf_null, nn_ref, nn_null, rfv_s, rfv_n, if_true, if_false, bi_01, bi_e0, bi_e1, or_t, Classical.not_not, wq, hl, c0, or_false, and_false, hz, n_suc]
theorem s_hM13 (hS : SF sh R) (G : GS W ns sh R I) {i : Nat} (hi : i < ns) {c h : Nat} (hc : c < 8) (P4 : ∀ c' h' : Nat, c < c' → c' ≤ 8 → exe X (d + 2) 194 4 [.ref 37, .int (Int32.ofNat i), .int (Int32.ofNat h'), .int (Int32.ofNat c'), dm] [] (sz, sl, sh, R, I, J) = some (some (.int (Int32.ofNat (hx (fun c => W 15 (8 * i + c)) (8 - c') c' h' (wq (fun c => W 15 (8 * i + c)) c')))), (sz, sl, sh, R, I, J))) :
    ∀ k e : Nat, e + k = 7 → c ≤ e → W 15 (8 * i + e) = W 15 (8 * i + c) → exe X (d + 2) 194 13 [.ref 37, .int (Int32.ofNat i), .int (Int32.ofNat h), .int (Int32.ofNat c), .int (Int32.ofNat e)] [] (sz, sl, sh, R, I, J) = some (some (.int (Int32.ofNat (hx (fun c => W 15 (8 * i + c)) (k + 1) e h (wq (fun c => W 15 (8 * i + c)) c)))), (sz, sl, sh, R, I, J))
  | 0, e, h7, hce, hv => by
    obtain rfl : e = 7 := by omega
    have e1 : (7 : Nat) ≤ 7 := Nat.le_refl 7
    have q := s_h51 (X := X) (d := d) (sz := sz) (sl := sl) (J := J) (h := h) hS G hi hc (show 7 < 8 by decide)
    simp (disch := first | omega | exact ib_r | exact ib_n | exact isB_rfv _ | assumption) only [t194_13 hS, k_7, n_le, e1, s_at0 hS G hi hc, ↓reduceIte, eq_self, and_self, and_true, true_and, not_true_eq_false, not_false_eq_true, ob_s, tl_s, tl_n, rf_ref, orf_ref, orf_null, nn_ref, nn_null, rfv_s, rfv_n, if_true, if_false, bi_01, bi_e0, bi_e1, or_t, Classical.not_not]
    refine q.trans ((P4 8 _ (by omega) (by omega)).trans ?_)
    simp only [hx, true_or, true_and, Nat.sub_self]
  | k + 1, e, h7, hce, hv => by
    have e1 : ¬ 7 ≤ e := by omega
    have e2 : e + 1 < 8 := by omega
    have e3 : ¬ e = 7 := by omega
    have e4 : e < 7 := by omega
    have g1 := (G.2.2.2.2.2.2.2.2.1 i c hi hc).2.2.2.2.1
    have g2 := (G.2.2.2.2.2.2.2.2.1 i (e + 1) hi e2).2.2.2.2.1
    have q := s_h51 (X := X) (d := d) (sz := sz) (sl := sl) (J := J) (h := h) hS G hi hc (show e < 8 by omega)
    rw [t194_13 hS]
    simp (disch := first | omega | exact ib_r | exact ib_n | exact isB_rfv _ | assumption) only [t194_29 hS, t194_35 hS, k_7, n_suc, n_le, n_eq, e1, s_at0 hS G hi hc, s_at0 hS G hi e2, ↓reduceIte, eq_self, and_self, and_true, true_and, not_true_eq_false, not_false_eq_true, ob_s, tl_s, tl_n, rf_ref, orf_ref, orf_null, nn_ref, nn_null, rfv_s, rfv_n, if_true, if_false, bi_01, bi_e0, bi_e1, or_t, Classical.not_not]
    by_cases he : W 15 (8 * i + (e + 1)) = W 15 (8 * i + c)
    · rw [if_neg (by omega), s_hM13 hS G hi hc P4 k (e + 1) (by omega) (by omega) he, hx_eq e3 e4 (he.trans hv.symm)]
    · rw [if_pos (by omega)]
      refine q.trans ((P4 (e + 1) _ (by omega) (by omega)).trans ?_)
      have f0 : 8 - (e + 1) = k + 1 := by omega
      rw [f0, hx_ne (v := fun c => W 15 (8 * i + c)) e3 e4 (fun z => he (z.trans hv)), ← hv]
theorem s_hM4 (hS : SF sh R) (G : GS W ns sh R I) {i : Nat} (hi : i < ns) : ∀ m c h : Nat, 8 - c ≤ m → c ≤ 8 → exe X (d + 2) 194 4 [.ref 37, .int (Int32.ofNat i), .int (Int32.ofNat h), .int (Int32.ofNat c), dm] [] (sz, sl, sh, R, I, J) = some (some (.int (Int32.ofNat (hx (fun c => W 15 (8 * i + c)) (8 - c) c h (wq (fun c => W 15 (8 * i + c)) c)))), (sz, sl, sh, R, I, J))
  | 0, c, h, hm, hc => by
    obtain rfl : c = 8 := by omega
    rw [t194_4]
    rfl
  | m + 1, c, h, hm, hc => by
    by_cases c8 : c = 8
    · subst c8
      rw [t194_4]
      rfl
    · have e : ¬ 8 ≤ c := by omega
      rw [t194_4]
      simp (disch := first | omega | exact ib_r | exact ib_n | exact isB_rfv _ | assumption) only [k_8, n_le, e, ↓reduceIte, eq_self, and_self, and_true, true_and, not_true_eq_false, not_false_eq_true, ob_s, tl_s, tl_n, rf_ref, orf_ref, orf_null, nn_ref, nn_null, rfv_s, rfv_n, if_true, if_false, bi_01, bi_e0, bi_e1, or_t, Classical.not_not]
      rw [s_hM13 hS G hi (by omega) (fun c' h' h1 h2 => s_hM4 hS G hi m c' h' (by omega) h2) (7 - c) c (by omega) (Nat.le_refl c) rfl, show 7 - c + 1 = 8 - c from by omega]
theorem s_tiltM (hS : SF sh R) (G : GS W ns sh R I) {i : Nat} (hi : i < ns) : ∀ (n c : Nat) (l : Int32), c + n = 4 → exe X (d + 2) 193 49 [.ref 37, .int (Int32.ofNat i), dm, .int l, .int (Int32.ofNat c)] [] (sz, sl, sh, R, I, J) = some (some (.int (l + (Int32.ofNat (sumf (fun c => W 15 (8 * i + c)) (4 + c) n) - Int32.ofNat (sumf (fun c => W 15 (8 * i + c)) c n)))), (sz, sl, sh, R, I, J))
  | 0, c, l, h => by
    have e : 4 ≤ c := by omega
    have z : l + (Int32.ofNat 0 - Int32.ofNat 0) = l := by rw [Int32.sub_self, Int32.add_zero]
    rw [t193_49 hS]
    simp (disch := first | omega | exact ib_r | exact ib_n | exact isB_rfv _ | assumption) only [k_4, n_le, e, ↓reduceIte, eq_self, and_self, and_true, true_and, not_true_eq_false, not_false_eq_true, ob_s, tl_s, tl_n, rf_ref, orf_ref, orf_null, nn_ref, nn_null, rfv_s, rfv_n, if_true, if_false, bi_01, bi_e0, bi_e1, or_t, Classical.not_not, sumf_z, z]
  | n + 1, c, l, h => by
    have e : ¬ 4 ≤ c := by omega
    have h1 : 4 + c < 8 := by omega
    have h2 : c < 8 := by omega
    have ih := fun l => s_tiltM hS G hi n (c + 1) l (by omega)
    rw [t193_49 hS]
    simp (disch := first | omega | exact ib_r | exact ib_n | exact isB_rfv _ | assumption) only [k_4, n_le, n_add, n_suc, e, ↓reduceIte, eq_self, and_self, and_true, true_and, not_true_eq_false, not_false_eq_true, ob_s, tl_s, tl_n, rf_ref, orf_ref, orf_null, nn_ref, nn_null, rfv_s, rfv_n, if_true, if_false, bi_01, bi_e0, bi_e1, or_t, Classical.not_not, s_at0 hS G hi h1, s_at0 hS G hi h2, t193_65 hS, t193_72, sumf_s]
    refine (ih _).trans ?_
    rw [← n_add, ← n_add, Nat.add_assoc 4 c 1]
    congr 3
    simp only [Int32.sub_eq_add_neg, Int32.neg_add]
    ac_rfl
theorem o_shape (hS : SF sh R) (G : GS W ns sh R I) {v w : Int32} : ∃ x, ev X (d + 4) 71 [.ref 0, .int v, .int w] (sz, sl, sh, R, I, J) = some (some (.int x), (sz, sl, sh, R, I, J)) ∧ ev X (d + 4) 193 [.ref 37, .int v, .int w] (sz, sl, sh, R, I, J) = some (some (.int x), (sz, sl, sh, R, I, J)) := by
  have h40 := G.1
  by_cases hv : ∃ j, j < ns ∧ v = Int32.ofNat j
  · obtain ⟨j, hj, rfl⟩ := hv
    have h := G.2.2.2.1 j hj
    have hi : (0 : Int32) ≤ Int32.ofNat j ∧ Int32.ofNat j ≤ I 37 0 - 1 := by rw [G.n2, idx (by omega)]; exact ⟨j, hj, rfl⟩
    by_cases hw : 0 ≤ w ∧ w ≤ 2
    · obtain ⟨q, -, hq, rfl⟩ := n_in (a := 0) (b := 2) (by decide) hw.1 hw.2 (by decide)
      rcases (show q = 0 ∨ q = 1 ∨ q = 2 by omega) with rfl | rfl | rfl
      · have a1 := s_hX (X := X) (d := d + 1) (sz := sz) (sl := sl) (J := J) G hj 8 0 0 1 rfl
        have a2 := s_hM4 (X := X) (d := d) (sz := sz) (sl := sl) (J := J) hS G hj 8 0 0 (by omega) (by omega)
        rw [← k_0] at a1 a2
        have b1 : ¬ (2 : Int32) ≤ Int32.ofNat 0 := by decide
        have b2 : Int32.ofNat 0 = 0 := rfl
        refine ⟨Int32.ofNat (hx (fun c => W 15 (8 * j + c)) 8 0 0 1), ?_, ?_⟩
        · simp (disch := first | omega | exact ib_r | exact ib_n | exact isB_rfv _ | assumption) only [n71, t71_0 hS, t71_5, t71_44, t71_49, t71_54, s_stepAt hS G hj, h.2.1, b2, ↓reduceIte, eq_self, and_self, and_true, true_and, not_true_eq_false, not_false_eq_true, ob_s, tl_s, tl_n, rf_ref, orf_ref, orf_null, nn_ref, nn_null, rfv_s, rfv_n, if_true, if_false, bi_01, bi_e0, bi_e1, or_t, Classical.not_not, n72, t72_0 h.2.1, a1]
        · simp (disch := first | omega | exact ib_r | exact ib_n | exact isB_rfv _ | assumption) only [n193, t193_0 hS, t193_5, t193_14 hS, t193_35, t193_43, s_isStep hS, s_in, hi, hw, b1, b2, ↓reduceIte, eq_self, and_self, and_true, true_and, not_true_eq_false, not_false_eq_true, ob_s, tl_s, tl_n, rf_ref, orf_ref, orf_null, nn_ref, nn_null, rfv_s, rfv_n, if_true, if_false, bi_01, bi_e0, bi_e1, or_t, Classical.not_not, n194, t194_0, a2]
          rfl
      · have b1 : ¬ (2 : Int32) ≤ Int32.ofNat 1 := by decide
        have b2 : ¬ Int32.ofNat 1 = 0 := by decide
        have b3 : Int32.ofNat 1 = 1 := rfl
        refine ⟨Int32.ofNat (dc W j), ?_, ?_⟩
        · simp (disch := first | omega | exact ib_r | exact ib_n | exact isB_rfv _ | assumption) only [n71, t71_0 hS, t71_5, t71_44, t71_49, t71_54, s_stepAt hS G hj, h.2.1, b2, b3, ↓reduceIte, eq_self, and_self, and_true, true_and, not_true_eq_false, not_false_eq_true, ob_s, tl_s, tl_n, rf_ref, orf_ref, orf_null, nn_ref, nn_null, rfv_s, rfv_n, if_true, if_false, bi_01, bi_e0, bi_e1, or_t, Classical.not_not, s_deepestCell G hj]
          rfl
        · simp (disch := first | omega | exact ib_r | exact ib_n | exact isB_rfv _ | assumption) only [n193, t193_0 hS, t193_5, t193_14 hS, t193_35, t193_43, s_isStep hS, s_in, hi, hw, b1, b2, ↓reduceIte, eq_self, and_self, and_true, true_and, not_true_eq_false, not_false_eq_true, ob_s, tl_s, tl_n, rf_ref, orf_ref, orf_null, nn_ref, nn_null, rfv_s, rfv_n, if_true, if_false, bi_01, bi_e0, bi_e1, or_t, Classical.not_not, s_deepestM hS G hj]
      · have b1 : (2 : Int32) ≤ Int32.ofNat 2 := by decide
        have b2 : ¬ Int32.ofNat 2 = 0 := by decide
        have b3 : ¬ Int32.ofNat 2 = 1 := by decide
        have b4 : Int32.ofNat 2 = 2 := rfl
        have a2 := s_tiltM (X := X) (d := d + 1) (sz := sz) (sl := sl) (J := J) hS G hj 4 0 0 rfl
        rw [← k_0, Int32.zero_add] at a2
        refine ⟨Int32.ofNat (sumf (fun c => W 15 (8 * j + c)) 4 4) - Int32.ofNat (sumf (fun c => W 15 (8 * j + c)) 0 4), ?_, ?_⟩
        · simp (disch := first | omega | exact ib_r | exact ib_n | exact isB_rfv _ | assumption) only [n71, t71_0 hS, t71_5, t71_44, t71_49, t71_54, s_stepAt hS G hj, h.2.1, b2, b3, b4, ↓reduceIte, eq_self, and_self, and_true, true_and, not_true_eq_false, not_false_eq_true, ob_s, tl_s, tl_n, rf_ref, orf_ref, orf_null, nn_ref, nn_null, rfv_s, rfv_n, if_true, if_false, bi_01, bi_e0, bi_e1, or_t, Classical.not_not, s_tilt G hj]
          rw [if_neg (by decide), if_neg (by decide)]
        · simp (disch := first | omega | exact ib_r | exact ib_n | exact isB_rfv _ | assumption) only [n193, t193_0 hS, t193_5, t193_14 hS, t193_35, t193_43, s_isStep hS, s_in, hi, hw, b1, b2, ↓reduceIte, eq_self, and_self, and_true, true_and, not_true_eq_false, not_false_eq_true, ob_s, tl_s, tl_n, rf_ref, orf_ref, orf_null, nn_ref, nn_null, rfv_s, rfv_n, if_true, if_false, bi_01, bi_e0, bi_e1, or_t, Classical.not_not, a2]
    · have w0 : ¬ w = 0 := fun z => hw (by subst z; decide)
      have w1 : ¬ w = 1 := fun z => hw (by subst z; decide)
      have w2 : ¬ w = 2 := fun z => hw (by subst z; decide)
      refine ⟨-2000000000, ?_, ?_⟩
      · simp (disch := first | omega | exact ib_r | exact ib_n | exact isB_rfv _ | assumption) only [n71, t71_0 hS, t71_5, t71_44, t71_49, t71_54, s_stepAt hS G hj, h.2.1, w0, w1, w2, ↓reduceIte, eq_self, and_self, and_true, true_and, not_true_eq_false, not_false_eq_true, ob_s, tl_s, tl_n, rf_ref, orf_ref, orf_null, nn_ref, nn_null, rfv_s, rfv_n, if_true, if_false, bi_01, bi_e0, bi_e1, or_t, Classical.not_not]
      · simp (disch := first | omega | exact ib_r | exact ib_n | exact isB_rfv _ | assumption) only [n193, t193_0 hS, t193_5, t193_14 hS, s_isStep hS, s_in, hi, hw, ↓reduceIte, eq_self, and_self, and_true, true_and, not_true_eq_false, not_false_eq_true, ob_s, tl_s, tl_n, rf_ref, orf_ref, orf_null, nn_ref, nn_null, rfv_s, rfv_n, if_true, if_false, bi_01, bi_e0, bi_e1, or_t, Classical.not_not]
  · have hi : ¬ ((0 : Int32) ≤ v ∧ v ≤ I 37 0 - 1) := by rw [G.n2, idx (by omega)]; exact hv
    refine ⟨-2000000000, ?_, ?_⟩
    · simp (disch := first | omega | exact ib_r | exact ib_n | exact isB_rfv _ | assumption) only [n71, t71_0 hS, t71_5, t71_44, t71_49, t71_54, s_stepAt_no hS G hv, ↓reduceIte, eq_self, and_self, and_true, true_and, not_true_eq_false, not_false_eq_true, ob_s, tl_s, tl_n, rf_ref, orf_ref, orf_null, nn_ref, nn_null, rfv_s, rfv_n, if_true, if_false, bi_01, bi_e0, bi_e1, or_t, Classical.not_not]
    · simp (disch := first | omega | exact ib_r | exact ib_n | exact isB_rfv _ | assumption) only [n193, t193_0 hS, t193_5, s_isStep hS, hi, ↓reduceIte, eq_self, and_self, and_true, true_and, not_true_eq_false, not_false_eq_true, ob_s, tl_s, tl_n, rf_ref, orf_ref, orf_null, nn_ref, nn_null, rfv_s, rfv_n, if_true, if_false, bi_01, bi_e0, bi_e1, or_t, Classical.not_not]
end HOLLOW
