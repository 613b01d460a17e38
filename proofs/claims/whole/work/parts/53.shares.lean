/-! SHARES, OTHER -/
section SHARES
variable {X : XX} {d : Nat} {sz sl : Nat} {sh : Nat → Nat × Nat} {R : Nat → Nat → Option Nat} {I I0 : Nat → Nat → Int32} {J J0 : Nat → Nat → Int64} {W : WW} {ns nl : Nat} {T : Nat → List LN}
theorem o_shares (hS : SF sh R) (G : GS W ns sh R I) (L : GL T W nl sh R I) {v w z u : Int32} : ∃ x I1 I2 J2, ev X (d + 7) 78 [.ref 0, .int v, .int w, .int z, .int u] (sz, sl, sh, R, I, J) = some (some (.int x), (sz, sl, sh, R, I1, J)) ∧ ev X (d + 7) 199 [.ref 37, .int v, .int w, .int z, .int u] (sz, sl, sh, R, I1, J) = some (some (.int x), (sz, sl, sh, R, I2, J2)) ∧ Sc W I I2 ∧ (∀ j k, ¬ (j = 37 ∧ k = 44) → J2 j k = J j k) := by
  have h40 := G.1
  have z1 : ¬ (1 : Int32) = 0 := by decide
  by_cases hv : ∃ l, l < nl ∧ v = Int32.ofNat l
  · obtain ⟨l, hl, rfl⟩ := hv
    have hi := L.is hl
    by_cases hw : ∃ j, j < ns ∧ w = Int32.ofNat j
    · obtain ⟨i, hi', rfl⟩ := hw
      have is : (0 : Int32) ≤ Int32.ofNat i ∧ Int32.ofNat i ≤ I 37 0 - 1 := by rw [G.n2, idx (by omega)]; exact ⟨i, hi', rfl⟩
      by_cases hz : 0 ≤ z ∧ z ≤ 79
      · by_cases hu : 0 ≤ u ∧ u ≤ 2
        · obtain ⟨y, -, hy, rfl⟩ := n_in (a := 0) (b := 79) (by decide) hz.1 hz.2 (by decide)
          have p1 : Int32.ofNat y / 10 = Int32.ofNat (y / 10) := by rw [k_10, n_div (by omega) (by decide)]
          have p2 : Int32.ofNat y - Int32.ofNat (y / 10) * 10 = Int32.ofNat (y % 10) := by rw [k_10, n_rem']
          obtain ⟨I1, a1, a2, a3, a4, a5⟩ := s_findX (X := X) (d := d + 2) (sz := sz) (sl := sl) (J := J) (p := y / 10) (s := y % 10) hS G L hl hi' (by omega)
          have G1 := a2.S G
          have L1 := a2.L L
          have hi1 := L1.is hl
          have is1 : (0 : Int32) ≤ Int32.ofNat i ∧ Int32.ofNat i ≤ I1 37 0 - 1 := by rw [G1.n2, idx (by omega)]; exact ⟨i, hi', rfl⟩
          obtain ⟨I2, J2, b1, b2, b3, b4, b5, b6⟩ := s_findM (X := X) (d := d) (sz := sz) (sl := sl) (J := J) (p := y / 10) (s := y % 10) hS G1 L1 p1 p2 hl hi' (by omega)
          have lt := fnd_lt (Tl := T l) (p := y / 10) (s := y % 10) G hi'
          have b5' : tol (J2 37 44) = Int32.ofNat (fnd W (T l) i (y / 10) (y % 10)).1 := by rw [b5, tol_n (by omega)]
          have td := (s_told (X := X) (d := d + 5) (sz := sz) (sl := sl) (sh := sh) (R := R) (I := I2) (J := J2) (v := J2 37 44)).2
          refine ⟨if u = 0 then Int32.ofNat (fnd W (T l) i (y / 10) (y % 10)).2.1 else if u = 1 then Int32.ofNat (fnd W (T l) i (y / 10) (y % 10)).2.2 else Int32.ofNat (fnd W (T l) i (y / 10) (y % 10)).1, I1, I2, J2, ?_, ?_, a2.trans b2, b6⟩
          · have q : ev X (d + 7) 78 [.ref 0, .int (Int32.ofNat l), .int (Int32.ofNat i), .int (Int32.ofNat y), .int u] (sz, sl, sh, R, I, J) = exe X (d + 6) 78 65 [.ref 0, dm, dm, dm, .int u, dm, dm] [] (sz, sl, sh, R, I1, J) := by
              simp (disch := first | omega | exact ib_r | exact ib_n | exact isB_rfv _ | assumption) only [n78, t78_0 hS, t78_5 hS, t78_12, t78_31, t78_41 hS, s_lawAt hS L hl, s_stepAt hS G hi', s_within, hz, hu, p1, p2, a1, ↓reduceIte, eq_self, and_self, and_true, true_and, not_true_eq_false, not_false_eq_true, ob_s, tl_s, tl_n, rf_ref, orf_ref, orf_null, nn_ref, nn_null, rfv_s, rfv_n, if_true, if_false, bi_01, bi_e0, bi_e1, or_t, Classical.not_not]
            rw [q, t78_65 hS, a3, a4, a5]
            by_cases u0 : u = 0
            · subst u0
              rfl
            · by_cases u1 : u = 1
              · subst u1
                rfl
              · have u2' : u = 2 := by
                  obtain ⟨y2, -, hy2, rfl⟩ := n_in (a := 0) (b := 2) (by decide) hu.1 hu.2 (by decide)
                  have : y2 = 0 ∨ y2 = 1 ∨ y2 = 2 := by omega
                  rcases this with rfl | rfl | rfl
                  · exact absurd rfl u0
                  · exact absurd rfl u1
                  · rfl
                subst u2'
                rfl
          · have q : ev X (d + 7) 199 [.ref 37, .int (Int32.ofNat l), .int (Int32.ofNat i), .int (Int32.ofNat y), .int u] (sz, sl, sh, R, I1, J) = exe X (d + 6) 199 45 [.ref 37, dm, dm, dm, .int u] [] (sz, sl, sh, R, I2, J2) := by
              simp (disch := first | omega | exact ib_r | exact ib_n | exact isB_rfv _ | assumption) only [n199, t199_0 hS, t199_5 hS, t199_13, t199_23, t199_33 hS, s_isLaw hS, hi1, s_isStep hS, is1, z1, s_in, hz, hu, b1, ↓reduceIte, eq_self, and_self, and_true, true_and, not_true_eq_false, not_false_eq_true, ob_s, tl_s, tl_n, rf_ref, orf_ref, orf_null, nn_ref, nn_null, rfv_s, rfv_n, if_true, if_false, bi_01, bi_e0, bi_e1, or_t, Classical.not_not]
            rw [q, t199_45 hS, b3, b4]
            by_cases u0 : u = 0
            · subst u0
              rw [if_neg (fun z => z rfl), t199_77]
              rfl
            · rw [if_pos u0]
              by_cases u1 : u = 1
              · subst u1
                rw [if_neg (fun z => z rfl), t199_77]
                rfl
              · rw [if_pos u1, td, ob_s, b5']
                show exe X (d + 6) 199 77 _ [.int _] _ = _
                rw [t199_77, if_neg u0, if_neg u1]
        · refine ⟨-1, I, I, J, ?_, ?_, Sc.refl, fun _ _ _ => rfl⟩
          · simp (disch := first | omega | exact ib_r | exact ib_n | exact isB_rfv _ | assumption) only [n78, t78_0 hS, t78_5 hS, t78_12, t78_31, t78_41 hS, s_lawAt hS L hl, s_stepAt hS G hi', s_within, hz, hu, ↓reduceIte, eq_self, and_self, and_true, true_and, not_true_eq_false, not_false_eq_true, ob_s, tl_s, tl_n, rf_ref, orf_ref, orf_null, nn_ref, nn_null, rfv_s, rfv_n, if_true, if_false, bi_01, bi_e0, bi_e1, or_t, Classical.not_not]
          · simp (disch := first | omega | exact ib_r | exact ib_n | exact isB_rfv _ | assumption) only [n199, t199_0 hS, t199_5 hS, t199_13, t199_23, t199_33 hS, s_isLaw hS, hi, s_isStep hS, is, z1, s_in, hz, hu, ↓reduceIte, eq_self, and_self, and_true, true_and, not_true_eq_false, not_false_eq_true, ob_s, tl_s, tl_n, rf_ref, orf_ref, orf_null, nn_ref, nn_null, rfv_s, rfv_n, if_true, if_false, bi_01, bi_e0, bi_e1, or_t, Classical.not_not]
      · refine ⟨-1, I, I, J, ?_, ?_, Sc.refl, fun _ _ _ => rfl⟩
        · simp (disch := first | omega | exact ib_r | exact ib_n | exact isB_rfv _ | assumption) only [n78, t78_0 hS, t78_5 hS, t78_12, t78_31, s_lawAt hS L hl, s_stepAt hS G hi', s_within, hz, ↓reduceIte, eq_self, and_self, and_true, true_and, not_true_eq_false, not_false_eq_true, ob_s, tl_s, tl_n, rf_ref, orf_ref, orf_null, nn_ref, nn_null, rfv_s, rfv_n, if_true, if_false, bi_01, bi_e0, bi_e1, or_t, Classical.not_not]
        · simp (disch := first | omega | exact ib_r | exact ib_n | exact isB_rfv _ | assumption) only [n199, t199_0 hS, t199_5 hS, t199_13, t199_23, s_isLaw hS, hi, s_isStep hS, is, z1, s_in, hz, ↓reduceIte, eq_self, and_self, and_true, true_and, not_true_eq_false, not_false_eq_true, ob_s, tl_s, tl_n, rf_ref, orf_ref, orf_null, nn_ref, nn_null, rfv_s, rfv_n, if_true, if_false, bi_01, bi_e0, bi_e1, or_t, Classical.not_not]
    · have is : ¬ ((0 : Int32) ≤ w ∧ w ≤ I 37 0 - 1) := by rw [G.n2, idx (by omega)]; exact hw
      refine ⟨-1, I, I, J, ?_, ?_, Sc.refl, fun _ _ _ => rfl⟩
      · simp (disch := first | omega | exact ib_r | exact ib_n | exact isB_rfv _ | assumption) only [n78, t78_0 hS, t78_5 hS, t78_12, s_lawAt hS L hl, s_stepAt_no hS G hw, ↓reduceIte, eq_self, and_self, and_true, true_and, not_true_eq_false, not_false_eq_true, ob_s, tl_s, tl_n, rf_ref, orf_ref, orf_null, nn_ref, nn_null, rfv_s, rfv_n, if_true, if_false, bi_01, bi_e0, bi_e1, or_t, Classical.not_not]
      · simp (disch := first | omega | exact ib_r | exact ib_n | exact isB_rfv _ | assumption) only [n199, t199_0 hS, t199_5 hS, t199_13, s_isLaw hS, hi, s_isStep hS, is, z1, ↓reduceIte, eq_self, and_self, and_true, true_and, not_true_eq_false, not_false_eq_true, ob_s, tl_s, tl_n, rf_ref, orf_ref, orf_null, nn_ref, nn_null, rfv_s, rfv_n, if_true, if_false, bi_01, bi_e0, bi_e1, or_t, Classical.not_not]
  · have hno := s_lawAt_no (X := X) (d := d + 4) (sz := sz) (sl := sl) (J := J) hS L hv
    have hi := hno.2
    refine ⟨-1, I, I, J, ?_, ?_, Sc.refl, fun _ _ _ => rfl⟩
    · by_cases hw : ∃ j, j < ns ∧ w = Int32.ofNat j
      · obtain ⟨i, hi', rfl⟩ := hw
        simp (disch := first | omega | exact ib_r | exact ib_n | exact isB_rfv _ | assumption) only [n78, t78_0 hS, t78_5 hS, t78_12, hno.1, s_stepAt hS G hi', ↓reduceIte, eq_self, and_self, and_true, true_and, not_true_eq_false, not_false_eq_true, ob_s, tl_s, tl_n, rf_ref, orf_ref, orf_null, nn_ref, nn_null, rfv_s, rfv_n, if_true, if_false, bi_01, bi_e0, bi_e1, or_t, Classical.not_not]
      · simp (disch := first | omega | exact ib_r | exact ib_n | exact isB_rfv _ | assumption) only [n78, t78_0 hS, t78_5 hS, t78_12, hno.1, s_stepAt_no hS G hw, ↓reduceIte, eq_self, and_self, and_true, true_and, not_true_eq_false, not_false_eq_true, ob_s, tl_s, tl_n, rf_ref, orf_ref, orf_null, nn_ref, nn_null, rfv_s, rfv_n, if_true, if_false, bi_01, bi_e0, bi_e1, or_t, Classical.not_not]
    · simp (disch := first | omega | exact ib_r | exact ib_n | exact isB_rfv _ | assumption) only [n199, t199_0 hS, t199_5 hS, s_isLaw hS, hi, ↓reduceIte, eq_self, and_self, and_true, true_and, not_true_eq_false, not_false_eq_true, ob_s, tl_s, tl_n, rf_ref, orf_ref, orf_null, nn_ref, nn_null, rfv_s, rfv_n, if_true, if_false, bi_01, bi_e0, bi_e1, or_t, Classical.not_not]
/-- OTHER: the steps gone through -/
def otr (W : WW) (T : List LN) (p s : Nat) : Nat → Nat → Int32 → Bool → Int32 × Bool
  | 0, _, x, b => (x, b)
  | n + 1, i, x, b => if dp W i = 0 then otr W T p s n (i + 1) x b else otr W T p s n (i + 1) (x + (Int32.ofNat (fnd W T i p s).2.1 - Int32.ofNat (fnd W T i p s).2.2)) true
theorem s_otX (hS : SF sh R) (G : GS W ns sh R I0) (L : GL T W nl sh R I0) {l p s : Nat} {z : Int32} (z1 : z / 10 = Int32.ofNat p) (z2 : z - Int32.ofNat p * 10 = Int32.ofNat s) (hl : l < nl) (hp : p < 8) : ∀ (n i : Nat) (x : Int32) (b : Bool) (I : Nat → Nat → Int32), i + n = ns → Sc W I0 I → ∃ I', exe X (d + 6) 82 31 [.ref 0, dm, .int z, .ref (W 3 l), .int (okn b), .int x, .int (Int32.ofNat i), dm] [] (sz, sl, sh, R, I, J) = some (some (.int (if (otr W (T l) p s n i x b).2 = false then -2 else (otr W (T l) p s n i x b).1)), (sz, sl, sh, R, I', J)) ∧ Sc W I0 I'
  | 0, i, x, b, I, h, hs => by
    obtain rfl : i = ns := h
    refine ⟨I, ?_, hs⟩
    rw [t82_31 hS rfl, (hs.S G).n1, if_pos (Int32.le_refl _), otr]
    cases b with
    | false => rw [if_pos okn_0, if_pos rfl]
    | true => rw [if_neg (by decide), if_neg (show ¬ true = false by decide)]
  | n + 1, i, x, b, I, h, hs => by
    have h40 := G.1
    have hi : i < ns := by omega
    have G1 := hs.S G
    have h2 := (G.2.2.2.1 i hi).2.1
    have hb := (G.2.2.2.2.2.2.2.2.1 i (dc W i) hi dc_lt).2.2.2.2.1
    have hb' : dp W i ≤ 99999 := hb
    rw [t82_31 hS rfl, G1.n1, if_neg (by rw [n_le (by omega) (by omega)]; omega), s_stepAt hS G1 hi, ob_s, otr]
    show ∃ I', exe X (d + 6) 82 46 _ [.ref (W 0 i)] _ = _ ∧ _
    rw [t82_46 rfl rfl, nn_ref, rf_ref, if_pos h2, s_deepestX G1 hi, ob_s]
    show ∃ I', exe X (d + 6) 82 58 _ [.int _] _ = _ ∧ _
    rw [t82_58 hS rfl rfl]
    by_cases q : dp W i = 0
    · rw [if_pos (by rw [k_0, n_le (by omega) (by decide)]; omega), if_pos q, n_suc]
      exact s_otX hS G L z1 z2 hl hp n (i + 1) x b I (by omega) hs
    · obtain ⟨I1, a1, a2, a3, a4, a5⟩ := s_findX (X := X) (d := d + 2) (sz := sz) (sl := sl) (J := J) (p := p) (s := s) hS G1 (hs.L L) hl hi hp
      rw [if_neg (by rw [k_0, n_le (by omega) (by decide)]; omega), if_neg q, z1, z2, a1, ob_s]
      show ∃ I', exe X (d + 6) 82 79 _ [] _ = _ ∧ _
      rw [t82_79 hS rfl, a3, a4, n_suc]
      exact s_otX hS G L z1 z2 hl hp n (i + 1) _ true I1 (by omega) (hs.trans a2)
theorem s_otM (hS : SF sh R) (G : GS W ns sh R I0) (L : GL T W nl sh R I0) {l p s : Nat} {z : Int32} (z1 : z / 10 = Int32.ofNat p) (z2 : z - Int32.ofNat p * 10 = Int32.ofNat s) (hl : l < nl) (hp : p < 8) : ∀ (n i : Nat) (x : Int32) (b : Bool) (I : Nat → Nat → Int32) (J : Nat → Nat → Int64), i + n = ns → Sc W I0 I → (∀ j k, ¬ (j = 37 ∧ k = 44) → J j k = J0 j k) → ∃ I' J', exe X (d + 6) 201 28 [.ref 37, .int (Int32.ofNat l), .int z, .int x, .int (okn b), .int (Int32.ofNat i)] [] (sz, sl, sh, R, I, J) = some (some (.int (if (otr W (T l) p s n i x b).2 = false then -2 else (otr W (T l) p s n i x b).1)), (sz, sl, sh, R, I', J')) ∧ Sc W I0 I' ∧ (∀ j k, ¬ (j = 37 ∧ k = 44) → J' j k = J0 j k)
  | 0, i, x, b, I, J, h, hs, hJ => by
    obtain rfl : i = ns := h
    refine ⟨I, J, ?_, hs, hJ⟩
    rw [t201_28 hS, (hs.S G).n2, if_pos (Int32.le_refl _), otr]
    cases b with
    | false => rw [if_pos okn_0, if_pos rfl]
    | true => rw [if_neg (by decide), if_neg (show ¬ true = false by decide)]
  | n + 1, i, x, b, I, J, h, hs, hJ => by
    have h40 := G.1
    have hi : i < ns := by omega
    have G1 := hs.S G
    have hb : ∀ c, c < 8 → W 15 (8 * i + c) ≤ 99999 := fun c hc => (G.2.2.2.2.2.2.2.2.1 i c hi hc).2.2.2.2.1
    have sle := sumf_le (f := fun c => W 15 (8 * i + c)) (B := 99999) 8 0 (fun c _ hc => hb c (by omega))
    rw [t201_28 hS, G1.n2, if_neg (by rw [n_le (by omega) (by omega)]; omega), s_sumOfM hS G1 hi, ob_s, otr]
    show ∃ I' J', exe X (d + 6) 201 43 _ [.int _] _ = _ ∧ _
    rw [t201_43 hS]
    by_cases q : dp W i = 0
    · have q' := dp_sum.mp q
      rw [if_pos (by rw [k_0, n_le (by omega) (by decide)]; omega), if_pos q, n_suc]
      exact s_otM hS G L z1 z2 hl hp n (i + 1) x b I J (by omega) hs hJ
    · have q' : ¬ sumf (fun c => W 15 (8 * i + c)) 0 8 = 0 := fun z => q (dp_sum.mpr z)
      obtain ⟨I1, J1, a1, a2, a3, a4, a5, a6⟩ := s_findM (X := X) (d := d) (sz := sz) (sl := sl) (J := J) (p := p) (s := s) hS G1 (hs.L L) z1 z2 hl hi hp
      rw [if_neg (by rw [k_0, n_le (by omega) (by decide)]; omega), if_neg q, a1, ob_s]
      show ∃ I' J', exe X (d + 6) 201 57 _ [] _ = _ ∧ _
      rw [t201_57 hS, a3, a4, n_suc]
      exact s_otM hS G L z1 z2 hl hp n (i + 1) _ true I1 J1 (by omega) (hs.trans a2) (fun j k hj => (a6 j k hj).trans (hJ j k hj))
theorem o_other (hS : SF sh R) (G : GS W ns sh R I) (L : GL T W nl sh R I) {v z : Int32} : ∃ x I1 I2 J2, ev X (d + 7) 82 [.ref 0, .int v, .int z] (sz, sl, sh, R, I, J) = some (some (.int x), (sz, sl, sh, R, I1, J)) ∧ ev X (d + 7) 201 [.ref 37, .int v, .int z] (sz, sl, sh, R, I1, J) = some (some (.int x), (sz, sl, sh, R, I2, J2)) ∧ Sc W I I2 ∧ (∀ j k, ¬ (j = 37 ∧ k = 44) → J2 j k = J j k) := by
  have z1 : ¬ (1 : Int32) = 0 := by decide
  by_cases hv : ∃ l, l < nl ∧ v = Int32.ofNat l
  · obtain ⟨l, hl, rfl⟩ := hv
    have hi := L.is hl
    by_cases hz : 0 ≤ z ∧ z ≤ 79
    · obtain ⟨y, -, hy, rfl⟩ := n_in (a := 0) (b := 79) (by decide) hz.1 hz.2 (by decide)
      have p1 : Int32.ofNat y / 10 = Int32.ofNat (y / 10) := by rw [k_10, n_div (by omega) (by decide)]
      have p2 : Int32.ofNat y - Int32.ofNat (y / 10) * 10 = Int32.ofNat (y % 10) := by rw [k_10, n_rem']
      obtain ⟨I1, a1, a2⟩ := s_otX (X := X) (d := d) (sz := sz) (sl := sl) (J := J) hS G L p1 p2 hl (by omega) ns 0 0 false I (Nat.zero_add _) Sc.refl
      obtain ⟨I2, J2, b1, b2, b3⟩ := s_otM (X := X) (d := d) (sz := sz) (sl := sl) (J0 := J) hS G L p1 p2 hl (by omega) ns 0 0 false I1 J (Nat.zero_add _) a2 (fun _ _ _ => rfl)
      have hi1 := (a2.L L).is hl
      refine ⟨if (otr W (T l) (y / 10) (y % 10) ns 0 0 false).2 = false then -2 else (otr W (T l) (y / 10) (y % 10) ns 0 0 false).1, I1, I2, J2, ?_, ?_, b2, b3⟩
      rotate_left
      · have q : ev X (d + 7) 201 [.ref 37, .int (Int32.ofNat l), .int (Int32.ofNat y)] (sz, sl, sh, R, I1, J) = exe X (d + 6) 201 28 [.ref 37, .int (Int32.ofNat l), .int (Int32.ofNat y), .int 0, .int 0, .int 0] [] (sz, sl, sh, R, I1, J) := by
          simp (disch := first | omega | exact ib_r | exact ib_n | exact isB_rfv _ | assumption) only [n201, t201_0 hS, t201_5, t201_15, s_isLaw hS, hi1, z1, s_in, hz, ↓reduceIte, eq_self, and_self, and_true, true_and, not_true_eq_false, not_false_eq_true, ob_s, tl_s, tl_n, rf_ref, orf_ref, orf_null, nn_ref, nn_null, rfv_s, rfv_n, if_true, if_false, bi_01, bi_e0, bi_e1, or_t, Classical.not_not]
        rw [q]
        exact b1
      · have q : ev X (d + 7) 82 [.ref 0, .int (Int32.ofNat l), .int (Int32.ofNat y)] (sz, sl, sh, R, I, J) = exe X (d + 6) 82 31 [.ref 0, dm, .int (Int32.ofNat y), .ref (W 3 l), .int 0, .int 0, .int 0, dm] [] (sz, sl, sh, R, I, J) := by
          simp (disch := first | omega | exact ib_r | exact ib_n | exact isB_rfv _ | assumption) only [n82, t82_0 hS, t82_5, t82_17, s_lawAt hS L hl, s_within, hz, ↓reduceIte, eq_self, and_self, and_true, true_and, not_true_eq_false, not_false_eq_true, ob_s, tl_s, tl_n, rf_ref, orf_ref, orf_null, nn_ref, nn_null, rfv_s, rfv_n, if_true, if_false, bi_01, bi_e0, bi_e1, or_t, Classical.not_not]
        rw [q]
        exact a1
    · refine ⟨-1, I, I, J, ?_, ?_, Sc.refl, fun _ _ _ => rfl⟩
      · simp (disch := first | omega | exact ib_r | exact ib_n | exact isB_rfv _ | assumption) only [n82, t82_0 hS, t82_5, t82_17, s_lawAt hS L hl, s_within, hz, ↓reduceIte, eq_self, and_self, and_true, true_and, not_true_eq_false, not_false_eq_true, ob_s, tl_s, tl_n, rf_ref, orf_ref, orf_null, nn_ref, nn_null, rfv_s, rfv_n, if_true, if_false, bi_01, bi_e0, bi_e1, or_t, Classical.not_not]
      · simp (disch := first | omega | exact ib_r | exact ib_n | exact isB_rfv _ | assumption) only [n201, t201_0 hS, t201_5, t201_15, s_isLaw hS, hi, z1, s_in, hz, ↓reduceIte, eq_self, and_self, and_true, true_and, not_true_eq_false, not_false_eq_true, ob_s, tl_s, tl_n, rf_ref, orf_ref, orf_null, nn_ref, nn_null, rfv_s, rfv_n, if_true, if_false, bi_01, bi_e0, bi_e1, or_t, Classical.not_not]
  · have hno := s_lawAt_no (X := X) (d := d + 4) (sz := sz) (sl := sl) (J := J) hS L hv
    have hi := hno.2
    refine ⟨-1, I, I, J, ?_, ?_, Sc.refl, fun _ _ _ => rfl⟩
    · simp (disch := first | omega | exact ib_r | exact ib_n | exact isB_rfv _ | assumption) only [n82, t82_0 hS, t82_5, hno.1, ↓reduceIte, eq_self, and_self, and_true, true_and, not_true_eq_false, not_false_eq_true, ob_s, tl_s, tl_n, rf_ref, orf_ref, orf_null, nn_ref, nn_null, rfv_s, rfv_n, if_true, if_false, bi_01, bi_e0, bi_e1, or_t, Classical.not_not]
    · simp (disch := first | omega | exact ib_r | exact ib_n | exact isB_rfv _ | assumption) only [n201, t201_0 hS, t201_5, s_isLaw hS, hi, ↓reduceIte, eq_self, and_self, and_true, true_and, not_true_eq_false, not_false_eq_true, ob_s, tl_s, tl_n, rf_ref, orf_ref, orf_null, nn_ref, nn_null, rfv_s, rfv_n, if_true, if_false, bi_01, bi_e0, bi_e1, or_t, Classical.not_not]
end SHARES
