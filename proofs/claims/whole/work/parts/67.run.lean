/-! THE LAW'S LOOP -/
theorem n_end {n i : Nat} (hn : n ≤ 3072) (hi : i ≤ 3072) : (Int32.ofNat n - 6 < Int32.ofNat i) = (n < i + 6) := by
  rw [Int32.lt_iff_toInt_lt, Int32.toInt_sub, n_ti (by omega), n_ti (by omega), show (6 : Int32).toInt = 6 from rfl, Int.bmod_eq_of_le (by omega) (by omega)]
  exact propext ⟨fun z => by omega, fun z => by omega⟩
theorem TO.s {sz sl : Nat} {sh : Nat → Nat × Nat} {R : Nat → Nat → Option Nat} {I : Nat → Nat → Int32} {J : Nat → Nat → Int64} (h : TO sz sl sh R I J) : SF sh R := by
  obtain ⟨W, ns, nl, ny, D, nd, B, nb, rn, P, A, C, cd, cl, T, nt, Tl, Y, hS, _⟩ := h
  exact hS
theorem TO.z {sz sl : Nat} {sh : Nat → Nat × Nat} {R : Nat → Nat → Option Nat} {I : Nat → Nat → Int32} {J : Nat → Nat → Int64} (h : TO sz sl sh R I J) : sz ≤ 600000 ∧ sl ≤ 7302250 := by
  obtain ⟨W, ns, nl, ny, D, nd, B, nb, rn, P, A, C, cd, cl, T, nt, Tl, Y, hS, gZ, gS, gD, gB, gR, gC, gH, gT, gL, gY⟩ := h
  have h1 := gS.1
  have h2 := gL.1
  have h3 := gY.1
  have h4 := gZ.2.2
  constructor <;> omega
section RUN
variable {X : XX} {sz sl : Nat} {sh : Nat → Nat × Nat} {R : Nat → Nat → Option Nat} {I : Nat → Nat → Int32} {J : Nat → Nat → Int64}
theorem lp_add {i j : Nat} (hi : i + 6 ≤ X.1) (hX : X.1 ≤ 3072) (hj : j < 6) : 0 < 3 ∧ inb (Int32.ofNat i + Int32.ofNat j) (tn X 0) := by
  refine ⟨by decide, ?_⟩
  rw [n_add, n_inb (by omega)]
  show i + j < X.1
  omega
theorem lp (h : TO sz sl sh R I J) {i : Nat} (hi : i + 6 ≤ X.1) (hX : X.1 ≤ 3072) : ∃ sz2 sl2 sh2 R2 I2 J2, exe X 200 0 18 [.retAddr 0, .ref 0, .ref 37, .int (Int32.ofNat i)] [] (sz, sl, sh, R, I, J) = exe X 200 0 18 [.retAddr 0, .ref 0, .ref 37, .int (Int32.ofNat (i + 6))] [] (sz2, sl2, sh2, R2, I2, J2) ∧ TO sz2 sl2 sh2 R2 I2 J2 := by
  have hS := h.s
  have b0 : 0 < 3 ∧ inb (Int32.ofNat i) (tn X 0) := ⟨by decide, by rw [n_inb (by omega)]; show i < X.1; omega⟩
  have b1 : 0 < 3 ∧ inb (Int32.ofNat i + 1) (tn X 0) := lp_add (j := 1) hi hX (by decide)
  have b2 : 0 < 3 ∧ inb (Int32.ofNat i + 2) (tn X 0) := lp_add (j := 2) hi hX (by decide)
  have b3 : 0 < 3 ∧ inb (Int32.ofNat i + 3) (tn X 0) := lp_add (j := 3) hi hX (by decide)
  have b4 : 0 < 3 ∧ inb (Int32.ofNat i + 4) (tn X 0) := lp_add (j := 4) hi hX (by decide)
  have b5 : 0 < 3 ∧ inb (Int32.ofNat i + 5) (tn X 0) := lp_add (j := 5) hi hX (by decide)
  have e6 : Int32.ofNat i + 6 = Int32.ofNat (i + 6) := n_add i 6
  rw [t0_18 hS, if_neg (show ¬ Int32.ofNat (tn X 0) - 6 < Int32.ofNat i by rw [show tn X 0 = X.1 from rfl, n_end hX (by omega)]; omega), if_pos b0]
  by_cases q0 : (tv X 0 (Int32.ofNat i).toNatClampNeg &&& 63) = 0
  · obtain ⟨x, sz2, sl2, sh2, R2, I1, J1, I2, J2, c1, c2, c3⟩ := a_step h (a0 := (tv X 0 (Int32.ofNat i + 1).toNatClampNeg)) (a1 := (tv X 0 (Int32.ofNat i + 2).toNatClampNeg)) (a2 := (tv X 0 (Int32.ofNat i + 3).toNatClampNeg)) (X := X)
    refine ⟨sz2, sl2, sh2, R2, I2, J2, ?_, c3⟩
    rw [if_pos q0, if_pos b1, if_pos b2, if_pos b3, c1, ob_s]
    show exe X 200 0 223 _ [.int _] _ = _
    rw [t0_223 c3.s, if_pos b1, if_pos b2, if_pos b3, c2, ob_s]
    show exe X 200 0 242 _ [.int _, .int _] _ = _
    rw [t0_242, if_pos rfl, e6]
  rw [if_neg q0]
  by_cases q1 : (tv X 0 (Int32.ofNat i).toNatClampNeg &&& 63) = 1
  · obtain ⟨x, sz2, sl2, sh2, R2, I1, J1, I2, J2, c1, c2, c3⟩ := a_of h (a0 := (tv X 0 (Int32.ofNat i + 1).toNatClampNeg)) (a1 := (tv X 0 (Int32.ofNat i + 2).toNatClampNeg)) (X := X)
    refine ⟨sz2, sl2, sh2, R2, I2, J2, ?_, c3⟩
    rw [if_pos q1, if_pos b1, if_pos b2, c1, ob_s]
    show exe X 200 0 261 _ [.int _] _ = _
    rw [t0_261 c3.s, if_pos b1, if_pos b2, c2, ob_s]
    show exe X 200 0 275 _ [.int _, .int _] _ = _
    rw [t0_275, if_pos rfl, e6]
  rw [if_neg q1]
  by_cases q2 : (tv X 0 (Int32.ofNat i).toNatClampNeg &&& 63) = 2
  · obtain ⟨x, sz2, sl2, sh2, R2, I1, J1, I2, J2, c1, c2, c3⟩ := a_depth h (a0 := (tv X 0 (Int32.ofNat i + 1).toNatClampNeg)) (a1 := (tv X 0 (Int32.ofNat i + 2).toNatClampNeg)) (X := X)
    refine ⟨sz2, sl2, sh2, R2, I2, J2, ?_, c3⟩
    rw [if_pos q2, if_pos b1, if_pos b2, c1, ob_s]
    show exe X 200 0 294 _ [.int _] _ = _
    rw [t0_294 c3.s, if_pos b1, if_pos b2, c2, ob_s]
    show exe X 200 0 308 _ [.int _, .int _] _ = _
    rw [t0_308, if_pos rfl, e6]
  rw [if_neg q2]
  by_cases q3 : (tv X 0 (Int32.ofNat i).toNatClampNeg &&& 63) = 3
  · obtain ⟨x, sz2, sl2, sh2, R2, I1, J1, I2, J2, c1, c2, c3⟩ := a_mend h (a0 := (tv X 0 (Int32.ofNat i + 1).toNatClampNeg)) (a1 := (tv X 0 (Int32.ofNat i + 2).toNatClampNeg)) (a2 := (tv X 0 (Int32.ofNat i + 3).toNatClampNeg)) (X := X)
    refine ⟨sz2, sl2, sh2, R2, I2, J2, ?_, c3⟩
    rw [if_pos q3, if_pos b1, if_pos b2, if_pos b3, c1, ob_s]
    show exe X 200 0 332 _ [.int _] _ = _
    rw [t0_332 c3.s, if_pos b1, if_pos b2, if_pos b3, c2, ob_s]
    show exe X 200 0 351 _ [.int _, .int _] _ = _
    rw [t0_351, if_pos rfl, e6]
  rw [if_neg q3]
  by_cases q4 : (tv X 0 (Int32.ofNat i).toNatClampNeg &&& 63) = 4
  · obtain ⟨x, sz2, sl2, sh2, R2, I1, J1, I2, J2, c1, c2, c3⟩ := a_depths h (a0 := (tv X 0 (Int32.ofNat i + 1).toNatClampNeg)) (a1 := (tv X 0 (Int32.ofNat i + 2).toNatClampNeg)) (a2 := (tv X 0 (Int32.ofNat i + 3).toNatClampNeg)) (a3 := (tv X 0 (Int32.ofNat i + 4).toNatClampNeg)) (X := X)
    refine ⟨sz2, sl2, sh2, R2, I2, J2, ?_, c3⟩
    rw [if_pos q4, if_pos b1, if_pos b2, if_pos b3, if_pos b4, c1, ob_s]
    show exe X 200 0 380 _ [.int _] _ = _
    rw [t0_380 c3.s, if_pos b1, if_pos b2, if_pos b3, if_pos b4, c2, ob_s]
    show exe X 200 0 404 _ [.int _, .int _] _ = _
    rw [t0_404, if_pos rfl, e6]
  rw [if_neg q4]
  by_cases q5 : (tv X 0 (Int32.ofNat i).toNatClampNeg &&& 63) = 5
  · obtain ⟨x, sz2, sl2, sh2, R2, I1, J1, I2, J2, c1, c2, c3⟩ := a_turn h (a0 := (tv X 0 (Int32.ofNat i + 1).toNatClampNeg)) (a1 := (tv X 0 (Int32.ofNat i + 2).toNatClampNeg)) (X := X)
    refine ⟨sz2, sl2, sh2, R2, I2, J2, ?_, c3⟩
    rw [if_pos q5, if_pos b1, if_pos b2, c1, ob_s]
    show exe X 200 0 423 _ [.int _] _ = _
    rw [t0_423 c3.s, if_pos b1, if_pos b2, c2, ob_s]
    show exe X 200 0 437 _ [.int _, .int _] _ = _
    rw [t0_437, if_pos rfl, e6]
  rw [if_neg q5]
  by_cases q6 : (tv X 0 (Int32.ofNat i).toNatClampNeg &&& 63) = 6
  · obtain ⟨x, sz2, sl2, sh2, R2, I1, J1, I2, J2, c1, c2, c3⟩ := a_older h (a0 := (tv X 0 (Int32.ofNat i + 1).toNatClampNeg)) (X := X)
    refine ⟨sz2, sl2, sh2, R2, I2, J2, ?_, c3⟩
    rw [if_pos q6, if_pos b1, c1, ob_s]
    show exe X 200 0 451 _ [.int _] _ = _
    rw [t0_451 c3.s, if_pos b1, c2, ob_s]
    show exe X 200 0 460 _ [.int _, .int _] _ = _
    rw [t0_460, if_pos rfl, e6]
  rw [if_neg q6]
  by_cases q7 : (tv X 0 (Int32.ofNat i).toNatClampNeg &&& 63) = 7
  · obtain ⟨x, sz2, sl2, sh2, R2, I1, J1, I2, J2, c1, c2, c3⟩ := a_feed h (a0 := (tv X 0 (Int32.ofNat i + 1).toNatClampNeg)) (a1 := (tv X 0 (Int32.ofNat i + 2).toNatClampNeg)) (X := X)
    refine ⟨sz2, sl2, sh2, R2, I2, J2, ?_, c3⟩
    rw [if_pos q7, if_pos b1, if_pos b2, c1, ob_s]
    show exe X 200 0 479 _ [.int _] _ = _
    rw [t0_479 c3.s, if_pos b1, if_pos b2, c2, ob_s]
    show exe X 200 0 493 _ [.int _, .int _] _ = _
    rw [t0_493, if_pos rfl, e6]
  rw [if_neg q7]
  by_cases q8 : (tv X 0 (Int32.ofNat i).toNatClampNeg &&& 63) = 8
  · obtain ⟨x, sz2, sl2, sh2, R2, I1, J1, I2, J2, c1, c2, c3⟩ := a_law h  (X := X)
    refine ⟨sz2, sl2, sh2, R2, I2, J2, ?_, c3⟩
    rw [if_pos q8, c1, ob_s]
    show exe X 200 0 502 _ [.int _] _ = _
    rw [t0_502 c3.s, c2, ob_s]
    show exe X 200 0 506 _ [.int _, .int _] _ = _
    rw [t0_506, if_pos rfl, e6]
  rw [if_neg q8]
  by_cases q9 : (tv X 0 (Int32.ofNat i).toNatClampNeg &&& 63) = 9
  · obtain ⟨x, sz2, sl2, sh2, R2, I1, J1, I2, J2, c1, c2, c3⟩ := a_takes h (a0 := (tv X 0 (Int32.ofNat i + 1).toNatClampNeg)) (a1 := (tv X 0 (Int32.ofNat i + 2).toNatClampNeg)) (a2 := (tv X 0 (Int32.ofNat i + 3).toNatClampNeg)) (X := X)
    refine ⟨sz2, sl2, sh2, R2, I2, J2, ?_, c3⟩
    rw [if_pos q9, if_pos b1, if_pos b2, if_pos b3, c1, ob_s]
    show exe X 200 0 530 _ [.int _] _ = _
    rw [t0_530 c3.s, if_pos b1, if_pos b2, if_pos b3, c2, ob_s]
    show exe X 200 0 549 _ [.int _, .int _] _ = _
    rw [t0_549, if_pos rfl, e6]
  rw [if_neg q9]
  by_cases q10 : (tv X 0 (Int32.ofNat i).toNatClampNeg &&& 63) = 10
  · obtain ⟨x, sz2, sl2, sh2, R2, I1, J1, I2, J2, c1, c2, c3⟩ := a_story h (a0 := (tv X 0 (Int32.ofNat i + 1).toNatClampNeg)) (a1 := (tv X 0 (Int32.ofNat i + 2).toNatClampNeg)) (a2 := (tv X 0 (Int32.ofNat i + 3).toNatClampNeg)) (X := X)
    refine ⟨sz2, sl2, sh2, R2, I2, J2, ?_, c3⟩
    rw [if_pos q10, if_pos b1, if_pos b2, if_pos b3, c1, ob_s]
    show exe X 200 0 573 _ [.int _] _ = _
    rw [t0_573 c3.s, if_pos b1, if_pos b2, if_pos b3, c2, ob_s]
    show exe X 200 0 592 _ [.int _, .int _] _ = _
    rw [t0_592, if_pos rfl, e6]
  rw [if_neg q10]
  by_cases q11 : (tv X 0 (Int32.ofNat i).toNatClampNeg &&& 63) = 11
  · obtain ⟨x, sz2, sl2, sh2, R2, I1, J1, I2, J2, c1, c2, c3⟩ := a_worn h (a0 := (tv X 0 (Int32.ofNat i + 1).toNatClampNeg)) (a1 := (tv X 0 (Int32.ofNat i + 2).toNatClampNeg)) (a2 := (tv X 0 (Int32.ofNat i + 3).toNatClampNeg)) (X := X)
    refine ⟨sz2, sl2, sh2, R2, I2, J2, ?_, c3⟩
    rw [if_pos q11, if_pos b1, if_pos b2, if_pos b3, c1, ob_s]
    show exe X 200 0 616 _ [.int _] _ = _
    rw [t0_616 c3.s, if_pos b1, if_pos b2, if_pos b3, c2, ob_s]
    show exe X 200 0 635 _ [.int _, .int _] _ = _
    rw [t0_635, if_pos rfl, e6]
  rw [if_neg q11]
  by_cases q12 : (tv X 0 (Int32.ofNat i).toNatClampNeg &&& 63) = 12
  · obtain ⟨x, sz2, sl2, sh2, R2, I1, J1, I2, J2, c1, c2, c3⟩ := a_led h (a0 := (tv X 0 (Int32.ofNat i + 1).toNatClampNeg)) (a1 := (tv X 0 (Int32.ofNat i + 2).toNatClampNeg)) (X := X)
    refine ⟨sz2, sl2, sh2, R2, I2, J2, ?_, c3⟩
    rw [if_pos q12, if_pos b1, if_pos b2, c1, ob_s]
    show exe X 200 0 654 _ [.int _] _ = _
    rw [t0_654 c3.s, if_pos b1, if_pos b2, c2, ob_s]
    show exe X 200 0 668 _ [.int _, .int _] _ = _
    rw [t0_668, if_pos rfl, e6]
  rw [if_neg q12]
  by_cases q13 : (tv X 0 (Int32.ofNat i).toNatClampNeg &&& 63) = 13
  · obtain ⟨x, sz2, sl2, sh2, R2, I1, J1, I2, J2, c1, c2, c3⟩ := a_share h (a0 := (tv X 0 (Int32.ofNat i + 1).toNatClampNeg)) (a1 := (tv X 0 (Int32.ofNat i + 2).toNatClampNeg)) (a2 := (tv X 0 (Int32.ofNat i + 3).toNatClampNeg)) (X := X)
    refine ⟨sz2, sl2, sh2, R2, I2, J2, ?_, c3⟩
    rw [if_pos q13, if_pos b1, if_pos b2, if_pos b3, c1, ob_s]
    show exe X 200 0 692 _ [.int _] _ = _
    rw [t0_692 c3.s, if_pos b1, if_pos b2, if_pos b3, c2, ob_s]
    show exe X 200 0 711 _ [.int _, .int _] _ = _
    rw [t0_711, if_pos rfl, e6]
  rw [if_neg q13]
  by_cases q14 : (tv X 0 (Int32.ofNat i).toNatClampNeg &&& 63) = 14
  · obtain ⟨x, sz2, sl2, sh2, R2, I1, J1, I2, J2, c1, c2, c3⟩ := a_shape h (a0 := (tv X 0 (Int32.ofNat i + 1).toNatClampNeg)) (a1 := (tv X 0 (Int32.ofNat i + 2).toNatClampNeg)) (X := X)
    refine ⟨sz2, sl2, sh2, R2, I2, J2, ?_, c3⟩
    rw [if_pos q14, if_pos b1, if_pos b2, c1, ob_s]
    show exe X 200 0 730 _ [.int _] _ = _
    rw [t0_730 c3.s, if_pos b1, if_pos b2, c2, ob_s]
    show exe X 200 0 744 _ [.int _, .int _] _ = _
    rw [t0_744, if_pos rfl, e6]
  rw [if_neg q14]
  by_cases q15 : (tv X 0 (Int32.ofNat i).toNatClampNeg &&& 63) = 15
  · obtain ⟨x, sz2, sl2, sh2, R2, I1, J1, I2, J2, c1, c2, c3⟩ := a_rail h (a0 := (tv X 0 (Int32.ofNat i + 1).toNatClampNeg)) (a1 := (tv X 0 (Int32.ofNat i + 2).toNatClampNeg)) (a2 := (tv X 0 (Int32.ofNat i + 3).toNatClampNeg)) (X := X)
    refine ⟨sz2, sl2, sh2, R2, I2, J2, ?_, c3⟩
    rw [if_pos q15, if_pos b1, if_pos b2, if_pos b3, c1, ob_s]
    show exe X 200 0 768 _ [.int _] _ = _
    rw [t0_768 c3.s, if_pos b1, if_pos b2, if_pos b3, c2, ob_s]
    show exe X 200 0 787 _ [.int _, .int _] _ = _
    rw [t0_787, if_pos rfl, e6]
  rw [if_neg q15]
  by_cases q16 : (tv X 0 (Int32.ofNat i).toNatClampNeg &&& 63) = 16
  · obtain ⟨x, sz2, sl2, sh2, R2, I1, J1, I2, J2, c1, c2, c3⟩ := a_feet h (a0 := (tv X 0 (Int32.ofNat i + 1).toNatClampNeg)) (a1 := (tv X 0 (Int32.ofNat i + 2).toNatClampNeg)) (a2 := (tv X 0 (Int32.ofNat i + 3).toNatClampNeg)) (a3 := (tv X 0 (Int32.ofNat i + 4).toNatClampNeg)) (X := X)
    refine ⟨sz2, sl2, sh2, R2, I2, J2, ?_, c3⟩
    rw [if_pos q16, if_pos b1, if_pos b2, if_pos b3, if_pos b4, c1, ob_s]
    show exe X 200 0 816 _ [.int _] _ = _
    rw [t0_816 c3.s, if_pos b1, if_pos b2, if_pos b3, if_pos b4, c2, ob_s]
    show exe X 200 0 840 _ [.int _, .int _] _ = _
    rw [t0_840, if_pos rfl, e6]
  rw [if_neg q16]
  by_cases q17 : (tv X 0 (Int32.ofNat i).toNatClampNeg &&& 63) = 17
  · obtain ⟨x, sz2, sl2, sh2, R2, I1, J1, I2, J2, c1, c2, c3⟩ := a_shares h (a0 := (tv X 0 (Int32.ofNat i + 1).toNatClampNeg)) (a1 := (tv X 0 (Int32.ofNat i + 2).toNatClampNeg)) (a2 := (tv X 0 (Int32.ofNat i + 3).toNatClampNeg)) (a3 := (tv X 0 (Int32.ofNat i + 4).toNatClampNeg)) (X := X)
    refine ⟨sz2, sl2, sh2, R2, I2, J2, ?_, c3⟩
    rw [if_pos q17, if_pos b1, if_pos b2, if_pos b3, if_pos b4, c1, ob_s]
    show exe X 200 0 869 _ [.int _] _ = _
    rw [t0_869 c3.s, if_pos b1, if_pos b2, if_pos b3, if_pos b4, c2, ob_s]
    show exe X 200 0 893 _ [.int _, .int _] _ = _
    rw [t0_893, if_pos rfl, e6]
  rw [if_neg q17]
  by_cases q18 : (tv X 0 (Int32.ofNat i).toNatClampNeg &&& 63) = 18
  · obtain ⟨x, sz2, sl2, sh2, R2, I1, J1, I2, J2, c1, c2, c3⟩ := a_other h (a0 := (tv X 0 (Int32.ofNat i + 1).toNatClampNeg)) (a1 := (tv X 0 (Int32.ofNat i + 2).toNatClampNeg)) (X := X)
    refine ⟨sz2, sl2, sh2, R2, I2, J2, ?_, c3⟩
    rw [if_pos q18, if_pos b1, if_pos b2, c1, ob_s]
    show exe X 200 0 912 _ [.int _] _ = _
    rw [t0_912 c3.s, if_pos b1, if_pos b2, c2, ob_s]
    show exe X 200 0 926 _ [.int _, .int _] _ = _
    rw [t0_926, if_pos rfl, e6]
  rw [if_neg q18]
  by_cases q19 : (tv X 0 (Int32.ofNat i).toNatClampNeg &&& 63) = 19
  · obtain ⟨x, sz2, sl2, sh2, R2, I1, J1, I2, J2, c1, c2, c3⟩ := a_renewed h (a0 := (tv X 0 (Int32.ofNat i + 1).toNatClampNeg)) (a1 := (tv X 0 (Int32.ofNat i + 2).toNatClampNeg)) (a2 := (tv X 0 (Int32.ofNat i + 3).toNatClampNeg)) (X := X)
    refine ⟨sz2, sl2, sh2, R2, I2, J2, ?_, c3⟩
    rw [if_pos q19, if_pos b1, if_pos b2, if_pos b3, c1, ob_s]
    show exe X 200 0 950 _ [.int _] _ = _
    rw [t0_950 c3.s, if_pos b1, if_pos b2, if_pos b3, c2, ob_s]
    show exe X 200 0 969 _ [.int _, .int _] _ = _
    rw [t0_969, if_pos rfl, e6]
  rw [if_neg q19]
  by_cases q20 : (tv X 0 (Int32.ofNat i).toNatClampNeg &&& 63) = 20
  · obtain ⟨x, sz2, sl2, sh2, R2, I1, J1, I2, J2, c1, c2, c3⟩ := a_fits h (a0 := (tv X 0 (Int32.ofNat i + 1).toNatClampNeg)) (a1 := (tv X 0 (Int32.ofNat i + 2).toNatClampNeg)) (a2 := (tv X 0 (Int32.ofNat i + 3).toNatClampNeg)) (a3 := (tv X 0 (Int32.ofNat i + 4).toNatClampNeg)) (X := X)
    refine ⟨sz2, sl2, sh2, R2, I2, J2, ?_, c3⟩
    rw [if_pos q20, if_pos b1, if_pos b2, if_pos b3, if_pos b4, c1, ob_s]
    show exe X 200 0 998 _ [.int _] _ = _
    rw [t0_998 c3.s, if_pos b1, if_pos b2, if_pos b3, if_pos b4, c2, ob_s]
    show exe X 200 0 1022 _ [.int _, .int _] _ = _
    rw [t0_1022, if_pos rfl, e6]
  rw [if_neg q20]
  by_cases q21 : (tv X 0 (Int32.ofNat i).toNatClampNeg &&& 63) = 21
  · obtain ⟨x, sz2, sl2, sh2, R2, I1, J1, I2, J2, c1, c2, c3⟩ := a_best h (a0 := (tv X 0 (Int32.ofNat i + 1).toNatClampNeg)) (a1 := (tv X 0 (Int32.ofNat i + 2).toNatClampNeg)) (a2 := (tv X 0 (Int32.ofNat i + 3).toNatClampNeg)) (X := X)
    refine ⟨sz2, sl2, sh2, R2, I2, J2, ?_, c3⟩
    rw [if_pos q21, if_pos b1, if_pos b2, if_pos b3, c1, ob_s]
    show exe X 200 0 1046 _ [.int _] _ = _
    rw [t0_1046 c3.s, if_pos b1, if_pos b2, if_pos b3, c2, ob_s]
    show exe X 200 0 1065 _ [.int _, .int _] _ = _
    rw [t0_1065, if_pos rfl, e6]
  rw [if_neg q21]
  by_cases q22 : (tv X 0 (Int32.ofNat i).toNatClampNeg &&& 63) = 22
  · obtain ⟨x, sz2, sl2, sh2, R2, I1, J1, I2, J2, c1, c2, c3⟩ := a_next h (a0 := (tv X 0 (Int32.ofNat i + 1).toNatClampNeg)) (a1 := (tv X 0 (Int32.ofNat i + 2).toNatClampNeg)) (a2 := (tv X 0 (Int32.ofNat i + 3).toNatClampNeg)) (X := X)
    refine ⟨sz2, sl2, sh2, R2, I2, J2, ?_, c3⟩
    rw [if_pos q22, if_pos b1, if_pos b2, if_pos b3, c1, ob_s]
    show exe X 200 0 1089 _ [.int _] _ = _
    rw [t0_1089 c3.s, if_pos b1, if_pos b2, if_pos b3, c2, ob_s]
    show exe X 200 0 1108 _ [.int _, .int _] _ = _
    rw [t0_1108, if_pos rfl, e6]
  rw [if_neg q22]
  by_cases q23 : (tv X 0 (Int32.ofNat i).toNatClampNeg &&& 63) = 23
  · obtain ⟨x, sz2, sl2, sh2, R2, I1, J1, I2, J2, c1, c2, c3⟩ := a_slipped h (a0 := (tv X 0 (Int32.ofNat i + 1).toNatClampNeg)) (a1 := (tv X 0 (Int32.ofNat i + 2).toNatClampNeg)) (a2 := (tv X 0 (Int32.ofNat i + 3).toNatClampNeg)) (X := X)
    refine ⟨sz2, sl2, sh2, R2, I2, J2, ?_, c3⟩
    rw [if_pos q23, if_pos b1, if_pos b2, if_pos b3, c1, ob_s]
    show exe X 200 0 1132 _ [.int _] _ = _
    rw [t0_1132 c3.s, if_pos b1, if_pos b2, if_pos b3, c2, ob_s]
    show exe X 200 0 1151 _ [.int _, .int _] _ = _
    rw [t0_1151, if_pos rfl, e6]
  rw [if_neg q23]
  by_cases q24 : (tv X 0 (Int32.ofNat i).toNatClampNeg &&& 63) = 24
  · obtain ⟨x, sz2, sl2, sh2, R2, I1, J1, I2, J2, c1, c2, c3⟩ := a_day h (a0 := (tv X 0 (Int32.ofNat i + 1).toNatClampNeg)) (X := X)
    refine ⟨sz2, sl2, sh2, R2, I2, J2, ?_, c3⟩
    rw [if_pos q24, if_pos b1, c1, ob_s]
    show exe X 200 0 1165 _ [.int _] _ = _
    rw [t0_1165 c3.s, if_pos b1, c2, ob_s]
    show exe X 200 0 1174 _ [.int _, .int _] _ = _
    rw [t0_1174, if_pos rfl, e6]
  rw [if_neg q24]
  by_cases q25 : (tv X 0 (Int32.ofNat i).toNatClampNeg &&& 63) = 25
  · obtain ⟨x, sz2, sl2, sh2, R2, I1, J1, I2, J2, c1, c2, c3⟩ := a_gate h (a0 := (tv X 0 (Int32.ofNat i + 1).toNatClampNeg)) (X := X)
    refine ⟨sz2, sl2, sh2, R2, I2, J2, ?_, c3⟩
    rw [if_pos q25, if_pos b1, c1, ob_s]
    show exe X 200 0 1188 _ [.int _] _ = _
    rw [t0_1188 c3.s, if_pos b1, c2, ob_s]
    show exe X 200 0 1197 _ [.int _, .int _] _ = _
    rw [t0_1197, if_pos rfl, e6]
  rw [if_neg q25]
  by_cases q26 : (tv X 0 (Int32.ofNat i).toNatClampNeg &&& 63) = 26
  · obtain ⟨x, sz2, sl2, sh2, R2, I1, J1, I2, J2, c1, c2, c3⟩ := a_walk h (a0 := (tv X 0 (Int32.ofNat i + 1).toNatClampNeg)) (a1 := (tv X 0 (Int32.ofNat i + 2).toNatClampNeg)) (X := X)
    refine ⟨sz2, sl2, sh2, R2, I2, J2, ?_, c3⟩
    rw [if_pos q26, if_pos b1, if_pos b2, c1, ob_s]
    show exe X 200 0 1216 _ [.int _] _ = _
    rw [t0_1216 c3.s, if_pos b1, if_pos b2, c2, ob_s]
    show exe X 200 0 1230 _ [.int _, .int _] _ = _
    rw [t0_1230, if_pos rfl, e6]
  rw [if_neg q26]
  by_cases q27 : (tv X 0 (Int32.ofNat i).toNatClampNeg &&& 63) = 27
  · obtain ⟨x, sz2, sl2, sh2, R2, I1, J1, I2, J2, c1, c2, c3⟩ := a_undo h  (X := X)
    refine ⟨sz2, sl2, sh2, R2, I2, J2, ?_, c3⟩
    rw [if_pos q27, c1, ob_s]
    show exe X 200 0 1239 _ [.int _] _ = _
    rw [t0_1239 c3.s, c2, ob_s]
    show exe X 200 0 1243 _ [.int _, .int _] _ = _
    rw [t0_1243, if_pos rfl, e6]
  rw [if_neg q27]
  by_cases q28 : (tv X 0 (Int32.ofNat i).toNatClampNeg &&& 63) = 28
  · obtain ⟨x, sz2, sl2, sh2, R2, I1, J1, I2, J2, c1, c2, c3⟩ := a_redo h  (X := X)
    refine ⟨sz2, sl2, sh2, R2, I2, J2, ?_, c3⟩
    rw [if_pos q28, c1, ob_s]
    show exe X 200 0 1252 _ [.int _] _ = _
    rw [t0_1252 c3.s, c2, ob_s]
    show exe X 200 0 1256 _ [.int _, .int _] _ = _
    rw [t0_1256, if_pos rfl, e6]
  rw [if_neg q28]
  by_cases q29 : (tv X 0 (Int32.ofNat i).toNatClampNeg &&& 63) = 29
  · obtain ⟨x, sz2, sl2, sh2, R2, I1, J1, I2, J2, c1, c2, c3⟩ := a_body h (a0 := (tv X 0 (Int32.ofNat i + 1).toNatClampNeg)) (X := X)
    refine ⟨sz2, sl2, sh2, R2, I2, J2, ?_, c3⟩
    rw [if_pos q29, if_pos b1, c1, ob_s]
    show exe X 200 0 1270 _ [.int _] _ = _
    rw [t0_1270 c3.s, if_pos b1, c2, ob_s]
    show exe X 200 0 1279 _ [.int _, .int _] _ = _
    rw [t0_1279, if_pos rfl, e6]
  rw [if_neg q29]
  by_cases q30 : (tv X 0 (Int32.ofNat i).toNatClampNeg &&& 63) = 30
  · obtain ⟨x, sz2, sl2, sh2, R2, I1, J1, I2, J2, c1, c2, c3⟩ := a_act h (a0 := (tv X 0 (Int32.ofNat i + 1).toNatClampNeg)) (a1 := (tv X 0 (Int32.ofNat i + 2).toNatClampNeg)) (a2 := (tv X 0 (Int32.ofNat i + 3).toNatClampNeg)) (X := X)
    refine ⟨sz2, sl2, sh2, R2, I2, J2, ?_, c3⟩
    rw [if_pos q30, if_pos b1, if_pos b2, if_pos b3, c1, ob_s]
    show exe X 200 0 1303 _ [.int _] _ = _
    rw [t0_1303 c3.s, if_pos b1, if_pos b2, if_pos b3, c2, ob_s]
    show exe X 200 0 1322 _ [.int _, .int _] _ = _
    rw [t0_1322, if_pos rfl, e6]
  rw [if_neg q30]
  by_cases q31 : (tv X 0 (Int32.ofNat i).toNatClampNeg &&& 63) = 31
  · obtain ⟨x, sz2, sl2, sh2, R2, I1, J1, I2, J2, c1, c2, c3⟩ := a_trace h (a0 := (tv X 0 (Int32.ofNat i + 1).toNatClampNeg)) (X := X)
    refine ⟨sz2, sl2, sh2, R2, I2, J2, ?_, c3⟩
    rw [if_pos q31, if_pos b1, c1, ob_s]
    show exe X 200 0 1336 _ [.int _] _ = _
    rw [t0_1336 c3.s, if_pos b1, c2, ob_s]
    show exe X 200 0 1345 _ [.int _, .int _] _ = _
    rw [t0_1345, if_pos rfl, e6]
  rw [if_neg q31]
  by_cases q32 : (tv X 0 (Int32.ofNat i).toNatClampNeg &&& 63) = 32
  · obtain ⟨x, sz2, sl2, sh2, R2, I1, J1, I2, J2, c1, c2, c3⟩ := a_keep h (a0 := (tv X 0 (Int32.ofNat i + 1).toNatClampNeg)) (a1 := (tv X 0 (Int32.ofNat i + 2).toNatClampNeg)) (X := X)
    refine ⟨sz2, sl2, sh2, R2, I2, J2, ?_, c3⟩
    rw [if_pos q32, if_pos b1, if_pos b2, c1, ob_s]
    show exe X 200 0 1364 _ [.int _] _ = _
    rw [t0_1364 c3.s, if_pos b1, if_pos b2, c2, ob_s]
    show exe X 200 0 1378 _ [.int _, .int _] _ = _
    rw [t0_1378, if_pos rfl, e6]
  rw [if_neg q32]
  by_cases q33 : (tv X 0 (Int32.ofNat i).toNatClampNeg &&& 63) = 33
  · obtain ⟨x, sz2, sl2, sh2, R2, I1, J1, I2, J2, c1, c2, c3⟩ := a_row h (a0 := (tv X 0 (Int32.ofNat i + 1).toNatClampNeg)) (a1 := (tv X 0 (Int32.ofNat i + 2).toNatClampNeg)) (a2 := (tv X 0 (Int32.ofNat i + 3).toNatClampNeg)) (X := X)
    refine ⟨sz2, sl2, sh2, R2, I2, J2, ?_, c3⟩
    rw [if_pos q33, if_pos b1, if_pos b2, if_pos b3, c1, ob_s]
    show exe X 200 0 1402 _ [.int _] _ = _
    rw [t0_1402 c3.s, if_pos b1, if_pos b2, if_pos b3, c2, ob_s]
    show exe X 200 0 1421 _ [.int _, .int _] _ = _
    rw [t0_1421, if_pos rfl, e6]
  rw [if_neg q33]
  by_cases q34 : (tv X 0 (Int32.ofNat i).toNatClampNeg &&& 63) = 34
  · obtain ⟨x, sz2, sl2, sh2, R2, I1, J1, I2, J2, c1, c2, c3⟩ := a_put h (a0 := (tv X 0 (Int32.ofNat i + 1).toNatClampNeg)) (a1 := (tv X 0 (Int32.ofNat i + 2).toNatClampNeg)) (a2 := ((Int32.toInt64 (tv X 0 (Int32.ofNat i + 3).toNatClampNeg) <<< (Int32.toInt64 (32) &&& 63)) ||| (Int32.toInt64 (tv X 0 (Int32.ofNat i + 4).toNatClampNeg) &&& (4294967295)))) (X := X)
    refine ⟨sz2, sl2, sh2, R2, I2, J2, ?_, c3⟩
    rw [if_pos q34, if_pos b1, if_pos b2, if_pos b3, if_pos b4, c1, ob_s]
    show exe X 200 0 1460 _ [.int _] _ = _
    rw [t0_1460 c3.s, if_pos b1, if_pos b2, if_pos b3, if_pos b4, c2, ob_s]
    show exe X 200 0 1494 _ [.int _, .int _] _ = _
    rw [t0_1494, if_pos rfl, e6]
  rw [if_neg q34]
  by_cases q35 : (tv X 0 (Int32.ofNat i).toNatClampNeg &&& 63) = 35
  · obtain ⟨x, sz2, sl2, sh2, R2, I1, J1, I2, J2, c1, c2, c3⟩ := a_element h (a0 := (tv X 0 (Int32.ofNat i + 1).toNatClampNeg)) (a1 := (tv X 0 (Int32.ofNat i + 2).toNatClampNeg)) (X := X)
    refine ⟨sz2, sl2, sh2, R2, I2, J2, ?_, c3⟩
    rw [if_pos q35, if_pos b1, if_pos b2, c1, ob_s]
    show exe X 200 0 1513 _ [.long _] _ = _
    rw [t0_1513 c3.s, if_pos b1, if_pos b2, c2, ob_s]
    show exe X 200 0 1527 _ [.long _, .long _] _ = _
    rw [t0_1527, if_pos (show lg_cmp x x = 0 by rw [c_eq]), e6]
  rw [if_neg q35]
  by_cases q36 : (tv X 0 (Int32.ofNat i).toNatClampNeg &&& 63) = 36
  · obtain ⟨x, sz2, sl2, sh2, R2, I1, J1, I2, J2, c1, c2, c3⟩ := a_shift h (a0 := (tv X 0 (Int32.ofNat i + 1).toNatClampNeg)) (a1 := (tv X 0 (Int32.ofNat i + 2).toNatClampNeg)) (a2 := (tv X 0 (Int32.ofNat i + 3).toNatClampNeg)) (a3 := (tv X 0 (Int32.ofNat i + 4).toNatClampNeg)) (a4 := (tv X 0 (Int32.ofNat i + 5).toNatClampNeg)) (X := X)
    refine ⟨sz2, sl2, sh2, R2, I2, J2, ?_, c3⟩
    rw [if_pos q36, if_pos b1, if_pos b2, if_pos b3, if_pos b4, if_pos b5, c1, ob_s]
    show exe X 200 0 1562 _ [.int _] _ = _
    rw [t0_1562 c3.s, if_pos b1, if_pos b2, if_pos b3, if_pos b4, if_pos b5, c2, ob_s]
    show exe X 200 0 1591 _ [.int _, .int _] _ = _
    rw [t0_1591, if_pos rfl, e6]
  rw [if_neg q36]
  by_cases q37 : (tv X 0 (Int32.ofNat i).toNatClampNeg &&& 63) = 37
  · obtain ⟨x, sz2, sl2, sh2, R2, I1, J1, I2, J2, c1, c2, c3⟩ := a_taken h (a0 := (tv X 0 (Int32.ofNat i + 1).toNatClampNeg)) (a1 := (tv X 0 (Int32.ofNat i + 2).toNatClampNeg)) (X := X)
    refine ⟨sz2, sl2, sh2, R2, I2, J2, ?_, c3⟩
    rw [if_pos q37, if_pos b1, if_pos b2, c1, ob_s]
    show exe X 200 0 1610 _ [.int _] _ = _
    rw [t0_1610 c3.s, if_pos b1, if_pos b2, c2, ob_s]
    show exe X 200 0 1624 _ [.int _, .int _] _ = _
    rw [t0_1624, if_pos rfl, e6]
  rw [if_neg q37]
  by_cases q38 : (tv X 0 (Int32.ofNat i).toNatClampNeg &&& 63) = 38
  · obtain ⟨x, sz2, sl2, sh2, R2, I1, J1, I2, J2, c1, c2, c3⟩ := a_count h (a0 := (tv X 0 (Int32.ofNat i + 1).toNatClampNeg)) (X := X)
    refine ⟨sz2, sl2, sh2, R2, I2, J2, ?_, c3⟩
    rw [if_pos q38, if_pos b1, c1, ob_s]
    show exe X 200 0 1638 _ [.int _] _ = _
    rw [t0_1638 c3.s, if_pos b1, c2, ob_s]
    show exe X 200 0 1647 _ [.int _, .int _] _ = _
    rw [t0_1647, if_pos rfl, e6]
  rw [if_neg q38]
  exact ⟨sz, sl, sh, R, I, J, by rw [e6], h⟩
theorem lpn (hX : X.1 ≤ 3072) : ∀ (n i sz sl : Nat) (sh : Nat → Nat × Nat) (R : Nat → Nat → Option Nat) (I : Nat → Nat → Int32) (J : Nat → Nat → Int64), i + 6 * n ≤ X.1 → X.1 < i + 6 * n + 6 → TO sz sl sh R I J → ∃ h2 : HP, exe X 200 0 18 [.retAddr 0, .ref 0, .ref 37, .int (Int32.ofNat i)] [] (sz, sl, sh, R, I, J) = some (some (.int 1), h2) ∧ h2.1 ≤ 600000 ∧ h2.2.1 ≤ 7302250
  | 0, i, sz, sl, sh, R, I, J, h1, h2, h => by
    refine ⟨(sz, sl, sh, R, I, J), ?_, h.z.1, h.z.2⟩
    rw [t0_18 h.s, if_pos (show Int32.ofNat (tn X 0) - 6 < Int32.ofNat i by rw [show tn X 0 = X.1 from rfl, n_end hX (by omega)]; omega)]
  | n + 1, i, sz, sl, sh, R, I, J, h1, h2, h => by
    obtain ⟨sz2, sl2, sh2, R2, I2, J2, e, h'⟩ := lp h (X := X) (i := i) (by omega) hX
    rw [e]
    exact lpn hX n (i + 6) sz2 sl2 sh2 R2 I2 J2 (by omega) (by omega) h'
/-- the heap with which the law's loop begins -/
theorem hD_TO : TO hD.1 hD.2.1 hD.2.2.1 hD.2.2.2.1 hD.2.2.2.2.1 hD.2.2.2.2.2 := by
  obtain ⟨i1, i2, i3, i4, i5, i6, i7, i8, i9, i10, i11, i12, i13, i14, i15, i16, i17, i18⟩ := hD_I
  refine ⟨fun _ _ => 9999, 0, 0, 0, fun _ => 0, 0, fun _ => 0, 0, 0, fun _ => 0, fun _ => 0, fun _ => 0, 0, 0, fun _ => 0, 0, fun _ => [], fun _ _ => 0, ⟨hD_sh, hD_R⟩, ?_, ?_, ?_, ?_, ?_, ?_, ?_, ?_, ?_, ?_⟩
  · exact ⟨Nat.le_of_eq hD_1.1.symm, fun _ _ => rfl, Nat.le_of_eq hD_1.1, hD_1.2⟩
  · exact ⟨Nat.zero_le _, i1, i2, fun _ z => absurd z (Nat.not_lt_zero _), fun _ z => absurd z (Nat.not_lt_zero _), fun _ z => absurd z (Nat.not_lt_zero _), fun _ z => absurd z (Nat.not_lt_zero _), fun _ z => absurd z (Nat.not_lt_zero _), fun _ _ z => absurd z (Nat.not_lt_zero _), fun k _ z => hD_320 k z, fun k _ z => (hD_40 k z).1⟩
  · exact ⟨Nat.zero_le _, i9, i10, fun _ z => absurd z (Nat.not_lt_zero _)⟩
  · exact ⟨Nat.zero_le _, i15, i16, fun _ z => absurd z (Nat.not_lt_zero _)⟩
  · exact ⟨by decide, i17, i18, fun k z => (hD_40 k (by omega)).2⟩
  · exact ⟨Nat.le_refl _, Nat.zero_le _, i11, i12, i13, i14, fun _ z => absurd z (Nat.not_lt_zero _)⟩
  · exact fun s z => Or.inl (hD_6 s z)
  · exact ⟨Nat.zero_le _, i7, i8, fun _ z => absurd z (Nat.not_lt_zero _)⟩
  · exact ⟨Nat.zero_le _, i3, i4, fun _ z => absurd z (Nat.not_lt_zero _)⟩
  · exact ⟨Nat.zero_le _, i5, i6, fun _ z => absurd z (Nat.not_lt_zero _), fun k _ z => (hD_Rn k (by omega)).1, fun _ _ z => absurd z (Nat.not_lt_zero _), fun _ z => absurd z (Nat.not_lt_zero _)⟩
theorem begun (X : XX) : ∃ h1 h2 : HP, ev X 200 1 [.ref 0] (al hp0 (7, 0) 13) = some (none, h1) ∧ h1.1 = 37 ∧ ev X 200 146 [.ref 37] (al h1 (18, 0) 50) = some (none, h2) ∧ TO h2.1 h2.2.1 h2.2.2.1 h2.2.2.2.1 h2.2.2.2.2.1 h2.2.2.2.2.2 :=
  ⟨hB, hD, evq_le 200 _ _ _ _ (vd_eq qX_vd), hB_1, evq_le 200 _ _ _ _ (vd_eq qM_vd), hD_TO⟩
end RUN
/-! what is left: the run of the picture machine on every script -/
theorem pure_main (X : XX) (hX : X.1 ≤ 3072) : ∃ (d : Nat) (h1 : HP), d ≤ 1000 ∧ exe X d 0 0 (ent 0 [.retAddr 0]) [] hp0 = some (some (.int 1), h1) ∧ h1.1 ≤ 600000 ∧ h1.2.1 ≤ 7302250 := by
  obtain ⟨⟨sz, sl, sh, R, I, J⟩, ⟨sz2, sl2, sh2, R2, I2, J2⟩, e1, e37, e2, h⟩ := begun X
  obtain ⟨h2, l1, l2, l3⟩ := lpn (X := X) hX (X.1 / 6) 0 sz2 sl2 sh2 R2 I2 J2 (by omega) (by omega) h
  refine ⟨200, h2, by decide, ?_, l2, l3⟩
  show exe X 200 0 0 [.retAddr 0, dm, dm, dm] [] (0, 0, fun _ => (1000000, 0), fun _ _ => none, fun _ _ => 0, fun _ _ => 0) = _
  rw [t0_0, t0_3 rfl]
  have e37' : sz = 37 := e37
  subst e37'
  have e1' : ev X 200 1 [.ref 0] (0 + 1, 0 + 13, ur (fun _ => (1000000, 0)) 0 (7, 0), ur (fun _ _ => none) 0 (fun _ => none), ur (fun _ _ => 0) 0 (fun _ => 0), ur (fun _ _ => 0) 0 (fun _ => 0)) = some (none, (37, sl, sh, R, I, J)) := e1
  have e2' : ev X 200 146 [.ref 37] (37 + 1, sl + 50, ur sh 37 (18, 0), ur R 37 (fun _ => none), ur I 37 (fun _ => 0), ur J 37 (fun _ => 0)) = some (none, (sz2, sl2, sh2, R2, I2, J2)) := e2
  rw [rf_ref, if_pos (show ur (fun _ => (1000000, 0)) 0 (7, 0) 0 = (7, 0) from if_pos rfl), e1', ob_s]
  show exe X 200 0 7 [.retAddr 0, dm, dm, dm] [.ref 0] (37, sl, sh, R, I, J) = _
  rw [t0_7 rfl]
  show exe X 200 0 11 [.retAddr 0, .ref 0, dm, dm] [.ref 37] _ = _
  rw [t0_11 rfl, rf_ref, if_pos (show ur sh 37 (18, 0) 37 = (18, 0) from if_pos rfl), e2', ob_s]
  show exe X 200 0 15 [.retAddr 0, .ref 0, dm, dm] [.ref 37] (sz2, sl2, sh2, R2, I2, J2) = _
  rw [t0_15 rfl]
  exact l1
