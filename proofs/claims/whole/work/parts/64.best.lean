/-! BEST -/
section BEST
variable {X : XX} {d : Nat} {sz sl : Nat} {sh : Nat → Nat × Nat} {R : Nat → Nat → Option Nat} {I I0 : Nat → Nat → Int32} {J J0 : Nat → Nat → Int64} {W : WW} {ns nl ny : Nat} {T : Nat → List LN} {Y : Nat → Nat → Nat}
theorem ofS_le (V : GY Y W ny sh R I) {Tl : List LN} {s n : Nat} (h : s < 2 ^ ny) (hn : n ≤ 320) (hk : ∀ j, j < n → W 15 j ≤ 99999) : ofS W Tl Y s n ≤ 300000000000000 := by
  have := sumf_le (f := ofk W Tl Y s) (B := 300000000000) n 0 (fun j _ hj => ofk_le V h (hk j (by omega)))
  have : n * 300000000000 ≤ 320 * 300000000000 := Nat.mul_le_mul_right _ hn
  unfold ofS
  omega
theorem s_beI (hS : SF sh R) (G : GS W ns sh R I) (V : GY Y W ny sh R I) {Tl : List LN} {B s : Nat} {u x : Int32} {v : Int64} (hsub : s &&& B = s) (hs : s < 2 ^ ny) (h : h69 W Tl Y ns ny B J) : ∀ (n k acc : Nat), k + n = 8 * ns → exe X (d + 2) 209 86 [.ref 37, dm, .int (Int32.ofNat B), .int u, .int x, .long v, dm, .int (Int32.ofNat s), .long (Int64.ofNat acc), dm, .int (Int32.ofNat k)] [] (sz, sl, sh, R, I, J) = exe X (d + 2) 209 86 [.ref 37, dm, .int (Int32.ofNat B), .int u, .int x, .long v, dm, .int (Int32.ofNat s), .long (Int64.ofNat (acc + sumf (ofk W Tl Y s) k n)), dm, .int (Int32.ofNat (8 * ns))] [] (sz, sl, sh, R, I, J)
  | 0, k, acc, e => by
    obtain rfl : k = 8 * ns := e
    rw [sumf_z, Nat.add_zero acc]
  | n + 1, k, acc, e => by
    have h40 := G.1
    have m := G.m15 (j := k) (by omega)
    have ih := s_beI (u := u) (x := x) (v := v) hS G V hsub hs h n (k + 1) (acc + ofk W Tl Y s k) (by omega)
    rw [Nat.add_assoc acc, ← sumf_s] at ih
    rw [← ih]
    rw [t209_86 hS, G.n2, k_8, n_mul, if_neg (by rw [n_le (by omega) (by omega)]; omega), if_pos (by rw [n_inb (by omega)]; omega), n_cl (by omega), m.2]
    by_cases q : W 15 k = 0
    · rw [if_pos (by rw [k_0, n_le (by omega) (by decide)]; omega), n_suc, Int64.add_zero, show ofk W Tl Y s k = 0 from if_pos q, Nat.add_zero acc]
    · rw [if_neg (by rw [k_0, n_le (by omega) (by decide)]; omega), s_offAt hS G V hsub hs (by omega) q h, ob_s]
      show exe X (d + 2) 209 118 _ [.long _, .long _] _ = _
      rw [t209_118, l_add, n_suc]
theorem s_beO (hS : SF sh R) (G : GS W ns sh R I) (V : GY Y W ny sh R I) {Tl : List LN} {B : Nat} {u : Int32} (hB : B < 2 ^ ny) (B10 : B < 1024) (h : h69 W Tl Y ns ny B J) : ∀ (n s b : Nat), s + n = B + 1 → b < 2 ^ ny → exe X (d + 2) 209 65 [.ref 37, dm, .int (Int32.ofNat B), .int u, .int (Int32.ofNat b), .long (Int64.ofNat (ofS W Tl Y b (8 * ns))), dm, .int (Int32.ofNat s), dm, dm, dm] [] (sz, sl, sh, R, I, J) = some (some (.int (if ¬ u = 0 then tol (Int64.ofNat (ofS W Tl Y (bst (fun s => ofS W Tl Y s (8 * ns)) b ((List.range' s n).filter (fun s => decide (s &&& B = s)))) (8 * ns))) else Int32.ofNat (bst (fun s => ofS W Tl Y s (8 * ns)) b ((List.range' s n).filter (fun s => decide (s &&& B = s)))))), (sz, sl, sh, R, I, J))
  | 0, s, b, e, hb => by
    rw [t209_65, if_pos (by rw [n_lt (by omega) (by omega)]; omega)]
    by_cases hu : u = 0
    · rw [if_neg (fun z => z hu), if_neg (fun z => z hu), t209_174]
      rfl
    · rw [if_pos hu, if_pos hu, (s_told (d := d + 1)).2, ob_s]
      show exe X (d + 2) 209 174 _ [.int _] _ = _
      rw [t209_174]
      rfl
  | n + 1, s, b, e, hb => by
    have h40 := G.1
    have h10 := V.1
    have p10 : 2 ^ ny ≤ 2 ^ 10 := Nat.pow_le_pow_right (by decide) h10
    have m := fun j (hj : j < 8 * ns) => (G.m15 hj).1
    rw [t209_65, if_neg (by rw [n_lt (by omega) (by omega)]; omega), List.range'_succ, n_suc]
    by_cases q : s &&& B = s
    · have hs : s < 2 ^ ny := by omega
      have l1 := ofS_le V (Tl := Tl) hs (show 8 * ns ≤ 320 by omega) m
      have l2 := ofS_le V (Tl := Tl) hb (show 8 * ns ≤ 320 by omega) m
      have bi := s_beI (X := X) (d := d) (sz := sz) (sl := sl) (x := Int32.ofNat b) (v := Int64.ofNat (ofS W Tl Y b (8 * ns))) (u := u) hS G V q hs h (8 * ns) 0 0 (Nat.zero_add _)
      rw [Nat.zero_add] at bi
      rw [if_neg (fun z => z ((m_sub (by omega) B10).mpr q)), List.filter_cons_of_pos (by exact decide_eq_true q), kl_0, k_0, bi, t209_86 hS, G.n2, k_8, n_mul, if_pos (Int32.le_refl _), if_neg (n_m2 (by omega)), bst, n_suc]
      show (if 0 ≤ lg_cmp (Int64.ofNat (ofS W Tl Y s (8 * ns))) _ then _ else _) = _
      by_cases p : ofS W Tl Y b (8 * ns) ≤ ofS W Tl Y s (8 * ns)
      · rw [if_pos p, if_pos (by rw [c_ge, l_le (by omega) (by omega)]; exact p)]
        exact s_beO hS G V hB B10 h n (s + 1) b (by omega) hb
      · rw [if_neg p, if_neg (by rw [c_ge, l_le (by omega) (by omega)]; exact p)]
        exact s_beO hS G V hB B10 h n (s + 1) s (by omega) hs
    · rw [if_pos (fun z => q ((m_sub (by omega) B10).mp z)), List.filter_cons_of_neg (by rw [decide_eq_true_eq]; exact q)]
      exact s_beO hS G V hB B10 h n (s + 1) b (by omega) hb
theorem o_best (hS : SF sh R) (G : GS W ns sh R I) (L : GL T W nl sh R I) (V : GY Y W ny sh R I) {v b u : Int32} : ∃ x I1 J1 I2 J2, ev X (d + 8) 96 [.ref 0, .int v, .int b, .int u] (sz, sl, sh, R, I, J) = some (some (.int x), (sz, sl, sh, R, I1, J1)) ∧ ev X (d + 8) 209 [.ref 37, .int v, .int b, .int u] (sz, sl, sh, R, I1, J1) = some (some (.int x), (sz, sl, sh, R, I2, J2)) ∧ Sc W I I2 ∧ (∀ a i, a ≠ 12 → a ≠ 13 → a ≠ 14 → a ≠ 69 → J2 a i = J a i) := by
  have z1 : ¬ (1 : Int32) = 0 := by decide
  have h10 := V.1
  have h40 := G.1
  by_cases hv : ∃ l, l < nl ∧ v = Int32.ofNat l
  · obtain ⟨l, hl, rfl⟩ := hv
    have hi := L.is hl
    by_cases hb : 0 ≤ b ∧ b ≤ ((1 : Int32) <<< (Int32.ofNat ny &&& 31)) - 1
    · by_cases hu : 0 ≤ u ∧ u ≤ 1
      · have qX : ev X (d + 8) 96 [.ref 0, .int (Int32.ofNat l), .int b, .int u] (sz, sl, sh, R, I, J) = exe X (d + 7) 96 35 [.ref 0, dm, .int b, .int u, .ref (W 3 l), dm] [.int (bcX b)] (sz, sl, sh, R, I, J) := by
          simp (disch := first | omega | exact ib_r | exact ib_n | exact isB_rfv _ | assumption) only [n96, t96_0 hS, t96_5 hS, t96_17, t96_26, s_lawAt hS L hl, s_areX hS V, s_within, s_bitCount, hb, hu, ↓reduceIte, eq_self, and_self, and_true, true_and, not_true_eq_false, not_false_eq_true, ob_s, tl_s, tl_n, rf_ref, orf_ref, orf_null, nn_ref, nn_null, rfv_s, rfv_n, if_true, if_false, bi_01, bi_e0, bi_e1, or_t, Classical.not_not]
        have qM : ∀ (I' : Nat → Nat → Int32) (J' : Nat → Nat → Int64), Sc W I I' → ev X (d + 8) 209 [.ref 37, .int (Int32.ofNat l), .int b, .int u] (sz, sl, sh, R, I', J') = exe X (d + 7) 209 31 [.ref 37, .int (Int32.ofNat l), .int b, .int u, dm, dm, dm, dm, dm, dm, dm] [.int (onM b 10 0 0)] (sz, sl, sh, R, I', J') := by
          intro I' J' hs
          have hi' := (hs.L L).is hl
          simp (disch := first | omega | exact ib_r | exact ib_n | exact isB_rfv _ | assumption) only [n209, t209_0 hS, t209_5 hS, t209_13, t209_22, s_isLaw hS, hi', s_areM hS (hs.Y V), s_in, s_ones, hb, hu, ↓reduceIte, eq_self, and_self, and_true, true_and, not_true_eq_false, not_false_eq_true, ob_s, tl_s, tl_n, rf_ref, orf_ref, orf_null, nn_ref, nn_null, rfv_s, rfv_n, if_true, if_false, bi_01, bi_e0, bi_e1, or_t, Classical.not_not]
        obtain ⟨B, hB, B10, rfl⟩ := ar_B h10 hb
        have pl := pop_le (B := B)
        by_cases hp : pop B ≤ 8
        · have h256 := pop_256 hp
          obtain ⟨I1, J1, a1, a2, a3, a4, a5, a6⟩ := s_weighSets (X := X) (d := d) (sz := sz) (sl := sl) (J := J) hS G L V hl hB h256
          have G1 := a2.S G
          have V1 := a2.Y V
          have ms := s_isMeasured (X := X) (d := d + 6) (sz := sz) (sl := sl) (J := J1) hS G1
          by_cases hm : anm W (8 * ns) 0 false = true
          · obtain ⟨I2, J2, b1, b2, b3, b4⟩ := s_wears (X := X) (d := d) (sz := sz) (sl := sl) (J := J1) hS G1 (a2.L L) V1 hl B10
            have G2 := b2.S G1
            have V2 := b2.Y V1
            have m := fun j (hj : j < 8 * ns) => (G.m15 hj).1
            have mf : ∀ s, s ∈ Lm B 10 → ofS W (T l) Y s (8 * ns) ≤ 300000000000000 := fun s hs => ofS_le V (Lm_in h10 hB hs).1 (by omega) m
            have z0 : (0 : Nat) &&& B = 0 := Nat.zero_and B
            have p0 : 0 < 2 ^ ny := Nat.two_pow_pos ny
            have fin := s_beO (X := X) (d := d + 5) (sz := sz) (sl := sl) (J := J2) (u := u) hS G2 V2 hB B10 b3 B 1 0 (by omega) p0
            have bi := s_beI (X := X) (d := d + 5) (sz := sz) (sl := sl) (x := -2) (v := 0) (u := u) hS G2 V2 z0 p0 b3 (8 * ns) 0 0 (Nat.zero_add _)
            rw [Nat.zero_add, ← k_0, ← kl_0] at bi
            have Lc := Lm_cons B10
            generalize hr : (List.range' 1 B).filter (fun s => decide (s &&& B = s)) = r at fin Lc
            have hr0 : (Lm B 10)[0]? = some 0 := by rw [Lc]; rfl
            have hr1 : (Lm B 10).drop 1 = r := by rw [Lc]; rfl
            obtain ⟨j, c1, c2, c3⟩ := s_neaL (X := X) (d := d + 6) (sz := sz) (sl := sl) (sh := sh) (R := R) (I := I1) (J := J1) hS h256 (a3 hm) a4 mf r 1 0 0 hr1 (by omega) hr0
            rw [← k_0, ← k_1] at c3
            refine ⟨if ¬ u = 0 then tol (Int64.ofNat (ofS W (T l) Y (bst (fun s => ofS W (T l) Y s (8 * ns)) 0 r) (8 * ns))) else Int32.ofNat (bst (fun s => ofS W (T l) Y s (8 * ns)) 0 r), I1, J1, I2, J2, ?_, ?_, a2.trans b2, fun a i x y z w => (b4 a i w).trans (a6 a i x y z)⟩
            · rw [qX, t96_35 hS rfl, bc_pop B B10, if_pos (by rw [k_8, n_le (by omega) (by decide)]; exact hp), a1, ob_s]
              show exe X (d + 7) 96 50 _ [.int _] _ = _
              rw [t96_50 hS, hm, if_pos (by decide), n97, t97_0, c3, ob_s]
              show exe X (d + 7) 96 63 _ [.int _] _ = _
              rw [t96_63 hS]
              by_cases u0 : u = 0
              · rw [if_neg (fun z => z u0), if_neg (fun z => z u0), s_spread B10 c1, ob_s]
                show exe X (d + 7) 96 75 _ [.int _] _ = _
                rw [t96_75, t96_90, spread_Lm c2]
              · rw [if_pos u0, if_pos u0, s_offOf hS h256 a4 c2, ob_s]
                show exe X (d + 7) 96 87 _ [.long _] _ = _
                rw [t96_87, (s_told (d := d + 6)).1, ob_s]
                show exe X (d + 7) 96 90 _ [.int _] _ = _
                rw [t96_90]
            · rw [qM I1 J1 a2, t209_31 hS, on_pop B B10, if_pos (by rw [k_8, n_le (by omega) (by decide)]; exact hp), ms, ob_s]
              show exe X (d + 7) 209 43 _ [.int _] _ = _
              rw [t209_43 hS, hm, if_pos (by decide), b1, ob_s]
              show exe X (d + 7) 209 55 _ [] _ = _
              rw [t209_55, t209_65, if_neg (by rw [k_0, n_lt (by omega) (by omega)]; omega), if_neg (fun z => z (by rw [k_0]; exact (m_sub (by decide) B10).mpr z0)), bi, t209_86 hS, G2.n2, k_8, n_mul, if_pos (Int32.le_refl _), if_pos rfl]
              exact fin
          · have hm' : anm W (8 * ns) 0 false = false := by
              cases q : anm W (8 * ns) 0 false with
              | true => exact absurd q hm
              | false => rfl
            refine ⟨-2, I1, J1, I1, J1, ?_, ?_, a2, fun a i x y z _ => a6 a i x y z⟩
            · rw [qX, t96_35 hS rfl, bc_pop B B10, if_pos (by rw [k_8, n_le (by omega) (by decide)]; exact hp), a1, ob_s]
              show exe X (d + 7) 96 50 _ [.int _] _ = _
              rw [t96_50 hS, hm', if_neg (by decide)]
            · rw [qM I1 J1 a2, t209_31 hS, on_pop B B10, if_pos (by rw [k_8, n_le (by omega) (by decide)]; exact hp), ms, ob_s]
              show exe X (d + 7) 209 43 _ [.int _] _ = _
              rw [t209_43 hS, hm', if_neg (by decide)]
        · refine ⟨-4, I, J, I, J, ?_, ?_, Sc.refl, fun _ _ _ _ _ _ => rfl⟩
          · rw [qX, t96_35 hS rfl, bc_pop B B10, if_neg (by rw [k_8, n_le (by omega) (by decide)]; exact hp)]
          · rw [qM I J Sc.refl, t209_31 hS, on_pop B B10, if_neg (by rw [k_8, n_le (by omega) (by decide)]; exact hp)]
      · refine ⟨-1, I, J, I, J, ?_, ?_, Sc.refl, fun _ _ _ _ _ _ => rfl⟩
        · simp (disch := first | omega | exact ib_r | exact ib_n | exact isB_rfv _ | assumption) only [n96, t96_0 hS, t96_5 hS, t96_17, t96_26, s_lawAt hS L hl, s_areX hS V, s_within, hb, hu, ↓reduceIte, eq_self, and_self, and_true, true_and, not_true_eq_false, not_false_eq_true, ob_s, tl_s, tl_n, rf_ref, orf_ref, orf_null, nn_ref, nn_null, rfv_s, rfv_n, if_true, if_false, bi_01, bi_e0, bi_e1, or_t, Classical.not_not]
        · simp (disch := first | omega | exact ib_r | exact ib_n | exact isB_rfv _ | assumption) only [n209, t209_0 hS, t209_5 hS, t209_13, t209_22, s_isLaw hS, hi, s_areM hS V, s_in, hb, hu, ↓reduceIte, eq_self, and_self, and_true, true_and, not_true_eq_false, not_false_eq_true, ob_s, tl_s, tl_n, rf_ref, orf_ref, orf_null, nn_ref, nn_null, rfv_s, rfv_n, if_true, if_false, bi_01, bi_e0, bi_e1, or_t, Classical.not_not]
    · refine ⟨-1, I, J, I, J, ?_, ?_, Sc.refl, fun _ _ _ _ _ _ => rfl⟩
      · simp (disch := first | omega | exact ib_r | exact ib_n | exact isB_rfv _ | assumption) only [n96, t96_0 hS, t96_5 hS, t96_17, s_lawAt hS L hl, s_areX hS V, hb, ↓reduceIte, eq_self, and_self, and_true, true_and, not_true_eq_false, not_false_eq_true, ob_s, tl_s, tl_n, rf_ref, orf_ref, orf_null, nn_ref, nn_null, rfv_s, rfv_n, if_true, if_false, bi_01, bi_e0, bi_e1, or_t, Classical.not_not]
      · simp (disch := first | omega | exact ib_r | exact ib_n | exact isB_rfv _ | assumption) only [n209, t209_0 hS, t209_5 hS, t209_13, s_isLaw hS, hi, s_areM hS V, hb, ↓reduceIte, eq_self, and_self, and_true, true_and, not_true_eq_false, not_false_eq_true, ob_s, tl_s, tl_n, rf_ref, orf_ref, orf_null, nn_ref, nn_null, rfv_s, rfv_n, if_true, if_false, bi_01, bi_e0, bi_e1, or_t, Classical.not_not]
  · have hno := s_lawAt_no (X := X) (d := d + 5) (sz := sz) (sl := sl) (J := J) hS L hv
    have hi := hno.2
    refine ⟨-1, I, J, I, J, ?_, ?_, Sc.refl, fun _ _ _ _ _ _ => rfl⟩
    · simp (disch := first | omega | exact ib_r | exact ib_n | exact isB_rfv _ | assumption) only [n96, t96_0 hS, t96_5 hS, hno.1, ↓reduceIte, eq_self, and_self, and_true, true_and, not_true_eq_false, not_false_eq_true, ob_s, tl_s, tl_n, rf_ref, orf_ref, orf_null, nn_ref, nn_null, rfv_s, rfv_n, if_true, if_false, bi_01, bi_e0, bi_e1, or_t, Classical.not_not]
    · simp (disch := first | omega | exact ib_r | exact ib_n | exact isB_rfv _ | assumption) only [n209, t209_0 hS, t209_5 hS, s_isLaw hS, hi, ↓reduceIte, eq_self, and_self, and_true, true_and, not_true_eq_false, not_false_eq_true, ob_s, tl_s, tl_n, rf_ref, orf_ref, orf_null, nn_ref, nn_null, rfv_s, rfv_n, if_true, if_false, bi_01, bi_e0, bi_e1, or_t, Classical.not_not]
end BEST
