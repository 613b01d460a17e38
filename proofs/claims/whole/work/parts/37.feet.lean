/-! FEET -/
/-- the feet gone through, from k on -/
def ftr (m : Nat) (f : Nat → Nat) (u : Int32) : Nat → Nat → Nat → Nat → Int32
  | 0, _, mn, mx => Int32.ofNat (if u = 0 then mn else mx)
  | n + 1, k, mn, mx => if f k = 0 then -2 else ftr m f u n (k + 1) (if m / f k < mn then m / f k else mn) (if mx < (m + f k - 1) / f k then (m + f k - 1) / f k else mx)
section FEET
variable {X : XX} {d : Nat} {sz sl : Nat} {sh : Nat → Nat × Nat} {R : Nat → Nat → Option Nat} {I I0 : Nat → Nat → Int32} {J : Nat → Nat → Int64} {W : WW} {ns nl ny : Nat} {T : Nat → List LN} {Y : Nat → Nat → Nat}
def mnf (W : WW) (T : List LN) (i c p k : Nat) : Nat := (tk W T i c p 0 k 0 + tk W T i c p 1 k 0) / 2
theorem mnf_le {W : WW} {T : List LN} {i c p k : Nat} : mnf W T i c p k ≤ 19998 := by
  have h1 := @tk_le W T i c p 0 k 0
  have h2 := @tk_le W T i c p 1 k 0
  unfold mnf
  omega
theorem dv_le {m f : Nat} (h : f ≠ 0) : (m + f - 1) / f ≤ m := by
  rw [Nat.div_le_iff_le_mul_add_pred (by omega)]
  have : m ≤ f * m := Nat.le_mul_of_pos_left m (by omega)
  omega
theorem s_feX (G : GS W ns sh R I) (L : GL T W nl sh R I) {l i c p hi m : Nat} {u : Int32} (hl : l < nl) (hi' : i < ns) (hc : c < 8) (hp : p < 8) (hh : hi < 10) (hm : m ≤ 99999000) : ∀ (n k mn mx : Nat) (I1 : Nat → Nat → Int32), k + n = hi + 1 → mn ≤ 2000000000 → mx ≤ 99999000 → Sc W I I1 → ∃ I', exe X (d + 5) 77 105 [dm, dm, dm, dm, .int u, .ref (W 3 l), .ref (W 0 i), dm, .int (Int32.ofNat hi), .int (Int32.ofNat c), .int (Int32.ofNat p), .int (Int32.ofNat m), .int (Int32.ofNat mn), .int (Int32.ofNat mx), .int (Int32.ofNat k), dm] [] (sz, sl, sh, R, I1, J) = some (some (.int (ftr m (mnf W (T l) i c p) u n k mn mx)), (sz, sl, sh, R, I', J)) ∧ Sc W I I'
  | 0, k, mn, mx, I1, h, h1, h2, hs => by
    refine ⟨I1, ?_, hs⟩
    rw [t77_105 rfl rfl, if_pos (by rw [n_lt (by omega) (by omega)]; omega), ftr]
    by_cases hu : u = 0
    · rw [if_neg (fun z => z hu), if_pos hu]
    · rw [if_pos hu, if_neg hu]
  | n + 1, k, mn, mx, I1, h, h1, h2, hs => by
    have hL := (L.2.2.2 l hl).2.2.2.2.2.1.1
    have e1 : ¬ hi < k := by omega
    obtain ⟨I2, a1, a2⟩ := s_takenAt (X := X) (d := d + 2) (sz := sz) (sl := sl) (J := J) (hs.S G) (hs.L L) hl hi' hc (p := p) (dn := 0) (s := k) (b := 0) hp (by decide)
    obtain ⟨I3, b1, b2⟩ := s_takenAt (X := X) (d := d + 2) (sz := sz) (sl := sl) (J := J) ((hs.trans a2).S G) ((hs.trans a2).L L) hl hi' hc (p := p) (dn := 1) (s := k) (b := 0) hp (by decide)
    rw [← k_0] at a1 b1
    rw [← k_1] at b1
    have q1 := @tk_le W (T l) i c p 0 k 0
    have q2 := @tk_le W (T l) i c p 1 k 0
    have q3 := @mnf_le W (T l) i c p k
    have em : (Int32.ofNat (tk W (T l) i c p 0 k 0) + Int32.ofNat (tk W (T l) i c p 1 k 0)) / 2 = Int32.ofNat (mnf W (T l) i c p k) := by
      rw [n_add, k_2, n_div (by omega) (by decide)]
      rfl
    have first : exe X (d + 5) 77 105 [dm, dm, dm, dm, .int u, .ref (W 3 l), .ref (W 0 i), dm, .int (Int32.ofNat hi), .int (Int32.ofNat c), .int (Int32.ofNat p), .int (Int32.ofNat m), .int (Int32.ofNat mn), .int (Int32.ofNat mx), .int (Int32.ofNat k), dm] [] (sz, sl, sh, R, I1, J) = exe X (d + 5) 77 142 [dm, dm, dm, dm, .int u, .ref (W 3 l), .ref (W 0 i), dm, .int (Int32.ofNat hi), .int (Int32.ofNat c), .int (Int32.ofNat p), .int (Int32.ofNat m), .int (Int32.ofNat mn), .int (Int32.ofNat mx), .int (Int32.ofNat k), dm] [.int (Int32.ofNat (tk W (T l) i c p 1 k 0)), .int (Int32.ofNat (tk W (T l) i c p 0 k 0))] (sz, sl, sh, R, I3, J) := by
      rw [t77_105 rfl rfl, if_neg (by rw [n_lt (by omega) (by omega)]; exact e1), rf_ref, if_pos hL, a1, ob_s]
      show exe X (d + 5) 77 127 _ [.int _] _ = _
      rw [t77_127 rfl rfl, rf_ref, if_pos hL, b1, ob_s]
      rfl
    rw [first, t77_142 rfl rfl, ftr]
    simp only [em]
    by_cases h0 : mnf W (T l) i c p k = 0
    · refine ⟨I3, ?_, (hs.trans a2).trans b2⟩
      rw [if_neg (fun z => z (by rw [h0]; rfl)), if_pos h0]
    · have hz : ¬ Int32.ofNat (mnf W (T l) i c p k) = 0 := by rw [k_0, n_eq (by omega) (by decide)]; exact h0
      have f1 : m / mnf W (T l) i c p k ≤ m := Nat.div_le_self _ _
      have f2 := dv_le (m := m) h0
      have g1 : Int32.ofNat m / Int32.ofNat (mnf W (T l) i c p k) = Int32.ofNat (m / mnf W (T l) i c p k) := n_div (by omega) (by omega)
      have g2 : (Int32.ofNat m + Int32.ofNat (mnf W (T l) i c p k) - 1) / Int32.ofNat (mnf W (T l) i c p k) = Int32.ofNat ((m + mnf W (T l) i c p k - 1) / mnf W (T l) i c p k) := by
        rw [n_add, k_1, n_sub (by omega), n_div (by omega) (by omega)]
      have em1 : (if Int32.ofNat (m / mnf W (T l) i c p k) < Int32.ofNat mn then Int32.ofNat (m / mnf W (T l) i c p k) else Int32.ofNat mn) = Int32.ofNat (if m / mnf W (T l) i c p k < mn then m / mnf W (T l) i c p k else mn) := by
        by_cases q : m / mnf W (T l) i c p k < mn
        · rw [if_pos (by rw [n_lt (by omega) (by omega)]; exact q), if_pos q]
        · rw [if_neg (by rw [n_lt (by omega) (by omega)]; exact q), if_neg q]
      have em2 : (if Int32.ofNat mx < Int32.ofNat ((m + mnf W (T l) i c p k - 1) / mnf W (T l) i c p k) then Int32.ofNat ((m + mnf W (T l) i c p k - 1) / mnf W (T l) i c p k) else Int32.ofNat mx) = Int32.ofNat (if mx < (m + mnf W (T l) i c p k - 1) / mnf W (T l) i c p k then (m + mnf W (T l) i c p k - 1) / mnf W (T l) i c p k else mx) := by
        by_cases q : mx < (m + mnf W (T l) i c p k - 1) / mnf W (T l) i c p k
        · rw [if_pos (by rw [n_lt (by omega) (by omega)]; exact q), if_pos q]
        · rw [if_neg (by rw [n_lt (by omega) (by omega)]; exact q), if_neg q]
      obtain ⟨I4, c1, c2⟩ := s_feX G L (u := u) hl hi' hc hp hh hm n (k + 1) (if m / mnf W (T l) i c p k < mn then m / mnf W (T l) i c p k else mn) (if mx < (m + mnf W (T l) i c p k - 1) / mnf W (T l) i c p k then (m + mnf W (T l) i c p k - 1) / mnf W (T l) i c p k else mx) I3 (by omega) (by split <;> omega) (by split <;> omega) ((hs.trans a2).trans b2)
      refine ⟨I4, ?_, c2⟩
      rw [if_pos hz, if_neg hz, if_neg hz, if_neg h0, ← c1, n_suc]
      simp only [g1, g2, em1, em2]
theorem tol_n {n : Nat} (h : n ≤ 2000000000) : tol (Int64.ofNat n) = Int32.ofNat n := by
  unfold tol
  rw [if_pos (by rw [kl_2000000000, l_le (by omega) (by decide)]; exact h), l_32]
theorem s_feM (hS : SF sh R) (G : GS W ns sh R I) (L : GL T W nl sh R I) {l i c p hi m : Nat} {u w z : Int32} (w1 : w / 10 = Int32.ofNat i) (w2 : w - Int32.ofNat i * 10 = Int32.ofNat c) (z1 : z / 100 = Int32.ofNat p) (z2 : z - z / 10 * 10 = Int32.ofNat hi) (hl : l < nl) (hi' : i < ns) (hc : c < 8) (hp : p < 8) (hh : hi < 10) (hm : m ≤ 99999000) : ∀ (n k mn mx : Nat) (b : Int64) (I1 : Nat → Nat → Int32), k + n = hi + 1 → mn ≤ 2000000000 → mx ≤ 99999000 → (b = Int64.ofNat (if u = 0 then mn else mx) ∨ b = -1 ∧ mn = 2000000000 ∧ mx = 0 ∧ n ≠ 0) → Sc W I I1 → ∃ I', exe X (d + 5) 198 91 [.ref 37, .int (Int32.ofNat l), .int w, .int z, .int u, .long b, dm, .long (Int64.ofNat m), dm, .int (Int32.ofNat k), dm, dm, dm, dm, dm, dm] [] (sz, sl, sh, R, I1, J) = some (some (.int (ftr m (mnf W (T l) i c p) u n k mn mx)), (sz, sl, sh, R, I', J)) ∧ Sc W I I'
  | 0, k, mn, mx, b, I1, h, h1, h2, hb, hs => by
    have hb' : b = Int64.ofNat (if u = 0 then mn else mx) := by
      rcases hb with q | ⟨_, _, _, q⟩
      · exact q
      · exact absurd rfl q
    refine ⟨I1, ?_, hs⟩
    have hx : (if u = 0 then mn else mx) ≤ 2000000000 := by split <;> omega
    rw [t198_91 hS, if_pos (by rw [z2, n_lt (by omega) (by omega)]; omega), (s_told (d := d + 4)).2, ob_s]
    show exe X (d + 5) 198 241 _ [.int _] _ = _
    rw [t198_241, hb', tol_n hx, ftr]
  | n + 1, k, mn, mx, b, I1, h, h1, h2, hb, hs => by
    have e1 : ¬ hi < k := by omega
    obtain ⟨I2, a1, a2⟩ := s_takesOf (X := X) (d := d) (sz := sz) (sl := sl) (J := J) hS (hs.S G) (hs.L L) hl hi' hc (p := p) (dn := 0) (s := k) (b := 0) hp (by decide)
    obtain ⟨I3, b1, b2⟩ := s_takesOf (X := X) (d := d) (sz := sz) (sl := sl) (J := J) hS ((hs.trans a2).S G) ((hs.trans a2).L L) hl hi' hc (p := p) (dn := 1) (s := k) (b := 0) hp (by decide)
    rw [← k_0] at a1 b1
    rw [← k_1] at b1
    have q1 := @tk_le W (T l) i c p 0 k 0
    have q2 := @tk_le W (T l) i c p 1 k 0
    have q3 := @mnf_le W (T l) i c p k
    have em : (Int32.toInt64 (Int32.ofNat (tk W (T l) i c p 0 k 0)) + Int32.toInt64 (Int32.ofNat (tk W (T l) i c p 1 k 0))) / 2 = Int64.ofNat (mnf W (T l) i c p k) := by
      rw [n_64 (by omega), n_64 (by omega), l_add, kl_2, l_div (by omega) (by decide)]
      rfl
    have first : exe X (d + 5) 198 91 [.ref 37, .int (Int32.ofNat l), .int w, .int z, .int u, .long b, dm, .long (Int64.ofNat m), dm, .int (Int32.ofNat k), dm, dm, dm, dm, dm, dm] [] (sz, sl, sh, R, I1, J) = exe X (d + 5) 198 147 [.ref 37, .int (Int32.ofNat l), .int w, .int z, .int u, .long b, dm, .long (Int64.ofNat m), dm, .int (Int32.ofNat k), dm, dm, dm, dm, dm, dm] [.int (Int32.ofNat (tk W (T l) i c p 1 k 0)), .long (Int32.toInt64 (Int32.ofNat (tk W (T l) i c p 0 k 0)))] (sz, sl, sh, R, I3, J) := by
      rw [t198_91 hS, if_neg (by rw [z2, n_lt (by omega) (by omega)]; exact e1), w1, w2, z1, a1, ob_s]
      show exe X (d + 5) 198 121 _ [.int _] _ = _
      rw [t198_121 hS, w1, w2, z1, b1, ob_s]
      rfl
    rw [first, t198_147, ftr]
    simp only [em, c_eq]
    by_cases h0 : mnf W (T l) i c p k = 0
    · refine ⟨I3, ?_, (hs.trans a2).trans b2⟩
      rw [if_neg (fun z => z (by rw [h0]; rfl)), if_pos h0]
    · have hz : ¬ Int64.ofNat (mnf W (T l) i c p k) = 0 := by rw [kl_0, l_eq (by omega) (by decide)]; exact h0
      have f1 : m / mnf W (T l) i c p k ≤ m := Nat.div_le_self _ _
      have f2 := dv_le (m := m) h0
      have g1 : Int64.ofNat m / Int64.ofNat (mnf W (T l) i c p k) = Int64.ofNat (m / mnf W (T l) i c p k) := l_div (by omega) (by omega)
      have g2 : (Int64.ofNat m + Int64.ofNat (mnf W (T l) i c p k) - 1) / Int64.ofNat (mnf W (T l) i c p k) = Int64.ofNat ((m + mnf W (T l) i c p k - 1) / mnf W (T l) i c p k) := by
        rw [l_add, kl_1, l_sub (by omega), l_div (by omega) (by omega)]
      have F : ∀ b' : Int64, b' = Int64.ofNat (if u = 0 then (if m / mnf W (T l) i c p k < mn then m / mnf W (T l) i c p k else mn) else (if mx < (m + mnf W (T l) i c p k - 1) / mnf W (T l) i c p k then (m + mnf W (T l) i c p k - 1) / mnf W (T l) i c p k else mx)) → ∃ I', exe X (d + 5) 198 91 [.ref 37, .int (Int32.ofNat l), .int w, .int z, .int u, .long b', dm, .long (Int64.ofNat m), dm, .int (Int32.ofNat (k + 1)), dm, dm, dm, dm, dm, dm] [] (sz, sl, sh, R, I3, J) = some (some (.int (ftr m (mnf W (T l) i c p) u n (k + 1) (if m / mnf W (T l) i c p k < mn then m / mnf W (T l) i c p k else mn) (if mx < (m + mnf W (T l) i c p k - 1) / mnf W (T l) i c p k then (m + mnf W (T l) i c p k - 1) / mnf W (T l) i c p k else mx))), (sz, sl, sh, R, I', J)) ∧ Sc W I I' := fun b' q => s_feM hS G L w1 w2 z1 z2 hl hi' hc hp hh hm n (k + 1) _ _ b' I3 (by omega) (by split <;> omega) (by split <;> omega) (Or.inl q) ((hs.trans a2).trans b2)
      rw [if_pos hz, if_neg h0, if_neg hz, if_neg hz]
      have neg1 : (-1 : Int64) < 0 := by decide
      by_cases hu : u = 0
      · rw [if_neg (fun z => z hu), g1, t198_188]
        rcases hb with hb | ⟨hb, hb1, hb2, _⟩
        · rw [if_pos hu] at hb
          rw [hb, if_neg (by rw [c_lt, kl_0, l_lt (by omega) (by decide)]; omega), if_neg (fun z => z hu)]
          by_cases q : m / mnf W (T l) i c p k < mn
          · rw [if_neg (by rw [c_ge, l_le (by omega) (by omega)]; omega), n_suc]
            exact F _ (by rw [if_pos hu, if_pos q])
          · rw [if_pos (by rw [c_ge, l_le (by omega) (by omega)]; omega), n_suc]
            exact F _ (by rw [if_pos hu, if_neg q])
        · rw [hb, if_pos (by rw [c_lt]; exact neg1), n_suc]
          exact F _ (by rw [if_pos hu, if_pos (by omega)])
      · rw [if_pos hu, g2, t198_188]
        rcases hb with hb | ⟨hb, hb1, hb2, _⟩
        · rw [if_neg hu] at hb
          rw [hb, if_neg (by rw [c_lt, kl_0, l_lt (by omega) (by decide)]; omega), if_pos hu]
          by_cases q : mx < (m + mnf W (T l) i c p k - 1) / mnf W (T l) i c p k
          · rw [if_neg (by rw [c_le, l_le (by omega) (by omega)]; omega), n_suc]
            exact F _ (by rw [if_neg hu, if_pos q])
          · rw [if_pos (by rw [c_le, l_le (by omega) (by omega)]; omega), n_suc]
            exact F _ (by rw [if_neg hu, if_neg q])
        · rw [hb, if_pos (by rw [c_lt]; exact neg1), n_suc]
          by_cases q : mx < (m + mnf W (T l) i c p k - 1) / mnf W (T l) i c p k
          · exact F _ (by rw [if_neg hu, if_pos q])
          · exact F _ (by rw [if_neg hu, if_neg q, show (m + mnf W (T l) i c p k - 1) / mnf W (T l) i c p k = mx from Nat.le_antisymm (Nat.not_lt.mp q) (by rw [hb2]; exact Nat.zero_le _)])
theorem o_feet (hS : SF sh R) (G : GS W ns sh R I) (L : GL T W nl sh R I) {v w z u : Int32} : ∃ x I1 I2, ev X (d + 6) 77 [.ref 0, .int v, .int w, .int z, .int u] (sz, sl, sh, R, I, J) = some (some (.int x), (sz, sl, sh, R, I1, J)) ∧ ev X (d + 6) 198 [.ref 37, .int v, .int w, .int z, .int u] (sz, sl, sh, R, I1, J) = some (some (.int x), (sz, sl, sh, R, I2, J)) ∧ Sc W I I2 := by
  have h40 := G.1
  have z1 : ¬ (1 : Int32) = 0 := by decide
  by_cases hv : ∃ l, l < nl ∧ v = Int32.ofNat l
  · obtain ⟨l, hl, rfl⟩ := hv
    have hi := L.is hl
    have hL := (L.2.2.2 l hl).2.2.2.2.2.1.1
    by_cases hw : celA ns w
    · obtain ⟨i, c, hi', hc, rfl⟩ := hw
      have e1 : Int32.ofNat (10 * i + c) / 10 = Int32.ofNat i := by rw [k_10, n_div (by omega) (by decide)]; congr 1; omega
      have e2 : Int32.ofNat (10 * i + c) - Int32.ofNat i * 10 = Int32.ofNat c := by rw [← e1, k_10, n_div (by omega) (by decide), n_rem']; congr 1; omega
      have hst := (G.2.2.2.1 i hi').2.1
      by_cases hz : 0 ≤ z ∧ z ≤ 799
      · obtain ⟨y, -, hy, rfl⟩ := n_in (a := 0) (b := 799) (by decide) hz.1 hz.2 (by decide)
        have p1 : Int32.ofNat y / 10 = Int32.ofNat (y / 10) := by rw [k_10, n_div (by omega) (by decide)]
        have p2 : Int32.ofNat (y / 10) / 10 = Int32.ofNat (y / 10 / 10) := by rw [k_10, n_div (by omega) (by decide)]
        have p3 : Int32.ofNat (y / 10) - Int32.ofNat (y / 10 / 10) * 10 = Int32.ofNat (y / 10 % 10) := by rw [k_10, n_rem']
        have p4 : Int32.ofNat y - Int32.ofNat (y / 10) * 10 = Int32.ofNat (y % 10) := by rw [k_10, n_rem']
        have p5 : Int32.ofNat y / 100 = Int32.ofNat (y / 100) := by rw [k_100, n_div (by omega) (by decide)]
        by_cases f1 : Int32.ofNat (y % 10) < Int32.ofNat (y / 10 % 10)
        · refine ⟨-1, I, I, ?_, ?_, Sc.refl⟩
          · simp (disch := first | omega | exact ib_r | exact ib_n | exact isB_rfv _ | assumption) only [n77, t77_0 hS, t77_5 hS, t77_12, t77_47, s_lawAt hS L hl, s_cellX hS G hi' hc, s_within, hz, p1, p2, p3, p4, f1, ↓reduceIte, eq_self, and_self, and_true, true_and, not_true_eq_false, not_false_eq_true, ob_s, tl_s, tl_n, rf_ref, orf_ref, orf_null, nn_ref, nn_null, rfv_s, rfv_n, if_true, if_false, bi_01, bi_e0, bi_e1, or_t, Classical.not_not]
          · simp (disch := first | omega | exact ib_r | exact ib_n | exact isB_rfv _ | assumption) only [n198, t198_0 hS, t198_5 hS, t198_13, t198_24, s_isLaw hS, hi, s_cellM hS G hi' hc, z1, s_in, hz, p1, p2, p3, p4, f1, ↓reduceIte, eq_self, and_self, and_true, true_and, not_true_eq_false, not_false_eq_true, ob_s, tl_s, tl_n, rf_ref, orf_ref, orf_null, nn_ref, nn_null, rfv_s, rfv_n, if_true, if_false, bi_01, bi_e0, bi_e1, or_t, Classical.not_not]
        · by_cases hu : 0 ≤ u ∧ u ≤ 1
          · have f1' : ¬ y % 10 < y / 10 % 10 := fun q => f1 (by rw [n_lt (by omega) (by omega)]; exact q)
            have g9 := G.2.2.2.2.2.2.2.2.1 i c hi' hc
            have gm : W 15 (8 * i + c) ≤ 99999 := g9.2.2.2.2.1
            have em : Int32.ofNat (W 15 (8 * i + c)) * 1000 = Int32.ofNat (W 15 (8 * i + c) * 1000) := by rw [k_1000, n_mul]
            have em2 : Int32.toInt64 (Int32.ofNat (W 15 (8 * i + c))) * 1000 = Int64.ofNat (W 15 (8 * i + c) * 1000) := by rw [n_64 (by omega), kl_1000, l_mul]
            have w2 : Int32.ofNat (10 * i + c) - Int32.ofNat i * 10 = Int32.ofNat c := e2
            obtain ⟨I1, a1, a2⟩ := s_feX (X := X) (d := d) (sz := sz) (sl := sl) (J := J) (u := u) G L hl hi' hc (p := y / 100) (hi := y % 10) (m := W 15 (8 * i + c) * 1000) (by omega) (by omega) (by omega) (y % 10 + 1 - y / 10 % 10) (y / 10 % 10) 2000000000 0 I (by omega) (by omega) (by omega) Sc.refl
            have G1 := a2.S G
            have L1 := a2.L L
            have hi1 := L1.is hl
            have g8 := (G1.2.2.2.2.2.2.2.2.1 i c hi' hc).2.2.1
            obtain ⟨I2, b1, b2⟩ := s_feM (X := X) (d := d) (sz := sz) (sl := sl) (J := J) (u := u) (w := Int32.ofNat (10 * i + c)) (z := Int32.ofNat y) hS G1 L1 e1 w2 p5 (by rw [p1]; exact p4) hl hi' hc (p := y / 100) (hi := y % 10) (m := W 15 (8 * i + c) * 1000) (by omega) (by omega) (by omega) (y % 10 + 1 - y / 10 % 10) (y / 10 % 10) 2000000000 0 (-1) I1 (by omega) (by omega) (by omega) (Or.inr ⟨rfl, rfl, rfl, by omega⟩) Sc.refl
            have i8 : (8 : Int32) * Int32.ofNat i + Int32.ofNat c = Int32.ofNat (8 * i + c) := by rw [k_8, n_mul, n_add]
            have i9 : inb (Int32.ofNat (8 * i + c)) 320 := by rw [n_inb (by omega)]; omega
            have i10 : (Int32.ofNat (8 * i + c)).toNatClampNeg = 8 * i + c := n_cl (by omega)
            refine ⟨ftr (W 15 (8 * i + c) * 1000) (mnf W (T l) i c (y / 100)) u (y % 10 + 1 - y / 10 % 10) (y / 10 % 10) 2000000000 0, I1, I2, ?_, ?_, a2.trans b2⟩
            · rw [← k_2000000000, ← k_0] at a1
              simp (disch := first | omega | exact ib_r | exact ib_n | exact isB_rfv _ | assumption) only [n77, t77_0 hS, t77_5 hS, t77_12, t77_47, t77_64, t77_88, s_lawAt hS L hl, s_cellX hS G hi' hc, s_within, hz, hu, p1, p2, p3, p4, p5, e1, e2, f1, hst, s_measure G hi' hc, em, a1, ↓reduceIte, eq_self, and_self, and_true, true_and, not_true_eq_false, not_false_eq_true, ob_s, tl_s, tl_n, rf_ref, orf_ref, orf_null, nn_ref, nn_null, rfv_s, rfv_n, if_true, if_false, bi_01, bi_e0, bi_e1, or_t, Classical.not_not]
            · simp (disch := first | omega | exact ib_r | exact ib_n | exact isB_rfv _ | assumption) only [n198, t198_0 hS, t198_5 hS, t198_13, t198_24, t198_48 hS, s_isLaw hS, hi1, s_cellM hS G1 hi' hc, z1, s_in, hz, hu, p1, p2, p3, p4, p5, e1, e2, f1, i8, i10, g8, em2, b1, ↓reduceIte, eq_self, and_self, and_true, true_and, not_true_eq_false, not_false_eq_true, ob_s, tl_s, tl_n, rf_ref, orf_ref, orf_null, nn_ref, nn_null, rfv_s, rfv_n, if_true, if_false, bi_01, bi_e0, bi_e1, or_t, Classical.not_not]
              exact if_pos i9
          · refine ⟨-1, I, I, ?_, ?_, Sc.refl⟩
            · simp (disch := first | omega | exact ib_r | exact ib_n | exact isB_rfv _ | assumption) only [n77, t77_0 hS, t77_5 hS, t77_12, t77_47, t77_64, s_lawAt hS L hl, s_cellX hS G hi' hc, s_within, hz, hu, p1, p2, p3, p4, f1, ↓reduceIte, eq_self, and_self, and_true, true_and, not_true_eq_false, not_false_eq_true, ob_s, tl_s, tl_n, rf_ref, orf_ref, orf_null, nn_ref, nn_null, rfv_s, rfv_n, if_true, if_false, bi_01, bi_e0, bi_e1, or_t, Classical.not_not]
            · simp (disch := first | omega | exact ib_r | exact ib_n | exact isB_rfv _ | assumption) only [n198, t198_0 hS, t198_5 hS, t198_13, t198_24, t198_48 hS, s_isLaw hS, hi, s_cellM hS G hi' hc, z1, s_in, hz, hu, p1, p2, p3, p4, f1, ↓reduceIte, eq_self, and_self, and_true, true_and, not_true_eq_false, not_false_eq_true, ob_s, tl_s, tl_n, rf_ref, orf_ref, orf_null, nn_ref, nn_null, rfv_s, rfv_n, if_true, if_false, bi_01, bi_e0, bi_e1, or_t, Classical.not_not]
      · refine ⟨-1, I, I, ?_, ?_, Sc.refl⟩
        · simp (disch := first | omega | exact ib_r | exact ib_n | exact isB_rfv _ | assumption) only [n77, t77_0 hS, t77_5 hS, t77_12, t77_47, s_lawAt hS L hl, s_cellX hS G hi' hc, s_within, hz, ↓reduceIte, eq_self, and_self, and_true, true_and, not_true_eq_false, not_false_eq_true, ob_s, tl_s, tl_n, rf_ref, orf_ref, orf_null, nn_ref, nn_null, rfv_s, rfv_n, if_true, if_false, bi_01, bi_e0, bi_e1, or_t, Classical.not_not]
        · simp (disch := first | omega | exact ib_r | exact ib_n | exact isB_rfv _ | assumption) only [n198, t198_0 hS, t198_5 hS, t198_13, t198_24, s_isLaw hS, hi, s_cellM hS G hi' hc, z1, s_in, hz, ↓reduceIte, eq_self, and_self, and_true, true_and, not_true_eq_false, not_false_eq_true, ob_s, tl_s, tl_n, rf_ref, orf_ref, orf_null, nn_ref, nn_null, rfv_s, rfv_n, if_true, if_false, bi_01, bi_e0, bi_e1, or_t, Classical.not_not]
    · refine ⟨-1, I, I, ?_, ?_, Sc.refl⟩
      · simp (disch := first | omega | exact ib_r | exact ib_n | exact isB_rfv _ | assumption) only [n77, t77_0 hS, t77_5 hS, t77_12, s_lawAt hS L hl, (s_cell_no hS G hw).1, ↓reduceIte, eq_self, and_self, and_true, true_and, not_true_eq_false, not_false_eq_true, ob_s, tl_s, tl_n, rf_ref, orf_ref, orf_null, nn_ref, nn_null, rfv_s, rfv_n, if_true, if_false, bi_01, bi_e0, bi_e1, or_t, Classical.not_not]
      · simp (disch := first | omega | exact ib_r | exact ib_n | exact isB_rfv _ | assumption) only [n198, t198_0 hS, t198_5 hS, t198_13, s_isLaw hS, hi, (s_cell_no hS G hw).2, ↓reduceIte, eq_self, and_self, and_true, true_and, not_true_eq_false, not_false_eq_true, ob_s, tl_s, tl_n, rf_ref, orf_ref, orf_null, nn_ref, nn_null, rfv_s, rfv_n, if_true, if_false, bi_01, bi_e0, bi_e1, or_t, Classical.not_not]
  · have hno := s_lawAt_no (X := X) (d := d + 3) (sz := sz) (sl := sl) (J := J) hS L hv
    have hi := hno.2
    refine ⟨-1, I, I, ?_, ?_, Sc.refl⟩
    · by_cases hw : celA ns w
      · obtain ⟨i, c, hi', hc, rfl⟩ := hw
        simp (disch := first | omega | exact ib_r | exact ib_n | exact isB_rfv _ | assumption) only [n77, t77_0 hS, t77_5 hS, t77_12, hno.1, s_cellX hS G hi' hc, ↓reduceIte, eq_self, and_self, and_true, true_and, not_true_eq_false, not_false_eq_true, ob_s, tl_s, tl_n, rf_ref, orf_ref, orf_null, nn_ref, nn_null, rfv_s, rfv_n, if_true, if_false, bi_01, bi_e0, bi_e1, or_t, Classical.not_not]
      · simp (disch := first | omega | exact ib_r | exact ib_n | exact isB_rfv _ | assumption) only [n77, t77_0 hS, t77_5 hS, t77_12, hno.1, (s_cell_no hS G hw).1, ↓reduceIte, eq_self, and_self, and_true, true_and, not_true_eq_false, not_false_eq_true, ob_s, tl_s, tl_n, rf_ref, orf_ref, orf_null, nn_ref, nn_null, rfv_s, rfv_n, if_true, if_false, bi_01, bi_e0, bi_e1, or_t, Classical.not_not]
    · simp (disch := first | omega | exact ib_r | exact ib_n | exact isB_rfv _ | assumption) only [n198, t198_0 hS, t198_5 hS, s_isLaw hS, hi, ↓reduceIte, eq_self, and_self, and_true, true_and, not_true_eq_false, not_false_eq_true, ob_s, tl_s, tl_n, rf_ref, orf_ref, orf_null, nn_ref, nn_null, rfv_s, rfv_n, if_true, if_false, bi_01, bi_e0, bi_e1, or_t, Classical.not_not]
end FEET
