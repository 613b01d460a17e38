/-! STORIES WEAR -/
theorem l_pos {a b : Nat} (ha : a < 2147483648) (hb : b < 2147483648) : (0 < lg_cmp (Int32.ofNat a - Int32.ofNat b).toInt64 0) = (b < a) := by
  rw [c_gt, Int64.lt_iff_toInt_lt, Int32.toInt_toInt64, Int32.toInt_sub, n_ti ha, n_ti hb, show (0 : Int64).toInt = 0 from rfl, Int.bmod_eq_of_le (by omega) (by omega)]
  exact propext ⟨fun z => by omega, fun z => by omega⟩
/-- worn by one story, of a cell -/
def wo (W : WW) (T : List LN) (Y : Nat → Nat → Nat) (i c t : Nat) : Nat :=
  (Y 1 t - (if Y 0 t < W 12 i then W 12 i else Y 0 t)) * (Y 2 t * tk W T i c (Y 4 t) 0 (Y 5 t) (Y 6 t) + Y 3 t * tk W T i c (Y 4 t) 1 (Y 5 t) (Y 6 t)) * 300 / 1000
theorem wo_le {W : WW} {T : List LN} {Y : Nat → Nat → Nat} {i c t : Nat} (h1 : Y 1 t ≤ 2000) (h2 : Y 2 t ≤ 999) (h3 : Y 3 t ≤ 999) : wo W T Y i c t ≤ 30000000000 ∧ (Y 1 t - (if Y 0 t < W 12 i then W 12 i else Y 0 t)) * (Y 2 t * tk W T i c (Y 4 t) 0 (Y 5 t) (Y 6 t) + Y 3 t * tk W T i c (Y 4 t) 1 (Y 5 t) (Y 6 t)) * 300 ≤ 30000000000000 := by
  have a := @tk_le W T i c (Y 4 t) 0 (Y 5 t) (Y 6 t)
  have b := @tk_le W T i c (Y 4 t) 1 (Y 5 t) (Y 6 t)
  have p : Y 2 t * tk W T i c (Y 4 t) 0 (Y 5 t) (Y 6 t) ≤ 999 * 19998 := Nat.mul_le_mul h2 a
  have q : Y 3 t * tk W T i c (Y 4 t) 1 (Y 5 t) (Y 6 t) ≤ 999 * 19998 := Nat.mul_le_mul h3 b
  have r : (Y 1 t - (if Y 0 t < W 12 i then W 12 i else Y 0 t)) * (Y 2 t * tk W T i c (Y 4 t) 0 (Y 5 t) (Y 6 t) + Y 3 t * tk W T i c (Y 4 t) 1 (Y 5 t) (Y 6 t)) ≤ 2000 * (999 * 19998 + 999 * 19998) := Nat.mul_le_mul (by omega) (by omega)
  unfold wo
  constructor
  · omega
  · omega
section WORN
variable {X : XX} {d : Nat} {sz sl : Nat} {sh : Nat → Nat × Nat} {R : Nat → Nat → Option Nat} {I I0 : Nat → Nat → Int32} {J : Nat → Nat → Int64} {W : WW} {ns nl ny : Nat} {T : Nat → List LN} {Y : Nat → Nat → Nat}
theorem s_wornOff (G : GS W ns sh R I) (L : GL T W nl sh R I) (V : GY Y W ny sh R I) {l i c t : Nat} (hl : l < nl) (hi : i < ns) (hc : c < 8) (ht : t < ny) : ∃ I', ev X (d + 4) 67 [.ref (W 7 t), .ref (W 3 l), .ref (W 0 i), .int (Int32.ofNat c)] (sz, sl, sh, R, I, J) = some (some (.long (Int64.ofNat (wo W (T l) Y i c t))), (sz, sl, sh, R, I', J)) ∧ Sc W I I' := by
  have h := G.2.2.2.1 i hi
  have hI := G.2.2.2.2.2.1 i hi
  have hL := (L.2.2.2 l hl).2.2.2.2.2.1.1
  have hV := V.2.2.2.1 t ht
  have hv := fun k (hk : k < 7) => (V.2.2.2.2.2.1 t k ht hk).1
  have hb := V.2.2.2.2.2.2 t ht
  have g5 := G.2.2.2.2.2.2.2.1 i hi
  have em : (if Int32.ofNat (Y 0 t) < Int32.ofNat (W 12 i) then Int32.ofNat (W 12 i) else Int32.ofNat (Y 0 t)) = Int32.ofNat (if Y 0 t < W 12 i then W 12 i else Y 0 t) := by
    by_cases q : Y 0 t < W 12 i
    · rw [if_pos (by rw [n_lt (by omega) (by omega)]; exact q), if_pos q]
    · rw [if_neg (by rw [n_lt (by omega) (by omega)]; exact q), if_neg q]
  have hm : (if Y 0 t < W 12 i then W 12 i else Y 0 t) ≤ 2000 := by split <;> omega
  have X0 : ∀ A B : Option Rs, (if 0 < lg_cmp (Int32.ofNat (Y 1 t) - (if Int32.ofNat (Y 0 t) < Int32.ofNat (W 12 i) then Int32.ofNat (W 12 i) else Int32.ofNat (Y 0 t))).toInt64 0 then A else B) = if (if Y 0 t < W 12 i then W 12 i else Y 0 t) < Y 1 t then A else B := by
    intro A B
    rw [em]
    by_cases q : (if Y 0 t < W 12 i then W 12 i else Y 0 t) < Y 1 t
    · rw [if_pos (by rw [l_pos (by omega) (by omega)]; exact q), if_pos q]
    · rw [if_neg (by rw [l_pos (by omega) (by omega)]; exact q), if_neg q]
  by_cases hy : (if Y 0 t < W 12 i then W 12 i else Y 0 t) < Y 1 t
  · obtain ⟨I1, a1, a2⟩ := s_takenAt (X := X) (d := d) (sz := sz) (sl := sl) (J := J) G L hl hi hc (p := Y 4 t) (dn := 0) (s := Y 5 t) (b := Y 6 t) (by omega) (by omega)
    have G1 := a2.S G
    have L1 := a2.L L
    have V1 := a2.Y V
    have hv1 := fun k (hk : k < 7) => (V1.2.2.2.2.2.1 t k ht hk).1
    obtain ⟨I2, b1, b2⟩ := s_takenAt (X := X) (d := d) (sz := sz) (sl := sl) (J := J) G1 L1 hl hi hc (p := Y 4 t) (dn := 1) (s := Y 5 t) (b := Y 6 t) (by omega) (by omega)
    rw [← k_0] at a1
    rw [← k_1] at b1
    refine ⟨I2, ?_, a2.trans b2⟩
    rw [n67, t67_0 hV.2.1, rf_ref, if_pos h.2.1, hv 0 (by decide), hv 1 (by decide), hI.2.2.1, X0, if_pos hy, if_pos hL, hv 4 (by decide), hv 5 (by decide), hv 6 (by decide), hv 2 (by decide), a1, ob_s]
    show exe X (d + 3) 67 52 _ [.int _, .long _] _ = _
    rw [t67_52 hV.2.1, if_pos hL, hv1 4 (by decide), hv1 5 (by decide), hv1 6 (by decide), hv1 3 (by decide), b1, ob_s]
    show exe X (d + 3) 67 78 _ [.int _, .long _, .long _] _ = _
    have tk1 := @tk_le W (T l) i c (Y 4 t) 0 (Y 5 t) (Y 6 t)
    have tk2 := @tk_le W (T l) i c (Y 4 t) 1 (Y 5 t) (Y 6 t)
    have wl := wo_le (W := W) (T := T l) (i := i) (c := c) hb.2.1 hb.2.2.1 hb.2.2.2.1
    rw [t67_78, em, n_sub (by omega), n_64 (by omega), n_64 (by omega), n_64 (by omega), n_64 (by omega), n_64 (by omega), l_mul, l_mul, l_add, l_mul, kl_300, l_mul, kl_1000, l_div (by omega) (by omega)]
    rfl
  · refine ⟨I, ?_, Sc.refl⟩
    rw [n67, t67_0 hV.2.1, rf_ref, if_pos h.2.1, hv 0 (by decide), hv 1 (by decide), hI.2.2.1, X0, if_neg hy]
    unfold wo
    rw [Nat.sub_eq_zero_of_le (by omega), Nat.zero_mul, Nat.zero_mul]
    rfl
theorem s_wornBy (hS : SF sh R) (G : GS W ns sh R I) (L : GL T W nl sh R I) (V : GY Y W ny sh R I) {l i c t : Nat} (hl : l < nl) (hi : i < ns) (hc : c < 8) (ht : t < ny) : ∃ I', ev X (d + 6) 189 [.ref 37, .int (Int32.ofNat l), .int (Int32.ofNat i), .int (Int32.ofNat c), .int (Int32.ofNat t)] (sz, sl, sh, R, I, J) = some (some (.long (Int64.ofNat (wo W (T l) Y i c t))), (sz, sl, sh, R, I', J)) ∧ Sc W I I' := by
  have h40 := G.1
  have h10 := V.1
  have g4 := G.2.2.2.2.2.2.1 i hi
  have g5 := G.2.2.2.2.2.2.2.1 i hi
  have hv := fun k (hk : k < 7) => (V.2.2.2.2.2.1 t k ht hk).2
  have hb := V.2.2.2.2.2.2 t ht
  have f1 : t < 10 := by omega
  have f2 : i < 40 := by omega
  have ib : inb (Int32.ofNat t) 10 := by rw [n_inb (by omega)]; exact f1
  have v0 : I 48 t = Int32.ofNat (Y 0 t) := hv 0 (by decide)
  have v1 : I 49 t = Int32.ofNat (Y 1 t) := hv 1 (by decide)
  have v4 : I 52 t = Int32.ofNat (Y 4 t) := hv 4 (by decide)
  have v5 : I 53 t = Int32.ofNat (Y 5 t) := hv 5 (by decide)
  have v6 : I 54 t = Int32.ofNat (Y 6 t) := hv 6 (by decide)
  have hm : (if Y 0 t < W 12 i then W 12 i else Y 0 t) ≤ 2000 := by split <;> omega
  have M0 : ev X (d + 6) 189 [.ref 37, .int (Int32.ofNat l), .int (Int32.ofNat i), .int (Int32.ofNat c), .int (Int32.ofNat t)] (sz, sl, sh, R, I, J) = exe X (d + 5) 189 39 [.ref 37, .int (Int32.ofNat l), .int (Int32.ofNat i), .int (Int32.ofNat c), .int (Int32.ofNat t), dm, dm, dm, dm, dm, dm] [.int (Int32.ofNat (if Y 0 t < W 12 i then W 12 i else Y 0 t)), .int (Int32.ofNat (Y 1 t))] (sz, sl, sh, R, I, J) := by
    by_cases q : Y 0 t ≤ W 12 i
    · have eq : (if Y 0 t < W 12 i then W 12 i else Y 0 t) = W 12 i := by split <;> omega
      rw [eq]
      simp (disch := first | omega | exact ib_r | exact ib_n | exact isB_rfv _ | assumption) only [n189, t189_0 hS, n_inb, n_cl, f1, f2, v0, v1, g4.2.2.1, n_le, q, ↓reduceIte, eq_self, and_self, and_true, true_and, not_true_eq_false, not_false_eq_true, ob_s, tl_s, tl_n, rf_ref, orf_ref, orf_null, nn_ref, nn_null, rfv_s, rfv_n, if_true, if_false, bi_01, bi_e0, bi_e1, or_t, Classical.not_not]
    · have eq : (if Y 0 t < W 12 i then W 12 i else Y 0 t) = Y 0 t := by split <;> omega
      rw [eq]
      simp (disch := first | omega | exact ib_r | exact ib_n | exact isB_rfv _ | assumption) only [n189, t189_0 hS, n_inb, n_cl, f1, f2, v0, v1, g4.2.2.1, n_le, q, ↓reduceIte, eq_self, and_self, and_true, true_and, not_true_eq_false, not_false_eq_true, ob_s, tl_s, tl_n, rf_ref, orf_ref, orf_null, nn_ref, nn_null, rfv_s, rfv_n, if_true, if_false, bi_01, bi_e0, bi_e1, or_t, Classical.not_not]
  by_cases hy : (if Y 0 t < W 12 i then W 12 i else Y 0 t) < Y 1 t
  · obtain ⟨I1, a1, a2⟩ := s_takesOf (X := X) (d := d) (sz := sz) (sl := sl) (J := J) hS G L hl hi hc (p := Y 4 t) (dn := 0) (s := Y 5 t) (b := Y 6 t) (by omega) (by omega)
    have G1 := a2.S G
    have L1 := a2.L L
    have V1 := a2.Y V
    have hv1 := fun k (hk : k < 7) => (V1.2.2.2.2.2.1 t k ht hk).2
    obtain ⟨I2, b1, b2⟩ := s_takesOf (X := X) (d := d) (sz := sz) (sl := sl) (J := J) hS G1 L1 hl hi hc (p := Y 4 t) (dn := 1) (s := Y 5 t) (b := Y 6 t) (by omega) (by omega)
    have V2 := b2.Y V1
    have hv2 := fun k (hk : k < 7) => (V2.2.2.2.2.2.1 t k ht hk).2
    have w4 : I1 52 t = Int32.ofNat (Y 4 t) := hv1 4 (by decide)
    have w5 : I1 53 t = Int32.ofNat (Y 5 t) := hv1 5 (by decide)
    have w6 : I1 54 t = Int32.ofNat (Y 6 t) := hv1 6 (by decide)
    have x2 : I2 50 t = Int32.ofNat (Y 2 t) := hv2 2 (by decide)
    have x3 : I2 51 t = Int32.ofNat (Y 3 t) := hv2 3 (by decide)
    rw [← k_0] at a1
    rw [← k_1] at b1
    have tk1 := @tk_le W (T l) i c (Y 4 t) 0 (Y 5 t) (Y 6 t)
    have tk2 := @tk_le W (T l) i c (Y 4 t) 1 (Y 5 t) (Y 6 t)
    have wl := wo_le (W := W) (T := T l) (i := i) (c := c) hb.2.1 hb.2.2.1 hb.2.2.2.1
    refine ⟨I2, ?_, a2.trans b2⟩
    rw [M0, t189_39 hS, if_pos (by rw [l_pos (by omega) (by omega)]; exact hy), if_pos ib, if_pos ib, if_pos ib, n_cl (by omega), v4, v5, v6, a1, ob_s]
    show exe X (d + 5) 189 81 _ [.int _] _ = _
    rw [t189_81 hS, if_pos ib, if_pos ib, if_pos ib, n_cl (by omega), w4, w5, w6, b1, ob_s]
    show exe X (d + 5) 189 113 _ [.int _] _ = _
    rw [t189_113 hS, if_pos ib, if_pos ib, n_cl (by omega), x2, x3]
    rw [n_sub (by omega), n_64 (by omega), n_64 (by omega), n_64 (by omega), n_64 (by omega), n_64 (by omega), l_mul, l_mul, l_add, l_mul, kl_300, l_mul, kl_1000, l_div (by omega) (by omega)]
    rfl
  · refine ⟨I, ?_, Sc.refl⟩
    rw [M0, t189_39 hS, if_neg (by rw [l_pos (by omega) (by omega)]; exact hy)]
    unfold wo
    rw [Nat.sub_eq_zero_of_le (by omega), Nat.zero_mul, Nat.zero_mul]
    rfl
/-- is the story t in the set? -/
def bt (b : Int32) (t : Nat) : Bool := decide (((b >>> (Int32.ofNat t &&& 31)) &&& 1) = 1)
/-- worn by a set -/
def ws (W : WW) (T : List LN) (Y : Nat → Nat → Nat) (b : Int32) (i c t : Nat) : Nat := if bt b t = true then wo W T Y i c t else 0
theorem ws_le (V : GY Y W ny sh R I) {T : List LN} {b : Int32} {i c t : Nat} (ht : t < ny) : ws W T Y b i c t ≤ 30000000000 := by
  have hb := V.2.2.2.2.2.2 t ht
  unfold ws
  split
  · exact (wo_le hb.2.1 hb.2.2.1 hb.2.2.2.1).1
  · omega
theorem sumf_le {f : Nat → Nat} {B : Nat} : ∀ (n k : Nat), (∀ j, k ≤ j → j < k + n → f j ≤ B) → sumf f k n ≤ n * B
  | 0, _, _ => by rw [sumf_z]; omega
  | n + 1, k, h => by
    have ih := sumf_le (f := f) (B := B) n (k + 1) (fun j h1 h2 => h j (by omega) (by omega))
    have h0 := h k (Nat.le_refl k) (by omega)
    rw [sumf_s, Nat.add_mul]
    omega
theorem s_setX (hS : SF sh R) (G : GS W ns sh R I) (L : GL T W nl sh R I) (V : GY Y W ny sh R I) {l i c : Nat} {b : Int32} (hl : l < nl) (hi : i < ns) (hc : c < 8) : ∀ (n k acc : Nat) (I1 : Nat → Nat → Int32), k + n = ny → Sc W I I1 → ∃ I', exe X (d + 4) 66 6 [.ref 0, .ref (W 3 l), .ref (W 0 i), .int (Int32.ofNat c), .int b, .long (Int64.ofNat acc), dm, .int (Int32.ofNat k), dm] [] (sz, sl, sh, R, I1, J) = exe X (d + 4) 66 6 [.ref 0, .ref (W 3 l), .ref (W 0 i), .int (Int32.ofNat c), .int b, .long (Int64.ofNat (acc + sumf (ws W (T l) Y b i c) k n)), dm, .int (Int32.ofNat ny), dm] [] (sz, sl, sh, R, I', J) ∧ Sc W I I'
  | 0, k, acc, I1, h, hs => by
    obtain rfl : k = ny := h
    exact ⟨I1, rfl, hs⟩
  | n + 1, k, acc, I1, h, hs => by
    have h10 := V.1
    have G1 := hs.S G
    have L1 := hs.L L
    have V1 := hs.Y V
    have hV := V.2.2.2.1 k (by omega)
    have e1 : ¬ 10 ≤ k := by omega
    have e2 : k < 10 := by omega
    rw [t66_6 hS, if_neg (by rw [k_10, n_le (by decide) (by omega)]; exact e1), if_pos (by rw [n_inb (by omega)]; exact e2), n_cl (by omega), hV.1, rfv_s, nn_ref, rf_ref, if_pos hV.2.1, sumf_s]
    by_cases hb : bt b k = true
    · obtain ⟨I2, a1, a2⟩ := s_wornOff (X := X) (d := d) (sz := sz) (sl := sl) (J := J) G1 L1 V1 hl hi hc (show k < ny by omega)
      obtain ⟨I3, b1, b2⟩ := s_setX hS G L V hl hi hc n (k + 1) (acc + ws W (T l) Y b i c k) I2 (by omega) (hs.trans a2)
      refine ⟨I3, ?_, b2⟩
      rw [← Nat.add_assoc, ← b1, if_neg (fun z => z (of_decide_eq_true hb)), a1, ob_s]
      show exe X (d + 4) 66 51 _ [.long _, .long _] _ = _
      rw [t66_51, l_add, n_suc]
      unfold ws
      rw [if_pos hb]
    · obtain ⟨I3, b1, b2⟩ := s_setX hS G L V hl hi hc n (k + 1) (acc + ws W (T l) Y b i c k) I1 (by omega) hs
      refine ⟨I3, ?_, b2⟩
      rw [← Nat.add_assoc, ← b1, if_pos (fun z => hb (decide_eq_true z)), n_suc]
      unfold ws
      rw [if_neg hb, Nat.add_zero acc]
theorem s_setX0 (hS : SF sh R) (V : GY Y W ny sh R I) {a1 a2 : Nat} {c b : Int32} {acc : Int64} : ∀ (n k : Nat), k + n = 10 → ny ≤ k → exe X (d + 4) 66 6 [.ref 0, .ref a1, .ref a2, .int c, .int b, .long acc, dm, .int (Int32.ofNat k), dm] [] (sz, sl, sh, R, I, J) = some (some (.long acc), (sz, sl, sh, R, I, J))
  | 0, k, h, hk => by
    have e : 10 ≤ k := by omega
    rw [t66_6 hS, if_pos (by rw [k_10, n_le (by decide) (by omega)]; exact e)]
  | n + 1, k, h, hk => by
    have e1 : ¬ 10 ≤ k := by omega
    have e2 : k < 10 := by omega
    rw [t66_6 hS, if_neg (by rw [k_10, n_le (by decide) (by omega)]; exact e1), if_pos (by rw [n_inb (by omega)]; exact e2), n_cl (by omega), V.2.2.2.2.1 k hk e2, rfv_n, nn_null, n_suc, s_setX0 hS V n (k + 1) (by omega) (by omega)]
theorem s_wornSet (hS : SF sh R) (G : GS W ns sh R I) (L : GL T W nl sh R I) (V : GY Y W ny sh R I) {l i c : Nat} {b : Int32} (hl : l < nl) (hi : i < ns) (hc : c < 8) : ∃ I', ev X (d + 5) 66 [.ref 0, .ref (W 3 l), .ref (W 0 i), .int (Int32.ofNat c), .int b] (sz, sl, sh, R, I, J) = some (some (.long (Int64.ofNat (sumf (ws W (T l) Y b i c) 0 ny))), (sz, sl, sh, R, I', J)) ∧ Sc W I I' := by
  have h10 := V.1
  obtain ⟨I', a1, a2⟩ := s_setX (X := X) (d := d) (sz := sz) (sl := sl) (J := J) hS G L V hl hi hc (b := b) ny 0 0 I (by omega) Sc.refl
  refine ⟨I', ?_, a2⟩
  rw [n66, t66_0, kl_0, k_0, a1, s_setX0 hS (a2.Y V) (10 - ny) ny (by omega) (Nat.le_refl _), Nat.zero_add]
theorem s_setM (hS : SF sh R) (G : GS W ns sh R I) (L : GL T W nl sh R I) (V : GY Y W ny sh R I) {l i c : Nat} {b : Int32} (hl : l < nl) (hi : i < ns) (hc : c < 8) : ∀ (n k acc : Nat) (I1 : Nat → Nat → Int32), k + n = ny → Sc W I I1 → ∃ I', exe X (d + 6) 188 6 [.ref 37, .int (Int32.ofNat l), .int (Int32.ofNat i), .int (Int32.ofNat c), .int b, .long (Int64.ofNat acc), dm, .int (Int32.ofNat k)] [] (sz, sl, sh, R, I1, J) = some (some (.long (Int64.ofNat (acc + sumf (ws W (T l) Y b i c) k n))), (sz, sl, sh, R, I', J)) ∧ Sc W I I'
  | 0, k, acc, I1, h, hs => by
    obtain rfl : k = ny := h
    have V1 := hs.Y V
    refine ⟨I1, ?_, hs⟩
    rw [t188_6 hS, V1.2.2.1, if_pos (Int32.le_refl _), sumf_z, Nat.add_zero acc]
  | n + 1, k, acc, I1, h, hs => by
    have h10 := V.1
    have G1 := hs.S G
    have L1 := hs.L L
    have V1 := hs.Y V
    have e1 : ¬ ny ≤ k := by omega
    rw [t188_6 hS, V1.2.2.1, if_neg (by rw [n_le (by omega) (by omega)]; exact e1), sumf_s]
    by_cases hb : bt b k = true
    · obtain ⟨I2, a1, a2⟩ := s_wornBy (X := X) (d := d) (sz := sz) (sl := sl) (J := J) hS G1 L1 V1 hl hi hc (show k < ny by omega)
      obtain ⟨I3, b1, b2⟩ := s_setM hS G L V hl hi hc n (k + 1) (acc + ws W (T l) Y b i c k) I2 (by omega) (hs.trans a2)
      refine ⟨I3, ?_, b2⟩
      rw [← Nat.add_assoc, ← b1, if_neg (fun z => z (of_decide_eq_true hb)), a1, ob_s]
      show exe X (d + 6) 188 37 _ [.long _, .long _] _ = _
      rw [t188_37, l_add, n_suc]
      unfold ws
      rw [if_pos hb]
    · obtain ⟨I3, b1, b2⟩ := s_setM hS G L V hl hi hc n (k + 1) (acc + ws W (T l) Y b i c k) I1 (by omega) hs
      refine ⟨I3, ?_, b2⟩
      rw [← Nat.add_assoc, ← b1, if_pos (fun z => hb (decide_eq_true z)), n_suc, Int64.add_zero]
      unfold ws
      rw [if_neg hb, Nat.add_zero acc]
theorem s_wornAll (hS : SF sh R) (G : GS W ns sh R I) (L : GL T W nl sh R I) (V : GY Y W ny sh R I) {l i c : Nat} {b : Int32} (hl : l < nl) (hi : i < ns) (hc : c < 8) : ∃ I', ev X (d + 7) 188 [.ref 37, .int (Int32.ofNat l), .int (Int32.ofNat i), .int (Int32.ofNat c), .int b] (sz, sl, sh, R, I, J) = some (some (.long (Int64.ofNat (sumf (ws W (T l) Y b i c) 0 ny))), (sz, sl, sh, R, I', J)) ∧ Sc W I I' := by
  obtain ⟨I', a1, a2⟩ := s_setM (X := X) (d := d) (sz := sz) (sl := sl) (J := J) hS G L V hl hi hc (b := b) ny 0 0 I (by omega) Sc.refl
  refine ⟨I', ?_, a2⟩
  rw [n188, t188_0, kl_0, k_0, a1, Nat.zero_add]
/-- told as an int -/
def tol (v : Int64) : Int32 := if v ≤ 2000000000 then v.toInt32 else 2000000000
theorem s_told {v : Int64} : ev X (d + 1) 68 [.long v] (sz, sl, sh, R, I, J) = some (some (.int (tol v)), (sz, sl, sh, R, I, J)) ∧ ev X (d + 1) 190 [.long v] (sz, sl, sh, R, I, J) = some (some (.int (tol v)), (sz, sl, sh, R, I, J)) := by
  unfold tol
  constructor
  · rw [n68, t68_0]
    by_cases h : v ≤ 2000000000
    · rw [if_pos h, if_neg (fun z => by rw [Int64.lt_iff_toInt_lt] at z; rw [Int64.le_iff_toInt_le] at h; omega)]
    · rw [if_neg h, if_pos (Int64.not_le.mp h)]
      rfl
  · rw [n190, t190_0]
    by_cases h : v ≤ 2000000000
    · rw [if_pos (by rw [c_le]; exact h), if_pos h]
    · rw [if_neg (by rw [c_le]; exact h), if_neg h]
/-- are they stories? -/
def arS (ny : Nat) (b : Int32) : Prop := 0 ≤ b ∧ b ≤ ((1 : Int32) <<< (Int32.ofNat ny &&& 31)) - 1
theorem s_areX (hS : SF sh R) (V : GY Y W ny sh R I) {b : Int32} : ev X (d + 2) 65 [.ref 0, .int b] (sz, sl, sh, R, I, J) = some (some (.int (bi (0 ≤ b ∧ b ≤ ((1 : Int32) <<< (Int32.ofNat ny &&& 31)) - 1))), (sz, sl, sh, R, I, J)) := by
  rw [n65, t65_0 hS, s_within, V.2.1, ob_s]
  show exe X (d + 1) 65 13 _ [.int _] _ = _
  rw [t65_13, if_pos bi_01]
theorem s_areM (hS : SF sh R) (V : GY Y W ny sh R I) {b : Int32} : ev X (d + 2) 187 [.ref 37, .int b] (sz, sl, sh, R, I, J) = some (some (.int (bi (0 ≤ b ∧ b ≤ ((1 : Int32) <<< (Int32.ofNat ny &&& 31)) - 1))), (sz, sl, sh, R, I, J)) := by
  rw [n187, t187_0 hS, s_in, V.2.2.1, ob_s]
  show exe X (d + 1) 187 13 _ [.int _] _ = _
  rw [t187_13, if_pos bi_01]
theorem o_worn (hS : SF sh R) (G : GS W ns sh R I) (L : GL T W nl sh R I) (V : GY Y W ny sh R I) {v w z : Int32} : ∃ x I1 I2, ev X (d + 8) 64 [.ref 0, .int v, .int w, .int z] (sz, sl, sh, R, I, J) = some (some (.int x), (sz, sl, sh, R, I1, J)) ∧ ev X (d + 8) 186 [.ref 37, .int v, .int w, .int z] (sz, sl, sh, R, I1, J) = some (some (.int x), (sz, sl, sh, R, I2, J)) ∧ Sc W I I2 := by
  have h40 := G.1
  have z1 : ¬ (1 : Int32) = 0 := by decide
  by_cases hv : ∃ l, l < nl ∧ v = Int32.ofNat l
  · obtain ⟨l, hl, rfl⟩ := hv
    have hi := L.is hl
    by_cases hw : celA ns w
    · obtain ⟨i, c, hi', hc, rfl⟩ := hw
      have e1 : Int32.ofNat (10 * i + c) / 10 = Int32.ofNat i := by rw [k_10, n_div (by omega) (by decide)]; congr 1; omega
      have e2 : Int32.ofNat (10 * i + c) - Int32.ofNat i * 10 = Int32.ofNat c := by rw [← e1, k_10, n_div (by omega) (by decide), n_rem']; congr 1; omega
      by_cases hz : 0 ≤ z ∧ z ≤ ((1 : Int32) <<< (Int32.ofNat ny &&& 31)) - 1
      · obtain ⟨I1, a1, a2⟩ := s_wornSet (X := X) (d := d + 2) (sz := sz) (sl := sl) (J := J) hS G L V (b := z) hl hi' hc
        have G1 := a2.S G
        have L1 := a2.L L
        have V1 := a2.Y V
        have hi1 := L1.is hl
        obtain ⟨I2, b1, b2⟩ := s_wornAll (X := X) (d := d) (sz := sz) (sl := sl) (J := J) hS G1 L1 V1 (b := z) hl hi' hc
        refine ⟨tol (Int64.ofNat (sumf (ws W (T l) Y z i c) 0 ny)), I1, I2, ?_, ?_, a2.trans b2⟩
        · simp (disch := first | omega | exact ib_r | exact ib_n | exact isB_rfv _ | assumption) only [n64, t64_0 hS, t64_5 hS, t64_12 hS, t64_29 hS, t64_47, t64_50, s_lawAt hS L hl, s_cellX hS G hi' hc, s_areX hS V, hz, e1, e2, a1, s_told.1, ↓reduceIte, eq_self, and_self, and_true, true_and, not_true_eq_false, not_false_eq_true, ob_s, tl_s, tl_n, rf_ref, orf_ref, orf_null, nn_ref, nn_null, rfv_s, rfv_n, if_true, if_false, bi_01, bi_e0, bi_e1, or_t, Classical.not_not]
        · simp (disch := first | omega | exact ib_r | exact ib_n | exact isB_rfv _ | assumption) only [n186, t186_0 hS, t186_5 hS, t186_13 hS, t186_21 hS, t186_38, t186_41, s_isLaw hS, hi1, s_cellM hS G1 hi' hc, s_areM hS V1, z1, hz, e1, e2, b1, s_told.2, ↓reduceIte, eq_self, and_self, and_true, true_and, not_true_eq_false, not_false_eq_true, ob_s, tl_s, tl_n, rf_ref, orf_ref, orf_null, nn_ref, nn_null, rfv_s, rfv_n, if_true, if_false, bi_01, bi_e0, bi_e1, or_t, Classical.not_not]
      · refine ⟨-1, I, I, ?_, ?_, Sc.refl⟩
        · simp (disch := first | omega | exact ib_r | exact ib_n | exact isB_rfv _ | assumption) only [n64, t64_0 hS, t64_5 hS, t64_12 hS, t64_29 hS, s_lawAt hS L hl, s_cellX hS G hi' hc, s_areX hS V, hz, ↓reduceIte, eq_self, and_self, and_true, true_and, not_true_eq_false, not_false_eq_true, ob_s, tl_s, tl_n, rf_ref, orf_ref, orf_null, nn_ref, nn_null, rfv_s, rfv_n, if_true, if_false, bi_01, bi_e0, bi_e1, or_t, Classical.not_not]
        · simp (disch := first | omega | exact ib_r | exact ib_n | exact isB_rfv _ | assumption) only [n186, t186_0 hS, t186_5 hS, t186_13 hS, t186_21 hS, s_isLaw hS, hi, s_cellM hS G hi' hc, s_areM hS V, z1, hz, ↓reduceIte, eq_self, and_self, and_true, true_and, not_true_eq_false, not_false_eq_true, ob_s, tl_s, tl_n, rf_ref, orf_ref, orf_null, nn_ref, nn_null, rfv_s, rfv_n, if_true, if_false, bi_01, bi_e0, bi_e1, or_t, Classical.not_not]
    · refine ⟨-1, I, I, ?_, ?_, Sc.refl⟩
      · simp (disch := first | omega | exact ib_r | exact ib_n | exact isB_rfv _ | assumption) only [n64, t64_0 hS, t64_5 hS, t64_12 hS, s_lawAt hS L hl, (s_cell_no hS G hw).1, ↓reduceIte, eq_self, and_self, and_true, true_and, not_true_eq_false, not_false_eq_true, ob_s, tl_s, tl_n, rf_ref, orf_ref, orf_null, nn_ref, nn_null, rfv_s, rfv_n, if_true, if_false, bi_01, bi_e0, bi_e1, or_t, Classical.not_not]
      · simp (disch := first | omega | exact ib_r | exact ib_n | exact isB_rfv _ | assumption) only [n186, t186_0 hS, t186_5 hS, t186_13 hS, s_isLaw hS, hi, (s_cell_no hS G hw).2, ↓reduceIte, eq_self, and_self, and_true, true_and, not_true_eq_false, not_false_eq_true, ob_s, tl_s, tl_n, rf_ref, orf_ref, orf_null, nn_ref, nn_null, rfv_s, rfv_n, if_true, if_false, bi_01, bi_e0, bi_e1, or_t, Classical.not_not]
  · have hno := s_lawAt_no (X := X) (d := d + 5) (sz := sz) (sl := sl) (J := J) hS L hv
    have hi := hno.2
    refine ⟨-1, I, I, ?_, ?_, Sc.refl⟩
    · by_cases hw : celA ns w
      · obtain ⟨i, c, hi', hc, rfl⟩ := hw
        simp (disch := first | omega | exact ib_r | exact ib_n | exact isB_rfv _ | assumption) only [n64, t64_0 hS, t64_5 hS, t64_12 hS, hno.1, s_cellX hS G hi' hc, ↓reduceIte, eq_self, and_self, and_true, true_and, not_true_eq_false, not_false_eq_true, ob_s, tl_s, tl_n, rf_ref, orf_ref, orf_null, nn_ref, nn_null, rfv_s, rfv_n, if_true, if_false, bi_01, bi_e0, bi_e1, or_t, Classical.not_not]
      · simp (disch := first | omega | exact ib_r | exact ib_n | exact isB_rfv _ | assumption) only [n64, t64_0 hS, t64_5 hS, t64_12 hS, hno.1, (s_cell_no hS G hw).1, ↓reduceIte, eq_self, and_self, and_true, true_and, not_true_eq_false, not_false_eq_true, ob_s, tl_s, tl_n, rf_ref, orf_ref, orf_null, nn_ref, nn_null, rfv_s, rfv_n, if_true, if_false, bi_01, bi_e0, bi_e1, or_t, Classical.not_not]
    · simp (disch := first | omega | exact ib_r | exact ib_n | exact isB_rfv _ | assumption) only [n186, t186_0 hS, t186_5 hS, s_isLaw hS, hi, ↓reduceIte, eq_self, and_self, and_true, true_and, not_true_eq_false, not_false_eq_true, ob_s, tl_s, tl_n, rf_ref, orf_ref, orf_null, nn_ref, nn_null, rfv_s, rfv_n, if_true, if_false, bi_01, bi_e0, bi_e1, or_t, Classical.not_not]
end WORN
