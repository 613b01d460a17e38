/-! LED, SHARE, NEXT -/
theorem sumf_add {f g : Nat → Nat} : ∀ n k : Nat, sumf (fun t => f t + g t) k n = sumf f k n + sumf g k n
  | 0, _ => rfl
  | n + 1, k => by
    rw [sumf_s, sumf_s, sumf_s, sumf_add n (k + 1)]
    omega
theorem sumf_zero : ∀ n k : Nat, sumf (fun _ => 0) k n = 0
  | 0, _ => rfl
  | n + 1, k => by rw [sumf_s, sumf_zero n (k + 1)]
theorem sumf_swap {f : Nat → Nat → Nat} {m : Nat} : ∀ n k : Nat, sumf (fun c => sumf (fun t => f t c) 0 m) k n = sumf (fun t => sumf (fun c => f t c) k n) 0 m
  | 0, k => by
    show 0 = sumf (fun _ => 0) 0 m
    rw [sumf_zero]
  | n + 1, k => by
    rw [sumf_s, sumf_swap n (k + 1), ← sumf_add]
    rfl
theorem sumf_congr {f g : Nat → Nat} : ∀ n k : Nat, (∀ j, k ≤ j → j < k + n → f j = g j) → sumf f k n = sumf g k n
  | 0, _, _ => rfl
  | n + 1, k, h => by rw [sumf_s, sumf_s, h k (Nat.le_refl k) (by omega), sumf_congr n (k + 1) (fun j h1 h2 => h j (by omega) (by omega))]
theorem sumf_one {g : Nat → Nat} {s : Nat} : ∀ n k : Nat, sumf (fun t => if t = s then g t else 0) k n = if k ≤ s ∧ s < k + n then g s else 0
  | 0, k => by rw [sumf_z, if_neg (by omega)]
  | n + 1, k => by
    rw [sumf_s, sumf_one n (k + 1)]
    by_cases h : k = s
    · subst h; rw [if_pos rfl, if_neg (by omega), if_pos (by omega), Nat.add_zero]
    · rw [if_neg h, Nat.zero_add]
      by_cases h2 : k + 1 ≤ s ∧ s < k + 1 + n
      · rw [if_pos h2, if_pos (by omega)]
      · rw [if_neg h2, if_neg (by omega)]
theorem bt_one : ∀ s, s < 10 → ∀ t, t < 10 → bt ((1 : Int32) <<< (Int32.ofNat s &&& 31)) t = decide (t = s) := by decide
theorem bt_all : ∀ n, n < 11 → ∀ t, t < n → bt (((1 : Int32) <<< (Int32.ofNat n &&& 31)) - 1) t = true := by decide
section LED
variable {X : XX} {d : Nat} {sz sl : Nat} {sh : Nat → Nat × Nat} {R : Nat → Nat → Option Nat} {I I0 : Nat → Nat → Int32} {J : Nat → Nat → Int64} {W : WW} {ns nl ny : Nat} {T : Nat → List LN} {Y : Nat → Nat → Nat}
theorem ws_one {Tl : List LN} {i c s : Nat} (hy : ny ≤ 10) (hs : s < ny) : sumf (ws W Tl Y ((1 : Int32) <<< (Int32.ofNat s &&& 31)) i c) 0 ny = wo W Tl Y i c s := by
  have e : sumf (ws W Tl Y ((1 : Int32) <<< (Int32.ofNat s &&& 31)) i c) 0 ny = sumf (fun t => if t = s then wo W Tl Y i c t else 0) 0 ny := by
    refine sumf_congr ny 0 (fun j _ hj => ?_)
    unfold ws
    rw [bt_one s (by omega) j (by omega)]
    by_cases h : j = s
    · rw [if_pos (decide_eq_true h), if_pos h]
    · rw [if_neg (by simp [h]), if_neg h]
  rw [e, sumf_one, if_pos (by omega)]
theorem ws_all {Tl : List LN} {i c : Nat} (hy : ny ≤ 10) : sumf (ws W Tl Y (((1 : Int32) <<< (Int32.ofNat ny &&& 31)) - 1) i c) 0 ny = sumf (fun t => wo W Tl Y i c t) 0 ny := by
  refine sumf_congr ny 0 (fun j _ hj => ?_)
  unfold ws
  rw [bt_all ny (by omega) j (by omega), if_pos rfl]
theorem wo_lt (V : GY Y W ny sh R I) {Tl : List LN} {i c t : Nat} (ht : t < ny) : wo W Tl Y i c t ≤ 30000000000 := by
  have hb := V.2.2.2.2.2.2 t ht
  exact (wo_le hb.2.1 hb.2.2.1 hb.2.2.2.1).1
/-- the first of the greatest above m -/
def ldf (f : Nat → Nat) : Nat → Nat → Int32 → Nat → Int32
  | 0, _, b, _ => b
  | n + 1, s, b, m => if f s ≤ m then ldf f n (s + 1) b m else ldf f n (s + 1) (Int32.ofNat s) (f s)
theorem s_ledX (hS : SF sh R) (G : GS W ns sh R I) (L : GL T W nl sh R I) (V : GY Y W ny sh R I) {l i c : Nat} {sc : Int32} (hsc : sc - sc / 10 * 10 = Int32.ofNat c) (hl : l < nl) (hi : i < ns) (hc : c < 8) : ∀ (n s m : Nat) (b : Int32) (I1 : Nat → Nat → Int32), s + n = ny → m ≤ 30000000000 → Sc W I I1 → ∃ I', exe X (d + 5) 69 34 [.ref 0, dm, .int sc, .ref (W 3 l), .ref (W 0 i), .int b, .long (Int64.ofNat m), dm, .int (Int32.ofNat s), dm, dm] [] (sz, sl, sh, R, I1, J) = some (some (.int (ldf (wo W (T l) Y i c) n s b m)), (sz, sl, sh, R, I', J)) ∧ Sc W I I'
  | 0, s, m, b, I1, h, hm, hs => by
    obtain rfl : s = ny := h
    have V1 := hs.Y V
    refine ⟨I1, ?_, hs⟩
    rw [t69_34 hS rfl rfl, V1.2.1, if_pos (Int32.le_refl _)]
    rfl
  | n + 1, s, m, b, I1, h, hm, hs => by
    have h10 := V.1
    have G1 := hs.S G
    have L1 := hs.L L
    have V1 := hs.Y V
    have e1 : ¬ ny ≤ s := by omega
    have wl := wo_lt V (Tl := T l) (i := i) (c := c) (show s < ny by omega)
    obtain ⟨I2, a1, a2⟩ := s_wornSet (X := X) (d := d) (sz := sz) (sl := sl) (J := J) hS G1 L1 V1 (b := (1 : Int32) <<< (Int32.ofNat s &&& 31)) hl hi hc
    rw [ws_one h10 (by omega)] at a1
    rw [t69_34 hS rfl rfl, V1.2.1, if_neg (by rw [n_le (by omega) (by omega)]; exact e1), hsc, a1, ob_s, ldf]
    show ∃ I', exe X (d + 5) 69 58 _ [.long _] _ = _ ∧ _
    rw [t69_58 rfl rfl]
    by_cases hm' : wo W (T l) Y i c s ≤ m
    · obtain ⟨I3, b1, b2⟩ := s_ledX hS G L V hsc hl hi hc n (s + 1) m b I2 (by omega) hm (hs.trans a2)
      refine ⟨I3, ?_, b2⟩
      rw [if_pos (by rw [c_le, l_le (by omega) (by omega)]; exact hm'), if_pos hm', n_suc, b1]
    · obtain ⟨I3, b1, b2⟩ := s_ledX hS G L V hsc hl hi hc n (s + 1) (wo W (T l) Y i c s) (Int32.ofNat s) I2 (by omega) wl (hs.trans a2)
      refine ⟨I3, ?_, b2⟩
      rw [if_neg (by rw [c_le, l_le (by omega) (by omega)]; exact hm'), if_neg hm', n_suc, b1]
theorem s_ledM (hS : SF sh R) (G : GS W ns sh R I) (L : GL T W nl sh R I) (V : GY Y W ny sh R I) {l i c : Nat} {sc : Int32} (hsc0 : sc / 10 = Int32.ofNat i) (hsc : sc - Int32.ofNat i * 10 = Int32.ofNat c) (hl : l < nl) (hi : i < ns) (hc : c < 8) : ∀ (n s m : Nat) (b : Int32) (I1 : Nat → Nat → Int32), s + n = ny → m ≤ 30000000000 → Sc W I I1 → ∃ I', exe X (d + 6) 191 27 [.ref 37, .int (Int32.ofNat l), .int sc, .int b, .long (Int64.ofNat m), dm, .int (Int32.ofNat s), dm, dm] [] (sz, sl, sh, R, I1, J) = some (some (.int (ldf (wo W (T l) Y i c) n s b m)), (sz, sl, sh, R, I', J)) ∧ Sc W I I'
  | 0, s, m, b, I1, h, hm, hs => by
    obtain rfl : s = ny := h
    have V1 := hs.Y V
    refine ⟨I1, ?_, hs⟩
    rw [t191_27 hS, V1.2.2.1, if_pos (Int32.le_refl _)]
    rfl
  | n + 1, s, m, b, I1, h, hm, hs => by
    have h10 := V.1
    have G1 := hs.S G
    have L1 := hs.L L
    have V1 := hs.Y V
    have e1 : ¬ ny ≤ s := by omega
    have wl := wo_lt V (Tl := T l) (i := i) (c := c) (show s < ny by omega)
    obtain ⟨I2, a1, a2⟩ := s_wornBy (X := X) (d := d) (sz := sz) (sl := sl) (J := J) hS G1 L1 V1 hl hi hc (show s < ny by omega)
    rw [t191_27 hS, V1.2.2.1, if_neg (by rw [n_le (by omega) (by omega)]; exact e1), hsc0, hsc, a1, ob_s, ldf]
    show ∃ I', exe X (d + 6) 191 51 _ [.long _] _ = _ ∧ _
    rw [t191_51]
    by_cases hm' : wo W (T l) Y i c s ≤ m
    · obtain ⟨I3, b1, b2⟩ := s_ledM hS G L V hsc0 hsc hl hi hc n (s + 1) m b I2 (by omega) hm (hs.trans a2)
      refine ⟨I3, ?_, b2⟩
      rw [if_pos (by rw [c_le, l_le (by omega) (by omega)]; exact hm'), if_pos hm', n_suc, b1]
    · obtain ⟨I3, b1, b2⟩ := s_ledM hS G L V hsc0 hsc hl hi hc n (s + 1) (wo W (T l) Y i c s) (Int32.ofNat s) I2 (by omega) wl (hs.trans a2)
      refine ⟨I3, ?_, b2⟩
      rw [if_neg (by rw [c_le, l_le (by omega) (by omega)]; exact hm'), if_neg hm', n_suc, b1]
theorem o_led (hS : SF sh R) (G : GS W ns sh R I) (L : GL T W nl sh R I) (V : GY Y W ny sh R I) {v w : Int32} : ∃ x I1 I2, ev X (d + 8) 69 [.ref 0, .int v, .int w] (sz, sl, sh, R, I, J) = some (some (.int x), (sz, sl, sh, R, I1, J)) ∧ ev X (d + 8) 191 [.ref 37, .int v, .int w] (sz, sl, sh, R, I1, J) = some (some (.int x), (sz, sl, sh, R, I2, J)) ∧ Sc W I I2 := by
  have h40 := G.1
  have z1 : ¬ (1 : Int32) = 0 := by decide
  by_cases hv : ∃ l, l < nl ∧ v = Int32.ofNat l
  · obtain ⟨l, hl, rfl⟩ := hv
    have hi := L.is hl
    by_cases hw : celA ns w
    · obtain ⟨i, c, hi', hc, rfl⟩ := hw
      have e1 : Int32.ofNat (10 * i + c) / 10 = Int32.ofNat i := by rw [k_10, n_div (by omega) (by decide)]; congr 1; omega
      have e2 : Int32.ofNat (10 * i + c) - Int32.ofNat i * 10 = Int32.ofNat c := by rw [← e1, k_10, n_div (by omega) (by decide), n_rem']; congr 1; omega
      obtain ⟨I1, a1, a2⟩ := s_ledX (X := X) (d := d + 2) (sz := sz) (sl := sl) (J := J) hS G L V (sc := Int32.ofNat (10 * i + c)) (by rw [e1]; exact e2) hl hi' hc ny 0 0 (-2) I (by omega) (by omega) Sc.refl
      have G1 := a2.S G
      have L1 := a2.L L
      have V1 := a2.Y V
      have hi1 := L1.is hl
      obtain ⟨I2, b1, b2⟩ := s_ledM (X := X) (d := d + 1) (sz := sz) (sl := sl) (J := J) hS G1 L1 V1 (sc := Int32.ofNat (10 * i + c)) e1 e2 hl hi' hc ny 0 0 (-2) I1 (by omega) (by omega) Sc.refl
      rw [← kl_0, ← k_0] at a1 b1
      refine ⟨ldf (wo W (T l) Y i c) ny 0 (-2) 0, I1, I2, ?_, ?_, a2.trans b2⟩
      · simp (disch := first | omega | exact ib_r | exact ib_n | exact isB_rfv _ | assumption) only [n69, t69_0 hS, t69_5 hS, t69_11, s_lawAt hS L hl, s_cellX hS G hi' hc, a1, ↓reduceIte, eq_self, and_self, and_true, true_and, not_true_eq_false, not_false_eq_true, ob_s, tl_s, tl_n, rf_ref, orf_ref, orf_null, nn_ref, nn_null, rfv_s, rfv_n, if_true, if_false, bi_01, bi_e0, bi_e1, or_t, Classical.not_not]
      · simp (disch := first | omega | exact ib_r | exact ib_n | exact isB_rfv _ | assumption) only [n191, t191_0 hS, t191_5 hS, t191_13, s_isLaw hS, hi1, s_cellM hS G1 hi' hc, z1, b1, ↓reduceIte, eq_self, and_self, and_true, true_and, not_true_eq_false, not_false_eq_true, ob_s, tl_s, tl_n, rf_ref, orf_ref, orf_null, nn_ref, nn_null, rfv_s, rfv_n, if_true, if_false, bi_01, bi_e0, bi_e1, or_t, Classical.not_not]
    · refine ⟨-1, I, I, ?_, ?_, Sc.refl⟩
      · simp (disch := first | omega | exact ib_r | exact ib_n | exact isB_rfv _ | assumption) only [n69, t69_0 hS, t69_5 hS, t69_11, s_lawAt hS L hl, (s_cell_no hS G hw).1, ↓reduceIte, eq_self, and_self, and_true, true_and, not_true_eq_false, not_false_eq_true, ob_s, tl_s, tl_n, rf_ref, orf_ref, orf_null, nn_ref, nn_null, rfv_s, rfv_n, if_true, if_false, bi_01, bi_e0, bi_e1, or_t, Classical.not_not]
      · simp (disch := first | omega | exact ib_r | exact ib_n | exact isB_rfv _ | assumption) only [n191, t191_0 hS, t191_5 hS, t191_13, s_isLaw hS, hi, (s_cell_no hS G hw).2, ↓reduceIte, eq_self, and_self, and_true, true_and, not_true_eq_false, not_false_eq_true, ob_s, tl_s, tl_n, rf_ref, orf_ref, orf_null, nn_ref, nn_null, rfv_s, rfv_n, if_true, if_false, bi_01, bi_e0, bi_e1, or_t, Classical.not_not]
  · have hno := s_lawAt_no (X := X) (d := d + 5) (sz := sz) (sl := sl) (J := J) hS L hv
    have hi := hno.2
    refine ⟨-1, I, I, ?_, ?_, Sc.refl⟩
    · by_cases hw : celA ns w
      · obtain ⟨i, c, hi', hc, rfl⟩ := hw
        simp (disch := first | omega | exact ib_r | exact ib_n | exact isB_rfv _ | assumption) only [n69, t69_0 hS, t69_5 hS, t69_11, hno.1, s_cellX hS G hi' hc, ↓reduceIte, eq_self, and_self, and_true, true_and, not_true_eq_false, not_false_eq_true, ob_s, tl_s, tl_n, rf_ref, orf_ref, orf_null, nn_ref, nn_null, rfv_s, rfv_n, if_true, if_false, bi_01, bi_e0, bi_e1, or_t, Classical.not_not]
      · simp (disch := first | omega | exact ib_r | exact ib_n | exact isB_rfv _ | assumption) only [n69, t69_0 hS, t69_5 hS, t69_11, hno.1, (s_cell_no hS G hw).1, ↓reduceIte, eq_self, and_self, and_true, true_and, not_true_eq_false, not_false_eq_true, ob_s, tl_s, tl_n, rf_ref, orf_ref, orf_null, nn_ref, nn_null, rfv_s, rfv_n, if_true, if_false, bi_01, bi_e0, bi_e1, or_t, Classical.not_not]
    · simp (disch := first | omega | exact ib_r | exact ib_n | exact isB_rfv _ | assumption) only [n191, t191_0 hS, t191_5 hS, s_isLaw hS, hi, ↓reduceIte, eq_self, and_self, and_true, true_and, not_true_eq_false, not_false_eq_true, ob_s, tl_s, tl_n, rf_ref, orf_ref, orf_null, nn_ref, nn_null, rfv_s, rfv_n, if_true, if_false, bi_01, bi_e0, bi_e1, or_t, Classical.not_not]
/-! SHARE -/
theorem s_shX' (hS : SF sh R) (G : GS W ns sh R I) (L : GL T W nl sh R I) (V : GY Y W ny sh R I) {l i t : Nat} (hl : l < nl) (hi : i < ns) (ht : t < ny) : ∀ (n c o a : Nat) (I1 : Nat → Nat → Int32), c + n = 8 → Sc W I I1 → ∃ I', exe X (d + 5) 70 49 [.ref 0, dm, dm, .int (Int32.ofNat t), .ref (W 3 l), .ref (W 0 i), .long (Int64.ofNat o), dm, .long (Int64.ofNat a), dm, .int (Int32.ofNat c)] [] (sz, sl, sh, R, I1, J) = exe X (d + 5) 70 49 [.ref 0, dm, dm, .int (Int32.ofNat t), .ref (W 3 l), .ref (W 0 i), .long (Int64.ofNat (o + sumf (fun c => wo W (T l) Y i c t) c n)), dm, .long (Int64.ofNat (a + sumf (fun c => sumf (fun t => wo W (T l) Y i c t) 0 ny) c n)), dm, .int 8] [] (sz, sl, sh, R, I', J) ∧ Sc W I I'
  | 0, c, o, a, I1, h, hs => by
    obtain rfl : c = 8 := h
    exact ⟨I1, rfl, hs⟩
  | n + 1, c, o, a, I1, h, hs => by
    have h10 := V.1
    have G1 := hs.S G
    have L1 := hs.L L
    have V1 := hs.Y V
    have e1 : ¬ 8 ≤ c := by omega
    obtain ⟨I2, a1, a2⟩ := s_wornSet (X := X) (d := d) (sz := sz) (sl := sl) (J := J) hS G1 L1 V1 (b := (1 : Int32) <<< (Int32.ofNat t &&& 31)) hl hi (show c < 8 by omega)
    have G2 := (hs.trans a2).S G
    have L2 := (hs.trans a2).L L
    have V2 := (hs.trans a2).Y V
    obtain ⟨I3, b1, b2⟩ := s_wornSet (X := X) (d := d) (sz := sz) (sl := sl) (J := J) hS G2 L2 V2 (b := ((1 : Int32) <<< (Int32.ofNat ny &&& 31)) - 1) hl hi (show c < 8 by omega)
    rw [ws_one h10 ht] at a1
    rw [ws_all h10] at b1
    obtain ⟨I4, c1, c2⟩ := s_shX' hS G L V hl hi ht n (c + 1) (o + wo W (T l) Y i c t) (a + sumf (fun t => wo W (T l) Y i c t) 0 ny) I3 (by omega) ((hs.trans a2).trans b2)
    refine ⟨I4, ?_, c2⟩
    rw [sumf_s, sumf_s, ← Nat.add_assoc, ← Nat.add_assoc, ← c1, t70_49 hS rfl rfl, if_neg (by rw [k_8, n_le (by decide) (by omega)]; exact e1), a1, ob_s]
    show exe X (d + 5) 70 71 _ [.long _, .long _] _ = _
    rw [t70_71 hS rfl rfl, V2.2.1, b1, ob_s]
    show exe X (d + 5) 70 94 _ [.long _, .long _] _ = _
    rw [t70_94 rfl rfl, l_add, l_add, n_suc]
theorem s_shM53 (hS : SF sh R) (G : GS W ns sh R I) (L : GL T W nl sh R I) (V : GY Y W ny sh R I) {l i t s : Nat} (hl : l < nl) (hi : i < ns) (hs' : s < ny) (ht : t < ny) : ∀ (n c o a : Nat) (I1 : Nat → Nat → Int32), c + n = 8 → Sc W I I1 → ∃ I', exe X (d + 6) 192 53 [.ref 37, .int (Int32.ofNat l), .int (Int32.ofNat i), .int (Int32.ofNat t), .long (Int64.ofNat o), dm, .long (Int64.ofNat a), dm, .int (Int32.ofNat s), .int (Int32.ofNat c), dm, dm] [] (sz, sl, sh, R, I1, J) = exe X (d + 6) 192 41 [.ref 37, .int (Int32.ofNat l), .int (Int32.ofNat i), .int (Int32.ofNat t), .long (Int64.ofNat (o + if s = t then sumf (fun c => wo W (T l) Y i c s) c n else 0)), dm, .long (Int64.ofNat (a + sumf (fun c => wo W (T l) Y i c s) c n)), dm, .int (Int32.ofNat (s + 1)), dm, dm, dm] [] (sz, sl, sh, R, I', J) ∧ Sc W I I'
  | 0, c, o, a, I1, h, hs => by
    obtain rfl : c = 8 := h
    refine ⟨I1, ?_, hs⟩
    rw [t192_53 hS, if_pos (by decide), n_suc, sumf_z, Nat.add_zero a]
    by_cases e : s = t
    · rw [if_pos e, Nat.add_zero o]
    · rw [if_neg e, Nat.add_zero o]
  | n + 1, c, o, a, I1, h, hs => by
    have h10 := V.1
    have G1 := hs.S G
    have L1 := hs.L L
    have V1 := hs.Y V
    have e1 : ¬ 8 ≤ c := by omega
    obtain ⟨I2, a1, a2⟩ := s_wornBy (X := X) (d := d) (sz := sz) (sl := sl) (J := J) hS G1 L1 V1 hl hi (show c < 8 by omega) hs'
    by_cases e : s = t
    · obtain ⟨I4, c1, c2⟩ := s_shM53 hS G L V hl hi hs' ht n (c + 1) (o + wo W (T l) Y i c s) (a + wo W (T l) Y i c s) I2 (by omega) (hs.trans a2)
      refine ⟨I4, ?_, c2⟩
      rw [if_pos e] at c1 ⊢
      rw [sumf_s, ← Nat.add_assoc, ← Nat.add_assoc, ← c1, t192_53 hS, if_neg (by rw [k_8, n_le (by decide) (by omega)]; exact e1), a1, ob_s]
      show exe X (d + 6) 192 70 _ [.long _] _ = _
      rw [t192_70, if_neg (fun z => z (by rw [e])), l_add, l_add, n_suc]
    · obtain ⟨I4, c1, c2⟩ := s_shM53 hS G L V hl hi hs' ht n (c + 1) o (a + wo W (T l) Y i c s) I2 (by omega) (hs.trans a2)
      refine ⟨I4, ?_, c2⟩
      rw [if_neg e] at c1 ⊢
      rw [sumf_s, ← Nat.add_assoc, ← c1, t192_53 hS, if_neg (by rw [k_8, n_le (by decide) (by omega)]; exact e1), a1, ob_s]
      show exe X (d + 6) 192 70 _ [.long _] _ = _
      rw [t192_70, if_pos (fun z => e (by rw [n_eq (by omega) (by omega)] at z; exact z)), l_add, n_suc, Int64.add_zero]
theorem s_shM41 (hS : SF sh R) (G : GS W ns sh R I) (L : GL T W nl sh R I) (V : GY Y W ny sh R I) {l i t : Nat} (hl : l < nl) (hi : i < ns) (ht : t < ny) : ∀ (n s o a : Nat) (I1 : Nat → Nat → Int32), s + n = ny → Sc W I I1 → ∃ I', exe X (d + 6) 192 41 [.ref 37, .int (Int32.ofNat l), .int (Int32.ofNat i), .int (Int32.ofNat t), .long (Int64.ofNat o), dm, .long (Int64.ofNat a), dm, .int (Int32.ofNat s), dm, dm, dm] [] (sz, sl, sh, R, I1, J) = exe X (d + 6) 192 41 [.ref 37, .int (Int32.ofNat l), .int (Int32.ofNat i), .int (Int32.ofNat t), .long (Int64.ofNat (o + sumf (fun s => if s = t then sumf (fun c => wo W (T l) Y i c s) 0 8 else 0) s n)), dm, .long (Int64.ofNat (a + sumf (fun s => sumf (fun c => wo W (T l) Y i c s) 0 8) s n)), dm, .int (Int32.ofNat ny), dm, dm, dm] [] (sz, sl, sh, R, I', J) ∧ Sc W I I'
  | 0, s, o, a, I1, h, hs => by
    obtain rfl : s = ny := h
    exact ⟨I1, rfl, hs⟩
  | n + 1, s, o, a, I1, h, hs => by
    have h10 := V.1
    have V1 := hs.Y V
    have e1 : ¬ ny ≤ s := by omega
    obtain ⟨I2, a1, a2⟩ := s_shM53 (X := X) (d := d) (sz := sz) (sl := sl) (J := J) hS G L V hl hi (show s < ny by omega) ht 8 0 o a I1 (by omega) hs
    obtain ⟨I3, b1, b2⟩ := s_shM41 hS G L V hl hi ht n (s + 1) (o + if s = t then sumf (fun c => wo W (T l) Y i c s) 0 8 else 0) (a + sumf (fun c => wo W (T l) Y i c s) 0 8) I2 (by omega) a2
    refine ⟨I3, ?_, b2⟩
    rw [show sumf (fun s => if s = t then sumf (fun c => wo W (T l) Y i c s) 0 8 else 0) s (n + 1) = (if s = t then sumf (fun c => wo W (T l) Y i c s) 0 8 else 0) + sumf (fun s => if s = t then sumf (fun c => wo W (T l) Y i c s) 0 8 else 0) (s + 1) n from rfl, show sumf (fun s => sumf (fun c => wo W (T l) Y i c s) 0 8) s (n + 1) = sumf (fun c => wo W (T l) Y i c s) 0 8 + sumf (fun s => sumf (fun c => wo W (T l) Y i c s) 0 8) (s + 1) n from rfl, ← Nat.add_assoc, ← Nat.add_assoc, ← b1, ← a1, t192_41 hS, V1.2.2.1, if_neg (by rw [n_le (by omega) (by omega)]; exact e1)]
    rfl
theorem o_share (hS : SF sh R) (G : GS W ns sh R I) (L : GL T W nl sh R I) (V : GY Y W ny sh R I) {v w z : Int32} : ∃ x I1 I2, ev X (d + 8) 70 [.ref 0, .int v, .int w, .int z] (sz, sl, sh, R, I, J) = some (some (.int x), (sz, sl, sh, R, I1, J)) ∧ ev X (d + 8) 192 [.ref 37, .int v, .int w, .int z] (sz, sl, sh, R, I1, J) = some (some (.int x), (sz, sl, sh, R, I2, J)) ∧ Sc W I I2 := by
  have h40 := G.1
  have h10 := V.1
  by_cases hv : ∃ l, l < nl ∧ v = Int32.ofNat l
  · obtain ⟨l, hl, rfl⟩ := hv
    have hi := L.is hl
    by_cases hw : ∃ j, j < ns ∧ w = Int32.ofNat j
    · obtain ⟨i, hi', rfl⟩ := hw
      have his : (0 : Int32) ≤ Int32.ofNat i ∧ Int32.ofNat i ≤ I 37 0 - 1 := by rw [G.n2, idx (by omega)]; exact ⟨i, hi', rfl⟩
      by_cases hz : ∃ j, j < ny ∧ z = Int32.ofNat j
      · obtain ⟨t, ht, rfl⟩ := hz
        have hzt : (0 : Int32) ≤ Int32.ofNat t ∧ Int32.ofNat t ≤ Int32.ofNat ny - 1 := by rw [idx (by omega)]; exact ⟨t, ht, rfl⟩
        obtain ⟨I1, a1, a2⟩ := s_shX' (X := X) (d := d + 2) (sz := sz) (sl := sl) (J := J) hS G L V hl hi' ht 8 0 0 0 I (by omega) Sc.refl
        have G1 := a2.S G
        have L1 := a2.L L
        have V1 := a2.Y V
        have hi1 := L1.is hl
        have his1 : (0 : Int32) ≤ Int32.ofNat i ∧ Int32.ofNat i ≤ I1 37 0 - 1 := by rw [G1.n2, idx (by omega)]; exact ⟨i, hi', rfl⟩
        obtain ⟨I2, b1, b2⟩ := s_shM41 (X := X) (d := d + 1) (sz := sz) (sl := sl) (J := J) hS G1 L1 V1 hl hi' ht ny 0 0 0 I1 (by omega) Sc.refl
        have V2 := b2.Y V1
        rw [← kl_0, ← k_0, Nat.zero_add, Nat.zero_add] at a1 b1
        have eo : sumf (fun s => if s = t then sumf (fun c => wo W (T l) Y i c s) 0 8 else 0) 0 ny = sumf (fun c => wo W (T l) Y i c t) 0 8 := by
          rw [sumf_one (g := fun s => sumf (fun c => wo W (T l) Y i c s) 0 8), if_pos (by omega)]
        have ea : sumf (fun s => sumf (fun c => wo W (T l) Y i c s) 0 8) 0 ny = sumf (fun c => sumf (fun t => wo W (T l) Y i c t) 0 ny) 0 8 := (sumf_swap (f := fun t c => wo W (T l) Y i c t) 8 0).symm
        rw [eo, ea] at b1
        have al : sumf (fun c => sumf (fun t => wo W (T l) Y i c t) 0 ny) 0 8 ≤ 8 * (10 * 30000000000) := sumf_le 8 0 (fun c _ _ => Nat.le_trans (sumf_le (B := 30000000000) ny 0 (fun t _ h2 => wo_lt V (by omega))) (Nat.mul_le_mul_right _ h10))
        have XX : ev X (d + 8) 70 [.ref 0, .int (Int32.ofNat l), .int (Int32.ofNat i), .int (Int32.ofNat t)] (sz, sl, sh, R, I, J) = exe X (d + 7) 70 49 [.ref 0, dm, dm, .int (Int32.ofNat t), .ref (W 3 l), .ref (W 0 i), .long (Int64.ofNat (sumf (fun c => wo W (T l) Y i c t) 0 8)), dm, .long (Int64.ofNat (sumf (fun c => sumf (fun t => wo W (T l) Y i c t) 0 ny) 0 8)), dm, .int 8] [] (sz, sl, sh, R, I1, J) := by
          rw [← a1]
          simp (disch := first | omega | exact ib_r | exact ib_n | exact isB_rfv _ | assumption) only [n70, t70_0 hS, t70_5 hS, t70_12 hS, t70_35, s_lawAt hS L hl, s_stepAt hS G hi', V.2.1, s_within, hzt, ↓reduceIte, eq_self, and_self, and_true, true_and, not_true_eq_false, not_false_eq_true, ob_s, tl_s, tl_n, rf_ref, orf_ref, orf_null, nn_ref, nn_null, rfv_s, rfv_n, if_true, if_false, bi_01, bi_e0, bi_e1, or_t, Classical.not_not]
        have MM : ev X (d + 8) 192 [.ref 37, .int (Int32.ofNat l), .int (Int32.ofNat i), .int (Int32.ofNat t)] (sz, sl, sh, R, I1, J) = exe X (d + 7) 192 41 [.ref 37, .int (Int32.ofNat l), .int (Int32.ofNat i), .int (Int32.ofNat t), .long (Int64.ofNat (sumf (fun c => wo W (T l) Y i c t) 0 8)), dm, .long (Int64.ofNat (sumf (fun c => sumf (fun t => wo W (T l) Y i c t) 0 ny) 0 8)), dm, .int (Int32.ofNat ny), dm, dm, dm] [] (sz, sl, sh, R, I2, J) := by
          rw [← b1]
          simp (disch := first | omega | exact ib_r | exact ib_n | exact isB_rfv _ | assumption) only [n192, t192_0 hS, t192_5 hS, t192_13 hS, t192_27, s_isLaw hS, hi1, s_isStep hS, his1, V1.2.2.1, s_in, hzt, ↓reduceIte, eq_self, and_self, and_true, true_and, not_true_eq_false, not_false_eq_true, ob_s, tl_s, tl_n, rf_ref, orf_ref, orf_null, nn_ref, nn_null, rfv_s, rfv_n, if_true, if_false, bi_01, bi_e0, bi_e1, or_t, Classical.not_not]
        have e8 : (8 : Int32) ≤ 8 := by decide
        by_cases h0 : 0 < sumf (fun c => sumf (fun t => wo W (T l) Y i c t) 0 ny) 0 8
        · have p1 : 0 < lg_cmp (Int64.ofNat (sumf (fun c => sumf (fun t => wo W (T l) Y i c t) 0 ny) 0 8)) 0 := by rw [c_gt, kl_0, l_lt (by omega) (by omega)]; exact h0
          have p2 : ¬ Int64.ofNat (sumf (fun c => sumf (fun t => wo W (T l) Y i c t) 0 ny) 0 8) = 0 := by rw [kl_0, l_eq (by omega) (by omega)]; omega
          have p3 : ¬ lg_cmp (Int64.ofNat (sumf (fun c => sumf (fun t => wo W (T l) Y i c t) 0 ny) 0 8)) 0 = 0 := by rw [c_eq]; exact p2
          refine ⟨((1000 * Int64.ofNat (sumf (fun c => wo W (T l) Y i c t) 0 8)) / Int64.ofNat (sumf (fun c => sumf (fun t => wo W (T l) Y i c t) 0 ny) 0 8)).toInt32, I1, I2, ?_, ?_, a2.trans b2⟩
          · rw [XX, t70_49 hS rfl rfl, if_pos e8, if_pos p1, if_neg p2, Int64.mul_comm]
          · rw [MM, t192_41 hS, V2.2.2.1, if_pos (Int32.le_refl _), if_pos p3, if_neg p2]
        · have z0 : sumf (fun c => sumf (fun t => wo W (T l) Y i c t) 0 ny) 0 8 = 0 := by omega
          rw [z0] at XX MM
          refine ⟨-2, I1, I2, ?_, ?_, a2.trans b2⟩
          · rw [XX, t70_49 hS rfl rfl, if_pos e8, if_neg (by decide)]
          · rw [MM, t192_41 hS, V2.2.2.1, if_pos (Int32.le_refl _), if_neg (fun z => z (by decide))]
      · have hzt : ¬ ((0 : Int32) ≤ z ∧ z ≤ Int32.ofNat ny - 1) := by rw [idx (by omega)]; exact hz
        refine ⟨-1, I, I, ?_, ?_, Sc.refl⟩
        · simp (disch := first | omega | exact ib_r | exact ib_n | exact isB_rfv _ | assumption) only [n70, t70_0 hS, t70_5 hS, t70_12 hS, t70_35, s_lawAt hS L hl, s_stepAt hS G hi', V.2.1, s_within, hzt, ↓reduceIte, eq_self, and_self, and_true, true_and, not_true_eq_false, not_false_eq_true, ob_s, tl_s, tl_n, rf_ref, orf_ref, orf_null, nn_ref, nn_null, rfv_s, rfv_n, if_true, if_false, bi_01, bi_e0, bi_e1, or_t, Classical.not_not]
        · simp (disch := first | omega | exact ib_r | exact ib_n | exact isB_rfv _ | assumption) only [n192, t192_0 hS, t192_5 hS, t192_13 hS, t192_27, s_isLaw hS, hi, s_isStep hS, his, V.2.2.1, s_in, hzt, ↓reduceIte, eq_self, and_self, and_true, true_and, not_true_eq_false, not_false_eq_true, ob_s, tl_s, tl_n, rf_ref, orf_ref, orf_null, nn_ref, nn_null, rfv_s, rfv_n, if_true, if_false, bi_01, bi_e0, bi_e1, or_t, Classical.not_not]
    · have his : ¬ ((0 : Int32) ≤ w ∧ w ≤ I 37 0 - 1) := by rw [G.n2, idx (by omega)]; exact hw
      refine ⟨-1, I, I, ?_, ?_, Sc.refl⟩
      · simp (disch := first | omega | exact ib_r | exact ib_n | exact isB_rfv _ | assumption) only [n70, t70_0 hS, t70_5 hS, t70_12 hS, s_lawAt hS L hl, s_stepAt_no hS G hw, ↓reduceIte, eq_self, and_self, and_true, true_and, not_true_eq_false, not_false_eq_true, ob_s, tl_s, tl_n, rf_ref, orf_ref, orf_null, nn_ref, nn_null, rfv_s, rfv_n, if_true, if_false, bi_01, bi_e0, bi_e1, or_t, Classical.not_not]
      · simp (disch := first | omega | exact ib_r | exact ib_n | exact isB_rfv _ | assumption) only [n192, t192_0 hS, t192_5 hS, t192_13 hS, s_isLaw hS, hi, s_isStep hS, his, ↓reduceIte, eq_self, and_self, and_true, true_and, not_true_eq_false, not_false_eq_true, ob_s, tl_s, tl_n, rf_ref, orf_ref, orf_null, nn_ref, nn_null, rfv_s, rfv_n, if_true, if_false, bi_01, bi_e0, bi_e1, or_t, Classical.not_not]
  · have hno := s_lawAt_no (X := X) (d := d + 5) (sz := sz) (sl := sl) (J := J) hS L hv
    have hi := hno.2
    refine ⟨-1, I, I, ?_, ?_, Sc.refl⟩
    · by_cases hw : ∃ j, j < ns ∧ w = Int32.ofNat j
      · obtain ⟨i, hi', rfl⟩ := hw
        simp (disch := first | omega | exact ib_r | exact ib_n | exact isB_rfv _ | assumption) only [n70, t70_0 hS, t70_5 hS, t70_12 hS, hno.1, s_stepAt hS G hi', ↓reduceIte, eq_self, and_self, and_true, true_and, not_true_eq_false, not_false_eq_true, ob_s, tl_s, tl_n, rf_ref, orf_ref, orf_null, nn_ref, nn_null, rfv_s, rfv_n, if_true, if_false, bi_01, bi_e0, bi_e1, or_t, Classical.not_not]
      · simp (disch := first | omega | exact ib_r | exact ib_n | exact isB_rfv _ | assumption) only [n70, t70_0 hS, t70_5 hS, t70_12 hS, hno.1, s_stepAt_no hS G hw, ↓reduceIte, eq_self, and_self, and_true, true_and, not_true_eq_false, not_false_eq_true, ob_s, tl_s, tl_n, rf_ref, orf_ref, orf_null, nn_ref, nn_null, rfv_s, rfv_n, if_true, if_false, bi_01, bi_e0, bi_e1, or_t, Classical.not_not]
    · simp (disch := first | omega | exact ib_r | exact ib_n | exact isB_rfv _ | assumption) only [n192, t192_0 hS, t192_5 hS, s_isLaw hS, hi, ↓reduceIte, eq_self, and_self, and_true, true_and, not_true_eq_false, not_false_eq_true, ob_s, tl_s, tl_n, rf_ref, orf_ref, orf_null, nn_ref, nn_null, rfv_s, rfv_n, if_true, if_false, bi_01, bi_e0, bi_e1, or_t, Classical.not_not]
end LED
