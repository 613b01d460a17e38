/-! STORIES -/
/-- ny stories; Y k i: the k-th number of the i-th: first, last, ups, downs, path, shoe, abreast -/
def GY (Y : Nat → Nat → Nat) (W : WW) (ny : Nat) (sh : Nat → Nat × Nat) (R : Nat → Nat → Option Nat) (I : Nat → Nat → Int32) : Prop :=
  ny ≤ 10 ∧ I 0 6 = Int32.ofNat ny ∧ I 37 13 = Int32.ofNat ny ∧ (∀ i, i < ny → R 6 i = some (W 7 i) ∧ sh (W 7 i) = (16, 0) ∧ mk W (W 7 i) (2000 + i)) ∧ (∀ i, ny ≤ i → i < 10 → R 6 i = none) ∧
  (∀ i k, i < ny → k < 7 → I (W 7 i) k = Int32.ofNat (Y k i) ∧ I (48 + k) i = Int32.ofNat (Y k i)) ∧
  (∀ i, i < ny → Y 0 i ≤ Y 1 i ∧ Y 1 i ≤ 2000 ∧ Y 2 i ≤ 999 ∧ Y 3 i ≤ 999 ∧ Y 4 i ≤ 7 ∧ Y 5 i ≤ 9 ∧ Y 6 i ≤ 1)
theorem c9 {W : WW} {k i : Nat} (hk : k < 7) : cI W (48 + k) i = 9 := by
  rcases (show k = 0 ∨ k = 1 ∨ k = 2 ∨ k = 3 ∨ k = 4 ∨ k = 5 ∨ k = 6 by omega) with rfl | rfl | rfl | rfl | rfl | rfl | rfl <;> rfl
theorem GY.fr {Y : Nat → Nat → Nat} {W W' : WW} {ny : Nat} {sh sh' : Nat → Nat × Nat} {R R' : Nat → Nat → Option Nat} {I I' : Nat → Nat → Int32} (hW : ∀ k, W' 7 k = W 7 k) (h8 : ∀ a, W 8 a < 3000 → W' 8 a = W 8 a) (hs : ∀ a, W 8 a < 3000 → sh' a = sh a) (hR : ∀ a k, cR W a = 9 → R' a k = R a k) (h : sameI W 9 I I') (hlt : ∀ a, W 8 a < 3000 → True) (G : GY Y W ny sh R I) : GY Y W' ny sh' R' I' := by
  obtain ⟨h10, e1, e2, g1, g2, g3, g4⟩ := G
  have w7 : W' 7 = W 7 := funext hW
  have c : ∀ i k, i < ny → cI W (W 7 i) k = 9 := fun i k hi => by rw [(g1 i hi).2.2.cI, dyc9 (by omega)]
  unfold GY
  rw [w7]
  refine ⟨h10, (h 0 6 rfl).trans e1, (h 37 13 rfl).trans e2, fun i hi => ?_, fun i h1 h2 => (hR 6 i rfl).trans (g2 i h1 h2), fun i k hi hk => ?_, g4⟩
  · have q := g1 i hi
    have h3 : W 8 (W 7 i) < 3000 := by rw [q.2.2.2]; omega
    exact ⟨(hR 6 i rfl).trans q.1, (hs _ h3).trans q.2.1, q.2.2.1, (h8 _ h3).trans q.2.2.2⟩
  · exact ⟨(h _ _ (c i k hi)).trans (g3 i k hi hk).1, (h _ _ (c9 hk)).trans (g3 i k hi hk).2⟩
section STORY
variable {X : XX} {d : Nat} {sz sl : Nat} {sh : Nat → Nat × Nat} {R : Nat → Nat → Option Nat} {I : Nat → Nat → Int32} {J : Nat → Nat → Int64} {W : WW} {ns nl ny : Nat}
def Yn (Y : Nat → Nat → Nat) (ny u q p : Nat) : Nat → Nat → Nat := fun k i => if i = ny then (match k with | 0 => u / 10000 | 1 => u % 10000 | 2 => q / 1000 | 3 => q % 1000 | 4 => p / 100 | 5 => p / 10 % 10 | _ => p % 10) else Y k i
def Ws (W : WW) (sz ny : Nat) : WW := fun r k => if r = 7 ∧ k = ny then sz else if r = 8 ∧ k = sz then 2000 + ny else W r k
theorem o_story (hS : SF sh R) {Y : Nat → Nat → Nat} (G : GY Y W ny sh R I) (Z : GZ W sz sl ns nl ny) {v w z : Int32} : ∃ x sz' sl' sh' R1 I1 J1 I2 W' Y' ny', ev X (d + 4) 62 [.ref 0, .int v, .int w, .int z] (sz, sl, sh, R, I, J) = some (some (.int x), (sz', sl', sh', R1, I1, J1)) ∧ ev X (d + 4) 185 [.ref 37, .int v, .int w, .int z] (sz', sl', sh', R1, I1, J1) = some (some (.int x), (sz', sl', sh', R1, I2, J1)) ∧ (∀ r k, r ≠ 7 → r ≠ 8 → W' r k = W r k) ∧ (∀ a, W 8 a < 3000 → W' 8 a = W 8 a) ∧ GY Y' W' ny' sh' R1 I2 ∧ GZ W' sz' sl' ns nl ny' ∧ (∀ a, a < sz → sh' a = sh a) ∧ (∀ a k, a < sz → cI W a k ≠ 9 → I2 a k = I a k) ∧ (∀ a k, a < sz → cR W a ≠ 9 → R1 a k = R a k) ∧ (∀ a k, a < sz → J1 a k = J a k) := by
  have G' := G
  obtain ⟨h10, e1, e2, g1, g2, g3, g4⟩ := G
  have same : ∀ x, ev X (d + 4) 62 [.ref 0, .int v, .int w, .int z] (sz, sl, sh, R, I, J) = some (some (.int x), (sz, sl, sh, R, I, J)) → ev X (d + 4) 185 [.ref 37, .int v, .int w, .int z] (sz, sl, sh, R, I, J) = some (some (.int x), (sz, sl, sh, R, I, J)) → ∃ x sz' sl' sh' R1 I1 J1 I2 W' Y' ny', ev X (d + 4) 62 [.ref 0, .int v, .int w, .int z] (sz, sl, sh, R, I, J) = some (some (.int x), (sz', sl', sh', R1, I1, J1)) ∧ ev X (d + 4) 185 [.ref 37, .int v, .int w, .int z] (sz', sl', sh', R1, I1, J1) = some (some (.int x), (sz', sl', sh', R1, I2, J1)) ∧ (∀ r k, r ≠ 7 → r ≠ 8 → W' r k = W r k) ∧ (∀ a, W 8 a < 3000 → W' 8 a = W 8 a) ∧ GY Y' W' ny' sh' R1 I2 ∧ GZ W' sz' sl' ns nl ny' ∧ (∀ a, a < sz → sh' a = sh a) ∧ (∀ a k, a < sz → cI W a k ≠ 9 → I2 a k = I a k) ∧ (∀ a k, a < sz → cR W a ≠ 9 → R1 a k = R a k) ∧ (∀ a k, a < sz → J1 a k = J a k) :=
    fun x a b => ⟨x, sz, sl, sh, R, I, J, I, W, Y, ny, a, b, fun _ _ _ _ => rfl, fun _ _ => rfl, G', Z, fun _ _ => rfl, fun _ _ _ _ => rfl, fun _ _ _ _ => rfl, fun _ _ _ => rfl⟩
  by_cases hv : v < 0
  · refine same (-1) ?_ ?_
    · simp (disch := first | omega | exact ib_r | exact ib_n | exact isB_rfv _ | assumption) only [n62, t62_0, hv, ↓reduceIte, eq_self, and_self, and_true, true_and, not_true_eq_false, not_false_eq_true, ob_s, tl_s, tl_n, rf_ref, orf_ref, orf_null, nn_ref, nn_null, rfv_s, rfv_n, if_true, if_false, bi_01, bi_e0, bi_e1, or_t, Classical.not_not]
    · simp (disch := first | omega | exact ib_r | exact ib_n | exact isB_rfv _ | assumption) only [n185, t185_0, t185_43, t185_44, hv, ↓reduceIte, eq_self, and_self, and_true, true_and, not_true_eq_false, not_false_eq_true, ob_s, tl_s, tl_n, rf_ref, orf_ref, orf_null, nn_ref, nn_null, rfv_s, rfv_n, if_true, if_false, bi_01, bi_e0, bi_e1, or_t, Classical.not_not]
  obtain ⟨u, hu, rfl⟩ := n_of (Int32.not_lt.mp hv)
  have ed : Int32.ofNat u / 10000 = Int32.ofNat (u / 10000) := by rw [k_10000, n_div hu (by decide)]
  have er : Int32.ofNat u - Int32.ofNat (u / 10000) * 10000 = Int32.ofNat (u % 10000) := by rw [k_10000, n_rem']
  have u1 : u / 10000 < 2147483648 := by omega
  have u2' : u % 10000 < 10000 := by omega
  have z1 : ¬ (1 : Int32) = 0 := by decide
  by_cases h1 : u / 10000 ≤ 2000
  rotate_left
  · have f1 : ¬ (0 ≤ Int32.ofNat (u / 10000) ∧ Int32.ofNat (u / 10000) ≤ 2000) := fun z => by have := z.2; rw [k_2000, n_le u1 (by decide)] at this; omega
    have f2 : (2000 : Int32) < Int32.ofNat (u / 10000) := by rw [k_2000, n_lt (by decide) u1]; omega
    refine same (-1) ?_ ?_
    · simp (disch := first | omega | exact ib_r | exact ib_n | exact isB_rfv _ | assumption) only [n62, t62_0, t62_29, hv, ed, er, s_isYear, f1, ↓reduceIte, eq_self, and_self, and_true, true_and, not_true_eq_false, not_false_eq_true, ob_s, tl_s, tl_n, rf_ref, orf_ref, orf_null, nn_ref, nn_null, rfv_s, rfv_n, if_true, if_false, bi_01, bi_e0, bi_e1, or_t, Classical.not_not]
    · simp (disch := first | omega | exact ib_r | exact ib_n | exact isB_rfv _ | assumption) only [n185, t185_0, t185_43, t185_44, hv, ed, er, f2, ↓reduceIte, eq_self, and_self, and_true, true_and, not_true_eq_false, not_false_eq_true, ob_s, tl_s, tl_n, rf_ref, orf_ref, orf_null, nn_ref, nn_null, rfv_s, rfv_n, if_true, if_false, bi_01, bi_e0, bi_e1, or_t, Classical.not_not]
  have f1 : 0 ≤ Int32.ofNat (u / 10000) ∧ Int32.ofNat (u / 10000) ≤ 2000 := ⟨n_ge u1, by rw [k_2000, n_le u1 (by decide)]; exact h1⟩
  have f2 : ¬ (2000 : Int32) < Int32.ofNat (u / 10000) := by rw [k_2000, n_lt (by decide) u1]; omega
  by_cases h2 : u % 10000 ≤ 2000
  rotate_left
  · have f3 : ¬ (0 ≤ Int32.ofNat (u % 10000) ∧ Int32.ofNat (u % 10000) ≤ 2000) := fun z => by have := z.2; rw [k_2000, n_le (by omega) (by decide)] at this; omega
    have f4 : (2000 : Int32) < Int32.ofNat (u % 10000) := by rw [k_2000, n_lt (by decide) (by omega)]; omega
    refine same (-1) ?_ ?_
    · simp (disch := first | omega | exact ib_r | exact ib_n | exact isB_rfv _ | assumption) only [n62, t62_0, t62_29, t62_37, hv, ed, er, s_isYear, f1, f3, ↓reduceIte, eq_self, and_self, and_true, true_and, not_true_eq_false, not_false_eq_true, ob_s, tl_s, tl_n, rf_ref, orf_ref, orf_null, nn_ref, nn_null, rfv_s, rfv_n, if_true, if_false, bi_01, bi_e0, bi_e1, or_t, Classical.not_not]
    · simp (disch := first | omega | exact ib_r | exact ib_n | exact isB_rfv _ | assumption) only [n185, t185_0, t185_43, t185_44, hv, ed, er, f2, f4, ↓reduceIte, eq_self, and_self, and_true, true_and, not_true_eq_false, not_false_eq_true, ob_s, tl_s, tl_n, rf_ref, orf_ref, orf_null, nn_ref, nn_null, rfv_s, rfv_n, if_true, if_false, bi_01, bi_e0, bi_e1, or_t, Classical.not_not]
  have f3 : 0 ≤ Int32.ofNat (u % 10000) ∧ Int32.ofNat (u % 10000) ≤ 2000 := ⟨n_ge (by omega), by rw [k_2000, n_le (by omega) (by decide)]; exact h2⟩
  have f4 : ¬ (2000 : Int32) < Int32.ofNat (u % 10000) := by rw [k_2000, n_lt (by decide) (by omega)]; omega
  by_cases h3 : u % 10000 < u / 10000
  · have f5 : Int32.ofNat (u % 10000) < Int32.ofNat (u / 10000) := by rw [n_lt (by omega) u1]; exact h3
    refine same (-1) ?_ ?_
    · simp (disch := first | omega | exact ib_r | exact ib_n | exact isB_rfv _ | assumption) only [n62, t62_0, t62_29, t62_37, hv, ed, er, s_isYear, f1, f3, f5, ↓reduceIte, eq_self, and_self, and_true, true_and, not_true_eq_false, not_false_eq_true, ob_s, tl_s, tl_n, rf_ref, orf_ref, orf_null, nn_ref, nn_null, rfv_s, rfv_n, if_true, if_false, bi_01, bi_e0, bi_e1, or_t, Classical.not_not]
    · simp (disch := first | omega | exact ib_r | exact ib_n | exact isB_rfv _ | assumption) only [n185, t185_0, t185_43, t185_44, hv, ed, er, f2, f4, f5, ↓reduceIte, eq_self, and_self, and_true, true_and, not_true_eq_false, not_false_eq_true, ob_s, tl_s, tl_n, rf_ref, orf_ref, orf_null, nn_ref, nn_null, rfv_s, rfv_n, if_true, if_false, bi_01, bi_e0, bi_e1, or_t, Classical.not_not]
  have f5 : ¬ Int32.ofNat (u % 10000) < Int32.ofNat (u / 10000) := by rw [n_lt (by omega) u1]; exact h3
  by_cases h4 : 0 ≤ w ∧ w ≤ 999999
  rotate_left
  · refine same (-1) ?_ ?_
    · simp (disch := first | omega | exact ib_r | exact ib_n | exact isB_rfv _ | assumption) only [n62, t62_0, t62_29, t62_37, t62_54, hv, ed, er, s_isYear, s_within, f1, f3, f5, h4, ↓reduceIte, eq_self, and_self, and_true, true_and, not_true_eq_false, not_false_eq_true, ob_s, tl_s, tl_n, rf_ref, orf_ref, orf_null, nn_ref, nn_null, rfv_s, rfv_n, if_true, if_false, bi_01, bi_e0, bi_e1, or_t, Classical.not_not]
    · simp (disch := first | omega | exact ib_r | exact ib_n | exact isB_rfv _ | assumption) only [n185, t185_0, t185_44, t185_58, hv, ed, er, f2, f4, f5, z1, s_in, h4, ↓reduceIte, eq_self, and_self, and_true, true_and, not_true_eq_false, not_false_eq_true, ob_s, tl_s, tl_n, rf_ref, orf_ref, orf_null, nn_ref, nn_null, rfv_s, rfv_n, if_true, if_false, bi_01, bi_e0, bi_e1, or_t, Classical.not_not]
  by_cases h5 : 0 ≤ z ∧ z ≤ 799
  rotate_left
  · refine same (-1) ?_ ?_
    · simp (disch := first | omega | exact ib_r | exact ib_n | exact isB_rfv _ | assumption) only [n62, t62_0, t62_29, t62_37, t62_54, t62_65 hS, hv, ed, er, s_isYear, s_within, f1, f3, f5, h4, h5, ↓reduceIte, eq_self, and_self, and_true, true_and, not_true_eq_false, not_false_eq_true, ob_s, tl_s, tl_n, rf_ref, orf_ref, orf_null, nn_ref, nn_null, rfv_s, rfv_n, if_true, if_false, bi_01, bi_e0, bi_e1, or_t, Classical.not_not]
    · simp (disch := first | omega | exact ib_r | exact ib_n | exact isB_rfv _ | assumption) only [n185, t185_0, t185_44, t185_58, t185_69 hS, hv, ed, er, f2, f4, f5, z1, s_in, h4, h5, ↓reduceIte, eq_self, and_self, and_true, true_and, not_true_eq_false, not_false_eq_true, ob_s, tl_s, tl_n, rf_ref, orf_ref, orf_null, nn_ref, nn_null, rfv_s, rfv_n, if_true, if_false, bi_01, bi_e0, bi_e1, or_t, Classical.not_not]
  obtain ⟨q, -, hq, rfl⟩ := n_in (a := 0) (b := 999999) (by decide) h4.1 h4.2 (by decide)
  obtain ⟨p, -, hp, rfl⟩ := n_in (a := 0) (b := 799) (by decide) h5.1 h5.2 (by decide)
  have p10 : Int32.ofNat p / 10 = Int32.ofNat (p / 10) := by rw [k_10, n_div (by omega) (by decide)]
  have p1 : Int32.ofNat p - Int32.ofNat (p / 10) * 10 = Int32.ofNat (p % 10) := by rw [k_10, n_rem']
  have p100 : Int32.ofNat p / 100 = Int32.ofNat (p / 100) := by rw [k_100, n_div (by omega) (by decide)]
  have p10d : Int32.ofNat (p / 10) / 10 = Int32.ofNat (p / 10 / 10) := by rw [k_10, n_div (by omega) (by decide)]
  have p10r : Int32.ofNat (p / 10) - Int32.ofNat (p / 10 / 10) * 10 = Int32.ofNat (p / 10 % 10) := by rw [k_10, n_rem']
  have q1 : Int32.ofNat q / 1000 = Int32.ofNat (q / 1000) := by rw [k_1000, n_div (by omega) (by decide)]
  have q2 : Int32.ofNat q - Int32.ofNat (q / 1000) * 1000 = Int32.ofNat (q % 1000) := by rw [k_1000, n_rem']
  by_cases h6 : p % 10 ≤ 1
  rotate_left
  · have f6 : ¬ Int32.ofNat (p % 10) ≤ 1 := by rw [k_1, n_le (by omega) (by decide)]; exact h6
    refine same (-1) ?_ ?_
    · simp (disch := first | omega | exact ib_r | exact ib_n | exact isB_rfv _ | assumption) only [n62, t62_0, t62_29, t62_37, t62_54, t62_65 hS, hv, ed, er, p10, p1, s_isYear, s_within, f1, f3, f5, f6, h4, h5, ↓reduceIte, eq_self, and_self, and_true, true_and, not_true_eq_false, not_false_eq_true, ob_s, tl_s, tl_n, rf_ref, orf_ref, orf_null, nn_ref, nn_null, rfv_s, rfv_n, if_true, if_false, bi_01, bi_e0, bi_e1, or_t, Classical.not_not]
    · simp (disch := first | omega | exact ib_r | exact ib_n | exact isB_rfv _ | assumption) only [n185, t185_0, t185_44, t185_58, t185_69 hS, hv, ed, er, p10, p1, f2, f4, f5, f6, z1, s_in, h4, h5, ↓reduceIte, eq_self, and_self, and_true, true_and, not_true_eq_false, not_false_eq_true, ob_s, tl_s, tl_n, rf_ref, orf_ref, orf_null, nn_ref, nn_null, rfv_s, rfv_n, if_true, if_false, bi_01, bi_e0, bi_e1, or_t, Classical.not_not]
  have f6 : Int32.ofNat (p % 10) ≤ 1 := by rw [k_1, n_le (by omega) (by decide)]; exact h6
  by_cases hn : ny < 10
  rotate_left
  · obtain rfl : ny = 10 := by omega
    have y1 : ¬ Int32.ofNat 10 < 10 := by decide
    have y2 : Int32.ofNat 10 = 10 := rfl
    refine same (-3) ?_ ?_
    · simp (disch := first | omega | exact ib_r | exact ib_n | exact isB_rfv _ | assumption) only [n62, t62_0, t62_29, t62_37, t62_54, t62_65 hS, hv, ed, er, p10, p1, s_isYear, s_within, f1, f3, f5, f6, h4, h5, e1, y1, ↓reduceIte, eq_self, and_self, and_true, true_and, not_true_eq_false, not_false_eq_true, ob_s, tl_s, tl_n, rf_ref, orf_ref, orf_null, nn_ref, nn_null, rfv_s, rfv_n, if_true, if_false, bi_01, bi_e0, bi_e1, or_t, Classical.not_not]
    · simp (disch := first | omega | exact ib_r | exact ib_n | exact isB_rfv _ | assumption) only [n185, t185_0, t185_44, t185_58, t185_69 hS, hv, ed, er, p10, p1, f2, f4, f5, f6, z1, s_in, h4, h5, e2, y2, ↓reduceIte, eq_self, and_self, and_true, true_and, not_true_eq_false, not_false_eq_true, ob_s, tl_s, tl_n, rf_ref, orf_ref, orf_null, nn_ref, nn_null, rfv_s, rfv_n, if_true, if_false, bi_01, bi_e0, bi_e1, or_t, Classical.not_not]
  have h71 := Z.1
  have hmk : ∀ a, W 8 a < 3000 → a < sz := fun a h => Z.lt h
  have X1 : ev X (d + 4) 62 [.ref 0, .int (Int32.ofNat u), .int (Int32.ofNat q), .int (Int32.ofNat p)] (sz, sl, sh, R, I, J) = exe X (d + 3) 62 102 [.ref 0, dm, .int (Int32.ofNat q), .int (Int32.ofNat p), .int (Int32.ofNat (u / 10000)), .int (Int32.ofNat (u % 10000)), .int (Int32.ofNat (p % 10))] [.ref sz, .int (Int32.ofNat ny), .ref 6] (sz + 1, sl + 7, (ur sh sz (16, 0)), (ur R sz (fun _ => none)), (ur I sz (fun _ => (0 : Int32))), (ur J sz (fun _ => 0))) := by
    have y1 : Int32.ofNat ny < 10 := by rw [k_10, n_lt (by omega) (by decide)]; exact hn
    simp (disch := first | omega | exact ib_r | exact ib_n | exact isB_rfv _ | assumption) only [n62, t62_0, t62_29, t62_37, t62_54, t62_65 hS, hv, ed, er, p10, p1, s_isYear, s_within, f1, f3, f5, f6, h4, h5, e1, y1, ↓reduceIte, eq_self, and_self, and_true, true_and, not_true_eq_false, not_false_eq_true, ob_s, tl_s, tl_n, rf_ref, orf_ref, orf_null, nn_ref, nn_null, rfv_s, rfv_n, if_true, if_false, bi_01, bi_e0, bi_e1, or_t, Classical.not_not]
  have sh6 : (ur sh sz (16, 0)) 6 = (5, 10) := by rw [ur_n (by omega)]; exact zS6 hS
  have shz : (ur sh sz (16, 0)) sz = (16, 0) := ur_a
  have cond : ((3 ≤ ((ur sh sz (16, 0)) 6).1 ∧ ((ur sh sz (16, 0)) 6).1 < 7) ∧ inb (Int32.ofNat ny) ((ur sh sz (16, 0)) 6).2) ∧ (ur sh sz (16, 0)) sz = (tcl ((ur sh sz (16, 0)) 6).1 + 7, 0) := by
    rw [sh6, shz]
    exact ⟨⟨⟨by decide, by decide⟩, by rw [n_inb (by omega)]; exact hn⟩, rfl⟩
  have R2n : ∀ a k, a < sz → ¬ (a = 6 ∧ k = ny) → (u2 (ur R sz (fun _ => none)) 6 ny (some sz)) a k = R a k := fun a k ha hk => by
    show (if a = 6 ∧ k = ny then _ else (ur R sz (fun _ => none)) a k) = R a k
    rw [if_neg hk, ur_n (by omega)]
  have hS2 : SF (ur sh sz (16, 0)) (u2 (ur R sz (fun _ => none)) 6 ny (some sz)) := hS.fr (W := W) (fun a ha => by rw [ur_n (by omega)]) (fun a k hc => by
    have hlt : a < 71 := by
      by_cases h : a < 71
      · exact h
      · exfalso
        rw [cR_hi (by omega)] at hc
        unfold dyc at hc
        split at hc
        · omega
        · split at hc
          · split at hc <;> omega
          · split at hc <;> omega
    exact R2n a k (by omega) (fun z => by rw [z.1] at hc; exact absurd hc (by show ¬ (9 : Nat) = 10; decide)))
  have I2n : ∀ a k, a < sz → (u2 (u2 (u2 (u2 (u2 (u2 (u2 (ur I sz (fun _ => (0 : Int32))) sz 0 (Int32.ofNat (u / 10000))) sz 1 (Int32.ofNat (u % 10000))) sz 2 (Int32.ofNat (q / 1000))) sz 3 (Int32.ofNat (q % 1000))) sz 4 (Int32.ofNat (p / 100))) sz 5 (Int32.ofNat (p / 10 % 10))) sz 6 (Int32.ofNat (p % 10))) a k = I a k := fun a k ha => by rw [u2_pa (by omega), u2_pa (by omega), u2_pa (by omega), u2_pa (by omega), u2_pa (by omega), u2_pa (by omega), u2_pa (by omega), ur_n (by omega)]
  have I206 : (u2 (u2 (u2 (u2 (u2 (u2 (u2 (ur I sz (fun _ => (0 : Int32))) sz 0 (Int32.ofNat (u / 10000))) sz 1 (Int32.ofNat (u % 10000))) sz 2 (Int32.ofNat (q / 1000))) sz 3 (Int32.ofNat (q % 1000))) sz 4 (Int32.ofNat (p / 100))) sz 5 (Int32.ofNat (p / 10 % 10))) sz 6 (Int32.ofNat (p % 10))) 0 6 = Int32.ofNat ny := by rw [I2n 0 6 (by omega)]; exact e1
  have I3n : ∀ a k, a < sz → ¬ (a = 0 ∧ k = 6) → (u2 (u2 (u2 (u2 (u2 (u2 (u2 (u2 (ur I sz (fun _ => (0 : Int32))) sz 0 (Int32.ofNat (u / 10000))) sz 1 (Int32.ofNat (u % 10000))) sz 2 (Int32.ofNat (q / 1000))) sz 3 (Int32.ofNat (q % 1000))) sz 4 (Int32.ofNat (p / 100))) sz 5 (Int32.ofNat (p / 10 % 10))) sz 6 (Int32.ofNat (p % 10))) 0 6 (Int32.ofNat (ny + 1))) a k = I a k := fun a k ha hk => by
    show (if a = 0 ∧ k = 6 then _ else (u2 (u2 (u2 (u2 (u2 (u2 (u2 (ur I sz (fun _ => (0 : Int32))) sz 0 (Int32.ofNat (u / 10000))) sz 1 (Int32.ofNat (u % 10000))) sz 2 (Int32.ofNat (q / 1000))) sz 3 (Int32.ofNat (q % 1000))) sz 4 (Int32.ofNat (p / 100))) sz 5 (Int32.ofNat (p / 10 % 10))) sz 6 (Int32.ofNat (p % 10))) a k) = I a k
    rw [if_neg hk, I2n a k ha]
  have I3713 : (u2 (u2 (u2 (u2 (u2 (u2 (u2 (u2 (ur I sz (fun _ => (0 : Int32))) sz 0 (Int32.ofNat (u / 10000))) sz 1 (Int32.ofNat (u % 10000))) sz 2 (Int32.ofNat (q / 1000))) sz 3 (Int32.ofNat (q % 1000))) sz 4 (Int32.ofNat (p / 100))) sz 5 (Int32.ofNat (p / 10 % 10))) sz 6 (Int32.ofNat (p % 10))) 0 6 (Int32.ofNat (ny + 1))) 37 13 = Int32.ofNat ny := by rw [I3n 37 13 (by omega) (by omega)]; exact e2
  have I4n : ∀ a k, a < sz → ¬ (a = 0 ∧ k = 6) → ¬ (a = 37 ∧ k = 13) → ¬ (48 ≤ a ∧ a ≤ 54 ∧ k = ny) → (u2 (u2 (u2 (u2 (u2 (u2 (u2 (u2 (u2 (u2 (u2 (u2 (u2 (u2 (u2 (u2 (ur I sz (fun _ => (0 : Int32))) sz 0 (Int32.ofNat (u / 10000))) sz 1 (Int32.ofNat (u % 10000))) sz 2 (Int32.ofNat (q / 1000))) sz 3 (Int32.ofNat (q % 1000))) sz 4 (Int32.ofNat (p / 100))) sz 5 (Int32.ofNat (p / 10 % 10))) sz 6 (Int32.ofNat (p % 10))) 0 6 (Int32.ofNat (ny + 1))) 48 ny (Int32.ofNat (u / 10000))) 49 ny (Int32.ofNat (u % 10000))) 50 ny (Int32.ofNat (q / 1000))) 51 ny (Int32.ofNat (q % 1000))) 52 ny (Int32.ofNat (p / 100))) 53 ny (Int32.ofNat (p / 10 % 10))) 54 ny (Int32.ofNat (p % 10))) 37 13 (Int32.ofNat (ny + 1))) a k = I a k := fun a k ha n1 n2 n3 => by
    show (if a = 37 ∧ k = 13 then _ else if a = 54 ∧ k = ny then _ else if a = 53 ∧ k = ny then _ else if a = 52 ∧ k = ny then _ else if a = 51 ∧ k = ny then _ else if a = 50 ∧ k = ny then _ else if a = 49 ∧ k = ny then _ else if a = 48 ∧ k = ny then _ else (u2 (u2 (u2 (u2 (u2 (u2 (u2 (u2 (ur I sz (fun _ => (0 : Int32))) sz 0 (Int32.ofNat (u / 10000))) sz 1 (Int32.ofNat (u % 10000))) sz 2 (Int32.ofNat (q / 1000))) sz 3 (Int32.ofNat (q % 1000))) sz 4 (Int32.ofNat (p / 100))) sz 5 (Int32.ofNat (p / 10 % 10))) sz 6 (Int32.ofNat (p % 10))) 0 6 (Int32.ofNat (ny + 1))) a k) = I a k
    rw [if_neg n2, if_neg (fun z => n3 ⟨by omega, by omega, z.2⟩), if_neg (fun z => n3 ⟨by omega, by omega, z.2⟩), if_neg (fun z => n3 ⟨by omega, by omega, z.2⟩), if_neg (fun z => n3 ⟨by omega, by omega, z.2⟩), if_neg (fun z => n3 ⟨by omega, by omega, z.2⟩), if_neg (fun z => n3 ⟨by omega, by omega, z.2⟩), if_neg (fun z => n3 ⟨by omega, by omega, z.2⟩), I3n a k ha n1]
  have I4h : ∀ k, (u2 (u2 (u2 (u2 (u2 (u2 (u2 (u2 (u2 (u2 (u2 (u2 (u2 (u2 (u2 (u2 (ur I sz (fun _ => (0 : Int32))) sz 0 (Int32.ofNat (u / 10000))) sz 1 (Int32.ofNat (u % 10000))) sz 2 (Int32.ofNat (q / 1000))) sz 3 (Int32.ofNat (q % 1000))) sz 4 (Int32.ofNat (p / 100))) sz 5 (Int32.ofNat (p / 10 % 10))) sz 6 (Int32.ofNat (p % 10))) 0 6 (Int32.ofNat (ny + 1))) 48 ny (Int32.ofNat (u / 10000))) 49 ny (Int32.ofNat (u % 10000))) 50 ny (Int32.ofNat (q / 1000))) 51 ny (Int32.ofNat (q % 1000))) 52 ny (Int32.ofNat (p / 100))) 53 ny (Int32.ofNat (p / 10 % 10))) 54 ny (Int32.ofNat (p % 10))) 37 13 (Int32.ofNat (ny + 1))) sz k = (u2 (u2 (u2 (u2 (u2 (u2 (u2 (ur I sz (fun _ => (0 : Int32))) sz 0 (Int32.ofNat (u / 10000))) sz 1 (Int32.ofNat (u % 10000))) sz 2 (Int32.ofNat (q / 1000))) sz 3 (Int32.ofNat (q % 1000))) sz 4 (Int32.ofNat (p / 100))) sz 5 (Int32.ofNat (p / 10 % 10))) sz 6 (Int32.ofNat (p % 10))) sz k := fun k => by rw [u2_pa (by omega), u2_pa (by omega), u2_pa (by omega), u2_pa (by omega), u2_pa (by omega), u2_pa (by omega), u2_pa (by omega), u2_pa (by omega), u2_pa (by omega)]
  have w7 : Ws W sz ny 7 ny = sz := if_pos ⟨rfl, rfl⟩
  have w7' : ∀ i, i ≠ ny → Ws W sz ny 7 i = W 7 i := fun i hi => by unfold Ws; rw [if_neg (by omega), if_neg (by omega)]
  have w8 : Ws W sz ny 8 sz = 2000 + ny := by unfold Ws; rw [if_neg (by omega), if_pos ⟨rfl, rfl⟩]
  have w8' : ∀ a, a ≠ sz → Ws W sz ny 8 a = W 8 a := fun i hi => by unfold Ws; rw [if_neg (by omega), if_neg (by omega)]
  refine ⟨Int32.ofNat ny, sz + 1, sl + 7, (ur sh sz (16, 0)), (u2 (ur R sz (fun _ => none)) 6 ny (some sz)), (u2 (u2 (u2 (u2 (u2 (u2 (u2 (u2 (ur I sz (fun _ => (0 : Int32))) sz 0 (Int32.ofNat (u / 10000))) sz 1 (Int32.ofNat (u % 10000))) sz 2 (Int32.ofNat (q / 1000))) sz 3 (Int32.ofNat (q % 1000))) sz 4 (Int32.ofNat (p / 100))) sz 5 (Int32.ofNat (p / 10 % 10))) sz 6 (Int32.ofNat (p % 10))) 0 6 (Int32.ofNat (ny + 1))), (ur J sz (fun _ => 0)), (u2 (u2 (u2 (u2 (u2 (u2 (u2 (u2 (u2 (u2 (u2 (u2 (u2 (u2 (u2 (u2 (ur I sz (fun _ => (0 : Int32))) sz 0 (Int32.ofNat (u / 10000))) sz 1 (Int32.ofNat (u % 10000))) sz 2 (Int32.ofNat (q / 1000))) sz 3 (Int32.ofNat (q % 1000))) sz 4 (Int32.ofNat (p / 100))) sz 5 (Int32.ofNat (p / 10 % 10))) sz 6 (Int32.ofNat (p % 10))) 0 6 (Int32.ofNat (ny + 1))) 48 ny (Int32.ofNat (u / 10000))) 49 ny (Int32.ofNat (u % 10000))) 50 ny (Int32.ofNat (q / 1000))) 51 ny (Int32.ofNat (q % 1000))) 52 ny (Int32.ofNat (p / 100))) 53 ny (Int32.ofNat (p / 10 % 10))) 54 ny (Int32.ofNat (p % 10))) 37 13 (Int32.ofNat (ny + 1))), Ws W sz ny, Yn Y ny u q p, ny + 1, ?_, ?_, fun r k h7 h8 => ?_, fun a ha => w8' a (by have := hmk a ha; omega), ⟨by omega, ?_, ?_, fun i hi => ?_, fun i h1 h2 => ?_, fun i k hi hk => ?_, fun i hi => ?_⟩, ⟨by omega, fun a ha => ?_, by have := Z.2.2.1; omega, by have := Z.2.2.2; omega⟩, fun a ha => ?_, fun a k ha hc => ?_, fun a k ha hc => ?_, fun a k ha => ?_⟩
  · rw [X1, t62_102 rfl rfl, rf_ref, if_pos ur_a]
    simp (disch := first | omega | exact ib_r | exact ib_n | exact isB_rfv _ | assumption) only [q1, q2, p10, p100, p10d, p10r]
    rw [n63, t63_0 ur_a, ob_s]
    show exe X (d + 3) 62 133 _ [.ref sz, .int (Int32.ofNat ny), .ref 6] _ = _
    rw [t62_133 rfl rfl, rf_ref, rf_ref, if_pos cond, n_cl (by omega), t62_134 hS2, I206, n_suc]
  · have y1 : ¬ Int32.ofNat ny = 10 := by rw [k_10, n_eq (by omega) (by decide)]; omega
    have y2 : Int32.ofNat (ny + 1) - 1 = Int32.ofNat ny := by rw [k_1, n_sub (by omega), Nat.add_sub_cancel]
    simp (disch := first | omega | exact ib_r | exact ib_n | exact isB_rfv _ | assumption) only [n185, t185_0, t185_44, t185_58, t185_69 hS2, hv, ed, er, p10, p1, p100, p10d, p10r, q1, q2, f2, f4, f5, f6, z1, s_in, h4, h5, I3713, y1, n_inb, n_cl, hn, n_suc, y2, ↓reduceIte, eq_self, and_self, and_true, true_and, not_true_eq_false, not_false_eq_true, ob_s, tl_s, tl_n, rf_ref, orf_ref, orf_null, nn_ref, nn_null, rfv_s, rfv_n, if_true, if_false, bi_01, bi_e0, bi_e1, or_t, Classical.not_not]
  · unfold Ws; rw [if_neg (fun z => h7 z.1), if_neg (fun z => h8 z.1)]
  · rw [u2_pa (by decide), u2_pa (by decide), u2_pa (by decide), u2_pa (by decide), u2_pa (by decide), u2_pa (by decide), u2_pa (by decide), u2_pa (by decide), u2_at0]
  · rw [u2_at0]
  · by_cases e : i = ny
    · subst e
      rw [w7]
      exact ⟨u2_at0, shz, h71, w8⟩
    · have hi' : i < ny := by omega
      have g := g1 i hi'
      have h3 : W 8 (W 7 i) < 3000 := by rw [g.2.2.2]; omega
      have h4 := hmk _ h3
      rw [w7' i e, R2n 6 i (by omega) (by omega), ur_n (by omega)]
      exact ⟨g.1, g.2.1, g.2.2.1, by rw [w8' _ (by omega)]; exact g.2.2.2⟩
  · rw [R2n 6 i (by omega) (by omega)]; exact g2 i (by omega) h2
  · by_cases e : i = ny
    · subst e
      unfold Yn
      rw [if_pos rfl, w7, I4h]
      rcases (show k = 0 ∨ k = 1 ∨ k = 2 ∨ k = 3 ∨ k = 4 ∨ k = 5 ∨ k = 6 by omega) with rfl | rfl | rfl | rfl | rfl | rfl | rfl
      · exact ⟨by rw [u2_pj (by decide), u2_pj (by decide), u2_pj (by decide), u2_pj (by decide), u2_pj (by decide), u2_pj (by decide), u2_at0]; rfl, by rw [u2_pa (by decide), u2_pa (by decide), u2_pa (by decide), u2_pa (by decide), u2_pa (by decide), u2_pa (by decide), u2_pa (by decide), u2_at0]; rfl⟩
      · exact ⟨by rw [u2_pj (by decide), u2_pj (by decide), u2_pj (by decide), u2_pj (by decide), u2_pj (by decide), u2_at0]; rfl, by rw [u2_pa (by decide), u2_pa (by decide), u2_pa (by decide), u2_pa (by decide), u2_pa (by decide), u2_pa (by decide), u2_at0]; rfl⟩
      · exact ⟨by rw [u2_pj (by decide), u2_pj (by decide), u2_pj (by decide), u2_pj (by decide), u2_at0]; rfl, by rw [u2_pa (by decide), u2_pa (by decide), u2_pa (by decide), u2_pa (by decide), u2_pa (by decide), u2_at0]; rfl⟩
      · exact ⟨by rw [u2_pj (by decide), u2_pj (by decide), u2_pj (by decide), u2_at0]; rfl, by rw [u2_pa (by decide), u2_pa (by decide), u2_pa (by decide), u2_pa (by decide), u2_at0]; rfl⟩
      · exact ⟨by rw [u2_pj (by decide), u2_pj (by decide), u2_at0]; rfl, by rw [u2_pa (by decide), u2_pa (by decide), u2_pa (by decide), u2_at0]; rfl⟩
      · exact ⟨by rw [u2_pj (by decide), u2_at0]; rfl, by rw [u2_pa (by decide), u2_pa (by decide), u2_at0]; rfl⟩
      · exact ⟨by rw [u2_at0]; rfl, by rw [u2_pa (by decide), u2_at0]; rfl⟩
    · have hi' : i < ny := by omega
      have g := g1 i hi'
      have h4 := hmk (W 7 i) (by rw [g.2.2.2]; omega)
      have h3 := g.2.2.1
      unfold Yn
      rw [if_neg e, w7' i e, I4n (W 7 i) k h4 (by omega) (by omega) (by omega), I4n (48 + k) i (by omega) (by omega) (by omega) (by omega)]
      exact g3 i k hi' hk
  · by_cases e : i = ny
    · unfold Yn
      rw [if_pos e, if_pos e, if_pos e, if_pos e, if_pos e, if_pos e, if_pos e]
      show u / 10000 ≤ u % 10000 ∧ u % 10000 ≤ 2000 ∧ q / 1000 ≤ 999 ∧ q % 1000 ≤ 999 ∧ p / 100 ≤ 7 ∧ p / 10 % 10 ≤ 9 ∧ p % 10 ≤ 1
      omega
    · unfold Yn
      rw [if_neg e, if_neg e, if_neg e, if_neg e, if_neg e, if_neg e, if_neg e]
      exact g4 i (by omega)
  · rw [w8' a (by omega)]; exact Z.2.1 a (by omega)
  · rw [ur_n (by omega)]
  · have na : ∀ b j, cI W b j = 9 → ¬ (a = b ∧ k = j) := fun b j hb z => hc (by rw [z.1, z.2]; exact hb)
    refine I4n a k ha (na 0 6 rfl) (na 37 13 rfl) (fun z => hc ?_)
    have := c9 (W := W) (k := a - 48) (i := k) (by omega)
    rw [show 48 + (a - 48) = a from by omega] at this
    exact this
  · exact R2n a k ha (fun z => hc (by rw [z.1]; rfl))
  · rw [ur_n (by omega)]
end STORY
/-! THE TAPE -/
def GT (T : Nat → Nat) (nt : Nat) (I : Nat → Nat → Int32) : Prop := nt ≤ 120 ∧ I 2 3 = Int32.ofNat nt ∧ I 37 9 = Int32.ofNat nt ∧ ∀ k, k < nt → I 3 k = Int32.ofNat (T k) ∧ I 45 k = Int32.ofNat (T k) ∧ T k ≤ 255
theorem GT.fr {W : WW} {T : Nat → Nat} {nt : Nat} {I I' : Nat → Nat → Int32} (h : sameI W 7 I I') (G : GT T nt I) : GT T nt I' :=
  ⟨G.1, (h 2 3 rfl).trans G.2.1, (h 37 9 rfl).trans G.2.2.1, fun k hk => ⟨(h 3 k rfl).trans (G.2.2.2 k hk).1, (h 45 k rfl).trans (G.2.2.2 k hk).2.1, (G.2.2.2 k hk).2.2⟩⟩
theorem and255 (x y : Int32) (h : x.toBitVec &&& 255#32 = y.toBitVec &&& 255#32) : ∃ t, t ≤ 255 ∧ x &&& 255 = Int32.ofNat t ∧ y &&& 255 = Int32.ofNat t := by
  have e : ∀ z : Int32, (z &&& 255) = Int32.ofNat (z.toBitVec &&& 255#32).toNat := by
    intro z
    apply Int32.toBitVec_inj.mp
    rw [Int32.toBitVec_and]
    show _ = BitVec.ofNat 32 _
    rw [BitVec.ofNat_toNat, BitVec.setWidth_eq]
    rfl
  refine ⟨(x.toBitVec &&& 255#32).toNat, ?_, e x, by rw [h]; exact e y⟩
  rw [BitVec.toNat_and]
  exact Nat.and_le_right
theorem sh_low (b : BitVec 32) (s : Nat) (hs : s ≤ 24) : (b >>> s) &&& 255#32 = (b.sshiftRight s) &&& 255#32 := by
  apply BitVec.eq_of_getLsbD_eq
  intro i hi
  rw [BitVec.getLsbD_and, BitVec.getLsbD_and]
  by_cases h8 : i < 8
  · rw [BitVec.getLsbD_ushiftRight, BitVec.getLsbD_sshiftRight]
    have h1 : s + i < 32 := by omega
    have h2 : (decide (32 ≤ i)) = false := by simp; omega
    rw [h2]
    simp [h1]
  · have : (255#32).getLsbD i = false := by
      rw [show (255#32) = BitVec.ofNat 32 (2 ^ 8 - 1) from rfl, BitVec.getLsbD_ofNat, Nat.testBit_two_pow_sub_one]
      simp [h8]
    rw [this, Bool.and_false, Bool.and_false]
theorem byt {v : Int32} {i : Nat} (hi : i < 4) : ∃ t, t ≤ 255 ∧ (ush v (8 * Int32.ofNat i)) &&& 255 = Int32.ofNat t ∧ (v >>> ((8 * Int32.ofNat i) &&& 31)) &&& 255 = Int32.ofNat t := by
  apply and255
  have e8 : (8 : Int32) * Int32.ofNat i = Int32.ofNat (8 * i) := by rw [k_8, n_mul]
  rw [e8]
  have e1 : (ush v (Int32.ofNat (8 * i))).toBitVec = v.toBitVec >>> (8 * i) := by
    rcases (show i = 0 ∨ i = 1 ∨ i = 2 ∨ i = 3 by omega) with rfl | rfl | rfl | rfl <;> rfl
  have e2 : (v >>> ((Int32.ofNat (8 * i)) &&& 31)).toBitVec = v.toBitVec.sshiftRight (8 * i) := by
    rcases (show i = 0 ∨ i = 1 ∨ i = 2 ∨ i = 3 by omega) with rfl | rfl | rfl | rfl <;> rfl
  rw [e1, e2]
  exact sh_low _ _ (by omega)
section FEED
variable {X : XX} {d : Nat} {sz sl : Nat} {sh : Nat → Nat × Nat} {R : Nat → Nat → Option Nat} {I : Nat → Nat → Int32} {J : Nat → Nat → Int64} {W : WW}
theorem s_feedX (hS : SF sh R) {N o : Nat} (hN : o + N ≤ 120) (hN4 : N ≤ 4) {v : Int32} {b : Nat → Nat} (hb : ∀ i, i < 4 → (ush v (8 * Int32.ofNat i)) &&& 255 = Int32.ofNat (b i)) : ∀ n c : Nat, c + n = N → exe X d 40 22 [.ref 2, .int (Int32.ofNat N), .int v, .int (Int32.ofNat c)] [] (sz, sl, sh, R, u2 (fil I 3 o c (fun i => Int32.ofNat (b i))) 2 3 (Int32.ofNat (o + c)), J) = some (some (.int 1), (sz, sl, sh, R, u2 (fil I 3 o N (fun i => Int32.ofNat (b i))) 2 3 (Int32.ofNat (o + N)), J))
  | 0, c, h => by
    obtain rfl : c = N := by omega
    rw [t40_22 hS, if_pos (Int32.le_refl _)]
  | n + 1, c, h => by
    have e1 : ¬ N ≤ c := by omega
    have e2 : o + c < 120 := by omega
    have ih := s_feedX hS hN hN4 hb n (c + 1) (by omega)
    have hbc := hb c (by omega)
    rw [t40_22 hS]
    simp (disch := first | omega | exact ib_r | exact ib_n | exact isB_rfv _ | assumption) only [n_le, e1, e2, u2_at0, n_inb, n_cl, n_suc, hbc, ↓reduceIte, eq_self, and_self, and_true, true_and, not_true_eq_false, not_false_eq_true, ob_s, tl_s, tl_n, rf_ref, orf_ref, orf_null, nn_ref, nn_null, rfv_s, rfv_n, if_true, if_false, bi_01, bi_e0, bi_e1, or_t, Classical.not_not]
    have q : u2 (u2 (u2 (fil I 3 o c (fun i => Int32.ofNat (b i))) 2 3 (Int32.ofNat (o + c))) 3 (o + c) (Int32.ofNat (b c))) 2 3 (Int32.ofNat (o + c + 1)) = u2 (fil I 3 o (c + 1) (fun i => Int32.ofNat (b i))) 2 3 (Int32.ofNat (o + (c + 1))) := by
      rw [← fil_s (v := fun i => Int32.ofNat (b i))]
      funext a k
      show (if a = 2 ∧ k = 3 then _ else if a = 3 ∧ k = o + c then _ else if a = 2 ∧ k = 3 then _ else fil I 3 o c _ a k) = (if a = 2 ∧ k = 3 then _ else if a = 3 ∧ k = o + c then _ else fil I 3 o c _ a k)
      by_cases h1 : a = 2 ∧ k = 3
      · rw [if_pos h1, if_pos h1]; rfl
      · rw [if_neg h1, if_neg h1, if_neg h1]
    rw [q]
    exact ih
theorem s_feedM (hS : SF sh R) {N o : Nat} (hN : o + N ≤ 120) (hN4 : N ≤ 4) {v : Int32} {b : Nat → Nat} (hb : ∀ i, i < 4 → (v >>> ((8 * Int32.ofNat i) &&& 31)) &&& 255 = Int32.ofNat (b i)) : ∀ n c : Nat, c + n = N → exe X d 164 27 [.ref 37, .int (Int32.ofNat N), .int v, .int (Int32.ofNat c)] [] (sz, sl, sh, R, u2 (fil I 45 o c (fun i => Int32.ofNat (b i))) 37 9 (Int32.ofNat (o + c)), J) = some (some (.int (Int32.ofNat (o + N))), (sz, sl, sh, R, u2 (fil I 45 o N (fun i => Int32.ofNat (b i))) 37 9 (Int32.ofNat (o + N)), J))
  | 0, c, h => by
    obtain rfl : c = N := by omega
    rw [t164_27 hS, if_pos (Int32.le_refl _), u2_at0]
  | n + 1, c, h => by
    have e1 : ¬ N ≤ c := by omega
    have e2 : o + c < 120 := by omega
    have ih := s_feedM hS hN hN4 hb n (c + 1) (by omega)
    have hbc := hb c (by omega)
    rw [t164_27 hS]
    simp (disch := first | omega | exact ib_r | exact ib_n | exact isB_rfv _ | assumption) only [n_le, e1, e2, u2_at0, n_inb, n_cl, n_suc, hbc, ↓reduceIte, eq_self, and_self, and_true, true_and, not_true_eq_false, not_false_eq_true, ob_s, tl_s, tl_n, rf_ref, orf_ref, orf_null, nn_ref, nn_null, rfv_s, rfv_n, if_true, if_false, bi_01, bi_e0, bi_e1, or_t, Classical.not_not]
    have q : u2 (u2 (u2 (fil I 45 o c (fun i => Int32.ofNat (b i))) 37 9 (Int32.ofNat (o + c))) 45 (o + c) (Int32.ofNat (b c))) 37 9 (Int32.ofNat (o + c + 1)) = u2 (fil I 45 o (c + 1) (fun i => Int32.ofNat (b i))) 37 9 (Int32.ofNat (o + (c + 1))) := by
      rw [← fil_s (v := fun i => Int32.ofNat (b i))]
      funext a k
      show (if a = 37 ∧ k = 9 then _ else if a = 45 ∧ k = o + c then _ else if a = 37 ∧ k = 9 then _ else fil I 45 o c _ a k) = (if a = 37 ∧ k = 9 then _ else if a = 45 ∧ k = o + c then _ else fil I 45 o c _ a k)
      by_cases h1 : a = 37 ∧ k = 9
      · rw [if_pos h1, if_pos h1]; rfl
      · rw [if_neg h1, if_neg h1, if_neg h1]
    rw [q]
    exact ih
theorem o_feed (hS : SF sh R) {T : Nat → Nat} {nt : Nat} (G : GT T nt I) {v w : Int32} : ∃ x I1 I2, ev X (d + 4) 39 [.ref 0, .int v, .int w] (sz, sl, sh, R, I, J) = some (some (.int x), (sz, sl, sh, R, I1, J)) ∧ ev X (d + 4) 164 [.ref 37, .int v, .int w] (sz, sl, sh, R, I1, J) = some (some (.int x), (sz, sl, sh, R, I2, J)) ∧ (∃ T' nt', GT T' nt' I2) ∧ eqO (CC W 7) I I2 := by
  have G' := G
  obtain ⟨h120, e1, e2, hk⟩ := G
  by_cases hv : 1 ≤ v ∧ v ≤ 4
  · obtain ⟨N, hN1, hN4, rfl⟩ := n_in (a := 1) (b := 4) (by decide) hv.1 hv.2 (by decide)
    have g0 : ¬ Int32.ofNat N < 0 := Int32.not_lt.mpr (n_ge (by omega))
    by_cases hn : nt + N ≤ 120
    · have hb : ∃ b : Nat → Nat, ∀ i, i < 4 → b i ≤ 255 ∧ (ush w (8 * Int32.ofNat i)) &&& 255 = Int32.ofNat (b i) ∧ (w >>> ((8 * Int32.ofNat i) &&& 31)) &&& 255 = Int32.ofNat (b i) := by
        have q := fun i (hi : i < 4) => byt (v := w) hi
        exact ⟨fun i => if h : i < 4 then Classical.choose (q i h) else 0, fun i hi => by dsimp only; rw [dif_pos hi]; exact Classical.choose_spec (q i hi)⟩
      obtain ⟨b, hb⟩ := hb
      have fx := s_feedX (X := X) (d := d + 2) (sz := sz) (sl := sl) (I := I) (J := J) hS hn hN4 (v := w) (b := b) (fun i hi => (hb i hi).2.1) N 0 (by omega)
      have fm := s_feedM (X := X) (d := d + 3) (sz := sz) (sl := sl) (I := u2 (fil I 3 nt N (fun i => Int32.ofNat (b i))) 2 3 (Int32.ofNat (nt + N))) (J := J) hS hn hN4 (v := w) (b := b) (fun i hi => (hb i hi).2.2) N 0 (by omega)
      rw [fil_0, Nat.add_zero nt, u2_same e1, ← k_0] at fx
      have e2' : u2 (fil I 3 nt N (fun i => Int32.ofNat (b i))) 2 3 (Int32.ofNat (nt + N)) 37 9 = Int32.ofNat nt := by rw [u2_pa (by decide), fil_a (by decide)]; exact e2
      rw [fil_0, Nat.add_zero nt, u2_same e2', ← k_0] at fm
      refine ⟨Int32.ofNat (nt + N), u2 (fil I 3 nt N (fun i => Int32.ofNat (b i))) 2 3 (Int32.ofNat (nt + N)), u2 (fil (u2 (fil I 3 nt N (fun i => Int32.ofNat (b i))) 2 3 (Int32.ofNat (nt + N))) 45 nt N (fun i => Int32.ofNat (b i))) 37 9 (Int32.ofNat (nt + N)), ?_, ?_, ⟨fun k => if k < nt then T k else b (k - nt), nt + N, hn, ?_, u2_at0, fun k hk' => ?_⟩, fun a k hc => ?_⟩
      · have g1 : N ≤ 120 - nt := by omega
        have z1 : ¬ (1 : Int32) = 0 := by decide
        simp (disch := first | omega | exact ib_r | exact ib_n | exact isB_rfv _ | assumption) only [n39, t39_0, t39_6 hS, t39_20 hS, s_within, hv, ↓reduceIte, eq_self, and_self, and_true, true_and, not_true_eq_false, not_false_eq_true, ob_s, tl_s, tl_n, rf_ref, orf_ref, orf_null, nn_ref, nn_null, rfv_s, rfv_n, if_true, if_false, bi_01, bi_e0, bi_e1, or_t, Classical.not_not, n40, t40_0 hS, g0, e1, k_120, n_sub, n_le, g1, fx, z1, u2_at0]
      · simp (disch := first | omega | exact ib_r | exact ib_n | exact isB_rfv _ | assumption) only [n164, t164_0, t164_6 hS, s_in, hv, ↓reduceIte, eq_self, and_self, and_true, true_and, not_true_eq_false, not_false_eq_true, ob_s, tl_s, tl_n, rf_ref, orf_ref, orf_null, nn_ref, nn_null, rfv_s, rfv_n, if_true, if_false, bi_01, bi_e0, bi_e1, or_t, Classical.not_not, e2', k_120, n_add, n_le, hn, fm]
      · rw [u2_pa (by decide), fil_a (by decide), u2_at0]
      · dsimp only
        rw [u2_pa (by decide), fil_a (by decide), u2_pa (by decide), u2_pa (by decide)]
        by_cases h1 : k < nt
        · have q := hk k h1
          rw [if_pos h1]
          refine ⟨?_, ?_, q.2.2⟩
          · unfold fil
            rw [if_neg (by omega)]
            exact q.1
          · have e : fil (u2 (fil I 3 nt N (fun i => Int32.ofNat (b i))) 2 3 (Int32.ofNat (nt + N))) 45 nt N (fun i => Int32.ofNat (b i)) 45 k = u2 (fil I 3 nt N (fun i => Int32.ofNat (b i))) 2 3 (Int32.ofNat (nt + N)) 45 k := if_neg (by omega)
            rw [e, u2_pa (by decide), fil_a (by decide)]
            exact q.2.1
        · rw [if_neg h1]
          refine ⟨?_, ?_, (hb (k - nt) (by omega)).1⟩
          · unfold fil
            rw [if_pos ⟨rfl, by omega, by omega⟩]
          · exact if_pos ⟨rfl, by omega, by omega⟩
      · have na : ∀ b j, cI W b j = 7 → ¬ (a = b ∧ k = j) := fun b j hb z => hc (Or.inl (by rw [z.1, z.2]; exact hb))
        show (if a = 37 ∧ k = 9 then _ else fil _ 45 nt N _ a k) = _
        rw [if_neg (na 37 9 rfl), fil_a (fun z => na 45 k rfl ⟨z, rfl⟩)]
        show (if a = 2 ∧ k = 3 then _ else fil _ 3 nt N _ a k) = _
        rw [if_neg (na 2 3 rfl), fil_a (fun z => na 3 k rfl ⟨z, rfl⟩)]
    · have g1 : ¬ N ≤ 120 - nt := by omega
      refine ⟨-3, I, I, ?_, ?_, ⟨T, nt, G'⟩, eqO.refl⟩
      · simp (disch := first | omega | exact ib_r | exact ib_n | exact isB_rfv _ | assumption) only [n39, t39_0, t39_6 hS, t39_20 hS, s_within, hv, ↓reduceIte, eq_self, and_self, and_true, true_and, not_true_eq_false, not_false_eq_true, ob_s, tl_s, tl_n, rf_ref, orf_ref, orf_null, nn_ref, nn_null, rfv_s, rfv_n, if_true, if_false, bi_01, bi_e0, bi_e1, or_t, Classical.not_not, n40, t40_0 hS, g0, e1, k_120, n_sub, n_le, g1]
      · simp (disch := first | omega | exact ib_r | exact ib_n | exact isB_rfv _ | assumption) only [n164, t164_0, t164_6 hS, s_in, hv, ↓reduceIte, eq_self, and_self, and_true, true_and, not_true_eq_false, not_false_eq_true, ob_s, tl_s, tl_n, rf_ref, orf_ref, orf_null, nn_ref, nn_null, rfv_s, rfv_n, if_true, if_false, bi_01, bi_e0, bi_e1, or_t, Classical.not_not, e2, k_120, n_add, n_le, hn]
  · refine ⟨-1, I, I, ?_, ?_, ⟨T, nt, G'⟩, eqO.refl⟩
    · simp (disch := first | omega | exact ib_r | exact ib_n | exact isB_rfv _ | assumption) only [n39, t39_0, t39_6 hS, s_within, hv, ↓reduceIte, eq_self, and_self, and_true, true_and, not_true_eq_false, not_false_eq_true, ob_s, tl_s, tl_n, rf_ref, orf_ref, orf_null, nn_ref, nn_null, rfv_s, rfv_n, if_true, if_false, bi_01, bi_e0, bi_e1, or_t, Classical.not_not]
    · simp (disch := first | omega | exact ib_r | exact ib_n | exact isB_rfv _ | assumption) only [n164, t164_0, t164_6 hS, s_in, hv, ↓reduceIte, eq_self, and_self, and_true, true_and, not_true_eq_false, not_false_eq_true, ob_s, tl_s, tl_n, rf_ref, orf_ref, orf_null, nn_ref, nn_null, rfv_s, rfv_n, if_true, if_false, bi_01, bi_e0, bi_e1, or_t, Classical.not_not]
end FEED
