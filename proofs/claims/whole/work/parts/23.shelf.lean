/-! SHELVES -/
def SH (B : Nat → Nat) (nb s : Nat) (I : Nat → Nat → Int32) (J : Nat → Nat → Int64) : Prop :=
  (I 61 s = -1 ∧ I (25 + 2 * s) 1 = 0) ∨ (∃ b, b < nb ∧ I 61 s = Int32.ofNat b ∧ I (25 + 2 * s) 1 = 1 ∧ I (25 + 2 * s) 3 = Int32.ofNat (B b)) ∨
  (∃ n so, n ≤ 60 ∧ so ≤ 4 ∧ I 61 s = -2 ∧ I (25 + 2 * s) 1 = 2 ∧ I (25 + 2 * s) 2 = Int32.ofNat n ∧ I 63 s = Int32.ofNat n ∧ I (25 + 2 * s) 4 = Int32.ofNat so ∧ I 62 s = Int32.ofNat so ∧ ∀ k, k < n → J (26 + 2 * s) k = J 64 (60 * s + k) ∧ (so = 2 → ∃ x : Int32, J (26 + 2 * s) k = x.toInt64))
def GH (B : Nat → Nat) (nb : Nat) (I : Nat → Nat → Int32) (J : Nat → Nat → Int64) : Prop := ∀ s, s < 6 → SH B nb s I J
theorem SH.fr {B B' : Nat → Nat} {nb nb' s : Nat} {I I' : Nat → Nat → Int32} {J J' : Nat → Nat → Int64} (hI : ∀ k, I' (25 + 2 * s) k = I (25 + 2 * s) k) (h1 : I' 61 s = I 61 s) (h2 : I' 62 s = I 62 s) (h3 : I' 63 s = I 63 s) (hJ : ∀ k, k < 60 → J' (26 + 2 * s) k = J (26 + 2 * s) k ∧ J' 64 (60 * s + k) = J 64 (60 * s + k)) (hn : nb ≤ nb') (hB : ∀ b, b < nb → B' b = B b) (H : SH B nb s I J) : SH B' nb' s I' J' := by
  unfold SH
  rw [hI, hI, hI, hI, h1, h2, h3]
  rcases H with H | ⟨b, hb, q⟩ | ⟨n, so, hn', hs, q⟩
  · exact Or.inl H
  · exact Or.inr (Or.inl ⟨b, by omega, by rw [hB b hb]; exact q⟩)
  · refine Or.inr (Or.inr ⟨n, so, hn', hs, q.1, q.2.1, q.2.2.1, q.2.2.2.1, q.2.2.2.2.1, q.2.2.2.2.2.1, fun k hk => ?_⟩)
    rw [(hJ k (by omega)).1, (hJ k (by omega)).2]
    exact q.2.2.2.2.2.2 k hk
theorem c6 {W : WW} {s k : Nat} (hs : s < 6) : cI W (25 + 2 * s) k = 6 ∧ cJ (26 + 2 * s) = 6 := by
  rcases (show s = 0 ∨ s = 1 ∨ s = 2 ∨ s = 3 ∨ s = 4 ∨ s = 5 by omega) with rfl | rfl | rfl | rfl | rfl | rfl <;> exact ⟨rfl, rfl⟩
theorem GH.fr {W : WW} {B : Nat → Nat} {nb : Nat} {I I' : Nat → Nat → Int32} {J J' : Nat → Nat → Int64} (h : sameI W 6 I I') (hJ : ∀ a k, cJ a = 6 → J' a k = J a k) (H : GH B nb I J) : GH B nb I' J' :=
  fun s hs => (H s hs).fr (fun k => h _ _ (c6 (k := k) hs).1) (h 61 s rfl) (h 62 s rfl) (h 63 s rfl) (fun k _ => ⟨hJ _ _ (c6 (W := W) (k := k) hs).2, hJ 64 _ rfl⟩) (Nat.le_refl _) (fun _ _ => rfl)
theorem GH.more {B B' : Nat → Nat} {nb nb' : Nat} {I : Nat → Nat → Int32} {J : Nat → Nat → Int64} (hn : nb ≤ nb') (hB : ∀ b, b < nb → B' b = B b) (H : GH B nb I J) : GH B' nb' I J :=
  fun s hs => (H s hs).fr (fun _ => rfl) rfl rfl rfl (fun _ _ => ⟨rfl, rfl⟩) hn hB
/-- a row's part made 0; a part of a row copied from another row -/
def zf (J : Nat → Nat → Int64) (a o c : Nat) : Nat → Nat → Int64 := fun b k => if b = a ∧ o ≤ k ∧ k < o + c then 0 else J b k
theorem zf_0 {J : Nat → Nat → Int64} {a o : Nat} : zf J a o 0 = J := by funext b k; unfold zf; rw [if_neg (by omega)]
theorem zf_s {J : Nat → Nat → Int64} {a o c : Nat} : u2 (zf J a o c) a (o + c) 0 = zf J a o (c + 1) := by
  funext b k
  show (if b = a ∧ k = o + c then 0 else zf J a o c b k) = zf J a o (c + 1) b k
  unfold zf
  by_cases h : b = a ∧ k = o + c
  · rw [if_pos h, if_pos (by omega)]
  · rw [if_neg h]
    by_cases h2 : b = a ∧ o ≤ k ∧ k < o + c
    · rw [if_pos h2, if_pos (by omega)]
    · rw [if_neg h2, if_neg (by omega)]
def cpf (J : Nat → Nat → Int64) (a p b q c : Nat) : Nat → Nat → Int64 := fun x k => if x = a ∧ p ≤ k ∧ k < p + c then J b (q + (k - p)) else J x k
theorem cpf_0 {J : Nat → Nat → Int64} {a p b q : Nat} : cpf J a p b q 0 = J := by funext x k; unfold cpf; rw [if_neg (by omega)]
theorem cpf_b {J : Nat → Nat → Int64} {a p b q c k : Nat} (h : b ≠ a) : cpf J a p b q c b k = J b k := if_neg (fun z => h z.1)
theorem cpf_s {J : Nat → Nat → Int64} {a p b q c : Nat} : u2 (cpf J a p b q c) a (p + c) (J b (q + c)) = cpf J a p b q (c + 1) := by
  funext x k
  show (if x = a ∧ k = p + c then J b (q + c) else cpf J a p b q c x k) = cpf J a p b q (c + 1) x k
  unfold cpf
  by_cases h : x = a ∧ k = p + c
  · rw [if_pos h, if_pos (by omega), h.2, Nat.add_sub_cancel_left]
  · rw [if_neg h]
    by_cases h2 : x = a ∧ p ≤ k ∧ k < p + c
    · rw [if_pos h2, if_pos (by omega)]
    · rw [if_neg h2, if_neg (by omega)]
/-- what is put in keeps its lowest bits -/
def cutv (so : Nat) (v : Int64) : Int64 := if so = 0 then (v.toInt32.toInt8.toInt32).toInt64 else if so = 1 then (v.toInt32.toInt16.toInt32).toInt64 else if so = 2 then v.toInt32.toInt64 else if so = 3 then v else if lg_cmp v 0 = 0 then 0 else 1
section SHELF
variable {X : XX} {d : Nat} {sz sl : Nat} {sh : Nat → Nat × Nat} {R : Nat → Nat → Option Nat} {I : Nat → Nat → Int32} {J : Nat → Nat → Int64} {W : WW}
theorem sh24 (hS : SF sh R) {s : Nat} (hs : s < 6) : R 24 s = some (25 + 2 * s) ∧ sh (25 + 2 * s) = (14, 0) ∧ R (25 + 2 * s) 0 = some (26 + 2 * s) ∧ sh (26 + 2 * s) = (1, 60) := by
  rcases (show s = 0 ∨ s = 1 ∨ s = 2 ∨ s = 3 ∨ s = 4 ∨ s = 5 by omega) with rfl | rfl | rfl | rfl | rfl | rfl
  · exact ⟨zR24_0 hS, zS25 hS, zR25_0 hS, zS26 hS⟩
  · exact ⟨zR24_1 hS, zS27 hS, zR27_0 hS, zS28 hS⟩
  · exact ⟨zR24_2 hS, zS29 hS, zR29_0 hS, zS30 hS⟩
  · exact ⟨zR24_3 hS, zS31 hS, zR31_0 hS, zS32 hS⟩
  · exact ⟨zR24_4 hS, zS33 hS, zR33_0 hS, zS34 hS⟩
  · exact ⟨zR24_5 hS, zS35 hS, zR35_0 hS, zS36 hS⟩
theorem sv_ok {v : Int32} (h : 0 ≤ v ∧ v ≤ 5) : ∃ s, s < 6 ∧ v = Int32.ofNat s := by
  obtain ⟨u, -, hu, rfl⟩ := n_in (a := 0) (b := 5) (by decide) h.1 h.2 (by decide)
  exact ⟨u, by omega, rfl⟩
theorem sv_in {s : Nat} (hs : s < 6) : (0 : Int32) ≤ Int32.ofNat s ∧ Int32.ofNat s ≤ 5 := ⟨n_ge (by omega), by rw [k_5, n_le (by omega) (by decide)]; omega⟩
theorem s_shelfAt (hS : SF sh R) {s : Nat} (hs : s < 6) : ev X (d + 2) 26 [.ref 0, .int (Int32.ofNat s)] (sz, sl, sh, R, I, J) = some (some (.ref (25 + 2 * s)), (sz, sl, sh, R, I, J)) := by
  have h5 : (6 : Int32) - 1 = 5 := by decide
  have hi := sv_in hs
  simp (disch := first | omega | exact ib_r | exact ib_n | exact isB_rfv _ | assumption) only [n26, t26_0 hS, t26_12 hS, h5, s_within, hi, ↓reduceIte, eq_self, and_self, and_true, true_and, not_true_eq_false, not_false_eq_true, ob_s, tl_s, tl_n, rf_ref, orf_ref, orf_null, nn_ref, nn_null, rfv_s, rfv_n, if_true, if_false, bi_01, bi_e0, bi_e1, or_t, Classical.not_not, n_inb, n_cl, hs, (sh24 hS hs).1]
theorem s_shelfAt_no (hS : SF sh R) {v : Int32} (hv : ¬ (0 ≤ v ∧ v ≤ 5)) : ev X (d + 2) 26 [.ref 0, .int v] (sz, sl, sh, R, I, J) = some (some .null, (sz, sl, sh, R, I, J)) := by
  have h5 : (6 : Int32) - 1 = 5 := by decide
  simp (disch := first | omega | exact ib_r | exact ib_n | exact isB_rfv _ | assumption) only [n26, t26_0 hS, t26_12 hS, h5, s_within, hv, ↓reduceIte, eq_self, and_self, and_true, true_and, not_true_eq_false, not_false_eq_true, ob_s, tl_s, tl_n, rf_ref, orf_ref, orf_null, nn_ref, nn_null, rfv_s, rfv_n, if_true, if_false, bi_01, bi_e0, bi_e1, or_t, Classical.not_not]
theorem s_isEmpty {a : Nat} (ha : sh a = (14, 0)) : ev X (d + 1) 27 [.ref a] (sz, sl, sh, R, I, J) = some (some (.int (bi (I a 1 = 0))), (sz, sl, sh, R, I, J)) := by
  rw [n27, t27_0 ha]
  by_cases h : I a 1 = 0
  · rw [if_neg (fun z => z h), bi_t h]
  · rw [if_pos h, bi_f h]
theorem s_isRow {a : Nat} (ha : sh a = (14, 0)) : ev X (d + 1) 29 [.ref a] (sz, sl, sh, R, I, J) = some (some (.int (bi (I a 1 = 2))), (sz, sl, sh, R, I, J)) := by
  rw [n29, t29_0 ha]
  by_cases h : I a 1 = 2
  · rw [if_neg (fun z => z h), bi_t h]
  · rw [if_pos h, bi_f h]
theorem s_hasPlace (hS : SF sh R) {s n k : Nat} (hs : s < 6) (hn : n ≤ 60) (e : I (25 + 2 * s) 2 = Int32.ofNat n) (hk : k < n) : ev X (d + 1) 30 [.ref (25 + 2 * s), .int (Int32.ofNat k)] (sz, sl, sh, R, I, J) = some (some (.int 1), (sz, sl, sh, R, I, J)) := by
  have h := sh24 hS hs
  have e0 : ¬ Int32.ofNat k < 0 := Int32.not_lt.mpr (n_ge (by omega))
  have e1 : ¬ n ≤ k := by omega
  have e2 : ¬ 60 ≤ k := by omega
  have e3 : (1 : Nat) < 7 := by decide
  simp (disch := first | omega | exact ib_r | exact ib_n | exact isB_rfv _ | assumption) only [n30, t30_0 h.2.1, e0, e, n_le, e1, e2, e3, h.2.2.1, h.2.2.2, ↓reduceIte, eq_self, and_self, and_true, true_and, not_true_eq_false, not_false_eq_true, ob_s, tl_s, tl_n, rf_ref, orf_ref, orf_null, nn_ref, nn_null, rfv_s, rfv_n, if_true, if_false, bi_01, bi_e0, bi_e1, or_t, Classical.not_not]
theorem s_hasPlace_no (hS : SF sh R) {s n : Nat} {v : Int32} (hs : s < 6) (hn : n ≤ 60) (e : I (25 + 2 * s) 2 = Int32.ofNat n) (hk : ¬ ∃ k, k < n ∧ v = Int32.ofNat k) : ev X (d + 1) 30 [.ref (25 + 2 * s), .int v] (sz, sl, sh, R, I, J) = some (some (.int 0), (sz, sl, sh, R, I, J)) := by
  have h := sh24 hS hs
  by_cases e0 : v < 0
  · simp (disch := first | omega | exact ib_r | exact ib_n | exact isB_rfv _ | assumption) only [n30, t30_0 h.2.1, e0, ↓reduceIte, eq_self, and_self, and_true, true_and, not_true_eq_false, not_false_eq_true, ob_s, tl_s, tl_n, rf_ref, orf_ref, orf_null, nn_ref, nn_null, rfv_s, rfv_n, if_true, if_false, bi_01, bi_e0, bi_e1, or_t, Classical.not_not]
  · obtain ⟨u, hu, rfl⟩ := n_of (Int32.not_lt.mp e0)
    have e1 : n ≤ u := Nat.not_lt.mp (fun z => hk ⟨u, z, rfl⟩)
    simp (disch := first | omega | exact ib_r | exact ib_n | exact isB_rfv _ | assumption) only [n30, t30_0 h.2.1, e0, e, n_le, e1, ↓reduceIte, eq_self, and_self, and_true, true_and, not_true_eq_false, not_false_eq_true, ob_s, tl_s, tl_n, rf_ref, orf_ref, orf_null, nn_ref, nn_null, rfv_s, rfv_n, if_true, if_false, bi_01, bi_e0, bi_e1, or_t, Classical.not_not]
/-- why no element is there -/
theorem neg_ne {n : Nat} {c : Int32} (h : n < 2147483648) (hc : c.toInt < 0) : ¬ Int32.ofNat n = c := fun z => by have := congrArg Int32.toInt z; rw [n_ti h] at this; omega
theorem s_refusal (hS : SF sh R) {B : Nat → Nat} {nb : Nat} (h50 : nb ≤ 50) (H : GH B nb I J) {v w : Int32} :
    (∃ s n k so, s < 6 ∧ n ≤ 60 ∧ k < n ∧ so ≤ 4 ∧ v = Int32.ofNat s ∧ w = Int32.ofNat k ∧ I (25 + 2 * s) 1 = 2 ∧ I (25 + 2 * s) 2 = Int32.ofNat n ∧ I (25 + 2 * s) 4 = Int32.ofNat so ∧ I 62 s = Int32.ofNat so ∧ (∀ k, k < n → J (26 + 2 * s) k = J 64 (60 * s + k) ∧ (so = 2 → ∃ x : Int32, J (26 + 2 * s) k = x.toInt64)) ∧ I 61 s = -2 ∧ I 63 s = Int32.ofNat n ∧
      ev X (d + 3) 137 [.ref (25 + 2 * s), .int w] (sz, sl, sh, R, I, J) = some (some (.int 0), (sz, sl, sh, R, I, J)) ∧ ev X (d + 3) 229 [.ref 37, .int v, .int w] (sz, sl, sh, R, I, J) = some (some (.int 0), (sz, sl, sh, R, I, J))) ∨
    (∃ s r, s < 6 ∧ v = Int32.ofNat s ∧ r ≠ 0 ∧ ev X (d + 3) 137 [.ref (25 + 2 * s), .int w] (sz, sl, sh, R, I, J) = some (some (.int r), (sz, sl, sh, R, I, J)) ∧ ev X (d + 3) 229 [.ref 37, .int v, .int w] (sz, sl, sh, R, I, J) = some (some (.int r), (sz, sl, sh, R, I, J))) ∨
    (¬ (0 ≤ v ∧ v ≤ 5) ∧ ev X (d + 3) 137 [.null, .int w] (sz, sl, sh, R, I, J) = some (some (.int (-1)), (sz, sl, sh, R, I, J)) ∧ ev X (d + 3) 229 [.ref 37, .int v, .int w] (sz, sl, sh, R, I, J) = some (some (.int (-1)), (sz, sl, sh, R, I, J))) := by
  by_cases hv : 0 ≤ v ∧ v ≤ 5
  · obtain ⟨s, hs, rfl⟩ := sv_ok hv
    have h := sh24 hS hs
    have z1 : ¬ (-2 : Int32) = -1 := by decide
    rcases H s hs with q | ⟨b, hb, q⟩ | ⟨n, so, hn, hso, q⟩
    · refine Or.inr (Or.inl ⟨s, -11, hs, rfl, by decide, ?_, ?_⟩)
      · simp (disch := first | omega | exact ib_r | exact ib_n | exact isB_rfv _ | assumption) only [n137, t137_0, t137_10, t137_20, t137_31, h.2.1, s_isEmpty h.2.1, q.2, ↓reduceIte, eq_self, and_self, and_true, true_and, not_true_eq_false, not_false_eq_true, ob_s, tl_s, tl_n, rf_ref, orf_ref, orf_null, nn_ref, nn_null, rfv_s, rfv_n, if_true, if_false, bi_01, bi_e0, bi_e1, or_t, Classical.not_not]
      · simp (disch := first | omega | exact ib_r | exact ib_n | exact isB_rfv _ | assumption) only [n229, t229_0, t229_4 hS, s_isShelf, hv, ↓reduceIte, eq_self, and_self, and_true, true_and, not_true_eq_false, not_false_eq_true, ob_s, tl_s, tl_n, rf_ref, orf_ref, orf_null, nn_ref, nn_null, rfv_s, rfv_n, if_true, if_false, bi_01, bi_e0, bi_e1, or_t, Classical.not_not, n_inb, n_cl, hs, q.1]
    · have z2 : ¬ (1 : Int32) = 0 := by decide
      have z3 : ¬ (1 : Int32) = 2 := by decide
      refine Or.inr (Or.inl ⟨s, -12, hs, rfl, by decide, ?_, ?_⟩)
      · simp (disch := first | omega | exact ib_r | exact ib_n | exact isB_rfv _ | assumption) only [n137, t137_0, t137_10, t137_20, t137_31, h.2.1, s_isEmpty h.2.1, s_isRow h.2.1, q.2.1, z2, z3, ↓reduceIte, eq_self, and_self, and_true, true_and, not_true_eq_false, not_false_eq_true, ob_s, tl_s, tl_n, rf_ref, orf_ref, orf_null, nn_ref, nn_null, rfv_s, rfv_n, if_true, if_false, bi_01, bi_e0, bi_e1, or_t, Classical.not_not]
      · have y1 : ¬ Int32.ofNat b = -1 := neg_ne (by omega) (by decide)
        have y2 : ¬ Int32.ofNat b = -2 := neg_ne (by omega) (by decide)
        simp (disch := first | omega | exact ib_r | exact ib_n | exact isB_rfv _ | assumption) only [n229, t229_0, t229_4 hS, s_isShelf, hv, ↓reduceIte, eq_self, and_self, and_true, true_and, not_true_eq_false, not_false_eq_true, ob_s, tl_s, tl_n, rf_ref, orf_ref, orf_null, nn_ref, nn_null, rfv_s, rfv_n, if_true, if_false, bi_01, bi_e0, bi_e1, or_t, Classical.not_not, n_inb, n_cl, hs, q.1, y1, y2]
    · have z2 : ¬ (2 : Int32) = 0 := by decide
      by_cases hw : ∃ k, k < n ∧ w = Int32.ofNat k
      · obtain ⟨k, hk, rfl⟩ := hw
        have hi : (0 : Int32) ≤ Int32.ofNat k ∧ Int32.ofNat k ≤ Int32.ofNat n - 1 := by rw [idx (by omega)]; exact ⟨k, hk, rfl⟩
        refine Or.inl ⟨s, n, k, so, hs, hn, hk, hso, rfl, rfl, q.2.1, q.2.2.1, q.2.2.2.2.1, q.2.2.2.2.2.1, q.2.2.2.2.2.2, q.1, q.2.2.2.1, ?_, ?_⟩
        · simp (disch := first | omega | exact ib_r | exact ib_n | exact isB_rfv _ | assumption) only [n137, t137_0, t137_10, t137_20, t137_31, h.2.1, s_isEmpty h.2.1, s_isRow h.2.1, q.2.1, z2, ↓reduceIte, eq_self, and_self, and_true, true_and, not_true_eq_false, not_false_eq_true, ob_s, tl_s, tl_n, rf_ref, orf_ref, orf_null, nn_ref, nn_null, rfv_s, rfv_n, if_true, if_false, bi_01, bi_e0, bi_e1, or_t, Classical.not_not, s_hasPlace hS hs hn q.2.2.1 hk]
          rfl
        · simp (disch := first | omega | exact ib_r | exact ib_n | exact isB_rfv _ | assumption) only [n229, t229_0, t229_4 hS, t229_53, s_isShelf, hv, ↓reduceIte, eq_self, and_self, and_true, true_and, not_true_eq_false, not_false_eq_true, ob_s, tl_s, tl_n, rf_ref, orf_ref, orf_null, nn_ref, nn_null, rfv_s, rfv_n, if_true, if_false, bi_01, bi_e0, bi_e1, or_t, Classical.not_not, n_inb, n_cl, hs, q.1, z1, q.2.2.2.1, s_in, hi]
      · have hi : ¬ ((0 : Int32) ≤ w ∧ w ≤ Int32.ofNat n - 1) := by rw [idx (by omega)]; exact hw
        refine Or.inr (Or.inl ⟨s, -13, hs, rfl, by decide, ?_, ?_⟩)
        · simp (disch := first | omega | exact ib_r | exact ib_n | exact isB_rfv _ | assumption) only [n137, t137_0, t137_10, t137_20, t137_31, h.2.1, s_isEmpty h.2.1, s_isRow h.2.1, q.2.1, z2, ↓reduceIte, eq_self, and_self, and_true, true_and, not_true_eq_false, not_false_eq_true, ob_s, tl_s, tl_n, rf_ref, orf_ref, orf_null, nn_ref, nn_null, rfv_s, rfv_n, if_true, if_false, bi_01, bi_e0, bi_e1, or_t, Classical.not_not, s_hasPlace_no hS hs hn q.2.2.1 hw]
        · simp (disch := first | omega | exact ib_r | exact ib_n | exact isB_rfv _ | assumption) only [n229, t229_0, t229_4 hS, t229_53, s_isShelf, hv, ↓reduceIte, eq_self, and_self, and_true, true_and, not_true_eq_false, not_false_eq_true, ob_s, tl_s, tl_n, rf_ref, orf_ref, orf_null, nn_ref, nn_null, rfv_s, rfv_n, if_true, if_false, bi_01, bi_e0, bi_e1, or_t, Classical.not_not, n_inb, n_cl, hs, q.1, z1, q.2.2.2.1, s_in, hi]
  · refine Or.inr (Or.inr ⟨hv, ?_, ?_⟩)
    · simp (disch := first | omega | exact ib_r | exact ib_n | exact isB_rfv _ | assumption) only [n137, t137_0, t137_10, t137_20, t137_31, ↓reduceIte, eq_self, and_self, and_true, true_and, not_true_eq_false, not_false_eq_true, ob_s, tl_s, tl_n, rf_ref, orf_ref, orf_null, nn_ref, nn_null, rfv_s, rfv_n, if_true, if_false, bi_01, bi_e0, bi_e1, or_t, Classical.not_not]
    · simp (disch := first | omega | exact ib_r | exact ib_n | exact isB_rfv _ | assumption) only [n229, t229_0, t229_4 hS, s_isShelf, hv, ↓reduceIte, eq_self, and_self, and_true, true_and, not_true_eq_false, not_false_eq_true, ob_s, tl_s, tl_n, rf_ref, orf_ref, orf_null, nn_ref, nn_null, rfv_s, rfv_n, if_true, if_false, bi_01, bi_e0, bi_e1, or_t, Classical.not_not]
theorem s_at (hS : SF sh R) {s n k : Nat} (hs : s < 6) (hn : n ≤ 60) (e : I (25 + 2 * s) 2 = Int32.ofNat n) (hk : k < n) : ev X (d + 2) 31 [.ref (25 + 2 * s), .int (Int32.ofNat k)] (sz, sl, sh, R, I, J) = some (some (.long (J (26 + 2 * s) k)), (sz, sl, sh, R, I, J)) := by
  have h := sh24 hS hs
  have e0 : k < 60 := by omega
  simp (disch := first | omega | exact ib_r | exact ib_n | exact isB_rfv _ | assumption) only [n31, t31_0 h.2.1, t31_5 h.2.1, s_hasPlace hS hs hn e hk, h.2.2.1, h.2.2.2, n_inb, n_cl, e0, ↓reduceIte, eq_self, and_self, and_true, true_and, not_true_eq_false, not_false_eq_true, ob_s, tl_s, tl_n, rf_ref, orf_ref, orf_null, nn_ref, nn_null, rfv_s, rfv_n, if_true, if_false, bi_01, bi_e0, bi_e1, or_t, Classical.not_not]
  rw [if_neg (by decide)]
theorem o_element (hS : SF sh R) {B : Nat → Nat} {nb : Nat} (h50 : nb ≤ 50) (H : GH B nb I J) {v w : Int32} : ∃ x, ev X (d + 4) 140 [.ref 0, .int v, .int w] (sz, sl, sh, R, I, J) = some (some (.long x), (sz, sl, sh, R, I, J)) ∧ ev X (d + 4) 231 [.ref 37, .int v, .int w] (sz, sl, sh, R, I, J) = some (some (.long x), (sz, sl, sh, R, I, J)) := by
  rcases s_refusal (X := X) (d := d) (sz := sz) (sl := sl) hS h50 H (v := v) (w := w) with ⟨s, n, k, so, hs, hn, hk, hso, rfl, rfl, q1, q2, q3, q4, q5, q6, q7, a, b⟩ | ⟨s, r, hs, rfl, hr, a, b⟩ | ⟨hv, a, b⟩
  · have h := sh24 hS hs
    have e1 : 60 * s + k < 360 := by omega
    refine ⟨J 64 (60 * s + k), ?_, ?_⟩
    · simp (disch := first | omega | exact ib_r | exact ib_n | exact isB_rfv _ | assumption) only [n140, t140_0 hS, t140_5, t140_15, t140_27, s_shelfAt hS hs, ↓reduceIte, eq_self, and_self, and_true, true_and, not_true_eq_false, not_false_eq_true, ob_s, tl_s, tl_n, rf_ref, orf_ref, orf_null, nn_ref, nn_null, rfv_s, rfv_n, if_true, if_false, bi_01, bi_e0, bi_e1, or_t, Classical.not_not, a, h.2.1, s_at hS hs hn q2 hk, (q5 k hk).1]
    · simp (disch := first | omega | exact ib_r | exact ib_n | exact isB_rfv _ | assumption) only [n231, t231_0 hS, t231_6 hS, b, ↓reduceIte, eq_self, and_self, and_true, true_and, not_true_eq_false, not_false_eq_true, ob_s, tl_s, tl_n, rf_ref, orf_ref, orf_null, nn_ref, nn_null, rfv_s, rfv_n, if_true, if_false, bi_01, bi_e0, bi_e1, or_t, Classical.not_not, k_60, n_mul, n_add, n_inb, n_cl, e1]
  · refine ⟨-9223372036854775808, ?_, ?_⟩
    · simp (disch := first | omega | exact ib_r | exact ib_n | exact isB_rfv _ | assumption) only [n140, t140_0 hS, t140_5, t140_15, s_shelfAt hS hs, ↓reduceIte, eq_self, and_self, and_true, true_and, not_true_eq_false, not_false_eq_true, ob_s, tl_s, tl_n, rf_ref, orf_ref, orf_null, nn_ref, nn_null, rfv_s, rfv_n, if_true, if_false, bi_01, bi_e0, bi_e1, or_t, Classical.not_not, a, hr]
    · simp (disch := first | omega | exact ib_r | exact ib_n | exact isB_rfv _ | assumption) only [n231, t231_0 hS, t231_6 hS, b, ↓reduceIte, eq_self, and_self, and_true, true_and, not_true_eq_false, not_false_eq_true, ob_s, tl_s, tl_n, rf_ref, orf_ref, orf_null, nn_ref, nn_null, rfv_s, rfv_n, if_true, if_false, bi_01, bi_e0, bi_e1, or_t, Classical.not_not, hr]
  · refine ⟨-9223372036854775808, ?_, ?_⟩
    · simp (disch := first | omega | exact ib_r | exact ib_n | exact isB_rfv _ | assumption) only [n140, t140_0 hS, t140_5, s_shelfAt_no hS hv, ↓reduceIte, eq_self, and_self, and_true, true_and, not_true_eq_false, not_false_eq_true, ob_s, tl_s, tl_n, rf_ref, orf_ref, orf_null, nn_ref, nn_null, rfv_s, rfv_n, if_true, if_false, bi_01, bi_e0, bi_e1, or_t, Classical.not_not]
    · simp (disch := first | omega | exact ib_r | exact ib_n | exact isB_rfv _ | assumption) only [n231, t231_0 hS, t231_6 hS, b, ↓reduceIte, eq_self, and_self, and_true, true_and, not_true_eq_false, not_false_eq_true, ob_s, tl_s, tl_n, rf_ref, orf_ref, orf_null, nn_ref, nn_null, rfv_s, rfv_n, if_true, if_false, bi_01, bi_e0, bi_e1, or_t, Classical.not_not]
      rw [if_neg (by decide)]
theorem s_cut {a so : Nat} {v : Int64} (ha : sh a = (14, 0)) (hso : so ≤ 4) (e : I a 4 = Int32.ofNat so) : ev X (d + 1) 139 [.ref a, .long v] (sz, sl, sh, R, I, J) = some (some (.long (cutv so v)), (sz, sl, sh, R, I, J)) := by
  rw [n139, t139_0 ha, e]
  rcases (show so = 0 ∨ so = 1 ∨ so = 2 ∨ so = 3 ∨ so = 4 by omega) with rfl | rfl | rfl | rfl | rfl
  · rw [if_pos (by decide)]; rfl
  · rw [if_neg (by decide), if_pos (by decide)]; rfl
  · rw [if_neg (by decide), if_neg (by decide), if_pos (by decide)]; rfl
  · rw [if_neg (by decide), if_neg (by decide), if_neg (by decide), if_pos (by decide)]; rfl
  · rw [if_neg (by decide), if_neg (by decide), if_neg (by decide), if_neg (by decide), if_pos (by decide)]
    have e : cutv 4 v = if lg_cmp v 0 = 0 then 0 else 1 := rfl
    rw [e]
    split <;> rfl
theorem s_bits {so : Nat} {v : Int64} (hso : so ≤ 4) : ev X (d + 1) 230 [.int (Int32.ofNat so), .long v] (sz, sl, sh, R, I, J) = some (some (.long (cutv so v)), (sz, sl, sh, R, I, J)) := by
  rw [n230, t230_0]
  rcases (show so = 0 ∨ so = 1 ∨ so = 2 ∨ so = 3 ∨ so = 4 by omega) with rfl | rfl | rfl | rfl | rfl
  · rw [if_neg (by decide)]; rfl
  · rw [if_pos (by decide), if_neg (by decide)]; rfl
  · rw [if_pos (by decide), if_pos (by decide), if_neg (by decide)]; rfl
  · rw [if_pos (by decide), if_pos (by decide), if_pos (by decide), if_neg (by decide)]; rfl
  · rw [if_pos (by decide), if_pos (by decide), if_pos (by decide), if_pos (by decide)]
    have e : cutv 4 v = if lg_cmp v 0 = 0 then 0 else 1 := rfl
    rw [e]
    split <;> rfl
theorem o_put (hS : SF sh R) {B : Nat → Nat} {nb : Nat} (h50 : nb ≤ 50) (H : GH B nb I J) {v w : Int32} {z : Int64} : ∃ x J1 J2, ev X (d + 4) 136 [.ref 0, .int v, .int w, .long z] (sz, sl, sh, R, I, J) = some (some (.int x), (sz, sl, sh, R, I, J1)) ∧ ev X (d + 4) 228 [.ref 37, .int v, .int w, .long z] (sz, sl, sh, R, I, J1) = some (some (.int x), (sz, sl, sh, R, I, J2)) ∧ GH B nb I J2 := by
  rcases s_refusal (X := X) (d := d) (sz := sz) (sl := sl) hS h50 H (v := v) (w := w) with ⟨s, n, k, so, hs, hn, hk, hso, rfl, rfl, q1, q2, q3, q4, q5, q6, q7, a, b⟩ | ⟨s, r, hs, rfl, hr, a, b⟩ | ⟨hv, a, b⟩
  · have h := sh24 hS hs
    have e1 : 60 * s + k < 360 := by omega
    have e2 : k < 60 := by omega
    have z10 : ¬ (1 : Int32) = 0 := by decide
    have hn64 : ∀ s, s < 6 → 26 + 2 * s ≠ 64 := fun s hs => by omega
    refine ⟨1, u2 J (26 + 2 * s) k (cutv so z), u2 (u2 J (26 + 2 * s) k (cutv so z)) 64 (60 * s + k) (cutv so z), ?_, ?_, fun s' hs' => ?_⟩
    · simp (disch := first | omega | exact ib_r | exact ib_n | exact isB_rfv _ | assumption) only [n136, t136_0 hS, t136_5, t136_13, t136_35, s_shelfAt hS hs, ↓reduceIte, eq_self, and_self, and_true, true_and, not_true_eq_false, not_false_eq_true, ob_s, tl_s, tl_n, rf_ref, orf_ref, orf_null, nn_ref, nn_null, rfv_s, rfv_n, if_true, if_false, bi_01, bi_e0, bi_e1, or_t, Classical.not_not, a, h.2.1, n138, t138_0 h.2.1, t138_5 h.2.1, t138_18, s_hasPlace hS hs hn q2 hk, s_cut h.2.1 hso q3, h.2.2.1, h.2.2.2, n_inb, n_cl, e2, z10]
    · have b' : ev X (d + 3) 229 [.ref 37, .int (Int32.ofNat s), .int (Int32.ofNat k)] (sz, sl, sh, R, I, u2 J (26 + 2 * s) k (cutv so z)) = some (some (.int 0), (sz, sl, sh, R, I, u2 J (26 + 2 * s) k (cutv so z))) := by
        have hi : (0 : Int32) ≤ Int32.ofNat k ∧ Int32.ofNat k ≤ Int32.ofNat n - 1 := by rw [idx (by omega)]; exact ⟨k, hk, rfl⟩
        have hv := sv_in hs
        have z1 : ¬ (-2 : Int32) = -1 := by decide
        simp (disch := first | omega | exact ib_r | exact ib_n | exact isB_rfv _ | assumption) only [n229, t229_0, t229_4 hS, t229_53, s_isShelf, hv, ↓reduceIte, eq_self, and_self, and_true, true_and, not_true_eq_false, not_false_eq_true, ob_s, tl_s, tl_n, rf_ref, orf_ref, orf_null, nn_ref, nn_null, rfv_s, rfv_n, if_true, if_false, bi_01, bi_e0, bi_e1, or_t, Classical.not_not, n_inb, n_cl, hs, q6, z1, q7, s_in, hi]
      simp (disch := first | omega | exact ib_r | exact ib_n | exact isB_rfv _ | assumption) only [n228, t228_0 hS, t228_6 hS, t228_36, b', ↓reduceIte, eq_self, and_self, and_true, true_and, not_true_eq_false, not_false_eq_true, ob_s, tl_s, tl_n, rf_ref, orf_ref, orf_null, nn_ref, nn_null, rfv_s, rfv_n, if_true, if_false, bi_01, bi_e0, bi_e1, or_t, Classical.not_not, k_60, n_mul, n_add, n_inb, n_cl, e1, hs, q4, s_bits hso, zS64 hS]
    · by_cases hss : s' = s
      · subst hss
        refine Or.inr (Or.inr ⟨n, so, hn, hso, q6, q1, q2, q7, q3, q4, fun j hj => ?_⟩)
        by_cases hjk : j = k
        · subst hjk
          rw [u2_pa (hn64 _ hs), u2_at0, u2_at0]
          refine ⟨rfl, fun h2 => ⟨z.toInt32, ?_⟩⟩
          subst h2
          rfl
        · rw [u2_pa (hn64 _ hs), u2_pj hjk, u2_pj (by omega), u2_pa (hn64 _ hs).symm]
          exact q5 j hj
      · refine (H s' hs').fr (fun _ => rfl) rfl rfl rfl (fun j hj => ?_) (Nat.le_refl _) (fun _ _ => rfl)
        rw [u2_pa (hn64 _ hs'), u2_pa (by omega), u2_pj (by omega), u2_pa (hn64 _ hs).symm]
        exact ⟨rfl, rfl⟩
  · refine ⟨r, J, J, ?_, ?_, H⟩
    · simp (disch := first | omega | exact ib_r | exact ib_n | exact isB_rfv _ | assumption) only [n136, t136_0 hS, t136_5, t136_13, s_shelfAt hS hs, ↓reduceIte, eq_self, and_self, and_true, true_and, not_true_eq_false, not_false_eq_true, ob_s, tl_s, tl_n, rf_ref, orf_ref, orf_null, nn_ref, nn_null, rfv_s, rfv_n, if_true, if_false, bi_01, bi_e0, bi_e1, or_t, Classical.not_not, a, hr]
    · simp (disch := first | omega | exact ib_r | exact ib_n | exact isB_rfv _ | assumption) only [n228, t228_0 hS, t228_6 hS, b, ↓reduceIte, eq_self, and_self, and_true, true_and, not_true_eq_false, not_false_eq_true, ob_s, tl_s, tl_n, rf_ref, orf_ref, orf_null, nn_ref, nn_null, rfv_s, rfv_n, if_true, if_false, bi_01, bi_e0, bi_e1, or_t, Classical.not_not, hr]
  · refine ⟨-1, J, J, ?_, ?_, H⟩
    · simp (disch := first | omega | exact ib_r | exact ib_n | exact isB_rfv _ | assumption) only [n136, t136_0 hS, t136_5, t136_13, s_shelfAt_no hS hv, ↓reduceIte, eq_self, and_self, and_true, true_and, not_true_eq_false, not_false_eq_true, ob_s, tl_s, tl_n, rf_ref, orf_ref, orf_null, nn_ref, nn_null, rfv_s, rfv_n, if_true, if_false, bi_01, bi_e0, bi_e1, or_t, Classical.not_not, a]
    · simp (disch := first | omega | exact ib_r | exact ib_n | exact isB_rfv _ | assumption) only [n228, t228_0 hS, t228_6 hS, b, ↓reduceIte, eq_self, and_self, and_true, true_and, not_true_eq_false, not_false_eq_true, ob_s, tl_s, tl_n, rf_ref, orf_ref, orf_null, nn_ref, nn_null, rfv_s, rfv_n, if_true, if_false, bi_01, bi_e0, bi_e1, or_t, Classical.not_not]
      rw [if_neg (by decide)]
/-- a shelf's group, but for one shelf -/
theorem GH.upd {B : Nat → Nat} {nb s : Nat} {I I' : Nat → Nat → Int32} {J J' : Nat → Nat → Int64} (hs : s < 6) (H : GH B nb I J) (h : SH B nb s I' J') (hI : ∀ s' k, s' < 6 → s' ≠ s → I' (25 + 2 * s') k = I (25 + 2 * s') k ∧ I' 61 s' = I 61 s' ∧ I' 62 s' = I 62 s' ∧ I' 63 s' = I 63 s') (hJ : ∀ s' k, s' < 6 → s' ≠ s → k < 60 → J' (26 + 2 * s') k = J (26 + 2 * s') k ∧ J' 64 (60 * s' + k) = J 64 (60 * s' + k)) : GH B nb I' J' := by
  intro s' hs'
  by_cases e : s' = s
  · subst e; exact h
  · exact (H s' hs').fr (fun k => (hI s' k hs' e).1) (hI s' 0 hs' e).2.1 (hI s' 0 hs' e).2.2.1 (hI s' 0 hs' e).2.2.2 (fun k hk => hJ s' k hs' e hk) (Nat.le_refl _) (fun _ _ => rfl)
theorem o_keep (hS : SF sh R) {B : Nat → Nat} {nb : Nat} (GBB : GB B nb I) (H : GH B nb I J) {v w : Int32} : ∃ x I1 I2, ev X (d + 4) 130 [.ref 0, .int v, .int w] (sz, sl, sh, R, I, J) = some (some (.int x), (sz, sl, sh, R, I1, J)) ∧ ev X (d + 4) 226 [.ref 37, .int v, .int w] (sz, sl, sh, R, I1, J) = some (some (.int x), (sz, sl, sh, R, I2, J)) ∧ GH B nb I2 J ∧ eqO (CC W 6) I I2 := by
  obtain ⟨h50, e1, e2, hk⟩ := GBB
  by_cases hv : 0 ≤ v ∧ v ≤ 5
  · obtain ⟨s, hs, rfl⟩ := sv_ok hv
    have h := sh24 hS hs
    by_cases hw : -1 ≤ w ∧ w ≤ Int32.ofNat nb - 1
    · by_cases h0 : 0 ≤ w
      · have hw2 := hw.2
        obtain ⟨b, hb, rfl⟩ := (show (∃ j, j < nb ∧ w = Int32.ofNat j) from by rw [← idx (by omega)]; exact ⟨h0, hw2⟩)
        have hkb := hk b hb
        have f1 : ¬ Int32.ofNat b < 0 := Int32.not_lt.mpr h0
        have f2 : ¬ nb ≤ b := by omega
        have f3 : ¬ 50 ≤ b := by omega
        have f4 : b < 50 := by omega
        refine ⟨1, u2 (u2 I (25 + 2 * s) 1 1) (25 + 2 * s) 3 (Int32.ofNat (B b)), u2 (u2 (u2 I (25 + 2 * s) 1 1) (25 + 2 * s) 3 (Int32.ofNat (B b))) 61 s (Int32.ofNat b), ?_, ?_, H.upd hs (Or.inr (Or.inl ⟨b, hb, ?_, ?_, ?_⟩)) (fun s' k hs' hne => ⟨?_, ?_, ?_, ?_⟩) (fun s' k _ _ _ => ⟨rfl, rfl⟩), ((eqO.refl.u2 ?_).u2 ?_).u2 ?_⟩
        · simp (disch := first | omega | exact ib_r | exact ib_n | exact isB_rfv _ | assumption) only [n130, t130_0 hS, t130_5 hS, t130_24 hS, t130_49, t130_52, s_shelfAt hS hs, e1, s_within, hw, h0, ↓reduceIte, eq_self, and_self, and_true, true_and, not_true_eq_false, not_false_eq_true, ob_s, tl_s, tl_n, rf_ref, orf_ref, orf_null, nn_ref, nn_null, rfv_s, rfv_n, if_true, if_false, bi_01, bi_e0, bi_e1, or_t, Classical.not_not, n121, t121_0 hS, f1, h.2.1, n132, t132_0 h.2.1]
          simp (disch := first | omega | exact ib_r | exact ib_n | exact isB_rfv _ | assumption) only [k_50, n_le, n_inb, n_cl, f2, f3, f4, hkb.1, ↓reduceIte, eq_self, and_self, and_true, true_and, not_true_eq_false, not_false_eq_true, ob_s, tl_s, tl_n, rf_ref, orf_ref, orf_null, nn_ref, nn_null, rfv_s, rfv_n, if_true, if_false, bi_01, bi_e0, bi_e1, or_t, Classical.not_not, t130_49, t130_52, h.2.1, n132, t132_0 h.2.1]
        · have r : u2 (u2 I (25 + 2 * s) 1 1) (25 + 2 * s) 3 (Int32.ofNat (B b)) 37 28 = Int32.ofNat nb := by rw [u2_pa (by omega), u2_pa (by omega)]; exact e2
          simp (disch := first | omega | exact ib_r | exact ib_n | exact isB_rfv _ | assumption) only [n226, t226_0, t226_4 hS, t226_18 hS, s_isShelf, hv, s_in, r, hw, ↓reduceIte, eq_self, and_self, and_true, true_and, not_true_eq_false, not_false_eq_true, ob_s, tl_s, tl_n, rf_ref, orf_ref, orf_null, nn_ref, nn_null, rfv_s, rfv_n, if_true, if_false, bi_01, bi_e0, bi_e1, or_t, Classical.not_not, n_inb, n_cl, hs]
        · rw [u2_at0]
        · rw [u2_pa (by omega), u2_pj (by decide), u2_at0]
        · rw [u2_pa (by omega), u2_at0]
        · rw [u2_pa (by omega), u2_pa (by omega), u2_pa (by omega)]
        · rw [u2_pj hne, u2_pa (by omega), u2_pa (by omega)]
        · rw [u2_pa (by decide), u2_pa (by omega), u2_pa (by omega)]
        · rw [u2_pa (by decide), u2_pa (by omega), u2_pa (by omega)]
        · exact Or.inl (c6 hs).1
        · exact Or.inl (c6 hs).1
        · exact Or.inl rfl
      · have hm : w = -1 := by
          have h1 := hw.1
          rw [Int32.le_iff_toInt_le] at h1 h0
          refine Int32.toInt_inj.mp ?_
          have z1 : (-1 : Int32).toInt = -1 := by decide
          have z0 : (0 : Int32).toInt = 0 := by decide
          omega
        subst hm
        refine ⟨1, u2 I (25 + 2 * s) 1 0, u2 (u2 I (25 + 2 * s) 1 0) 61 s (-1), ?_, ?_, H.upd hs (Or.inl ⟨?_, ?_⟩) (fun s' k hs' hne => ⟨?_, ?_, ?_, ?_⟩) (fun s' k _ _ _ => ⟨rfl, rfl⟩), (eqO.refl.u2 ?_).u2 ?_⟩
        · simp (disch := first | omega | exact ib_r | exact ib_n | exact isB_rfv _ | assumption) only [n130, t130_0 hS, t130_5 hS, t130_24 hS, t130_37, t130_52, s_shelfAt hS hs, e1, s_within, hw, h0, ↓reduceIte, eq_self, and_self, and_true, true_and, not_true_eq_false, not_false_eq_true, ob_s, tl_s, tl_n, rf_ref, orf_ref, orf_null, nn_ref, nn_null, rfv_s, rfv_n, if_true, if_false, bi_01, bi_e0, bi_e1, or_t, Classical.not_not, h.2.1, n131, t131_0 h.2.1]
        · have r : u2 I (25 + 2 * s) 1 0 37 28 = Int32.ofNat nb := by rw [u2_pa (by omega)]; exact e2
          simp (disch := first | omega | exact ib_r | exact ib_n | exact isB_rfv _ | assumption) only [n226, t226_0, t226_4 hS, t226_18 hS, s_isShelf, hv, s_in, r, hw, ↓reduceIte, eq_self, and_self, and_true, true_and, not_true_eq_false, not_false_eq_true, ob_s, tl_s, tl_n, rf_ref, orf_ref, orf_null, nn_ref, nn_null, rfv_s, rfv_n, if_true, if_false, bi_01, bi_e0, bi_e1, or_t, Classical.not_not, n_inb, n_cl, hs]
        · rw [u2_at0]
        · rw [u2_pa (by omega), u2_at0]
        · rw [u2_pa (by omega), u2_pa (by omega)]
        · rw [u2_pj hne, u2_pa (by omega)]
        · rw [u2_pa (by decide), u2_pa (by omega)]
        · rw [u2_pa (by decide), u2_pa (by omega)]
        · exact Or.inl (c6 hs).1
        · exact Or.inl rfl
    · refine ⟨-1, I, I, ?_, ?_, H, eqO.refl⟩
      · simp (disch := first | omega | exact ib_r | exact ib_n | exact isB_rfv _ | assumption) only [n130, t130_0 hS, t130_5 hS, t130_24 hS, s_shelfAt hS hs, e1, s_within, hw, ↓reduceIte, eq_self, and_self, and_true, true_and, not_true_eq_false, not_false_eq_true, ob_s, tl_s, tl_n, rf_ref, orf_ref, orf_null, nn_ref, nn_null, rfv_s, rfv_n, if_true, if_false, bi_01, bi_e0, bi_e1, or_t, Classical.not_not]
      · simp (disch := first | omega | exact ib_r | exact ib_n | exact isB_rfv _ | assumption) only [n226, t226_0, t226_4 hS, t226_18 hS, s_isShelf, hv, s_in, e2, hw, ↓reduceIte, eq_self, and_self, and_true, true_and, not_true_eq_false, not_false_eq_true, ob_s, tl_s, tl_n, rf_ref, orf_ref, orf_null, nn_ref, nn_null, rfv_s, rfv_n, if_true, if_false, bi_01, bi_e0, bi_e1, or_t, Classical.not_not]
  · refine ⟨-1, I, I, ?_, ?_, H, eqO.refl⟩
    · simp (disch := first | omega | exact ib_r | exact ib_n | exact isB_rfv _ | assumption) only [n130, t130_0 hS, t130_5 hS, s_shelfAt_no hS hv, ↓reduceIte, eq_self, and_self, and_true, true_and, not_true_eq_false, not_false_eq_true, ob_s, tl_s, tl_n, rf_ref, orf_ref, orf_null, nn_ref, nn_null, rfv_s, rfv_n, if_true, if_false, bi_01, bi_e0, bi_e1, or_t, Classical.not_not]
    · simp (disch := first | omega | exact ib_r | exact ib_n | exact isB_rfv _ | assumption) only [n226, t226_0, t226_4 hS, s_isShelf, hv, ↓reduceIte, eq_self, and_self, and_true, true_and, not_true_eq_false, not_false_eq_true, ob_s, tl_s, tl_n, rf_ref, orf_ref, orf_null, nn_ref, nn_null, rfv_s, rfv_n, if_true, if_false, bi_01, bi_e0, bi_e1, or_t, Classical.not_not]
theorem s_zeroX (hS : SF sh R) {s : Nat} (hs : s < 6) : ∀ n c : Nat, c + n = 60 → exe X d 135 17 [.ref (25 + 2 * s), dm, dm, .int (Int32.ofNat c)] [] (sz, sl, sh, R, I, zf J (26 + 2 * s) 0 c) = some (none, (sz, sl, sh, R, I, zf J (26 + 2 * s) 0 60))
  | 0, c, h => by
    obtain rfl : c = 60 := by omega
    have g := sh24 hS hs
    have e3 : (1 : Nat) < 7 := by decide
    rw [t135_17 g.2.1]
    simp (disch := first | omega | exact ib_r | exact ib_n | exact isB_rfv _ | assumption) only [g.2.2.1, g.2.2.2, e3, n_le, Nat.le_refl, ↓reduceIte, eq_self, and_self, and_true, true_and, not_true_eq_false, not_false_eq_true, ob_s, tl_s, tl_n, rf_ref, orf_ref, orf_null, nn_ref, nn_null, rfv_s, rfv_n, if_true, if_false, bi_01, bi_e0, bi_e1, or_t, Classical.not_not]
  | n + 1, c, h => by
    have g := sh24 hS hs
    have e1 : ¬ 60 ≤ c := by omega
    have e2 : c < 60 := by omega
    have e3 : (1 : Nat) < 7 := by decide
    have ih := s_zeroX hS hs n (c + 1) (by omega)
    have q := zf_s (J := J) (a := 26 + 2 * s) (o := 0) (c := c)
    rw [Nat.zero_add] at q
    rw [t135_17 g.2.1]
    simp (disch := first | omega | exact ib_r | exact ib_n | exact isB_rfv _ | assumption) only [g.2.2.1, g.2.2.2, e3, n_le, n_inb, n_cl, n_suc, e1, e2, ↓reduceIte, eq_self, and_self, and_true, true_and, not_true_eq_false, not_false_eq_true, ob_s, tl_s, tl_n, rf_ref, orf_ref, orf_null, nn_ref, nn_null, rfv_s, rfv_n, if_true, if_false, bi_01, bi_e0, bi_e1, or_t, Classical.not_not]
    rw [q]
    exact ih
theorem s_zeroM (hS : SF sh R) {s : Nat} (hs : s < 6) : ∀ n c : Nat, c + n = 60 → exe X d 227 56 [.ref 37, .int (Int32.ofNat s), dm, dm, .int (Int32.ofNat c)] [] (sz, sl, sh, R, I, zf J 64 (60 * s) c) = some (some (.int 1), (sz, sl, sh, R, I, zf J 64 (60 * s) 60))
  | 0, c, h => by
    obtain rfl : c = 60 := by omega
    rw [t227_56 hS, if_pos (by decide)]
  | n + 1, c, h => by
    have e1 : ¬ 60 ≤ c := by omega
    have e2 : 60 * s + c < 360 := by omega
    have ih := s_zeroM hS hs n (c + 1) (by omega)
    rw [t227_56 hS]
    simp (disch := first | omega | exact ib_r | exact ib_n | exact isB_rfv _ | assumption) only [k_60, n_le, n_mul, n_add, n_inb, n_cl, n_suc, e1, e2, ↓reduceIte, eq_self, and_self, and_true, true_and, not_true_eq_false, not_false_eq_true, ob_s, tl_s, tl_n, rf_ref, orf_ref, orf_null, nn_ref, nn_null, rfv_s, rfv_n, if_true, if_false, bi_01, bi_e0, bi_e1, or_t, Classical.not_not]
    rw [zf_s]
    exact ih
theorem o_row (hS : SF sh R) {B : Nat → Nat} {nb : Nat} (H : GH B nb I J) {v w z : Int32} : ∃ x I1 J1 I2 J2, ev X (d + 4) 133 [.ref 0, .int v, .int w, .int z] (sz, sl, sh, R, I, J) = some (some (.int x), (sz, sl, sh, R, I1, J1)) ∧ ev X (d + 4) 227 [.ref 37, .int v, .int w, .int z] (sz, sl, sh, R, I1, J1) = some (some (.int x), (sz, sl, sh, R, I2, J2)) ∧ GH B nb I2 J2 ∧ eqO (CC W 6) I I2 := by
  have sort : ∀ h : HP, ev X (d + 3) 134 [.int w] h = some (some (.int (bi (0 ≤ w ∧ w ≤ 4))), h) := by
    intro h
    obtain ⟨a, b, c, e, f, g⟩ := h
    rw [n134, t134_0]
    by_cases h1 : w < 0
    · rw [if_pos h1, bi_f (fun z => absurd h1 (Int32.not_lt.mpr z.1))]
    · rw [if_neg h1]
      by_cases h2 : 4 < w
      · rw [if_pos h2, bi_f (fun z => absurd h2 (Int32.not_lt.mpr z.2))]
      · rw [if_neg h2, bi_t ⟨Int32.not_lt.mp h1, Int32.not_lt.mp h2⟩]
  by_cases hv : 0 ≤ v ∧ v ≤ 5
  · obtain ⟨s, hs, rfl⟩ := sv_ok hv
    have h := sh24 hS hs
    by_cases hw : 0 ≤ w ∧ w ≤ 4
    · by_cases hz : z ≤ 60
      · by_cases hz0 : 0 ≤ z
        · obtain ⟨so, -, hso, rfl⟩ := n_in (a := 0) (b := 4) (by decide) hw.1 hw.2 (by decide)
          obtain ⟨n, -, hn, rfl⟩ := n_in (a := 0) (b := 60) (by decide) hz0 hz (by decide)
          have zx := s_zeroX (X := X) (d := d + 2) (sz := sz) (sl := sl) (I := u2 (u2 (u2 I (25 + 2 * s) 1 2) (25 + 2 * s) 4 (Int32.ofNat so)) (25 + 2 * s) 2 (Int32.ofNat n)) (J := J) hS hs 60 0 rfl
          have zm := s_zeroM (X := X) (d := d + 3) (sz := sz) (sl := sl) (I := u2 (u2 (u2 (u2 (u2 (u2 I (25 + 2 * s) 1 2) (25 + 2 * s) 4 (Int32.ofNat so)) (25 + 2 * s) 2 (Int32.ofNat n)) 61 s (-2)) 62 s (Int32.ofNat so)) 63 s (Int32.ofNat n)) (J := zf J (26 + 2 * s) 0 60) hS hs 60 0 rfl
          rw [zf_0, ← k_0] at zx zm
          refine ⟨1, u2 (u2 (u2 I (25 + 2 * s) 1 2) (25 + 2 * s) 4 (Int32.ofNat so)) (25 + 2 * s) 2 (Int32.ofNat n), zf J (26 + 2 * s) 0 60, u2 (u2 (u2 (u2 (u2 (u2 I (25 + 2 * s) 1 2) (25 + 2 * s) 4 (Int32.ofNat so)) (25 + 2 * s) 2 (Int32.ofNat n)) 61 s (-2)) 62 s (Int32.ofNat so)) 63 s (Int32.ofNat n), zf (zf J (26 + 2 * s) 0 60) 64 (60 * s) 60, ?_, ?_, H.upd hs (Or.inr (Or.inr ⟨n, so, hn, hso, ?_, ?_, ?_, ?_, ?_, ?_, fun k hk => ?_⟩)) (fun s' k hs' hne => ⟨?_, ?_, ?_, ?_⟩) (fun s' k hs' hne hk => ⟨?_, ?_⟩), (((((eqO.refl.u2 ?_).u2 ?_).u2 ?_).u2 ?_).u2 ?_).u2 ?_⟩
          · simp (disch := first | omega | exact ib_r | exact ib_n | exact isB_rfv _ | assumption) only [n133, t133_0 hS, t133_5, t133_16, t133_41, s_shelfAt hS hs, sort, hw, hz, hz0, ↓reduceIte, eq_self, and_self, and_true, true_and, not_true_eq_false, not_false_eq_true, ob_s, tl_s, tl_n, rf_ref, orf_ref, orf_null, nn_ref, nn_null, rfv_s, rfv_n, if_true, if_false, bi_01, bi_e0, bi_e1, or_t, Classical.not_not, h.2.1, n135, t135_0 h.2.1, zx]
          · simp (disch := first | omega | exact ib_r | exact ib_n | exact isB_rfv _ | assumption) only [n227, t227_0, t227_4, t227_13 hS, s_isShelf, hv, s_in, hw, hz, hz0, ↓reduceIte, eq_self, and_self, and_true, true_and, not_true_eq_false, not_false_eq_true, ob_s, tl_s, tl_n, rf_ref, orf_ref, orf_null, nn_ref, nn_null, rfv_s, rfv_n, if_true, if_false, bi_01, bi_e0, bi_e1, or_t, Classical.not_not, n_inb, n_cl, hs, zm]
          · rw [u2_pa (by decide), u2_pa (by decide), u2_at0]
          · rw [u2_pa (by omega), u2_pa (by omega), u2_pa (by omega), u2_pj (by decide), u2_pj (by decide), u2_at0]
          · rw [u2_pa (by omega), u2_pa (by omega), u2_pa (by omega), u2_at0]
          · rw [u2_at0]
          · rw [u2_pa (by omega), u2_pa (by omega), u2_pa (by omega), u2_pj (by decide), u2_at0]
          · rw [u2_pa (by decide), u2_at0]
          · unfold zf
            rw [if_neg (by omega), if_pos (by omega), if_pos (by omega)]
            exact ⟨rfl, fun _ => ⟨0, by decide⟩⟩
          · rw [u2_pa (by omega), u2_pa (by omega), u2_pa (by omega), u2_pa (by omega), u2_pa (by omega), u2_pa (by omega)]
          · rw [u2_pa (by decide), u2_pa (by decide), u2_pj hne, u2_pa (by omega), u2_pa (by omega), u2_pa (by omega)]
          · rw [u2_pa (by decide), u2_pj hne, u2_pa (by decide), u2_pa (by omega), u2_pa (by omega), u2_pa (by omega)]
          · rw [u2_pj hne, u2_pa (by decide), u2_pa (by decide), u2_pa (by omega), u2_pa (by omega), u2_pa (by omega)]
          · unfold zf
            rw [if_neg (by omega), if_neg (by omega)]
          · unfold zf
            rw [if_neg (by omega), if_neg (by omega)]
          · exact Or.inl (c6 hs).1
          · exact Or.inl (c6 hs).1
          · exact Or.inl (c6 hs).1
          · exact Or.inl rfl
          · exact Or.inl rfl
          · exact Or.inl rfl
        · refine ⟨-14, I, J, I, J, ?_, ?_, H, eqO.refl⟩
          · simp (disch := first | omega | exact ib_r | exact ib_n | exact isB_rfv _ | assumption) only [n133, t133_0 hS, t133_5, t133_16, s_shelfAt hS hs, sort, hw, hz, hz0, ↓reduceIte, eq_self, and_self, and_true, true_and, not_true_eq_false, not_false_eq_true, ob_s, tl_s, tl_n, rf_ref, orf_ref, orf_null, nn_ref, nn_null, rfv_s, rfv_n, if_true, if_false, bi_01, bi_e0, bi_e1, or_t, Classical.not_not]
          · simp (disch := first | omega | exact ib_r | exact ib_n | exact isB_rfv _ | assumption) only [n227, t227_0, t227_4, t227_13 hS, s_isShelf, hv, s_in, hw, hz, hz0, ↓reduceIte, eq_self, and_self, and_true, true_and, not_true_eq_false, not_false_eq_true, ob_s, tl_s, tl_n, rf_ref, orf_ref, orf_null, nn_ref, nn_null, rfv_s, rfv_n, if_true, if_false, bi_01, bi_e0, bi_e1, or_t, Classical.not_not]
      · refine ⟨-1, I, J, I, J, ?_, ?_, H, eqO.refl⟩
        · simp (disch := first | omega | exact ib_r | exact ib_n | exact isB_rfv _ | assumption) only [n133, t133_0 hS, t133_5, t133_16, s_shelfAt hS hs, sort, hw, hz, ↓reduceIte, eq_self, and_self, and_true, true_and, not_true_eq_false, not_false_eq_true, ob_s, tl_s, tl_n, rf_ref, orf_ref, orf_null, nn_ref, nn_null, rfv_s, rfv_n, if_true, if_false, bi_01, bi_e0, bi_e1, or_t, Classical.not_not]
        · simp (disch := first | omega | exact ib_r | exact ib_n | exact isB_rfv _ | assumption) only [n227, t227_0, t227_4, t227_13 hS, s_isShelf, hv, s_in, hw, hz, ↓reduceIte, eq_self, and_self, and_true, true_and, not_true_eq_false, not_false_eq_true, ob_s, tl_s, tl_n, rf_ref, orf_ref, orf_null, nn_ref, nn_null, rfv_s, rfv_n, if_true, if_false, bi_01, bi_e0, bi_e1, or_t, Classical.not_not]
    · refine ⟨-1, I, J, I, J, ?_, ?_, H, eqO.refl⟩
      · simp (disch := first | omega | exact ib_r | exact ib_n | exact isB_rfv _ | assumption) only [n133, t133_0 hS, t133_5, t133_16, s_shelfAt hS hs, sort, hw, ↓reduceIte, eq_self, and_self, and_true, true_and, not_true_eq_false, not_false_eq_true, ob_s, tl_s, tl_n, rf_ref, orf_ref, orf_null, nn_ref, nn_null, rfv_s, rfv_n, if_true, if_false, bi_01, bi_e0, bi_e1, or_t, Classical.not_not]
      · simp (disch := first | omega | exact ib_r | exact ib_n | exact isB_rfv _ | assumption) only [n227, t227_0, t227_4, t227_13 hS, s_isShelf, hv, s_in, hw, ↓reduceIte, eq_self, and_self, and_true, true_and, not_true_eq_false, not_false_eq_true, ob_s, tl_s, tl_n, rf_ref, orf_ref, orf_null, nn_ref, nn_null, rfv_s, rfv_n, if_true, if_false, bi_01, bi_e0, bi_e1, or_t, Classical.not_not]
  · refine ⟨-1, I, J, I, J, ?_, ?_, H, eqO.refl⟩
    · simp (disch := first | omega | exact ib_r | exact ib_n | exact isB_rfv _ | assumption) only [n133, t133_0 hS, t133_5, s_shelfAt_no hS hv, ↓reduceIte, eq_self, and_self, and_true, true_and, not_true_eq_false, not_false_eq_true, ob_s, tl_s, tl_n, rf_ref, orf_ref, orf_null, nn_ref, nn_null, rfv_s, rfv_n, if_true, if_false, bi_01, bi_e0, bi_e1, or_t, Classical.not_not]
    · simp (disch := first | omega | exact ib_r | exact ib_n | exact isB_rfv _ | assumption) only [n227, t227_0, t227_4, s_isShelf, hv, ↓reduceIte, eq_self, and_self, and_true, true_and, not_true_eq_false, not_false_eq_true, ob_s, tl_s, tl_n, rf_ref, orf_ref, orf_null, nn_ref, nn_null, rfv_s, rfv_n, if_true, if_false, bi_01, bi_e0, bi_e1, or_t, Classical.not_not]
end SHELF
