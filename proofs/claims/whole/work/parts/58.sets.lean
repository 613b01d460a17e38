/-! FITS, BEST: sets -/
theorem sumf_last {f : Nat → Nat} : ∀ n k : Nat, sumf f k (n + 1) = sumf f k n + f (k + n)
  | 0, k => by rw [sumf_s, sumf_z, sumf_z, Nat.add_zero, Nat.zero_add, Nat.add_zero]
  | n + 1, k => by
    rw [sumf_s, sumf_last n (k + 1), sumf_s (n := n), show k + 1 + n = k + (n + 1) by omega, Nat.add_assoc (f k)]
theorem Lm_lt {B : Nat} : ∀ t s, s ∈ Lm B t → s < 2 ^ t
  | 0, s, h => by
    rw [Lm, List.mem_singleton] at h
    omega
  | t + 1, s, h => by
    rw [Lm] at h
    rw [Nat.pow_succ]
    by_cases q : B.testBit t = true
    · rw [if_pos q, List.mem_append, List.mem_map] at h
      rcases h with h | ⟨u, h, rfl⟩
      · have := Lm_lt t s h; omega
      · have := Lm_lt t u h; omega
    · rw [if_neg q] at h
      have := Lm_lt t s h
      omega
theorem Lm_up {B : Nat} : ∀ n t : Nat, (Lm B t).length ≤ (Lm B (t + n)).length
  | 0, t => Nat.le_refl _
  | n + 1, t => by
    have h := Lm_up (B := B) n t
    rw [show t + (n + 1) = t + n + 1 by omega, Lm]
    split
    · rw [List.length_append]; omega
    · exact h
/-- what a set of stories wears of a cell -/
def wsm (g : Nat → Nat) (s n : Nat) : Nat := sumf (fun t => if s.testBit t then g t else 0) 0 n
theorem wsm_old {g : Nat → Nat} {s t : Nat} (h : s < 2 ^ t) : wsm g s (t + 1) = wsm g s t := by
  unfold wsm
  rw [sumf_last, Nat.zero_add, Nat.testBit_lt_two_pow h, if_neg (by decide), Nat.add_zero]
theorem wsm_up {g : Nat → Nat} {s t : Nat} (h : s < 2 ^ t) : ∀ n, wsm g s (t + n) = wsm g s t
  | 0 => rfl
  | n + 1 => by
    rw [show t + (n + 1) = t + n + 1 by omega, wsm_old (Nat.lt_of_lt_of_le h (Nat.pow_le_pow_right (by decide) (by omega))), wsm_up h n]
theorem wsm_new {g : Nat → Nat} {s t : Nat} (h : s < 2 ^ t) : wsm g (s + 2 ^ t) (t + 1) = wsm g s t + g t := by
  unfold wsm
  rw [sumf_last, Nat.zero_add, Nat.add_comm s, Nat.testBit_two_pow_add_eq, Nat.testBit_lt_two_pow h, if_pos (show (!false) = true from rfl)]
  congr 1
  apply sumf_congr
  intro j _ hj
  rw [Nat.testBit_two_pow_add_gt (by omega)]
theorem wsm_le {g : Nat → Nat} {s n C : Nat} (h : ∀ t, t < n → g t ≤ C) : wsm g s n ≤ n * C :=
  sumf_le n 0 (fun j _ hj => by
    have := h j (by omega)
    split <;> omega)
section SETS
variable {X : XX} {d : Nat} {sz sl : Nat} {sh : Nat → Nat × Nat} {R : Nat → Nat → Option Nat} {I I0 : Nat → Nat → Int32} {J J0 : Nat → Nat → Int64} {W : WW} {ns nl ny : Nat} {T : Nat → List LN} {Y : Nat → Nat → Nat}
theorem s_wornOff2 (G : GS W ns sh R I) (L : GL T W nl sh R I) (V : GY Y W ny sh R I) {l i c t : Nat} (hl : l < nl) (hi : i < ns) (hc : c < 8) (ht : t < ny) : ∃ I', ev X (d + 4) 67 [.ref (W 7 t), .ref (W 3 l), .ref (W 0 i), .int (Int32.ofNat c)] (sz, sl, sh, R, I, J) = some (some (.long (Int64.ofNat (wo W (T l) Y i c t))), (sz, sl, sh, R, I', J)) ∧ Sf W I I' := by
  have h := G.2.2.2.1 i hi
  have hI := G.2.2.2.2.2.1 i hi
  have hL := (L.2.2.2 l hl).2.2.2.2.2.1.1
  have hV := V.2.2.2.1 t ht
  have hv := fun k (hk : k < 7) => (V.2.2.2.2.2.1 t k ht hk).1
  have hb := V.2.2.2.2.2.2 t ht
  have g5 := G.2.2.2.2.2.2.2.1 i hi
  have em : (if Int32.ofNat (Y 0 t) < Int32.ofNat (W 12 i) then Int32.ofNat (W 12 i) else Int32.ofNat (Y 0 t)) = Int32.ofNat (if Y 0 t < W 12 i then W 12 i else Y 0 t) := by
    by_cases q : Y 0 t < W 12 i
    · rw [if_pos (by rw [n_lt (by omega) (by omega)]; exact q), if_pos q]
    · rw [if_neg (by rw [n_lt (by omega) (by omega)]; exact q), if_neg q]
  have hm : (if Y 0 t < W 12 i then W 12 i else Y 0 t) ≤ 2000 := by split <;> omega
  have X0 : ∀ A B : Option Rs, (if 0 < lg_cmp (Int32.ofNat (Y 1 t) - (if Int32.ofNat (Y 0 t) < Int32.ofNat (W 12 i) then Int32.ofNat (W 12 i) else Int32.ofNat (Y 0 t))).toInt64 0 then A else B) = if (if Y 0 t < W 12 i then W 12 i else Y 0 t) < Y 1 t then A else B := by
    intro A B
    rw [em]
    by_cases q : (if Y 0 t < W 12 i then W 12 i else Y 0 t) < Y 1 t
    · rw [if_pos (by rw [l_pos (by omega) (by omega)]; exact q), if_pos q]
    · rw [if_neg (by rw [l_pos (by omega) (by omega)]; exact q), if_neg q]
  by_cases hy : (if Y 0 t < W 12 i then W 12 i else Y 0 t) < Y 1 t
  · obtain ⟨I1, a1, a2⟩ := s_takenAt2 (X := X) (d := d) (sz := sz) (sl := sl) (J := J) G L hl hi hc (p := Y 4 t) (dn := 0) (s := Y 5 t) (b := Y 6 t) (by omega) (by omega)
    have G1 := a2.S G
    have L1 := a2.L L
    have V1 := a2.1.Y V
    have hv1 := fun k (hk : k < 7) => (V1.2.2.2.2.2.1 t k ht hk).1
    obtain ⟨I2, b1, b2⟩ := s_takenAt2 (X := X) (d := d) (sz := sz) (sl := sl) (J := J) G1 L1 hl hi hc (p := Y 4 t) (dn := 1) (s := Y 5 t) (b := Y 6 t) (by omega) (by omega)
    rw [← k_0] at a1
    rw [← k_1] at b1
    refine ⟨I2, ?_, a2.trans b2⟩
    rw [n67, t67_0 hV.2.1, rf_ref, if_pos h.2.1, hv 0 (by decide), hv 1 (by decide), hI.2.2.1, X0, if_pos hy, if_pos hL, hv 4 (by decide), hv 5 (by decide), hv 6 (by decide), hv 2 (by decide), a1, ob_s]
    show exe X (d + 3) 67 52 _ [.int _, .long _] _ = _
    rw [t67_52 hV.2.1, if_pos hL, hv1 4 (by decide), hv1 5 (by decide), hv1 6 (by decide), hv1 3 (by decide), b1, ob_s]
    show exe X (d + 3) 67 78 _ [.int _, .long _, .long _] _ = _
    have tk1 := @tk_le W (T l) i c (Y 4 t) 0 (Y 5 t) (Y 6 t)
    have tk2 := @tk_le W (T l) i c (Y 4 t) 1 (Y 5 t) (Y 6 t)
    have wl := wo_le (W := W) (T := T l) (i := i) (c := c) hb.2.1 hb.2.2.1 hb.2.2.2.1
    rw [t67_78, em, n_sub (by omega), n_64 (by omega), n_64 (by omega), n_64 (by omega), n_64 (by omega), n_64 (by omega), l_mul, l_mul, l_add, l_mul, kl_300, l_mul, kl_1000, l_div (by omega) (by omega)]
    rfl
  · refine ⟨I, ?_, Sf.refl⟩
    rw [n67, t67_0 hV.2.1, rf_ref, if_pos h.2.1, hv 0 (by decide), hv 1 (by decide), hI.2.2.1, X0, if_neg hy]
    unfold wo
    rw [Nat.sub_eq_zero_of_le (by omega), Nat.zero_mul, Nat.zero_mul]
    rfl
/-- Sets.begin -/
theorem s_begL (hS : SF sh R) : ∀ (n k : Nat) (J : Nat → Nat → Int64), k + n = 256 → ∃ J', exe X d 88 2 [.ref 11, .int (Int32.ofNat k)] [] (sz, sl, sh, R, I, J) = some (none, (sz, sl, sh, R, u2 I 11 3 1, J')) ∧ (∀ i, k ≤ i → i < 256 → J' 13 i = 0 ∧ J' 14 i = 0) ∧ (∀ a i, ¬ ((a = 13 ∨ a = 14) ∧ k ≤ i) → J' a i = J a i)
  | 0, k, J, h => by
    obtain rfl : k = 256 := h
    refine ⟨J, ?_, fun i h1 h2 => by omega, fun _ _ _ => rfl⟩
    rw [t88_2 hS, if_pos (by decide)]
  | n + 1, k, J, h => by
    obtain ⟨J', a1, a2, a3⟩ := s_begL hS n (k + 1) (u2 (u2 J 13 k 0) 14 k 0) (by omega)
    refine ⟨J', ?_, fun i h1 h2 => ?_, fun a i hn => ?_⟩
    · rw [t88_2 hS, if_neg (by rw [k_256, n_le (by decide) (by omega)]; omega), if_pos (by rw [n_inb (by omega)]; omega), if_pos (by rw [n_inb (by omega)]; omega), n_cl (by omega), n_suc]
      exact a1
    · by_cases e : i = k
      · subst e
        rw [a3 13 i (by omega), a3 14 i (by omega), u2_pa (by decide), u2_at0, u2_at0]
        exact ⟨rfl, rfl⟩
      · exact a2 i (by omega) h2
    · rw [a3 a i (by omega)]
      by_cases e : a = 14
      · rw [e, u2_pj (by omega), u2_pa (by decide)]
      · rw [u2_pa (by omega)]
        by_cases e2 : a = 13
        · rw [e2, u2_pj (by omega)]
        · rw [u2_pa (by omega)]
theorem s_begin (hS : SF sh R) : ∃ J', ev X (d + 1) 88 [.ref 11] (sz, sl, sh, R, I, J) = some (none, (sz, sl, sh, R, u2 I 11 3 1, J')) ∧ (∀ i, i < 256 → J' 13 i = 0 ∧ J' 14 i = 0) ∧ (∀ a i, a ≠ 13 → a ≠ 14 → J' a i = J a i) := by
  obtain ⟨J', a1, a2, a3⟩ := s_begL (X := X) (d := d) (sz := sz) (sl := sl) (I := I) hS 256 0 J rfl
  refine ⟨J', ?_, fun i h => a2 i (Nat.zero_le i) h, fun a i h1 h2 => a3 a i (by omega)⟩
  rw [n88, t88_0]
  exact a1
/-- Sets.addStory -/
theorem s_addL (hS : SF sh R) {m v : Nat} (hm : 2 * m ≤ 256) (hi : I 11 3 = Int32.ofNat m) : ∀ (n k : Nat) (J : Nat → Nat → Int64), k + n = m → ∃ J', exe X d 91 17 [.ref 11, .long (Int64.ofNat v), dm, .int (Int32.ofNat k)] [] (sz, sl, sh, R, I, J) = some (none, (sz, sl, sh, R, u2 I 11 3 (Int32.ofNat (m * 2)), J')) ∧ (∀ i, k ≤ i → i < m → J' 12 (m + i) = J 12 i + Int64.ofNat v) ∧ (∀ a i, ¬ (a = 12 ∧ m + k ≤ i) → J' a i = J a i)
  | 0, k, J, h => by
    obtain rfl : k = m := h
    refine ⟨J, ?_, fun i h1 h2 => by omega, fun _ _ _ => rfl⟩
    rw [t91_17 hS, hi, if_pos (Int32.le_refl _), k_2, n_mul]
  | n + 1, k, J, h => by
    obtain ⟨J', a1, a2, a3⟩ := s_addL hS hm hi n (k + 1) (u2 J 12 (m + k) (J 12 k + Int64.ofNat v)) (by omega)
    refine ⟨J', ?_, fun i h1 h2 => ?_, fun a i hn => ?_⟩
    · rw [t91_17 hS, hi, if_neg (by rw [n_le (by omega) (by omega)]; omega), if_pos (by rw [n_inb (by omega)]; omega), n_add, if_pos (by rw [n_inb (by omega)]; omega), n_cl (by omega), n_cl (by omega), n_suc]
      exact a1
    · by_cases e : i = k
      · subst e
        rw [a3 12 (m + i) (by omega), u2_at0]
      · rw [a2 i (by omega) h2, u2_pj (by omega)]
    · rw [a3 a i (by omega)]
      by_cases e : a = 12
      · rw [e, u2_pj (by omega)]
      · rw [u2_pa e]
theorem s_addStory (hS : SF sh R) {m v : Nat} (hm : 2 * m ≤ 256) (hi : I 11 3 = Int32.ofNat m) : ∃ J', ev X (d + 1) 91 [.ref 11, .long (Int64.ofNat v)] (sz, sl, sh, R, I, J) = some (none, (sz, sl, sh, R, u2 I 11 3 (Int32.ofNat (m * 2)), J')) ∧ (∀ i, i < m → J' 12 (m + i) = J 12 i + Int64.ofNat v ∧ J' 12 i = J 12 i) ∧ (∀ a i, a ≠ 12 → J' a i = J a i) := by
  obtain ⟨J', a1, a2, a3⟩ := s_addL (X := X) (d := d) (sz := sz) (sl := sl) hS hm hi (v := v) m 0 J (by omega)
  refine ⟨J', ?_, fun i h => ⟨a2 i (Nat.zero_le i) h, a3 12 i (by omega)⟩, fun a i h => a3 a i (by omega)⟩
  rw [n91, t91_0 hS, hi, if_pos (by rw [k_2, n_mul, k_256, n_le (by omega) (by decide)]; exact hm)]
  exact a1
/-- Sets.endCell -/
theorem s_endL (hS : SF sh R) {n0 m : Nat} {w a13 a14 : Nat → Nat} (hn : n0 ≤ 256) (hm : m ≤ 99999) (hi : I 11 3 = Int32.ofNat n0) : ∀ (n k : Nat) (J : Nat → Nat → Int64), k + n = n0 → (∀ i, k ≤ i → i < n0 → J 12 i = Int64.ofNat (w i) ∧ J 13 i = Int64.ofNat (a13 i) ∧ J 14 i = Int64.ofNat (a14 i) ∧ w i ≤ 300000000000 ∧ a14 i ≤ 300000000000) → ∃ J', exe X d 92 2 [.ref 11, .int (Int32.ofNat m), .int (Int32.ofNat k), dm, dm] [] (sz, sl, sh, R, I, J) = some (none, (sz, sl, sh, R, I, J')) ∧ (∀ i, k ≤ i → i < n0 → J' 13 i = Int64.ofNat (a13 i + ((w i - m) + (m - w i))) ∧ J' 14 i = Int64.ofNat (max (a14 i) ((w i - m) + (m - w i)))) ∧ (∀ a i, ¬ ((a = 13 ∨ a = 14) ∧ k ≤ i) → J' a i = J a i)
  | 0, k, J, h, hj => by
    obtain rfl : k = n0 := h
    refine ⟨J, ?_, fun i h1 h2 => by omega, fun _ _ _ => rfl⟩
    rw [t92_2 hS, hi, if_pos (Int32.le_refl _)]
  | n + 1, k, J, h, hj => by
    obtain ⟨j1, j2, j3, b1, b2⟩ := hj k (Nat.le_refl k) (by omega)
    have emx : (if Int64.ofNat ((w k - m) + (m - w k)) < Int64.ofNat (a14 k) then Int64.ofNat (a14 k) else Int64.ofNat ((w k - m) + (m - w k))) = Int64.ofNat (max (a14 k) ((w k - m) + (m - w k))) := by
      by_cases q : (w k - m) + (m - w k) < a14 k
      · rw [if_pos (by rw [l_lt (by omega) (by omega)]; exact q), Nat.max_eq_left (by omega)]
      · rw [if_neg (by rw [l_lt (by omega) (by omega)]; exact q), Nat.max_eq_right (by omega)]
    obtain ⟨J', a1, a2, a3⟩ := s_endL hS hn hm hi n (k + 1) (u2 (u2 J 13 k (Int64.ofNat (a13 k + ((w k - m) + (m - w k))))) 14 k (Int64.ofNat (max (a14 k) ((w k - m) + (m - w k))))) (by omega) (fun i h1 h2 => by
      rw [u2_pa (by decide), u2_pa (by decide), u2_pa (show (13 : Nat) ≠ 14 by decide), u2_pj (by omega), u2_pj (by omega), u2_pa (by decide)]
      exact hj i (by omega) h2)
    refine ⟨J', ?_, fun i h1 h2 => ?_, fun a i hn => ?_⟩
    · have ib : inb (Int32.ofNat k) 256 := by rw [n_inb (by omega)]; omega
      rw [t92_2 hS, hi, if_neg (by rw [n_le (by omega) (by omega)]; omega), if_neg (by rw [k_256, n_le (by decide) (by omega)]; omega), if_pos ib, if_pos ib, if_pos ib, if_pos ib, if_pos ib, n_cl (by omega), j1, j2, n_64 (by omega), l_abX (by omega) (by omega), l_add, u2_pa (show (14 : Nat) ≠ 13 by decide), j3, emx, n_suc]
      exact a1
    · by_cases e : i = k
      · subst e
        rw [a3 13 i (by omega), a3 14 i (by omega), u2_pa (by decide), u2_at0, u2_at0]
        exact ⟨rfl, rfl⟩
      · exact a2 i (by omega) h2
    · rw [a3 a i (by omega)]
      by_cases e : a = 14
      · rw [e, u2_pj (by omega), u2_pa (by decide)]
      · rw [u2_pa (by omega)]
        by_cases e2 : a = 13
        · rw [e2, u2_pj (by omega)]
        · rw [u2_pa (by omega)]
theorem s_endCell (hS : SF sh R) {n0 m : Nat} {w a13 a14 : Nat → Nat} (hn : n0 ≤ 256) (hm : m ≤ 99999) (hi : I 11 3 = Int32.ofNat n0) (hj : ∀ i, i < n0 → J 12 i = Int64.ofNat (w i) ∧ J 13 i = Int64.ofNat (a13 i) ∧ J 14 i = Int64.ofNat (a14 i) ∧ w i ≤ 300000000000 ∧ a14 i ≤ 300000000000) : ∃ J', ev X (d + 1) 92 [.ref 11, .int (Int32.ofNat m)] (sz, sl, sh, R, I, J) = some (none, (sz, sl, sh, R, I, J')) ∧ (∀ i, i < n0 → J' 13 i = Int64.ofNat (a13 i + ((w i - m) + (m - w i))) ∧ J' 14 i = Int64.ofNat (max (a14 i) ((w i - m) + (m - w i)))) ∧ (∀ a i, a ≠ 13 → a ≠ 14 → J' a i = J a i) := by
  obtain ⟨J', a1, a2, a3⟩ := s_endL (X := X) (d := d) (sz := sz) (sl := sl) hS hn hm hi n0 0 J (by omega) (fun i _ h => hj i h)
  refine ⟨J', ?_, fun i h => a2 i (Nat.zero_le i) h, fun a i h1 h2 => a3 a i (by omega)⟩
  rw [n92, t92_0]
  exact a1
end SETS
