/-! shift, taken -/
section SHIFT
variable {X : XX} {d : Nat} {sz sl : Nat} {sh : Nat → Nat × Nat} {R : Nat → Nat → Option Nat} {I : Nat → Nat → Int32} {J : Nat → Nat → Int64} {W : WW}
theorem s_hasPart {a n p c : Nat} (ha : sh a = (14, 0)) (e : I a 2 = Int32.ofNat n) (hn : n ≤ 60) (hp : p < 2147483648) (hc : c < 2147483648) : ev X (d + 1) 142 [.ref a, .int (Int32.ofNat p), .int (Int32.ofNat c)] (sz, sl, sh, R, I, J) = some (some (.int (bi (p + c ≤ n))), (sz, sl, sh, R, I, J)) := by
  have e1 : ¬ Int32.ofNat p < 0 := Int32.not_lt.mpr (n_ge hp)
  have e2 : ¬ Int32.ofNat c < 0 := Int32.not_lt.mpr (n_ge hc)
  rw [n142, t142_0 ha, if_neg e1, if_neg e2, e]
  by_cases h1 : n < c
  · rw [if_pos (by rw [n_lt (by omega) hc]; exact h1), bi_f (by omega)]
  · rw [if_neg (by rw [n_lt (by omega) hc]; exact h1), n_sub (by omega)]
    by_cases h2 : n - c < p
    · rw [if_pos (by rw [n_lt (by omega) hp]; exact h2), bi_f (by omega)]
    · rw [if_neg (by rw [n_lt (by omega) hp]; exact h2), bi_t (by omega)]
theorem s_mv1 (hS : SF sh R) {s i o j N : Nat} (hs : s < 6) (hN : i + N ≤ 60) {lo lj : Int32} : ∀ n c : Nat, c + n = N → exe X d 232 147 [.ref 37, .int (Int32.ofNat s), .int (Int32.ofNat i), .int lo, .int lj, .int (Int32.ofNat N), .int (Int32.ofNat c)] [] (sz, sl, sh, R, I, cpf J 70 0 64 (60 * s + i) c) = exe X d 232 184 [.ref 37, dm, dm, .int lo, .int lj, .int (Int32.ofNat N), .int 0] [] (sz, sl, sh, R, I, cpf J 70 0 64 (60 * s + i) N)
  | 0, c, h => by
    obtain rfl : c = N := by omega
    rw [t232_147 hS, if_pos (Int32.le_refl _)]
  | n + 1, c, h => by
    have e1 : ¬ N ≤ c := by omega
    have e2 : 60 * s + i + c < 360 := by omega
    have e3 : c < 60 := by omega
    have ih := s_mv1 (o := o) (j := j) (lo := lo) (lj := lj) hS hs hN n (c + 1) (by omega)
    have q := cpf_s (J := J) (a := 70) (p := 0) (b := 64) (q := 60 * s + i) (c := c)
    rw [Nat.zero_add] at q
    rw [t232_147 hS]
    simp (disch := first | omega | exact ib_r | exact ib_n | exact isB_rfv _ | assumption) only [k_60, n_le, n_mul, n_add, n_inb, n_cl, n_suc, e1, e2, e3, ↓reduceIte, eq_self, and_self, and_true, true_and, not_true_eq_false, not_false_eq_true, ob_s, tl_s, tl_n, rf_ref, orf_ref, orf_null, nn_ref, nn_null, rfv_s, rfv_n, if_true, if_false, bi_01, bi_e0, bi_e1, or_t, Classical.not_not]
    rw [cpf_b (by decide), q]
    exact ih
theorem s_mv2 (hS : SF sh R) {o j N : Nat} (ho : o < 6) (hN : j + N ≤ 60) : ∀ n c : Nat, c + n = N → exe X d 232 184 [.ref 37, dm, dm, .int (Int32.ofNat o), .int (Int32.ofNat j), .int (Int32.ofNat N), .int (Int32.ofNat c)] [] (sz, sl, sh, R, I, cpf J 64 (60 * o + j) 70 0 c) = some (some (.int (Int32.ofNat N)), (sz, sl, sh, R, I, cpf J 64 (60 * o + j) 70 0 N))
  | 0, c, h => by
    obtain rfl : c = N := by omega
    rw [t232_184 hS, if_pos (Int32.le_refl _)]
  | n + 1, c, h => by
    have e1 : ¬ N ≤ c := by omega
    have e2 : 60 * o + j + c < 360 := by omega
    have e3 : c < 60 := by omega
    have ih := s_mv2 hS ho hN n (c + 1) (by omega)
    have q := cpf_s (J := J) (a := 64) (p := 60 * o + j) (b := 70) (q := 0) (c := c)
    rw [Nat.zero_add] at q
    rw [t232_184 hS]
    simp (disch := first | omega | exact ib_r | exact ib_n | exact isB_rfv _ | assumption) only [k_60, n_le, n_mul, n_add, n_inb, n_cl, n_suc, e1, e2, e3, ↓reduceIte, eq_self, and_self, and_true, true_and, not_true_eq_false, not_false_eq_true, ob_s, tl_s, tl_n, rf_ref, orf_ref, orf_null, nn_ref, nn_null, rfv_s, rfv_n, if_true, if_false, bi_01, bi_e0, bi_e1, or_t, Classical.not_not]
    rw [cpf_b (by decide), q]
    exact ih
theorem o_shift (hS : SF sh R) {B : Nat → Nat} {nb : Nat} (h50 : nb ≤ 50) (H : GH B nb I J) {v w v2 w2 z : Int32} : ∃ x J1 J2, ev X (d + 4) 141 [.ref 0, .int v, .int w, .int v2, .int w2, .int z] (sz, sl, sh, R, I, J) = some (some (.int x), (sz, sl, sh, R, I, J1)) ∧ ev X (d + 4) 232 [.ref 37, .int v, .int w, .int v2, .int w2, .int z] (sz, sl, sh, R, I, J1) = some (some (.int x), (sz, sl, sh, R, I, J2)) ∧ GH B nb I J2 := by
  by_cases hv : 0 ≤ v ∧ v ≤ 5
  · by_cases hv2 : 0 ≤ v2 ∧ v2 ≤ 5
    · obtain ⟨s, hs, rfl⟩ := sv_ok hv
      obtain ⟨o, ho, rfl⟩ := sv_ok hv2
      have h := sh24 hS hs
      have h2 := sh24 hS ho
      have z1 : ¬ (1 : Int32) = 0 := by decide
      have z2 : ¬ (2 : Int32) = 0 := by decide
      have z3 : ¬ (1 : Int32) = 2 := by decide
      have y1 : ¬ (-2 : Int32) = -1 := by decide
      rcases H s hs with q | ⟨b, hb, q⟩ | ⟨n, so, hn, hso, q⟩
      · refine ⟨-11, J, J, ?_, ?_, H⟩
        · simp (disch := first | omega | exact ib_r | exact ib_n | exact isB_rfv _ | assumption) only [n141, t141_0 hS, t141_5 hS, t141_12, t141_31, t141_39, t141_50, t141_58, t141_85, t141_97, t141_121, s_shelfAt hS hs, s_shelfAt hS ho, h.2.1, s_isEmpty h.2.1, q.2, ↓reduceIte, eq_self, and_self, and_true, true_and, not_true_eq_false, not_false_eq_true, ob_s, tl_s, tl_n, rf_ref, orf_ref, orf_null, nn_ref, nn_null, rfv_s, rfv_n, if_true, if_false, bi_01, bi_e0, bi_e1, or_t, Classical.not_not]
        · simp (disch := first | omega | exact ib_r | exact ib_n | exact isB_rfv _ | assumption) only [n232, t232_0, t232_4, t232_11 hS, s_isShelf, hv, hv2, n_inb, n_cl, hs, ho, q.1, ↓reduceIte, eq_self, and_self, and_true, true_and, not_true_eq_false, not_false_eq_true, ob_s, tl_s, tl_n, rf_ref, orf_ref, orf_null, nn_ref, nn_null, rfv_s, rfv_n, if_true, if_false, bi_01, bi_e0, bi_e1, or_t, Classical.not_not]
      all_goals rcases H o ho with r | ⟨b', hb', r⟩ | ⟨n', so', hn', hso', r⟩
      · have y2 : ¬ Int32.ofNat b = -1 := neg_ne (by omega) (by decide)
        refine ⟨-11, J, J, ?_, ?_, H⟩
        · simp (disch := first | omega | exact ib_r | exact ib_n | exact isB_rfv _ | assumption) only [n141, t141_0 hS, t141_5 hS, t141_12, t141_31, t141_39, t141_50, t141_58, t141_85, t141_97, t141_121, s_shelfAt hS hs, s_shelfAt hS ho, h.2.1, h2.2.1, s_isEmpty h.2.1, s_isEmpty h2.2.1, q.2.1, r.2, z1, ↓reduceIte, eq_self, and_self, and_true, true_and, not_true_eq_false, not_false_eq_true, ob_s, tl_s, tl_n, rf_ref, orf_ref, orf_null, nn_ref, nn_null, rfv_s, rfv_n, if_true, if_false, bi_01, bi_e0, bi_e1, or_t, Classical.not_not]
        · simp (disch := first | omega | exact ib_r | exact ib_n | exact isB_rfv _ | assumption) only [n232, t232_0, t232_4, t232_11 hS, s_isShelf, hv, hv2, n_inb, n_cl, hs, ho, q.1, r.1, y2, ↓reduceIte, eq_self, and_self, and_true, true_and, not_true_eq_false, not_false_eq_true, ob_s, tl_s, tl_n, rf_ref, orf_ref, orf_null, nn_ref, nn_null, rfv_s, rfv_n, if_true, if_false, bi_01, bi_e0, bi_e1, or_t, Classical.not_not]
      · have y2 : ¬ Int32.ofNat b = -1 := neg_ne (by omega) (by decide)
        have y3 : ¬ Int32.ofNat b = -2 := neg_ne (by omega) (by decide)
        have y4 : ¬ Int32.ofNat b' = -1 := neg_ne (by omega) (by decide)
        refine ⟨-12, J, J, ?_, ?_, H⟩
        · simp (disch := first | omega | exact ib_r | exact ib_n | exact isB_rfv _ | assumption) only [n141, t141_0 hS, t141_5 hS, t141_12, t141_31, t141_39, t141_50, t141_58, t141_85, t141_97, t141_121, s_shelfAt hS hs, s_shelfAt hS ho, h.2.1, h2.2.1, s_isEmpty h.2.1, s_isEmpty h2.2.1, s_isRow h.2.1, q.2.1, r.2.1, z1, z3, ↓reduceIte, eq_self, and_self, and_true, true_and, not_true_eq_false, not_false_eq_true, ob_s, tl_s, tl_n, rf_ref, orf_ref, orf_null, nn_ref, nn_null, rfv_s, rfv_n, if_true, if_false, bi_01, bi_e0, bi_e1, or_t, Classical.not_not]
        · simp (disch := first | omega | exact ib_r | exact ib_n | exact isB_rfv _ | assumption) only [n232, t232_0, t232_4, t232_11 hS, s_isShelf, hv, hv2, n_inb, n_cl, hs, ho, q.1, r.1, y2, y3, y4, ↓reduceIte, eq_self, and_self, and_true, true_and, not_true_eq_false, not_false_eq_true, ob_s, tl_s, tl_n, rf_ref, orf_ref, orf_null, nn_ref, nn_null, rfv_s, rfv_n, if_true, if_false, bi_01, bi_e0, bi_e1, or_t, Classical.not_not]
      · have y2 : ¬ Int32.ofNat b = -1 := neg_ne (by omega) (by decide)
        have y3 : ¬ Int32.ofNat b = -2 := neg_ne (by omega) (by decide)
        refine ⟨-12, J, J, ?_, ?_, H⟩
        · simp (disch := first | omega | exact ib_r | exact ib_n | exact isB_rfv _ | assumption) only [n141, t141_0 hS, t141_5 hS, t141_12, t141_31, t141_39, t141_50, t141_58, t141_85, t141_97, t141_121, s_shelfAt hS hs, s_shelfAt hS ho, h.2.1, h2.2.1, s_isEmpty h.2.1, s_isEmpty h2.2.1, s_isRow h.2.1, q.2.1, r.2.1, z1, z2, z3, ↓reduceIte, eq_self, and_self, and_true, true_and, not_true_eq_false, not_false_eq_true, ob_s, tl_s, tl_n, rf_ref, orf_ref, orf_null, nn_ref, nn_null, rfv_s, rfv_n, if_true, if_false, bi_01, bi_e0, bi_e1, or_t, Classical.not_not]
        · simp (disch := first | omega | exact ib_r | exact ib_n | exact isB_rfv _ | assumption) only [n232, t232_0, t232_4, t232_11 hS, s_isShelf, hv, hv2, n_inb, n_cl, hs, ho, q.1, r.1, y1, y2, y3, ↓reduceIte, eq_self, and_self, and_true, true_and, not_true_eq_false, not_false_eq_true, ob_s, tl_s, tl_n, rf_ref, orf_ref, orf_null, nn_ref, nn_null, rfv_s, rfv_n, if_true, if_false, bi_01, bi_e0, bi_e1, or_t, Classical.not_not]
      · refine ⟨-11, J, J, ?_, ?_, H⟩
        · simp (disch := first | omega | exact ib_r | exact ib_n | exact isB_rfv _ | assumption) only [n141, t141_0 hS, t141_5 hS, t141_12, t141_31, t141_39, t141_50, t141_58, t141_85, t141_97, t141_121, s_shelfAt hS hs, s_shelfAt hS ho, h.2.1, h2.2.1, s_isEmpty h.2.1, s_isEmpty h2.2.1, q.2.1, r.2, z2, ↓reduceIte, eq_self, and_self, and_true, true_and, not_true_eq_false, not_false_eq_true, ob_s, tl_s, tl_n, rf_ref, orf_ref, orf_null, nn_ref, nn_null, rfv_s, rfv_n, if_true, if_false, bi_01, bi_e0, bi_e1, or_t, Classical.not_not]
        · simp (disch := first | omega | exact ib_r | exact ib_n | exact isB_rfv _ | assumption) only [n232, t232_0, t232_4, t232_11 hS, s_isShelf, hv, hv2, n_inb, n_cl, hs, ho, q.1, r.1, y1, ↓reduceIte, eq_self, and_self, and_true, true_and, not_true_eq_false, not_false_eq_true, ob_s, tl_s, tl_n, rf_ref, orf_ref, orf_null, nn_ref, nn_null, rfv_s, rfv_n, if_true, if_false, bi_01, bi_e0, bi_e1, or_t, Classical.not_not]
      · have y3 : ¬ Int32.ofNat b' = -2 := neg_ne (by omega) (by decide)
        have y4 : ¬ Int32.ofNat b' = -1 := neg_ne (by omega) (by decide)
        refine ⟨-12, J, J, ?_, ?_, H⟩
        · simp (disch := first | omega | exact ib_r | exact ib_n | exact isB_rfv _ | assumption) only [n141, t141_0 hS, t141_5 hS, t141_12, t141_31, t141_39, t141_50, t141_58, t141_85, t141_97, t141_121, s_shelfAt hS hs, s_shelfAt hS ho, h.2.1, h2.2.1, s_isEmpty h.2.1, s_isEmpty h2.2.1, s_isRow h.2.1, s_isRow h2.2.1, q.2.1, r.2.1, z1, z2, z3, ↓reduceIte, eq_self, and_self, and_true, true_and, not_true_eq_false, not_false_eq_true, ob_s, tl_s, tl_n, rf_ref, orf_ref, orf_null, nn_ref, nn_null, rfv_s, rfv_n, if_true, if_false, bi_01, bi_e0, bi_e1, or_t, Classical.not_not]
        · simp (disch := first | omega | exact ib_r | exact ib_n | exact isB_rfv _ | assumption) only [n232, t232_0, t232_4, t232_11 hS, s_isShelf, hv, hv2, n_inb, n_cl, hs, ho, q.1, r.1, y1, y3, y4, ↓reduceIte, eq_self, and_self, and_true, true_and, not_true_eq_false, not_false_eq_true, ob_s, tl_s, tl_n, rf_ref, orf_ref, orf_null, nn_ref, nn_null, rfv_s, rfv_n, if_true, if_false, bi_01, bi_e0, bi_e1, or_t, Classical.not_not]
      · have X1 : ev X (d + 4) 141 [.ref 0, .int (Int32.ofNat s), .int w, .int (Int32.ofNat o), .int w2, .int z] (sz, sl, sh, R, I, J) = exe X (d + 3) 141 58 [dm, dm, .int w, dm, .int w2, .int z, .ref (25 + 2 * s), .ref (25 + 2 * o)] [.int 1] (sz, sl, sh, R, I, J) := by
          have e1 : bi ((2 : Int32) = 2) = 1 := by decide
          simp (disch := first | omega | exact ib_r | exact ib_n | exact isB_rfv _ | assumption) only [n141, t141_0 hS, t141_5 hS, t141_12, t141_31, t141_39, t141_50, s_shelfAt hS hs, s_shelfAt hS ho, h.2.1, h2.2.1, s_isEmpty h.2.1, s_isEmpty h2.2.1, s_isRow h.2.1, s_isRow h2.2.1, q.2.1, r.2.1, z2, ↓reduceIte, eq_self, and_self, and_true, true_and, not_true_eq_false, not_false_eq_true, ob_s, tl_s, tl_n, rf_ref, orf_ref, orf_null, nn_ref, nn_null, rfv_s, rfv_n, if_true, if_false, bi_01, bi_e0, bi_e1, or_t, Classical.not_not]
          rfl
        by_cases hss : so = so'
        · subst hss
          have X2 : exe X (d + 3) 141 58 [dm, dm, .int w, dm, .int w2, .int z, .ref (25 + 2 * s), .ref (25 + 2 * o)] [.int 1] (sz, sl, sh, R, I, J) = ((ev X (d + 3) 142 [.ref (25 + 2 * s), .int w, .int z] (sz, sl, sh, R, I, J)).bind fun q => exe X (d + 3) 141 85 [dm, dm, .int w, dm, .int w2, .int z, .ref (25 + 2 * s), .ref (25 + 2 * o)] (q.1.toList ++ []) q.2) := by
            rw [t141_58 rfl rfl, if_neg z1]
            simp (disch := first | omega | exact ib_r | exact ib_n | exact isB_rfv _ | assumption) only [rf_ref, h.2.1, h2.2.1, q.2.2.2.2.1, r.2.2.2.2.1, ↓reduceIte, eq_self, and_self, and_true, true_and, not_true_eq_false, not_false_eq_true, ob_s, tl_s, tl_n, rf_ref, orf_ref, orf_null, nn_ref, nn_null, rfv_s, rfv_n, if_true, if_false, bi_01, bi_e0, bi_e1, or_t, Classical.not_not]
          have M1 : ∀ J1 : Nat → Nat → Int64, ev X (d + 4) 232 [.ref 37, .int (Int32.ofNat s), .int w, .int (Int32.ofNat o), .int w2, .int z] (sz, sl, sh, R, I, J1) = (if z < 0 then some (some (.int (-13)), (sz, sl, sh, R, I, J1)) else if w < 0 then some (some (.int (-13)), (sz, sl, sh, R, I, J1)) else if w2 < 0 then some (some (.int (-13)), (sz, sl, sh, R, I, J1)) else if Int32.ofNat n < w then some (some (.int (-13)), (sz, sl, sh, R, I, J1)) else if Int32.ofNat n' < w2 then some (some (.int (-13)), (sz, sl, sh, R, I, J1)) else if Int32.ofNat n - w < z then some (some (.int (-13)), (sz, sl, sh, R, I, J1)) else if z ≤ Int32.ofNat n' - w2 then exe X (d + 3) 232 147 [.ref 37, .int (Int32.ofNat s), .int w, .int (Int32.ofNat o), .int w2, .int z, .int 0] [] (sz, sl, sh, R, I, J1) else some (some (.int (-13)), (sz, sl, sh, R, I, J1))) := by
            intro J1
            simp (disch := first | omega | exact ib_r | exact ib_n | exact isB_rfv _ | assumption) only [n232, t232_0, t232_4, t232_11 hS, s_isShelf, hv, hv2, n_inb, n_cl, hs, ho, q.1, r.1, y1, q.2.2.2.2.2.1, r.2.2.2.2.2.1, q.2.2.2.1, r.2.2.2.1, ↓reduceIte, eq_self, and_self, and_true, true_and, not_true_eq_false, not_false_eq_true, ob_s, tl_s, tl_n, rf_ref, orf_ref, orf_null, nn_ref, nn_null, rfv_s, rfv_n, if_true, if_false, bi_01, bi_e0, bi_e1, or_t, Classical.not_not]
          by_cases hz : z < 0
          · refine ⟨-13, J, J, ?_, ?_, H⟩
            · rw [X1, X2, n142, t142_0 h.2.1]
              by_cases hw : w < 0
              · simp (disch := first | omega | exact ib_r | exact ib_n | exact isB_rfv _ | assumption) only [hw, hz, ↓reduceIte, eq_self, and_self, and_true, true_and, not_true_eq_false, not_false_eq_true, ob_s, tl_s, tl_n, rf_ref, orf_ref, orf_null, nn_ref, nn_null, rfv_s, rfv_n, if_true, if_false, bi_01, bi_e0, bi_e1, or_t, Classical.not_not, t141_85]
              · simp (disch := first | omega | exact ib_r | exact ib_n | exact isB_rfv _ | assumption) only [hw, hz, ↓reduceIte, eq_self, and_self, and_true, true_and, not_true_eq_false, not_false_eq_true, ob_s, tl_s, tl_n, rf_ref, orf_ref, orf_null, nn_ref, nn_null, rfv_s, rfv_n, if_true, if_false, bi_01, bi_e0, bi_e1, or_t, Classical.not_not, t141_85]
            · rw [M1, if_pos hz]
          by_cases hw : w < 0
          · refine ⟨-13, J, J, ?_, ?_, H⟩
            · rw [X1, X2, n142, t142_0 h.2.1]
              simp (disch := first | omega | exact ib_r | exact ib_n | exact isB_rfv _ | assumption) only [hw, ↓reduceIte, eq_self, and_self, and_true, true_and, not_true_eq_false, not_false_eq_true, ob_s, tl_s, tl_n, rf_ref, orf_ref, orf_null, nn_ref, nn_null, rfv_s, rfv_n, if_true, if_false, bi_01, bi_e0, bi_e1, or_t, Classical.not_not, t141_85]
            · rw [M1, if_neg hz, if_pos hw]
          obtain ⟨c, hc, rfl⟩ := n_of (Int32.not_lt.mp hz)
          obtain ⟨p, hp, rfl⟩ := n_of (Int32.not_lt.mp hw)
          have part := s_hasPart (X := X) (d := d + 2) (sz := sz) (sl := sl) (R := R) (J := J) h.2.1 q.2.2.1 hn hp hc
          rw [part] at X2
          by_cases hpc : p + c ≤ n
          · have X3 : exe X (d + 3) 141 58 [dm, dm, .int (Int32.ofNat p), dm, .int w2, .int (Int32.ofNat c), .ref (25 + 2 * s), .ref (25 + 2 * o)] [.int 1] (sz, sl, sh, R, I, J) = ((ev X (d + 3) 142 [.ref (25 + 2 * o), .int w2, .int (Int32.ofNat c)] (sz, sl, sh, R, I, J)).bind fun q => exe X (d + 3) 141 97 [dm, dm, .int (Int32.ofNat p), dm, .int w2, .int (Int32.ofNat c), .ref (25 + 2 * s), .ref (25 + 2 * o)] (q.1.toList ++ []) q.2) := by
              rw [X2, bi_t hpc]
              simp (disch := first | omega | exact ib_r | exact ib_n | exact isB_rfv _ | assumption) only [↓reduceIte, eq_self, and_self, and_true, true_and, not_true_eq_false, not_false_eq_true, ob_s, tl_s, tl_n, rf_ref, orf_ref, orf_null, nn_ref, nn_null, rfv_s, rfv_n, if_true, if_false, bi_01, bi_e0, bi_e1, or_t, Classical.not_not, t141_85, z1, h2.2.1]
            have g1 : ¬ n < p := by omega
            have g2 : ¬ n - p < c := by omega
            by_cases hw2 : w2 < 0
            · refine ⟨-13, J, J, ?_, ?_, H⟩
              · rw [X1, X3, n142, t142_0 h2.2.1]
                simp (disch := first | omega | exact ib_r | exact ib_n | exact isB_rfv _ | assumption) only [hw2, ↓reduceIte, eq_self, and_self, and_true, true_and, not_true_eq_false, not_false_eq_true, ob_s, tl_s, tl_n, rf_ref, orf_ref, orf_null, nn_ref, nn_null, rfv_s, rfv_n, if_true, if_false, bi_01, bi_e0, bi_e1, or_t, Classical.not_not, t141_97]
              · rw [M1, if_neg hz, if_neg hw, if_pos hw2]
            obtain ⟨p2, hp2, rfl⟩ := n_of (Int32.not_lt.mp hw2)
            have part2 := s_hasPart (X := X) (d := d + 2) (sz := sz) (sl := sl) (R := R) (J := J) h2.2.1 r.2.2.1 hn' hp2 hc
            rw [part2] at X3
            have M2 := fun J1 => M1 J1
            by_cases hpc2 : p2 + c ≤ n'
            · have g3 : ¬ n' < p2 := by omega
              have g4 : c ≤ n' - p2 := by omega
              have f1 : p + c ≤ 60 := by omega
              have f2 : p2 + c ≤ 60 := by omega
              have f3 : ¬ ((1 : Nat) = 0 ∧ (1 : Nat) = 0) := by decide
              have f4 : ((1 : Nat) = 1 ∧ (1 : Nat) = 1) := by decide
              have m1 := s_mv1 (X := X) (d := d + 3) (sz := sz) (sl := sl) (I := I) (J := ur J (26 + 2 * o) (va_cpy (J (26 + 2 * s)) (J (26 + 2 * o)) p p2 c)) (o := o) (j := p2) (lo := Int32.ofNat o) (lj := Int32.ofNat p2) hS hs f1 c 0 (by omega)
              have m2 := s_mv2 (X := X) (d := d + 3) (sz := sz) (sl := sl) (I := I) (J := cpf (ur J (26 + 2 * o) (va_cpy (J (26 + 2 * s)) (J (26 + 2 * o)) p p2 c)) 70 0 64 (60 * s + p) c) hS ho f2 c 0 (by omega)
              rw [cpf_0, ← k_0] at m1 m2
              refine ⟨Int32.ofNat c, ur J (26 + 2 * o) (va_cpy (J (26 + 2 * s)) (J (26 + 2 * o)) p p2 c), cpf (cpf (ur J (26 + 2 * o) (va_cpy (J (26 + 2 * s)) (J (26 + 2 * o)) p p2 c)) 70 0 64 (60 * s + p) c) 64 (60 * o + p2) 70 0 c, ?_, ?_, H.upd ho (Or.inr (Or.inr ⟨n', so, hn', hso', r.1, r.2.1, r.2.2.1, r.2.2.2.1, r.2.2.2.2.1, r.2.2.2.2.2.1, fun k hk => ?_⟩)) (fun _ _ _ _ => ⟨rfl, rfl, rfl, rfl⟩) (fun s' k hs' hne hk => ⟨?_, ?_⟩)⟩
              · rw [X1, X3, bi_t hpc2]
                simp (disch := first | omega | exact ib_r | exact ib_n | exact isB_rfv _ | assumption) only [↓reduceIte, eq_self, and_self, and_true, true_and, not_true_eq_false, not_false_eq_true, ob_s, tl_s, tl_n, rf_ref, orf_ref, orf_null, nn_ref, nn_null, rfv_s, rfv_n, if_true, if_false, bi_01, bi_e0, bi_e1, or_t, Classical.not_not, t141_97, t141_121, z1, h.2.1, h2.2.1, h.2.2.1, h2.2.2.1, h.2.2.2, h2.2.2.2, hz, hw, hw2, n_cl, f1, f2, f3, f4]
                rw [if_neg (by decide)]
              · rw [M2]
                simp (disch := first | omega | exact ib_r | exact ib_n | exact isB_rfv _ | assumption) only [hz, hw, hw2, n_lt, n_le, n_sub, g1, g2, g3, g4, ↓reduceIte, eq_self, and_self, and_true, true_and, not_true_eq_false, not_false_eq_true, ob_s, tl_s, tl_n, rf_ref, orf_ref, orf_null, nn_ref, nn_null, rfv_s, rfv_n, if_true, if_false, bi_01, bi_e0, bi_e1, or_t, Classical.not_not]
                exact m1.trans m2
              · unfold cpf ur va_cpy
                by_cases ek : p2 ≤ k ∧ k < p2 + c
                · have qk := q.2.2.2.2.2.2 (p + (k - p2)) (by omega)
                  rw [if_neg (by omega), if_neg (by omega), if_pos rfl, if_pos ek, if_pos ⟨rfl, by omega, by omega⟩, if_pos ⟨rfl, by omega, by omega⟩, if_neg (by omega)]
                  rw [show 60 * s + p + (0 + (60 * o + k - (60 * o + p2)) - 0) = 60 * s + (p + (k - p2)) from by omega]
                  exact qk
                · rw [if_neg (by omega), if_neg (by omega), if_pos rfl, if_neg ek, if_neg (by omega), if_neg (by omega), if_neg (by omega)]
                  exact r.2.2.2.2.2.2 k hk
              · unfold cpf ur
                rw [if_neg (by omega), if_neg (by omega), if_neg (by omega)]
              · unfold cpf ur
                rw [if_neg (by omega), if_neg (by omega), if_neg (by omega)]
            · refine ⟨-13, J, J, ?_, ?_, H⟩
              · rw [X1, X3, bi_f hpc2]
                simp (disch := first | omega | exact ib_r | exact ib_n | exact isB_rfv _ | assumption) only [↓reduceIte, eq_self, and_self, and_true, true_and, not_true_eq_false, not_false_eq_true, ob_s, tl_s, tl_n, rf_ref, orf_ref, orf_null, nn_ref, nn_null, rfv_s, rfv_n, if_true, if_false, bi_01, bi_e0, bi_e1, or_t, Classical.not_not, t141_97]
              · rw [M2]
                by_cases g3 : n' < p2
                · simp (disch := first | omega | exact ib_r | exact ib_n | exact isB_rfv _ | assumption) only [hz, hw, hw2, n_lt, n_le, g1, g3, ↓reduceIte, eq_self, and_self, and_true, true_and, not_true_eq_false, not_false_eq_true, ob_s, tl_s, tl_n, rf_ref, orf_ref, orf_null, nn_ref, nn_null, rfv_s, rfv_n, if_true, if_false, bi_01, bi_e0, bi_e1, or_t, Classical.not_not]
                · have g4 : ¬ c ≤ n' - p2 := by omega
                  simp (disch := first | omega | exact ib_r | exact ib_n | exact isB_rfv _ | assumption) only [hz, hw, hw2, n_lt, n_le, n_sub, g1, g2, g3, g4, ↓reduceIte, eq_self, and_self, and_true, true_and, not_true_eq_false, not_false_eq_true, ob_s, tl_s, tl_n, rf_ref, orf_ref, orf_null, nn_ref, nn_null, rfv_s, rfv_n, if_true, if_false, bi_01, bi_e0, bi_e1, or_t, Classical.not_not]
          · refine ⟨-13, J, J, ?_, ?_, H⟩
            · rw [X1, X2, bi_f hpc]
              simp (disch := first | omega | exact ib_r | exact ib_n | exact isB_rfv _ | assumption) only [↓reduceIte, eq_self, and_self, and_true, true_and, not_true_eq_false, not_false_eq_true, ob_s, tl_s, tl_n, rf_ref, orf_ref, orf_null, nn_ref, nn_null, rfv_s, rfv_n, if_true, if_false, bi_01, bi_e0, bi_e1, or_t, Classical.not_not, t141_85]
            · rw [M1, if_neg hz, if_neg hw]
              by_cases hw2 : w2 < 0
              · rw [if_pos hw2]
              obtain ⟨p2, hp2, rfl⟩ := n_of (Int32.not_lt.mp hw2)
              by_cases g1 : n < p
              · simp (disch := first | omega | exact ib_r | exact ib_n | exact isB_rfv _ | assumption) only [hw2, n_lt, n_le, g1, ↓reduceIte, eq_self, and_self, and_true, true_and, not_true_eq_false, not_false_eq_true, ob_s, tl_s, tl_n, rf_ref, orf_ref, orf_null, nn_ref, nn_null, rfv_s, rfv_n, if_true, if_false, bi_01, bi_e0, bi_e1, or_t, Classical.not_not]
              by_cases g3 : n' < p2
              · simp (disch := first | omega | exact ib_r | exact ib_n | exact isB_rfv _ | assumption) only [hw2, n_lt, n_le, g1, g3, ↓reduceIte, eq_self, and_self, and_true, true_and, not_true_eq_false, not_false_eq_true, ob_s, tl_s, tl_n, rf_ref, orf_ref, orf_null, nn_ref, nn_null, rfv_s, rfv_n, if_true, if_false, bi_01, bi_e0, bi_e1, or_t, Classical.not_not]
              have g4 : n - p < c := by omega
              simp (disch := first | omega | exact ib_r | exact ib_n | exact isB_rfv _ | assumption) only [hw2, n_lt, n_le, n_sub, g1, g3, g4, ↓reduceIte, eq_self, and_self, and_true, true_and, not_true_eq_false, not_false_eq_true, ob_s, tl_s, tl_n, rf_ref, orf_ref, orf_null, nn_ref, nn_null, rfv_s, rfv_n, if_true, if_false, bi_01, bi_e0, bi_e1, or_t, Classical.not_not]
        · have hne : ¬ Int32.ofNat so = Int32.ofNat so' := by rw [n_eq (by omega) (by omega)]; exact hss
          refine ⟨-12, J, J, ?_, ?_, H⟩
          · rw [X1, t141_58 rfl rfl, if_neg z1]
            simp (disch := first | omega | exact ib_r | exact ib_n | exact isB_rfv _ | assumption) only [rf_ref, h.2.1, h2.2.1, q.2.2.2.2.1, r.2.2.2.2.1, hne, ↓reduceIte, eq_self, and_self, and_true, true_and, not_true_eq_false, not_false_eq_true, ob_s, tl_s, tl_n, rf_ref, orf_ref, orf_null, nn_ref, nn_null, rfv_s, rfv_n, if_true, if_false, bi_01, bi_e0, bi_e1, or_t, Classical.not_not]
          · simp (disch := first | omega | exact ib_r | exact ib_n | exact isB_rfv _ | assumption) only [n232, t232_0, t232_4, t232_11 hS, s_isShelf, hv, hv2, n_inb, n_cl, hs, ho, q.1, r.1, y1, q.2.2.2.2.2.1, r.2.2.2.2.2.1, hne, ↓reduceIte, eq_self, and_self, and_true, true_and, not_true_eq_false, not_false_eq_true, ob_s, tl_s, tl_n, rf_ref, orf_ref, orf_null, nn_ref, nn_null, rfv_s, rfv_n, if_true, if_false, bi_01, bi_e0, bi_e1, or_t, Classical.not_not]
    · refine ⟨-1, J, J, ?_, ?_, H⟩
      · obtain ⟨s, hs, rfl⟩ := sv_ok hv
        simp (disch := first | omega | exact ib_r | exact ib_n | exact isB_rfv _ | assumption) only [n141, t141_0 hS, t141_5 hS, t141_12, t141_31, t141_39, t141_50, t141_58, t141_85, t141_97, t141_121, s_shelfAt hS hs, s_shelfAt_no hS hv2, ↓reduceIte, eq_self, and_self, and_true, true_and, not_true_eq_false, not_false_eq_true, ob_s, tl_s, tl_n, rf_ref, orf_ref, orf_null, nn_ref, nn_null, rfv_s, rfv_n, if_true, if_false, bi_01, bi_e0, bi_e1, or_t, Classical.not_not]
      · simp (disch := first | omega | exact ib_r | exact ib_n | exact isB_rfv _ | assumption) only [n232, t232_0, t232_4, t232_11 hS, s_isShelf, hv, hv2, ↓reduceIte, eq_self, and_self, and_true, true_and, not_true_eq_false, not_false_eq_true, ob_s, tl_s, tl_n, rf_ref, orf_ref, orf_null, nn_ref, nn_null, rfv_s, rfv_n, if_true, if_false, bi_01, bi_e0, bi_e1, or_t, Classical.not_not]
  · refine ⟨-1, J, J, ?_, ?_, H⟩
    · by_cases hv2 : 0 ≤ v2 ∧ v2 ≤ 5
      · obtain ⟨o, ho, rfl⟩ := sv_ok hv2
        simp (disch := first | omega | exact ib_r | exact ib_n | exact isB_rfv _ | assumption) only [n141, t141_0 hS, t141_5 hS, t141_12, t141_31, t141_39, t141_50, t141_58, t141_85, t141_97, t141_121, s_shelfAt hS ho, s_shelfAt_no hS hv, ↓reduceIte, eq_self, and_self, and_true, true_and, not_true_eq_false, not_false_eq_true, ob_s, tl_s, tl_n, rf_ref, orf_ref, orf_null, nn_ref, nn_null, rfv_s, rfv_n, if_true, if_false, bi_01, bi_e0, bi_e1, or_t, Classical.not_not]
      · simp (disch := first | omega | exact ib_r | exact ib_n | exact isB_rfv _ | assumption) only [n141, t141_0 hS, t141_5 hS, t141_12, t141_31, t141_39, t141_50, t141_58, t141_85, t141_97, t141_121, s_shelfAt_no hS hv, s_shelfAt_no hS hv2, ↓reduceIte, eq_self, and_self, and_true, true_and, not_true_eq_false, not_false_eq_true, ob_s, tl_s, tl_n, rf_ref, orf_ref, orf_null, nn_ref, nn_null, rfv_s, rfv_n, if_true, if_false, bi_01, bi_e0, bi_e1, or_t, Classical.not_not]
    · simp (disch := first | omega | exact ib_r | exact ib_n | exact isB_rfv _ | assumption) only [n232, t232_0, t232_4, s_isShelf, hv, ↓reduceIte, eq_self, and_self, and_true, true_and, not_true_eq_false, not_false_eq_true, ob_s, tl_s, tl_n, rf_ref, orf_ref, orf_null, nn_ref, nn_null, rfv_s, rfv_n, if_true, if_false, bi_01, bi_e0, bi_e1, or_t, Classical.not_not]
/-- what lies above a kind -/
theorem s_aboveX {u : Nat} (hu : u ≤ 7) : ev X (d + 1) 125 [.int (Int32.ofNat u)] (sz, sl, sh, R, I, J) = some (some (.int (tab1.getD u 0)), (sz, sl, sh, R, I, J)) := by
  have e0 : ¬ Int32.ofNat u < 0 := Int32.not_lt.mpr (n_ge (by omega))
  have e1 : ¬ (8 : Nat) ≤ u := by omega
  have e2 : u < 8 := by omega
  have e3 : (1 : Nat) < 3 := by decide
  have en : tn X 1 = 8 := rfl
  simp (disch := first | omega | exact ib_r | exact ib_n | exact isB_rfv _ | assumption) only [n125, t125_0, e0, en, n_le, n_inb, n_cl, e1, e2, e3, ↓reduceIte, eq_self, and_self, and_true, true_and, not_true_eq_false, not_false_eq_true, ob_s, tl_s, tl_n, rf_ref, orf_ref, orf_null, nn_ref, nn_null, rfv_s, rfv_n, if_true, if_false, bi_01, bi_e0, bi_e1, or_t, Classical.not_not]
  rfl
theorem s_aboveM {u : Nat} (hu : u ≤ 7) : ev X (d + 1) 221 [.int (Int32.ofNat u)] (sz, sl, sh, R, I, J) = some (some (.int (tab1.getD u 0)), (sz, sl, sh, R, I, J)) := by
  rw [n221, t221_0]
  rcases (show u = 0 ∨ u = 1 ∨ u = 2 ∨ u = 3 ∨ u = 4 ∨ u = 5 ∨ u = 6 ∨ u = 7 by omega) with rfl | rfl | rfl | rfl | rfl | rfl | rfl | rfl <;> rfl
/-- is u the kind k or under it: at most n more -/
def und : Nat → Int32 → Int32 → Int32
  | 0, _, _ => 0
  | n + 1, a, k => if a = k then 1 else if a.toNatClampNeg = 0 then 0 else und n (tab1.getD a.toNatClampNeg 0) k
theorem und_01 : ∀ (n : Nat) (a k : Int32), und n a k = 0 ∨ und n a k = 1
  | 0, _, _ => Or.inl rfl
  | n + 1, a, k => by
    unfold und
    split
    · exact Or.inr rfl
    · split
      · exact Or.inl rfl
      · exact und_01 n _ k
theorem tab_le {u : Nat} (hu : u ≤ 7) (h0 : u ≠ 0) : ∃ w, w < u ∧ tab1.getD u 0 = Int32.ofNat w := by
  rcases (show u = 1 ∨ u = 2 ∨ u = 3 ∨ u = 4 ∨ u = 5 ∨ u = 6 ∨ u = 7 by omega) with rfl | rfl | rfl | rfl | rfl | rfl | rfl
  · exact ⟨0, by decide, rfl⟩
  · exact ⟨0, by decide, rfl⟩
  · exact ⟨1, by decide, rfl⟩
  · exact ⟨2, by decide, rfl⟩
  · exact ⟨0, by decide, rfl⟩
  · exact ⟨0, by decide, rfl⟩
  · exact ⟨6, by decide, rfl⟩
theorem s_undX {k : Nat} (hk : k ≤ 7) : ∀ n u c : Nat, u ≤ 7 → u + c ≤ 7 → u < n → exe X (d + 1) 144 4 [dm, .int (Int32.ofNat k), .int (Int32.ofNat u), .int (Int32.ofNat c)] [] (sz, sl, sh, R, I, J) = some (some (.int (und n (Int32.ofNat u) (Int32.ofNat k))), (sz, sl, sh, R, I, J))
  | 0, u, c, h1, h2, h3 => by omega
  | n + 1, u, c, h1, h2, h3 => by
    have e1 : ¬ 8 ≤ c := by omega
    have e2 : ¬ Int32.ofNat u < 0 := Int32.not_lt.mpr (n_ge (by omega))
    rw [t144_4, und, n_cl (by omega)]
    by_cases e : u = k
    · subst e
      simp (disch := first | omega | exact ib_r | exact ib_n | exact isB_rfv _ | assumption) only [k_8, n_le, e1, e2, ↓reduceIte, eq_self, and_self, and_true, true_and, not_true_eq_false, not_false_eq_true, ob_s, tl_s, tl_n, rf_ref, orf_ref, orf_null, nn_ref, nn_null, rfv_s, rfv_n, if_true, if_false, bi_01, bi_e0, bi_e1, or_t, Classical.not_not, t144_30]
    · have e' : ¬ Int32.ofNat u = Int32.ofNat k := by rw [n_eq (by omega) (by omega)]; exact e
      by_cases u0 : u = 0
      · subst u0
        have q1 : (-1 : Int32) < 0 := by decide
        have q2 : tab1.getD 0 0 = -1 := rfl
        have q3 : ¬ (-1 : Int32) = Int32.ofNat k := by rw [m1_eq (by omega)]; exact id
        simp (disch := first | omega | exact ib_r | exact ib_n | exact isB_rfv _ | assumption) only [k_8, n_le, e1, e2, e', ↓reduceIte, eq_self, and_self, and_true, true_and, not_true_eq_false, not_false_eq_true, ob_s, tl_s, tl_n, rf_ref, orf_ref, orf_null, nn_ref, nn_null, rfv_s, rfv_n, if_true, if_false, bi_01, bi_e0, bi_e1, or_t, Classical.not_not, s_aboveX h1, q2, t144_23, n_suc]
        rw [t144_4, t144_30]
        simp (disch := first | omega | exact ib_r | exact ib_n | exact isB_rfv _ | assumption) only [q1, q3, ↓reduceIte, eq_self, and_self, and_true, true_and, not_true_eq_false, not_false_eq_true, ob_s, tl_s, tl_n, rf_ref, orf_ref, orf_null, nn_ref, nn_null, rfv_s, rfv_n, if_true, if_false, bi_01, bi_e0, bi_e1, or_t, Classical.not_not]
        split <;> rfl
      · obtain ⟨w, hw, ew⟩ := tab_le h1 u0
        have ih := s_undX hk n w (c + 1) (by omega) (by omega) (by omega)
        simp (disch := first | omega | exact ib_r | exact ib_n | exact isB_rfv _ | assumption) only [k_8, n_le, e1, e2, e', u0, ↓reduceIte, eq_self, and_self, and_true, true_and, not_true_eq_false, not_false_eq_true, ob_s, tl_s, tl_n, rf_ref, orf_ref, orf_null, nn_ref, nn_null, rfv_s, rfv_n, if_true, if_false, bi_01, bi_e0, bi_e1, or_t, Classical.not_not, s_aboveX h1, ew, t144_23, n_suc]
        exact ih
theorem s_undM {k : Nat} (hk : k ≤ 7) : ∀ n u : Nat, u ≤ 7 → u < n → exe X (d + 1) 234 2 [dm, .int (Int32.ofNat k), .int (Int32.ofNat u)] [] (sz, sl, sh, R, I, J) = some (some (.int (und n (Int32.ofNat u) (Int32.ofNat k))), (sz, sl, sh, R, I, J))
  | 0, u, h1, h3 => by omega
  | n + 1, u, h1, h3 => by
    have e2 : ¬ Int32.ofNat u < 0 := Int32.not_lt.mpr (n_ge (by omega))
    rw [t234_2, und, n_cl (by omega)]
    by_cases e : u = k
    · subst e
      simp (disch := first | omega | exact ib_r | exact ib_n | exact isB_rfv _ | assumption) only [e2, ↓reduceIte, eq_self, and_self, and_true, true_and, not_true_eq_false, not_false_eq_true, ob_s, tl_s, tl_n, rf_ref, orf_ref, orf_null, nn_ref, nn_null, rfv_s, rfv_n, if_true, if_false, bi_01, bi_e0, bi_e1, or_t, Classical.not_not, t234_19]
    · have e' : ¬ Int32.ofNat u = Int32.ofNat k := by rw [n_eq (by omega) (by omega)]; exact e
      by_cases u0 : u = 0
      · subst u0
        have q1 : (-1 : Int32) < 0 := by decide
        have q2 : tab1.getD 0 0 = -1 := rfl
        have q3 : ¬ (-1 : Int32) = Int32.ofNat k := by rw [m1_eq (by omega)]; exact id
        simp (disch := first | omega | exact ib_r | exact ib_n | exact isB_rfv _ | assumption) only [e2, e', ↓reduceIte, eq_self, and_self, and_true, true_and, not_true_eq_false, not_false_eq_true, ob_s, tl_s, tl_n, rf_ref, orf_ref, orf_null, nn_ref, nn_null, rfv_s, rfv_n, if_true, if_false, bi_01, bi_e0, bi_e1, or_t, Classical.not_not, s_aboveM h1, q2, t234_15]
        rw [t234_2, t234_19]
        simp (disch := first | omega | exact ib_r | exact ib_n | exact isB_rfv _ | assumption) only [q1, q3, ↓reduceIte, eq_self, and_self, and_true, true_and, not_true_eq_false, not_false_eq_true, ob_s, tl_s, tl_n, rf_ref, orf_ref, orf_null, nn_ref, nn_null, rfv_s, rfv_n, if_true, if_false, bi_01, bi_e0, bi_e1, or_t, Classical.not_not]
      · obtain ⟨w, hw, ew⟩ := tab_le h1 u0
        have ih := s_undM hk n w (by omega) (by omega)
        simp (disch := first | omega | exact ib_r | exact ib_n | exact isB_rfv _ | assumption) only [e2, e', u0, ↓reduceIte, eq_self, and_self, and_true, true_and, not_true_eq_false, not_false_eq_true, ob_s, tl_s, tl_n, rf_ref, orf_ref, orf_null, nn_ref, nn_null, rfv_s, rfv_n, if_true, if_false, bi_01, bi_e0, bi_e1, or_t, Classical.not_not, s_aboveM h1, ew, t234_15]
        exact ih
theorem o_taken (hS : SF sh R) {B : Nat → Nat} {nb : Nat} (GBB : GB B nb I) (H : GH B nb I J) {v w : Int32} : ∃ x, ev X (d + 4) 143 [.ref 0, .int v, .int w] (sz, sl, sh, R, I, J) = some (some (.int x), (sz, sl, sh, R, I, J)) ∧ ev X (d + 4) 233 [.ref 37, .int v, .int w] (sz, sl, sh, R, I, J) = some (some (.int x), (sz, sl, sh, R, I, J)) := by
  obtain ⟨h50, e1, e2, hk⟩ := GBB
  by_cases hv : 0 ≤ v ∧ v ≤ 5
  · obtain ⟨s, hs, rfl⟩ := sv_ok hv
    have h := sh24 hS hs
    by_cases hw : 0 ≤ w ∧ w ≤ 7
    · rcases H s hs with q | ⟨b, hb, q⟩ | ⟨n, so, hn, hso, q⟩
      · refine ⟨-11, ?_, ?_⟩
        · simp (disch := first | omega | exact ib_r | exact ib_n | exact isB_rfv _ | assumption) only [n143, t143_0 hS, t143_5, t143_14, t143_23, t143_33, t143_44, s_shelfAt hS hs, s_isKind, hw, h.2.1, s_isEmpty h.2.1, q.2, ↓reduceIte, eq_self, and_self, and_true, true_and, not_true_eq_false, not_false_eq_true, ob_s, tl_s, tl_n, rf_ref, orf_ref, orf_null, nn_ref, nn_null, rfv_s, rfv_n, if_true, if_false, bi_01, bi_e0, bi_e1, or_t, Classical.not_not]
        · simp (disch := first | omega | exact ib_r | exact ib_n | exact isB_rfv _ | assumption) only [n233, t233_0, t233_4, t233_14 hS, s_isShelf, hv, s_in, hw, n_inb, n_cl, hs, q.1, ↓reduceIte, eq_self, and_self, and_true, true_and, not_true_eq_false, not_false_eq_true, ob_s, tl_s, tl_n, rf_ref, orf_ref, orf_null, nn_ref, nn_null, rfv_s, rfv_n, if_true, if_false, bi_01, bi_e0, bi_e1, or_t, Classical.not_not]
      · obtain ⟨k, -, hk7, rfl⟩ := n_in (a := 0) (b := 7) (by decide) hw.1 hw.2 (by decide)
        have hkb := hk b hb
        have z1 : ¬ (1 : Int32) = 0 := by decide
        have z3 : ¬ (1 : Int32) = 2 := by decide
        have y1 : ¬ Int32.ofNat b = -1 := neg_ne (by omega) (by decide)
        have y2 : ¬ Int32.ofNat b < 0 := Int32.not_lt.mpr (n_ge (by omega))
        have b50 : b < 50 := by omega
        have ux := s_undX (X := X) (d := d + 1) (sz := sz) (sl := sl) (sh := sh) (R := R) (I := I) (J := J) hk7 (B b + 1) (B b) 0 hkb.2.2 (by omega) (by omega)
        have um := s_undM (X := X) (d := d + 1) (sz := sz) (sl := sl) (sh := sh) (R := R) (I := I) (J := J) hk7 (B b + 1) (B b) hkb.2.2 (by omega)
        rw [← k_0] at ux
        have ux' : ev X (d + 3) 144 [.int (Int32.ofNat (B b)), .int (Int32.ofNat k)] (sz, sl, sh, R, I, J) = some (some (.int (und (B b + 1) (Int32.ofNat (B b)) (Int32.ofNat k))), (sz, sl, sh, R, I, J)) := by
          rw [n144, t144_0]; exact ux
        have um' : ev X (d + 3) 234 [.int (Int32.ofNat (B b)), .int (Int32.ofNat k)] (sz, sl, sh, R, I, J) = some (some (.int (und (B b + 1) (Int32.ofNat (B b)) (Int32.ofNat k))), (sz, sl, sh, R, I, J)) := by
          rw [n234, t234_0]; exact um
        rcases und_01 (B b + 1) (Int32.ofNat (B b)) (Int32.ofNat k) with u | u <;> rw [u] at ux' um'
        · refine ⟨-12, ?_, ?_⟩
          · simp (disch := first | omega | exact ib_r | exact ib_n | exact isB_rfv _ | assumption) only [n143, t143_0 hS, t143_5, t143_14, t143_23, t143_33, t143_44, s_shelfAt hS hs, s_isKind, hw, h.2.1, s_isEmpty h.2.1, s_isRow h.2.1, q.2.1, q.2.2, z1, z3, ux', ↓reduceIte, eq_self, and_self, and_true, true_and, not_true_eq_false, not_false_eq_true, ob_s, tl_s, tl_n, rf_ref, orf_ref, orf_null, nn_ref, nn_null, rfv_s, rfv_n, if_true, if_false, bi_01, bi_e0, bi_e1, or_t, Classical.not_not]
          · simp (disch := first | omega | exact ib_r | exact ib_n | exact isB_rfv _ | assumption) only [n233, t233_0, t233_4, t233_14 hS, t233_56 hS, s_isShelf, hv, s_in, hw, n_inb, n_cl, hs, b50, q.1, y1, y2, hkb.2.1, um', ↓reduceIte, eq_self, and_self, and_true, true_and, not_true_eq_false, not_false_eq_true, ob_s, tl_s, tl_n, rf_ref, orf_ref, orf_null, nn_ref, nn_null, rfv_s, rfv_n, if_true, if_false, bi_01, bi_e0, bi_e1, or_t, Classical.not_not]
        · refine ⟨Int32.ofNat (B b), ?_, ?_⟩
          · simp (disch := first | omega | exact ib_r | exact ib_n | exact isB_rfv _ | assumption) only [n143, t143_0 hS, t143_5, t143_14, t143_23, t143_33, t143_44, s_shelfAt hS hs, s_isKind, hw, h.2.1, s_isEmpty h.2.1, s_isRow h.2.1, q.2.1, q.2.2, z1, z3, ux', ↓reduceIte, eq_self, and_self, and_true, true_and, not_true_eq_false, not_false_eq_true, ob_s, tl_s, tl_n, rf_ref, orf_ref, orf_null, nn_ref, nn_null, rfv_s, rfv_n, if_true, if_false, bi_01, bi_e0, bi_e1, or_t, Classical.not_not]
          · simp (disch := first | omega | exact ib_r | exact ib_n | exact isB_rfv _ | assumption) only [n233, t233_0, t233_4, t233_14 hS, t233_56 hS, s_isShelf, hv, s_in, hw, n_inb, n_cl, hs, b50, q.1, y1, y2, z1, hkb.2.1, um', ↓reduceIte, eq_self, and_self, and_true, true_and, not_true_eq_false, not_false_eq_true, ob_s, tl_s, tl_n, rf_ref, orf_ref, orf_null, nn_ref, nn_null, rfv_s, rfv_n, if_true, if_false, bi_01, bi_e0, bi_e1, or_t, Classical.not_not]
      · have z2 : ¬ (2 : Int32) = 0 := by decide
        have y1 : ¬ (-2 : Int32) = -1 := by decide
        have y2 : (-2 : Int32) < 0 := by decide
        refine ⟨-12, ?_, ?_⟩
        · simp (disch := first | omega | exact ib_r | exact ib_n | exact isB_rfv _ | assumption) only [n143, t143_0 hS, t143_5, t143_14, t143_23, t143_33, t143_44, s_shelfAt hS hs, s_isKind, hw, h.2.1, s_isEmpty h.2.1, s_isRow h.2.1, q.2.1, z2, ↓reduceIte, eq_self, and_self, and_true, true_and, not_true_eq_false, not_false_eq_true, ob_s, tl_s, tl_n, rf_ref, orf_ref, orf_null, nn_ref, nn_null, rfv_s, rfv_n, if_true, if_false, bi_01, bi_e0, bi_e1, or_t, Classical.not_not]
        · simp (disch := first | omega | exact ib_r | exact ib_n | exact isB_rfv _ | assumption) only [n233, t233_0, t233_4, t233_14 hS, s_isShelf, hv, s_in, hw, n_inb, n_cl, hs, q.1, y1, y2, ↓reduceIte, eq_self, and_self, and_true, true_and, not_true_eq_false, not_false_eq_true, ob_s, tl_s, tl_n, rf_ref, orf_ref, orf_null, nn_ref, nn_null, rfv_s, rfv_n, if_true, if_false, bi_01, bi_e0, bi_e1, or_t, Classical.not_not]
    · refine ⟨-1, ?_, ?_⟩
      · simp (disch := first | omega | exact ib_r | exact ib_n | exact isB_rfv _ | assumption) only [n143, t143_0 hS, t143_5, t143_14, t143_23, t143_33, t143_44, s_shelfAt hS hs, s_isKind, hw, ↓reduceIte, eq_self, and_self, and_true, true_and, not_true_eq_false, not_false_eq_true, ob_s, tl_s, tl_n, rf_ref, orf_ref, orf_null, nn_ref, nn_null, rfv_s, rfv_n, if_true, if_false, bi_01, bi_e0, bi_e1, or_t, Classical.not_not]
      · simp (disch := first | omega | exact ib_r | exact ib_n | exact isB_rfv _ | assumption) only [n233, t233_0, t233_4, t233_14 hS, s_isShelf, hv, s_in, hw, ↓reduceIte, eq_self, and_self, and_true, true_and, not_true_eq_false, not_false_eq_true, ob_s, tl_s, tl_n, rf_ref, orf_ref, orf_null, nn_ref, nn_null, rfv_s, rfv_n, if_true, if_false, bi_01, bi_e0, bi_e1, or_t, Classical.not_not]
  · refine ⟨-1, ?_, ?_⟩
    · simp (disch := first | omega | exact ib_r | exact ib_n | exact isB_rfv _ | assumption) only [n143, t143_0 hS, t143_5, t143_14, t143_23, t143_33, t143_44, s_shelfAt_no hS hv, ↓reduceIte, eq_self, and_self, and_true, true_and, not_true_eq_false, not_false_eq_true, ob_s, tl_s, tl_n, rf_ref, orf_ref, orf_null, nn_ref, nn_null, rfv_s, rfv_n, if_true, if_false, bi_01, bi_e0, bi_e1, or_t, Classical.not_not]
    · simp (disch := first | omega | exact ib_r | exact ib_n | exact isB_rfv _ | assumption) only [n233, t233_0, t233_4, s_isShelf, hv, ↓reduceIte, eq_self, and_self, and_true, true_and, not_true_eq_false, not_false_eq_true, ob_s, tl_s, tl_n, rf_ref, orf_ref, orf_null, nn_ref, nn_null, rfv_s, rfv_n, if_true, if_false, bi_01, bi_e0, bi_e1, or_t, Classical.not_not]
theorem o_count (hS : SF sh R) (q0 : I 0 1 = I 37 0) (q1 : I 0 4 = I 37 12) (q2 : I 0 6 = I 37 13) (q3 : I 2 3 = I 37 9) (q4 : I 15 1 = I 37 21) (q5 : I 17 3 = I 37 27) (q6 : I 21 3 = I 37 28) (q7 : I 21 4 = I 37 30) {v : Int32} : ∃ x, ev X (d + 4) 145 [.ref 0, .int v] (sz, sl, sh, R, I, J) = some (some (.int x), (sz, sl, sh, R, I, J)) ∧ ev X (d + 4) 235 [.ref 37, .int v] (sz, sl, sh, R, I, J) = some (some (.int x), (sz, sl, sh, R, I, J)) := by
  rw [n145, t145_0 hS, n235, t235_0 hS, q0, q1, q2, q3, q4, q5, q6, q7]
  by_cases v0 : v = 0
  · exact ⟨I 37 0, by rw [if_pos v0], by rw [if_pos v0]⟩
  by_cases v1 : v = 1
  · exact ⟨I 37 12, by rw [if_neg v0, if_pos v1], by rw [if_neg v0, if_pos v1]⟩
  by_cases v2 : v = 2
  · exact ⟨I 37 13, by rw [if_neg v0, if_neg v1, if_pos v2], by rw [if_neg v0, if_neg v1, if_pos v2]⟩
  by_cases v3 : v = 3
  · exact ⟨I 37 9, by rw [if_neg v0, if_neg v1, if_neg v2, if_pos v3], by rw [if_neg v0, if_neg v1, if_neg v2, if_pos v3]⟩
  by_cases v4 : v = 4
  · exact ⟨I 37 21, by rw [if_neg v0, if_neg v1, if_neg v2, if_neg v3, if_pos v4], by rw [if_neg v0, if_neg v1, if_neg v2, if_neg v3, if_pos v4]⟩
  by_cases v5 : v = 5
  · exact ⟨I 37 27, by rw [if_neg v0, if_neg v1, if_neg v2, if_neg v3, if_neg v4, if_pos v5], by rw [if_neg v0, if_neg v1, if_neg v2, if_neg v3, if_neg v4, if_pos v5]⟩
  by_cases v6 : v = 6
  · exact ⟨I 37 28, by rw [if_neg v0, if_neg v1, if_neg v2, if_neg v3, if_neg v4, if_neg v5, if_pos v6], by rw [if_neg v0, if_neg v1, if_neg v2, if_neg v3, if_neg v4, if_neg v5, if_pos v6]⟩
  by_cases v7 : v = 7
  · exact ⟨I 37 30, by rw [if_neg v0, if_neg v1, if_neg v2, if_neg v3, if_neg v4, if_neg v5, if_neg v6, if_pos v7], by rw [if_neg v0, if_neg v1, if_neg v2, if_neg v3, if_neg v4, if_neg v5, if_neg v6, if_pos v7]⟩
  exact ⟨-1, by rw [if_neg v0, if_neg v1, if_neg v2, if_neg v3, if_neg v4, if_neg v5, if_neg v6, if_neg v7], by rw [if_neg v0, if_neg v1, if_neg v2, if_neg v3, if_neg v4, if_neg v5, if_neg v6, if_neg v7]⟩
end SHIFT
