/-! FITS -/
theorem n_m2 {s : Nat} (h : s < 1024) : ¬ Int32.ofNat s = -2 := fun z => by
  have := congrArg Int32.toInt z
  rw [n_ti (by omega), show (-2 : Int32).toInt = -2 by decide] at this
  omega
/-- the first that fits, or -2 -/
def ltf (P : Nat → Bool) (r : List Nat) : Int32 := match r.find? P with | none => -2 | some s => Int32.ofNat s
theorem ltf_pos {P : Nat → Bool} {r : List Nat} {s : Nat} (h : P s = true) : ltf P (s :: r) = Int32.ofNat s := by
  unfold ltf
  rw [List.find?_cons_of_pos h]
theorem ltf_neg {P : Nat → Bool} {r : List Nat} {s : Nat} (h : ¬ P s = true) : ltf P (s :: r) = ltf P r := by
  unfold ltf
  rw [List.find?_cons_of_neg h]
theorem ar_n : ∀ n, n < 11 → ((1 : Int32) <<< (Int32.ofNat n &&& 31)) - 1 = Int32.ofNat (2 ^ n - 1) := by decide +kernel
theorem ar_B {ny : Nat} (h10 : ny ≤ 10) {b : Int32} (h : 0 ≤ b ∧ b ≤ ((1 : Int32) <<< (Int32.ofNat ny &&& 31)) - 1) : ∃ B, B < 2 ^ ny ∧ B < 1024 ∧ b = Int32.ofNat B := by
  have p : 2 ^ ny ≤ 2 ^ 10 := Nat.pow_le_pow_right (by decide) h10
  have p0 : 0 < 2 ^ ny := Nat.two_pow_pos ny
  rw [ar_n ny (by omega)] at h
  obtain ⟨B, -, hB, rfl⟩ := n_in (a := 0) (b := 2 ^ ny - 1) (by omega) h.1 h.2 (by decide)
  exact ⟨B, by omega, by omega, rfl⟩
theorem Lm_pop {B : Nat} : (Lm B 10).length = 2 ^ pop B := Lm_len 10
theorem pop_256 {B : Nat} (h : pop B ≤ 8) : (Lm B 10).length ≤ 256 := by
  rw [Lm_pop]
  exact Nat.pow_le_pow_right (n := 2) (by decide) h
theorem pop_le {B : Nat} : pop B ≤ 10 := by
  have := sumf_le (f := fun t => if B.testBit t then 1 else 0) (B := 1) 10 0 (fun j _ _ => by split <;> omega)
  unfold pop
  omega
theorem spread_Lm {B j s : Nat} (h : (Lm B 10)[j]? = some s) : (fwd B j 10).1 = s := by
  obtain ⟨h1, -⟩ := fwd_Lm (B := B) (idx := j) 10
  have z := (List.getElem?_eq_some_iff.mp h).1
  rw [Nat.mod_eq_of_lt z, h] at h1
  exact (Option.some.inj h1).symm
section FITS
variable {X : XX} {d : Nat} {sz sl : Nat} {sh : Nat → Nat × Nat} {R : Nat → Nat → Option Nat} {I I0 : Nat → Nat → Int32} {J J0 : Nat → Nat → Int64} {W : WW} {ns nl ny : Nat} {T : Nat → List LN} {Y : Nat → Nat → Nat}
theorem s_fiM (hS : SF sh R) (G : GS W ns sh R I) (V : GY Y W ny sh R I) {Tl : List LN} {B lim : Nat} {u : Int32} (hB : B < 2 ^ ny) (B10 : B < 1024) (hl : lim ≤ 99999) (h : h69 W Tl Y ns ny B J) : ∀ (n s cnt : Nat) (x : Int32), s + n = B + 1 → exe X (d + 3) 203 76 [.ref 37, dm, .int (Int32.ofNat B), .int (Int32.ofNat lim), .int u, .int (Int32.ofNat cnt), .int x, .int (Int32.ofNat s)] [] (sz, sl, sh, R, I, J) = some (some (.int (if ¬ u = 0 then (if x = -2 then ltf (fun s => decide (ofM W Tl Y s (8 * ns) ≤ lim)) ((List.range' s n).filter (fun s => decide (s &&& B = s))) else x) else Int32.ofNat (cnt + ((List.range' s n).filter (fun s => decide (s &&& B = s))).countP (fun s => decide (ofM W Tl Y s (8 * ns) ≤ lim))))), (sz, sl, sh, R, I, J))
  | 0, s, cnt, x, e => by
    rw [t203_76 hS, if_pos (by rw [n_lt (by omega) (by omega)]; omega)]
    by_cases hu : u = 0
    · rw [if_neg (fun z => z hu), if_neg (fun z => z hu)]
      rfl
    · rw [if_pos hu, if_pos hu]
      by_cases hx : x = -2
      · rw [if_pos hx, hx]
        rfl
      · rw [if_neg hx]
  | n + 1, s, cnt, x, e => by
    rw [t203_76 hS, if_neg (by rw [n_lt (by omega) (by omega)]; omega), List.range'_succ, n_suc]
    by_cases q : s &&& B = s
    · rw [if_neg (fun z => z ((m_sub (by omega) B10).mpr q)), List.filter_cons_of_pos (by exact decide_eq_true q), s_fitsBy hS G V q (by omega) hl h, ob_s]
      show exe X (d + 3) 203 98 _ [.int _] _ = _
      rw [t203_98, n_suc, n_suc, List.countP_cons]
      by_cases p : ofM W Tl Y s (8 * ns) ≤ lim
      · rw [decide_eq_true p, if_neg (by decide), if_pos rfl, ltf_pos (by exact decide_eq_true p)]
        by_cases hx : x = -2
        · rw [if_neg (fun z => z hx), s_fiM hS G V hB B10 hl h n (s + 1) (cnt + 1) (Int32.ofNat s) (by omega), if_neg (n_m2 (by omega)), if_pos hx, Nat.add_comm (List.countP _ _) 1, ← Nat.add_assoc]
        · rw [if_pos hx, s_fiM hS G V hB B10 hl h n (s + 1) (cnt + 1) x (by omega), if_neg hx, if_neg hx, Nat.add_comm (List.countP _ _) 1, ← Nat.add_assoc]
      · rw [decide_eq_false p, if_pos okn_0, if_neg (show ¬ false = true by decide), Nat.add_zero (List.countP _ _), ltf_neg (by exact fun z => p (of_decide_eq_true z))]
        exact s_fiM hS G V hB B10 hl h n (s + 1) cnt x (by omega)
    · rw [if_pos (fun z => q ((m_sub (by omega) B10).mp z)), List.filter_cons_of_neg (by rw [decide_eq_true_eq]; exact q)]
      exact s_fiM hS G V hB B10 hl h n (s + 1) cnt x (by omega)
theorem o_fits (hS : SF sh R) (G : GS W ns sh R I) (L : GL T W nl sh R I) (V : GY Y W ny sh R I) {v b lim u : Int32} : ∃ x I1 J1 I2 J2, ev X (d + 8) 85 [.ref 0, .int v, .int b, .int lim, .int u] (sz, sl, sh, R, I, J) = some (some (.int x), (sz, sl, sh, R, I1, J1)) ∧ ev X (d + 8) 203 [.ref 37, .int v, .int b, .int lim, .int u] (sz, sl, sh, R, I1, J1) = some (some (.int x), (sz, sl, sh, R, I2, J2)) ∧ Sc W I I2 ∧ (∀ a i, a ≠ 12 → a ≠ 13 → a ≠ 14 → a ≠ 69 → J2 a i = J a i) := by
  have z1 : ¬ (1 : Int32) = 0 := by decide
  have h10 := V.1
  by_cases hv : ∃ l, l < nl ∧ v = Int32.ofNat l
  · obtain ⟨l, hl, rfl⟩ := hv
    have hi := L.is hl
    by_cases hb : 0 ≤ b ∧ b ≤ ((1 : Int32) <<< (Int32.ofNat ny &&& 31)) - 1
    · by_cases hz : 0 ≤ lim ∧ lim ≤ 99999
      · by_cases hu : 0 ≤ u ∧ u ≤ 1
        · have qX : ev X (d + 8) 85 [.ref 0, .int (Int32.ofNat l), .int b, .int lim, .int u] (sz, sl, sh, R, I, J) = exe X (d + 7) 85 46 [.ref 0, dm, .int b, .int lim, .int u, .ref (W 3 l), dm] [.int (bcX b)] (sz, sl, sh, R, I, J) := by
            simp (disch := first | omega | exact ib_r | exact ib_n | exact isB_rfv _ | assumption) only [n85, t85_0 hS, t85_5 hS, t85_17, t85_27, t85_37, s_lawAt hS L hl, s_areX hS V, s_within, s_bitCount, hb, hz, hu, ↓reduceIte, eq_self, and_self, and_true, true_and, not_true_eq_false, not_false_eq_true, ob_s, tl_s, tl_n, rf_ref, orf_ref, orf_null, nn_ref, nn_null, rfv_s, rfv_n, if_true, if_false, bi_01, bi_e0, bi_e1, or_t, Classical.not_not]
          have qM : ∀ (I' : Nat → Nat → Int32) (J' : Nat → Nat → Int64), Sc W I I' → ev X (d + 8) 203 [.ref 37, .int (Int32.ofNat l), .int b, .int lim, .int u] (sz, sl, sh, R, I', J') = exe X (d + 7) 203 42 [.ref 37, .int (Int32.ofNat l), .int b, .int lim, .int u, dm, dm, dm] [.int (onM b 10 0 0)] (sz, sl, sh, R, I', J') := by
            intro I' J' hs
            have hi' := (hs.L L).is hl
            simp (disch := first | omega | exact ib_r | exact ib_n | exact isB_rfv _ | assumption) only [n203, t203_0 hS, t203_5 hS, t203_13, t203_23, t203_33, s_isLaw hS, hi', s_areM hS (hs.Y V), s_in, s_ones, hb, hz, hu, ↓reduceIte, eq_self, and_self, and_true, true_and, not_true_eq_false, not_false_eq_true, ob_s, tl_s, tl_n, rf_ref, orf_ref, orf_null, nn_ref, nn_null, rfv_s, rfv_n, if_true, if_false, bi_01, bi_e0, bi_e1, or_t, Classical.not_not]
          obtain ⟨B, hB, B10, rfl⟩ := ar_B h10 hb
          obtain ⟨lim, -, hlim, rfl⟩ := n_in (a := 0) (b := 99999) (by decide) hz.1 hz.2 (by decide)
          have pl := pop_le (B := B)
          by_cases hp : pop B ≤ 8
          · have h256 := pop_256 hp
            obtain ⟨I1, J1, a1, a2, a3, a4, a5, a6⟩ := s_weighSets (X := X) (d := d) (sz := sz) (sl := sl) (J := J) hS G L V hl hB h256
            have G1 := a2.S G
            have V1 := a2.Y V
            have ms := s_isMeasured (X := X) (d := d + 6) (sz := sz) (sl := sl) (J := J1) hS G1
            by_cases hm : anm W (8 * ns) 0 false = true
            · obtain ⟨I2, J2, b1, b2, b3, b4⟩ := s_wears (X := X) (d := d) (sz := sz) (sl := sl) (J := J1) hS G1 (a2.L L) V1 hl B10
              have G2 := b2.S G1
              have V2 := b2.Y V1
              have mf : ∀ s, s ∈ Lm B 10 → ofM W (T l) Y s (8 * ns) ≤ 300000000000 := fun s hs => ofM_le V (Lm_in h10 hB hs).1 (8 * ns) (fun j hj => (G.m15 hj).1)
              have fin := s_fiM (X := X) (d := d + 4) (sz := sz) (sl := sl) (J := J2) (u := u) (lim := lim) hS G2 V2 hB B10 hlim b3 (B + 1) 0 0 (-2) (Nat.zero_add _)
              rw [if_pos rfl, ← Lm_range B10, Nat.zero_add] at fin
              refine ⟨if ¬ u = 0 then ltf (fun s => decide (ofM W (T l) Y s (8 * ns) ≤ lim)) (Lm B 10) else Int32.ofNat ((Lm B 10).countP (fun s => decide (ofM W (T l) Y s (8 * ns) ≤ lim))), I1, J1, I2, J2, ?_, ?_, a2.trans b2, fun a i x y z w => (b4 a i w).trans (a6 a i x y z)⟩
              · rw [qX, t85_46 hS rfl, bc_pop B B10, if_pos (by rw [k_8, n_le (by omega) (by decide)]; exact hp), a1, ob_s]
                show exe X (d + 7) 85 61 _ [.int _] _ = _
                rw [t85_61 hS, hm, if_pos (by decide)]
                by_cases u0 : u = 0
                · have cf := s_fitL (X := X) (d := d + 6) (sz := sz) (sl := sl) (sh := sh) (R := R) (I := I1) (J := J1) hS h256 hlim (a3 hm) a5 mf (Lm B 10) 0 0 rfl (by omega)
                  rw [if_neg (fun z => z u0), if_neg (fun z => z u0), n93, t93_0, k_0, cf, ob_s, Nat.zero_add]
                  show exe X (d + 7) 85 80 _ [.int _] _ = _
                  rw [t85_80]
                · rw [if_pos u0, if_pos u0, n94, t94_0, k_0]
                  rcases s_leaL (X := X) (d := d + 6) (sz := sz) (sl := sl) (sh := sh) (R := R) (I := I1) (J := J1) hS h256 hlim (a3 hm) a5 mf (Lm B 10) 0 rfl (by omega) with ⟨c1, c2⟩ | ⟨s, j, c1, c2, c3, c4⟩
                  · rw [c2, ob_s]
                    show exe X (d + 7) 85 89 _ [.int _] _ = _
                    rw [t85_89, if_neg (by decide), t85_107]
                    unfold ltf
                    rw [c1]
                  · rw [c4, ob_s]
                    show exe X (d + 7) 85 89 _ [.int _] _ = _
                    rw [t85_89, if_pos (n_ge (by omega)), s_spread B10 c1, ob_s]
                    show exe X (d + 7) 85 107 _ [.int _] _ = _
                    rw [t85_107, spread_Lm c3]
                    unfold ltf
                    rw [c2]
              · rw [qM I1 J1 a2, t203_42 hS, on_pop B B10, if_pos (by rw [k_8, n_le (by omega) (by decide)]; exact hp), ms, ob_s]
                show exe X (d + 7) 203 54 _ [.int _] _ = _
                rw [t203_54 hS, hm, if_pos (by decide), b1, ob_s]
                show exe X (d + 7) 203 66 _ [] _ = _
                rw [t203_66]
                exact fin
            · have hm' : anm W (8 * ns) 0 false = false := by
                cases q : anm W (8 * ns) 0 false with
                | true => exact absurd q hm
                | false => rfl
              refine ⟨-2, I1, J1, I1, J1, ?_, ?_, a2, fun a i x y z _ => a6 a i x y z⟩
              · rw [qX, t85_46 hS rfl, bc_pop B B10, if_pos (by rw [k_8, n_le (by omega) (by decide)]; exact hp), a1, ob_s]
                show exe X (d + 7) 85 61 _ [.int _] _ = _
                rw [t85_61 hS, hm', if_neg (by decide)]
              · rw [qM I1 J1 a2, t203_42 hS, on_pop B B10, if_pos (by rw [k_8, n_le (by omega) (by decide)]; exact hp), ms, ob_s]
                show exe X (d + 7) 203 54 _ [.int _] _ = _
                rw [t203_54 hS, hm', if_neg (by decide)]
          · refine ⟨-4, I, J, I, J, ?_, ?_, Sc.refl, fun _ _ _ _ _ _ => rfl⟩
            · rw [qX, t85_46 hS rfl, bc_pop B B10, if_neg (by rw [k_8, n_le (by omega) (by decide)]; exact hp)]
            · rw [qM I J Sc.refl, t203_42 hS, on_pop B B10, if_neg (by rw [k_8, n_le (by omega) (by decide)]; exact hp)]
        · refine ⟨-1, I, J, I, J, ?_, ?_, Sc.refl, fun _ _ _ _ _ _ => rfl⟩
          · simp (disch := first | omega | exact ib_r | exact ib_n | exact isB_rfv _ | assumption) only [n85, t85_0 hS, t85_5 hS, t85_17, t85_27, t85_37, s_lawAt hS L hl, s_areX hS V, s_within, hb, hz, hu, ↓reduceIte, eq_self, and_self, and_true, true_and, not_true_eq_false, not_false_eq_true, ob_s, tl_s, tl_n, rf_ref, orf_ref, orf_null, nn_ref, nn_null, rfv_s, rfv_n, if_true, if_false, bi_01, bi_e0, bi_e1, or_t, Classical.not_not]
          · simp (disch := first | omega | exact ib_r | exact ib_n | exact isB_rfv _ | assumption) only [n203, t203_0 hS, t203_5 hS, t203_13, t203_23, t203_33, s_isLaw hS, hi, s_areM hS V, s_in, hb, hz, hu, ↓reduceIte, eq_self, and_self, and_true, true_and, not_true_eq_false, not_false_eq_true, ob_s, tl_s, tl_n, rf_ref, orf_ref, orf_null, nn_ref, nn_null, rfv_s, rfv_n, if_true, if_false, bi_01, bi_e0, bi_e1, or_t, Classical.not_not]
      · refine ⟨-1, I, J, I, J, ?_, ?_, Sc.refl, fun _ _ _ _ _ _ => rfl⟩
        · simp (disch := first | omega | exact ib_r | exact ib_n | exact isB_rfv _ | assumption) only [n85, t85_0 hS, t85_5 hS, t85_17, t85_27, s_lawAt hS L hl, s_areX hS V, s_within, hb, hz, ↓reduceIte, eq_self, and_self, and_true, true_and, not_true_eq_false, not_false_eq_true, ob_s, tl_s, tl_n, rf_ref, orf_ref, orf_null, nn_ref, nn_null, rfv_s, rfv_n, if_true, if_false, bi_01, bi_e0, bi_e1, or_t, Classical.not_not]
        · simp (disch := first | omega | exact ib_r | exact ib_n | exact isB_rfv _ | assumption) only [n203, t203_0 hS, t203_5 hS, t203_13, t203_23, s_isLaw hS, hi, s_areM hS V, s_in, hb, hz, ↓reduceIte, eq_self, and_self, and_true, true_and, not_true_eq_false, not_false_eq_true, ob_s, tl_s, tl_n, rf_ref, orf_ref, orf_null, nn_ref, nn_null, rfv_s, rfv_n, if_true, if_false, bi_01, bi_e0, bi_e1, or_t, Classical.not_not]
    · refine ⟨-1, I, J, I, J, ?_, ?_, Sc.refl, fun _ _ _ _ _ _ => rfl⟩
      · simp (disch := first | omega | exact ib_r | exact ib_n | exact isB_rfv _ | assumption) only [n85, t85_0 hS, t85_5 hS, t85_17, s_lawAt hS L hl, s_areX hS V, hb, ↓reduceIte, eq_self, and_self, and_true, true_and, not_true_eq_false, not_false_eq_true, ob_s, tl_s, tl_n, rf_ref, orf_ref, orf_null, nn_ref, nn_null, rfv_s, rfv_n, if_true, if_false, bi_01, bi_e0, bi_e1, or_t, Classical.not_not]
      · simp (disch := first | omega | exact ib_r | exact ib_n | exact isB_rfv _ | assumption) only [n203, t203_0 hS, t203_5 hS, t203_13, s_isLaw hS, hi, s_areM hS V, hb, ↓reduceIte, eq_self, and_self, and_true, true_and, not_true_eq_false, not_false_eq_true, ob_s, tl_s, tl_n, rf_ref, orf_ref, orf_null, nn_ref, nn_null, rfv_s, rfv_n, if_true, if_false, bi_01, bi_e0, bi_e1, or_t, Classical.not_not]
  · have hno := s_lawAt_no (X := X) (d := d + 5) (sz := sz) (sl := sl) (J := J) hS L hv
    have hi := hno.2
    refine ⟨-1, I, J, I, J, ?_, ?_, Sc.refl, fun _ _ _ _ _ _ => rfl⟩
    · simp (disch := first | omega | exact ib_r | exact ib_n | exact isB_rfv _ | assumption) only [n85, t85_0 hS, t85_5 hS, hno.1, ↓reduceIte, eq_self, and_self, and_true, true_and, not_true_eq_false, not_false_eq_true, ob_s, tl_s, tl_n, rf_ref, orf_ref, orf_null, nn_ref, nn_null, rfv_s, rfv_n, if_true, if_false, bi_01, bi_e0, bi_e1, or_t, Classical.not_not]
    · simp (disch := first | omega | exact ib_r | exact ib_n | exact isB_rfv _ | assumption) only [n203, t203_0 hS, t203_5 hS, s_isLaw hS, hi, ↓reduceIte, eq_self, and_self, and_true, true_and, not_true_eq_false, not_false_eq_true, ob_s, tl_s, tl_n, rf_ref, orf_ref, orf_null, nn_ref, nn_null, rfv_s, rfv_n, if_true, if_false, bi_01, bi_e0, bi_e1, or_t, Classical.not_not]
end FITS
