/-! NEXT -/
theorem l_ab {a b : Nat} (ha : a < 4611686018427387904) (hb : b < 4611686018427387904) : (Int64.ofNat a - Int64.ofNat b).toInt = (a : Int) - b := by
  rw [Int64.toInt_sub, l_ti (by omega), l_ti (by omega), Int.bmod_eq_of_le (by omega) (by omega)]
theorem l_abX {a b : Nat} (ha : a < 4611686018427387904) (hb : b < 4611686018427387904) : (if 0 < Int64.ofNat a - Int64.ofNat b then Int64.ofNat a - Int64.ofNat b else -(Int64.ofNat a - Int64.ofNat b)) = Int64.ofNat ((a - b) + (b - a)) := by
  have z0 : (0 : Int64).toInt = 0 := rfl
  by_cases h : b < a
  · rw [if_pos (by rw [Int64.lt_iff_toInt_lt, l_ab ha hb, z0]; omega), l_sub (by omega), Nat.sub_eq_zero_of_le (show b ≤ a by omega), Nat.add_zero]
  · rw [if_neg (by rw [Int64.lt_iff_toInt_lt, l_ab ha hb, z0]; omega), Int64.neg_sub, l_sub (by omega), Nat.sub_eq_zero_of_le (show a ≤ b by omega), Nat.zero_add]
theorem l_abM {a b : Nat} (ha : a < 4611686018427387904) (hb : b < 4611686018427387904) : (if 0 ≤ Int64.ofNat a - Int64.ofNat b then Int64.ofNat a - Int64.ofNat b else -(Int64.ofNat a - Int64.ofNat b)) = Int64.ofNat ((a - b) + (b - a)) := by
  have z0 : (0 : Int64).toInt = 0 := rfl
  by_cases h : b ≤ a
  · rw [if_pos (by rw [Int64.le_iff_toInt_le, l_ab ha hb, z0]; omega), l_sub (by omega), Nat.sub_eq_zero_of_le (show b ≤ a by omega), Nat.add_zero]
  · rw [if_neg (by rw [Int64.le_iff_toInt_le, l_ab ha hb, z0]; omega), Int64.neg_sub, l_sub (by omega), Nat.sub_eq_zero_of_le (show a ≤ b by omega), Nat.zero_add]
/-- the greatest from c on -/
def mxr (f : Nat → Nat) : Nat → Nat → Nat
  | 0, _ => 0
  | n + 1, c => max (f c) (mxr f n (c + 1))
theorem mxr_le {f : Nat → Nat} {B : Nat} : ∀ n c : Nat, (∀ j, c ≤ j → j < c + n → f j ≤ B) → mxr f n c ≤ B
  | 0, _, _ => Nat.zero_le _
  | n + 1, c, h => by
    unfold mxr
    exact Nat.max_le.mpr ⟨h c (Nat.le_refl c) (by omega), mxr_le n (c + 1) (fun j h1 h2 => h j (by omega) (by omega))⟩
/-- a step's cells gone through -/
def scn (f : Nat → Nat) (s : Int32) : Nat → Nat → Int32 → Nat → Int32 × Nat
  | 0, _, b, m => (b, m)
  | n + 1, c, b, m => if f c ≤ m then scn f s n (c + 1) b m else scn f s n (c + 1) s (f c)
theorem scn_mx {f : Nat → Nat} {s : Int32} : ∀ (n c : Nat) (b : Int32) (m : Nat), scn f s n c b m = if mxr f n c ≤ m then (b, m) else (s, mxr f n c)
  | 0, c, b, m => by unfold scn mxr; rw [if_pos (Nat.zero_le m)]
  | n + 1, c, b, m => by
    unfold scn mxr
    by_cases h : f c ≤ m
    · rw [if_pos h, scn_mx n (c + 1) b m]
      by_cases h2 : mxr f n (c + 1) ≤ m
      · rw [if_pos h2, if_pos (Nat.max_le.mpr ⟨h, h2⟩)]
      · rw [if_neg h2, if_neg (fun z => h2 (Nat.le_trans (Nat.le_max_right _ _) z)), Nat.max_eq_right (by omega)]
    · rw [if_neg h, scn_mx n (c + 1) s (f c)]
      rw [if_neg (show ¬ max (f c) (mxr f n (c + 1)) ≤ m from fun z => h (Nat.le_trans (Nat.le_max_left _ _) z))]
      by_cases h2 : mxr f n (c + 1) ≤ f c
      · rw [if_pos h2, Nat.max_eq_left h2]
      · rw [if_neg h2, Nat.max_eq_right (by omega)]
theorem dcf_max {f : Nat → Nat} : ∀ n c b : Nat, (∀ j, j < c → f j ≤ f b) → ∀ j, j < c + n → f j ≤ f (dcf f n c b)
  | 0, c, b, h, j, hj => h j hj
  | n + 1, c, b, h, j, hj => by
    unfold dcf
    by_cases hc : f b < f c
    · rw [if_pos hc]
      exact dcf_max n (c + 1) c (fun k hk => if e : k = c then by rw [e]; exact Nat.le_refl _ else Nat.le_trans (h k (by omega)) (by omega)) j (by omega)
    · rw [if_neg hc]
      exact dcf_max n (c + 1) b (fun k hk => if e : k = c then by rw [e]; omega else h k (by omega)) j (by omega)
/-- nothing is measured: the deepest is 0, the sum is 0 -/
theorem dp_sum {W : WW} {i : Nat} : (dp W i = 0) ↔ (sumf (fun c => W 15 (8 * i + c)) 0 8 = 0) := by
  have h := dcf_max (f := fun c => W 15 (8 * i + c)) 7 1 0 (fun j hj => by
    have e0 : j = 0 := by omega
    rw [e0]
    exact Nat.le_refl _)
  have e : sumf (fun c => W 15 (8 * i + c)) 0 8 = W 15 (8 * i + 0) + (W 15 (8 * i + 1) + (W 15 (8 * i + 2) + (W 15 (8 * i + 3) + (W 15 (8 * i + 4) + (W 15 (8 * i + 5) + (W 15 (8 * i + 6) + (W 15 (8 * i + 7) + 0))))))) := rfl
  have hd : dc W i < 8 := dc_lt
  constructor
  · intro z
    have q : ∀ j, j < 8 → W 15 (8 * i + j) = 0 := fun j hj => by
      have := h j (by omega)
      have z' : W 15 (8 * i + dcf (fun c => W 15 (8 * i + c)) 7 1 0) = 0 := z
      have t : W 15 (8 * i + j) ≤ W 15 (8 * i + dcf (fun c => W 15 (8 * i + c)) 7 1 0) := this
      omega
    rw [e, q 0 (by decide), q 1 (by decide), q 2 (by decide), q 3 (by decide), q 4 (by decide), q 5 (by decide), q 6 (by decide), q 7 (by decide)]
  · intro z
    rw [e] at z
    show W 15 (8 * i + dc W i) = 0
    rcases (show dc W i = 0 ∨ dc W i = 1 ∨ dc W i = 2 ∨ dc W i = 3 ∨ dc W i = 4 ∨ dc W i = 5 ∨ dc W i = 6 ∨ dc W i = 7 by omega) with q | q | q | q | q | q | q | q <;> rw [q] <;> omega
section NEXT
variable {X : XX} {d : Nat} {sz sl : Nat} {sh : Nat → Nat × Nat} {R : Nat → Nat → Option Nat} {I I0 : Nat → Nat → Int32} {J : Nat → Nat → Int64} {W : WW} {ns nl ny : Nat} {T : Nat → List LN} {Y : Nat → Nat → Nat}
/-- how far two sets are apart at a cell -/
def nv (W : WW) (T : List LN) (Y : Nat → Nat → Nat) (ny : Nat) (a b : Int32) (i c : Nat) : Nat := (sumf (ws W T Y a i c) 0 ny - sumf (ws W T Y b i c) 0 ny) + (sumf (ws W T Y b i c) 0 ny - sumf (ws W T Y a i c) 0 ny)
theorem sum_lt (V : GY Y W ny sh R I) {T : List LN} {b : Int32} {i c : Nat} : sumf (ws W T Y b i c) 0 ny ≤ 300000000000 := by
  have h10 := V.1
  have := sumf_le (f := ws W T Y b i c) (B := 30000000000) ny 0 (fun j _ h2 => ws_le V (by omega))
  have : ny * 30000000000 ≤ 10 * 30000000000 := Nat.mul_le_mul_right _ h10
  omega
theorem nv_lt (V : GY Y W ny sh R I) {T : List LN} {a b : Int32} {i c : Nat} : nv W T Y ny a b i c ≤ 300000000000 := by
  have h1 := sum_lt V (T := T) (b := a) (i := i) (c := c)
  have h2 := sum_lt V (T := T) (b := b) (i := i) (c := c)
  unfold nv
  omega
theorem s_apX (hS : SF sh R) (G : GS W ns sh R I) (L : GL T W nl sh R I) (V : GY Y W ny sh R I) {l i : Nat} {a b : Int32} (hl : l < nl) (hi : i < ns) : ∀ (n c m : Nat) (I1 : Nat → Nat → Int32), c + n = 8 → m ≤ 300000000000 → Sc W I I1 → ∃ I', exe X (d + 5) 100 6 [.ref 0, .ref (W 3 l), .ref (W 0 i), .int a, .int b, .long (Int64.ofNat m), dm, .int (Int32.ofNat c), dm, dm] [] (sz, sl, sh, R, I1, J) = some (some (.long (Int64.ofNat (max m (mxr (nv W (T l) Y ny a b i) n c)))), (sz, sl, sh, R, I', J)) ∧ Sc W I I'
  | 0, c, m, I1, h, hm, hs => by
    obtain rfl : c = 8 := h
    refine ⟨I1, ?_, hs⟩
    rw [t100_6 hS, if_pos (by decide)]
    unfold mxr
    rw [Nat.max_eq_left (Nat.zero_le m)]
  | n + 1, c, m, I1, h, hm, hs => by
    have h10 := V.1
    have G1 := hs.S G
    have L1 := hs.L L
    have V1 := hs.Y V
    have e1 : ¬ 8 ≤ c := by omega
    obtain ⟨I2, a1, a2⟩ := s_wornSet (X := X) (d := d) (sz := sz) (sl := sl) (J := J) hS G1 L1 V1 (b := a) hl hi (show c < 8 by omega)
    have G2 := (hs.trans a2).S G
    have L2 := (hs.trans a2).L L
    have V2 := (hs.trans a2).Y V
    obtain ⟨I3, b1, b2⟩ := s_wornSet (X := X) (d := d) (sz := sz) (sl := sl) (J := J) hS G2 L2 V2 (b := b) hl hi (show c < 8 by omega)
    have q1 := sum_lt V (T := T l) (b := a) (i := i) (c := c)
    have q2 := sum_lt V (T := T l) (b := b) (i := i) (c := c)
    have q3 := nv_lt V (T := T l) (a := a) (b := b) (i := i) (c := c)
    obtain ⟨I4, c1, c2⟩ := s_apX hS G L V hl hi n (c + 1) (max m (nv W (T l) Y ny a b i c)) I3 (by omega) (Nat.max_le.mpr ⟨hm, q3⟩) ((hs.trans a2).trans b2)
    refine ⟨I4, ?_, c2⟩
    rw [mxr, ← Nat.max_assoc, ← c1, t100_6 hS, if_neg (by rw [k_8, n_le (by decide) (by omega)]; exact e1), a1, ob_s]
    show exe X (d + 5) 100 22 _ [.long _] _ = _
    rw [t100_22 hS, b1, ob_s]
    show exe X (d + 5) 100 32 _ [.long _, .long _] _ = _
    rw [t100_32, l_abX (by omega) (by omega), n_suc]
    have em : (if Int64.ofNat (nv W (T l) Y ny a b i c) < Int64.ofNat m then Int64.ofNat m else Int64.ofNat (nv W (T l) Y ny a b i c)) = Int64.ofNat (max m (nv W (T l) Y ny a b i c)) := by
      by_cases q : nv W (T l) Y ny a b i c < m
      · rw [if_pos (by rw [l_lt (by omega) (by omega)]; exact q), Nat.max_eq_left (by omega)]
      · rw [if_neg (by rw [l_lt (by omega) (by omega)]; exact q), Nat.max_eq_right (by omega)]
    show exe X (d + 5) 100 6 [.ref 0, .ref (W 3 l), .ref (W 0 i), .int a, .int b, .long (if Int64.ofNat (nv W (T l) Y ny a b i c) < Int64.ofNat m then Int64.ofNat m else Int64.ofNat (nv W (T l) Y ny a b i c)), dm, .int (Int32.ofNat (c + 1)), dm, dm] [] _ = _
    rw [em]
/-- the steps gone through -/
def nxf (W : WW) (f : Nat → Nat → Nat) : Nat → Nat → Int32 → Nat → Int32
  | 0, _, b, _ => b
  | n + 1, s, b, m => if dp W s = 0 then (if mxr (f s) 8 0 ≤ m then nxf W f n (s + 1) b m else nxf W f n (s + 1) (Int32.ofNat s) (mxr (f s) 8 0)) else nxf W f n (s + 1) b m
theorem s_nxX (hS : SF sh R) (G : GS W ns sh R I) (L : GL T W nl sh R I) (V : GY Y W ny sh R I) {l : Nat} {a b : Int32} (hl : l < nl) : ∀ (n s m : Nat) (x : Int32) (I1 : Nat → Nat → Int32), s + n = ns → m ≤ 300000000000 → Sc W I I1 → ∃ I', exe X (d + 6) 99 40 [.ref 0, dm, .int a, .int b, .ref (W 3 l), .int x, .long (Int64.ofNat m), dm, .int (Int32.ofNat s), dm, dm, dm] [] (sz, sl, sh, R, I1, J) = some (some (.int (nxf W (fun i c => nv W (T l) Y ny a b i c) n s x m)), (sz, sl, sh, R, I', J)) ∧ Sc W I I'
  | 0, s, m, x, I1, h, hm, hs => by
    obtain rfl : s = ns := h
    have G1 := hs.S G
    refine ⟨I1, ?_, hs⟩
    rw [t99_40 hS rfl, G1.n1, if_pos (Int32.le_refl _)]
    rfl
  | n + 1, s, m, x, I1, h, hm, hs => by
    have h40 := G.1
    have G1 := hs.S G
    have L1 := hs.L L
    have V1 := hs.Y V
    have hsn : s < ns := by omega
    have e1 : ¬ ns ≤ s := by omega
    have h2 := (G.2.2.2.1 s hsn).2.1
    have hb := (G.2.2.2.2.2.2.2.2.1 s (dc W s) hsn dc_lt).2.2.2.2.1
    have hb' : dp W s ≤ 99999 := hb
    rw [t99_40 hS rfl, G1.n1, if_neg (by rw [n_le (by omega) (by omega)]; exact e1), s_stepAt hS G1 hsn, ob_s, nxf]
    show ∃ I', exe X (d + 6) 99 55 _ [.ref (W 0 s)] _ = _ ∧ _
    rw [t99_55 rfl rfl, nn_ref, rf_ref, if_pos h2, s_deepestX G1 hsn, ob_s]
    show ∃ I', exe X (d + 6) 99 67 _ [.int _] _ = _ ∧ _
    rw [t99_67 hS rfl rfl]
    by_cases h0 : dp W s = 0
    · obtain ⟨I2, a1, a2⟩ := s_apX (X := X) (d := d) (sz := sz) (sl := sl) (J := J) hS G L V (a := a) (b := b) hl hsn 8 0 0 I1 (by omega) (by omega) hs
      rw [Nat.max_eq_right (Nat.zero_le _), ← kl_0, ← k_0] at a1
      have ap : ev X (d + 6) 100 [.ref 0, .ref (W 3 l), .ref (W 0 s), .int a, .int b] (sz, sl, sh, R, I1, J) = some (some (.long (Int64.ofNat (mxr (nv W (T l) Y ny a b s) 8 0))), (sz, sl, sh, R, I2, J)) := by
        rw [n100, t100_0, a1]
      have ml : mxr (nv W (T l) Y ny a b s) 8 0 ≤ 300000000000 := mxr_le 8 0 (fun _ _ _ => nv_lt V)
      rw [if_neg (fun z => z (by rw [h0]; rfl)), ap, ob_s, if_pos h0]
      show ∃ I', exe X (d + 6) 99 80 _ [.long _] _ = _ ∧ _
      rw [t99_80 rfl]
      by_cases hm' : mxr (nv W (T l) Y ny a b s) 8 0 ≤ m
      · obtain ⟨I3, b1, b2⟩ := s_nxX hS G L V hl n (s + 1) m x I2 (by omega) hm a2
        refine ⟨I3, ?_, b2⟩
        rw [if_pos (by rw [c_le, l_le (by omega) (by omega)]; exact hm'), if_pos hm', n_suc, b1]
      · obtain ⟨I3, b1, b2⟩ := s_nxX hS G L V hl n (s + 1) (mxr (nv W (T l) Y ny a b s) 8 0) (Int32.ofNat s) I2 (by omega) ml a2
        refine ⟨I3, ?_, b2⟩
        rw [if_neg (by rw [c_le, l_le (by omega) (by omega)]; exact hm'), if_neg hm', n_suc, b1]
    · obtain ⟨I3, b1, b2⟩ := s_nxX hS G L V hl n (s + 1) m x I1 (by omega) hm hs
      refine ⟨I3, ?_, b2⟩
      rw [if_pos (by rw [k_0, n_eq (by omega) (by decide)]; exact h0), if_neg h0, n_suc, b1]
theorem s_nxM48 (hS : SF sh R) (G : GS W ns sh R I) (L : GL T W nl sh R I) (V : GY Y W ny sh R I) {l s : Nat} {a b : Int32} (hl : l < nl) (hsn : s < ns) (hz : sumf (fun c => W 15 (8 * s + c)) 0 8 = 0) : ∀ (n c m : Nat) (x : Int32) (I1 : Nat → Nat → Int32), c + n = 8 → m ≤ 300000000000 → Sc W I I1 → ∃ I', exe X (d + 7) 210 48 [.ref 37, .int (Int32.ofNat l), .int a, .int b, .int x, .long (Int64.ofNat m), dm, .int (Int32.ofNat s), .int (Int32.ofNat c), dm, dm] [] (sz, sl, sh, R, I1, J) = exe X (d + 7) 210 36 [.ref 37, .int (Int32.ofNat l), .int a, .int b, .int (scn (nv W (T l) Y ny a b s) (Int32.ofNat s) n c x m).1, .long (Int64.ofNat (scn (nv W (T l) Y ny a b s) (Int32.ofNat s) n c x m).2), dm, .int (Int32.ofNat (s + 1)), dm, dm, dm] [] (sz, sl, sh, R, I', J) ∧ Sc W I I'
  | 0, c, m, x, I1, h, hm, hs => by
    obtain rfl : c = 8 := h
    refine ⟨I1, ?_, hs⟩
    rw [t210_48 hS, if_pos (by decide), n_suc]
    rfl
  | n + 1, c, m, x, I1, h, hm, hs => by
    have h40 := G.1
    have G1 := hs.S G
    have L1 := hs.L L
    have V1 := hs.Y V
    have e1 : ¬ 8 ≤ c := by omega
    obtain ⟨I2, a1, a2⟩ := s_wornAll (X := X) (d := d) (sz := sz) (sl := sl) (J := J) hS G1 L1 V1 (b := a) hl hsn (show c < 8 by omega)
    have G2 := (hs.trans a2).S G
    have L2 := (hs.trans a2).L L
    have V2 := (hs.trans a2).Y V
    obtain ⟨I3, b1, b2⟩ := s_wornAll (X := X) (d := d) (sz := sz) (sl := sl) (J := J) hS G2 L2 V2 (b := b) hl hsn (show c < 8 by omega)
    have q1 := sum_lt V (T := T l) (b := a) (i := s) (c := c)
    have q2 := sum_lt V (T := T l) (b := b) (i := s) (c := c)
    have q3 := nv_lt V (T := T l) (a := a) (b := b) (i := s) (c := c)
    have first : exe X (d + 7) 210 48 [.ref 37, .int (Int32.ofNat l), .int a, .int b, .int x, .long (Int64.ofNat m), dm, .int (Int32.ofNat s), .int (Int32.ofNat c), dm, dm] [] (sz, sl, sh, R, I1, J) = exe X (d + 7) 210 88 [.ref 37, .int (Int32.ofNat l), .int a, .int b, .int x, .long (Int64.ofNat m), dm, .int (Int32.ofNat s), .int (Int32.ofNat c), dm, dm] [.long (Int64.ofNat (nv W (T l) Y ny a b s c))] (sz, sl, sh, R, I3, J) := by
      rw [t210_48 hS, if_neg (by rw [k_8, n_le (by decide) (by omega)]; exact e1), s_sumOfM hS G1 hsn, ob_s]
      show exe X (d + 7) 210 61 _ [.int _] _ = _
      rw [t210_61 hS, hz, if_neg (fun z => z rfl), a1, ob_s]
      show exe X (d + 7) 210 74 _ [.long _] _ = _
      rw [t210_74 hS, b1, ob_s]
      show exe X (d + 7) 210 84 _ [.long _, .long _] _ = _
      rw [t210_84, s_size, l_abM (by omega) (by omega), ob_s]
      rfl
    rw [first, t210_88, scn]
    by_cases hm' : nv W (T l) Y ny a b s c ≤ m
    · obtain ⟨I4, c1, c2⟩ := s_nxM48 hS G L V hl hsn hz n (c + 1) m x I3 (by omega) hm ((hs.trans a2).trans b2)
      refine ⟨I4, ?_, c2⟩
      rw [if_pos (by rw [c_le, l_le (by omega) (by omega)]; exact hm'), if_pos hm', n_suc, c1]
    · obtain ⟨I4, c1, c2⟩ := s_nxM48 hS G L V hl hsn hz n (c + 1) (nv W (T l) Y ny a b s c) (Int32.ofNat s) I3 (by omega) q3 ((hs.trans a2).trans b2)
      refine ⟨I4, ?_, c2⟩
      rw [if_neg (by rw [c_le, l_le (by omega) (by omega)]; exact hm'), if_neg hm', n_suc, c1]
theorem s_nxM (hS : SF sh R) (G : GS W ns sh R I) (L : GL T W nl sh R I) (V : GY Y W ny sh R I) {l : Nat} {a b : Int32} (hl : l < nl) : ∀ (n s m : Nat) (x : Int32) (I1 : Nat → Nat → Int32), s + n = ns → m ≤ 300000000000 → Sc W I I1 → ∃ I', exe X (d + 7) 210 36 [.ref 37, .int (Int32.ofNat l), .int a, .int b, .int x, .long (Int64.ofNat m), dm, .int (Int32.ofNat s), dm, dm, dm] [] (sz, sl, sh, R, I1, J) = some (some (.int (nxf W (fun i c => nv W (T l) Y ny a b i c) n s x m)), (sz, sl, sh, R, I', J)) ∧ Sc W I I'
  | 0, s, m, x, I1, h, hm, hs => by
    obtain rfl : s = ns := h
    have G1 := hs.S G
    refine ⟨I1, ?_, hs⟩
    rw [t210_36 hS, G1.n2, if_pos (Int32.le_refl _)]
    rfl
  | n + 1, s, m, x, I1, h, hm, hs => by
    have h40 := G.1
    have G1 := hs.S G
    have hsn : s < ns := by omega
    have e1 : ¬ ns ≤ s := by omega
    rw [t210_36 hS, G1.n2, if_neg (by rw [n_le (by omega) (by omega)]; exact e1), nxf]
    by_cases h0 : dp W s = 0
    · obtain ⟨I2, a1, a2⟩ := s_nxM48 (X := X) (d := d) (sz := sz) (sl := sl) (J := J) hS G L V (a := a) (b := b) hl hsn (dp_sum.mp h0) 8 0 m x I1 (by omega) hm hs
      rw [← k_0, scn_mx] at a1
      rw [a1, if_pos h0]
      have ml : mxr (nv W (T l) Y ny a b s) 8 0 ≤ 300000000000 := mxr_le 8 0 (fun _ _ _ => nv_lt V)
      by_cases hm' : mxr (nv W (T l) Y ny a b s) 8 0 ≤ m
      · obtain ⟨I3, b1, b2⟩ := s_nxM hS G L V hl n (s + 1) m x I2 (by omega) hm a2
        refine ⟨I3, ?_, b2⟩
        rw [if_pos hm', if_pos hm', b1]
      · obtain ⟨I3, b1, b2⟩ := s_nxM hS G L V hl n (s + 1) (mxr (nv W (T l) Y ny a b s) 8 0) (Int32.ofNat s) I2 (by omega) ml a2
        refine ⟨I3, ?_, b2⟩
        rw [if_neg hm', if_neg hm', b1]
    · obtain ⟨I3, b1, b2⟩ := s_nxM hS G L V hl n (s + 1) m x I1 (by omega) hm hs
      refine ⟨I3, ?_, b2⟩
      have hsum : ¬ sumf (fun c => W 15 (8 * s + c)) 0 8 = 0 := fun z => h0 (dp_sum.mpr z)
      have hle : sumf (fun c => W 15 (8 * s + c)) 0 8 ≤ 8 * 99999 := sumf_le 8 0 (fun c _ hc => (G.2.2.2.2.2.2.2.2.1 s c hsn (by omega)).2.2.2.2.1)
      rw [if_neg h0, t210_48 hS, if_neg (by decide), s_sumOfM hS G1 hsn, ob_s]
      show exe X (d + 7) 210 61 _ [.int _] _ = _
      rw [t210_61 hS, if_pos (by rw [k_0, n_eq (by omega) (by decide)]; exact hsum), n_suc, b1]
theorem o_next (hS : SF sh R) (G : GS W ns sh R I) (L : GL T W nl sh R I) (V : GY Y W ny sh R I) {v a b : Int32} : ∃ x I1 I2, ev X (d + 8) 99 [.ref 0, .int v, .int a, .int b] (sz, sl, sh, R, I, J) = some (some (.int x), (sz, sl, sh, R, I1, J)) ∧ ev X (d + 8) 210 [.ref 37, .int v, .int a, .int b] (sz, sl, sh, R, I1, J) = some (some (.int x), (sz, sl, sh, R, I2, J)) ∧ Sc W I I2 := by
  have h40 := G.1
  by_cases hv : ∃ l, l < nl ∧ v = Int32.ofNat l
  · obtain ⟨l, hl, rfl⟩ := hv
    have hi := L.is hl
    by_cases ha : 0 ≤ a ∧ a ≤ ((1 : Int32) <<< (Int32.ofNat ny &&& 31)) - 1
    · by_cases hb : 0 ≤ b ∧ b ≤ ((1 : Int32) <<< (Int32.ofNat ny &&& 31)) - 1
      · obtain ⟨I1, a1, a2⟩ := s_nxX (X := X) (d := d + 1) (sz := sz) (sl := sl) (J := J) hS G L V (a := a) (b := b) hl ns 0 0 (-2) I (by omega) (by omega) Sc.refl
        have G1 := a2.S G
        have L1 := a2.L L
        have V1 := a2.Y V
        have hi1 := L1.is hl
        obtain ⟨I2, b1, b2⟩ := s_nxM (X := X) (d := d) (sz := sz) (sl := sl) (J := J) hS G1 L1 V1 (a := a) (b := b) hl ns 0 0 (-2) I1 (by omega) (by omega) Sc.refl
        rw [← kl_0, ← k_0] at a1 b1
        refine ⟨nxf W (fun i c => nv W (T l) Y ny a b i c) ns 0 (-2) 0, I1, I2, ?_, ?_, a2.trans b2⟩
        · simp (disch := first | omega | exact ib_r | exact ib_n | exact isB_rfv _ | assumption) only [n99, t99_0 hS, t99_5 hS, t99_17 hS, t99_25, s_lawAt hS L hl, s_areX hS V, ha, hb, a1, ↓reduceIte, eq_self, and_self, and_true, true_and, not_true_eq_false, not_false_eq_true, ob_s, tl_s, tl_n, rf_ref, orf_ref, orf_null, nn_ref, nn_null, rfv_s, rfv_n, if_true, if_false, bi_01, bi_e0, bi_e1, or_t, Classical.not_not]
        · simp (disch := first | omega | exact ib_r | exact ib_n | exact isB_rfv _ | assumption) only [n210, t210_0 hS, t210_5 hS, t210_13 hS, t210_21, s_isLaw hS, hi1, s_areM hS V1, ha, hb, b1, ↓reduceIte, eq_self, and_self, and_true, true_and, not_true_eq_false, not_false_eq_true, ob_s, tl_s, tl_n, rf_ref, orf_ref, orf_null, nn_ref, nn_null, rfv_s, rfv_n, if_true, if_false, bi_01, bi_e0, bi_e1, or_t, Classical.not_not]
      · refine ⟨-1, I, I, ?_, ?_, Sc.refl⟩
        · simp (disch := first | omega | exact ib_r | exact ib_n | exact isB_rfv _ | assumption) only [n99, t99_0 hS, t99_5 hS, t99_17 hS, t99_25, s_lawAt hS L hl, s_areX hS V, ha, hb, ↓reduceIte, eq_self, and_self, and_true, true_and, not_true_eq_false, not_false_eq_true, ob_s, tl_s, tl_n, rf_ref, orf_ref, orf_null, nn_ref, nn_null, rfv_s, rfv_n, if_true, if_false, bi_01, bi_e0, bi_e1, or_t, Classical.not_not]
        · simp (disch := first | omega | exact ib_r | exact ib_n | exact isB_rfv _ | assumption) only [n210, t210_0 hS, t210_5 hS, t210_13 hS, t210_21, s_isLaw hS, hi, s_areM hS V, ha, hb, ↓reduceIte, eq_self, and_self, and_true, true_and, not_true_eq_false, not_false_eq_true, ob_s, tl_s, tl_n, rf_ref, orf_ref, orf_null, nn_ref, nn_null, rfv_s, rfv_n, if_true, if_false, bi_01, bi_e0, bi_e1, or_t, Classical.not_not]
    · refine ⟨-1, I, I, ?_, ?_, Sc.refl⟩
      · simp (disch := first | omega | exact ib_r | exact ib_n | exact isB_rfv _ | assumption) only [n99, t99_0 hS, t99_5 hS, t99_17 hS, s_lawAt hS L hl, s_areX hS V, ha, ↓reduceIte, eq_self, and_self, and_true, true_and, not_true_eq_false, not_false_eq_true, ob_s, tl_s, tl_n, rf_ref, orf_ref, orf_null, nn_ref, nn_null, rfv_s, rfv_n, if_true, if_false, bi_01, bi_e0, bi_e1, or_t, Classical.not_not]
      · simp (disch := first | omega | exact ib_r | exact ib_n | exact isB_rfv _ | assumption) only [n210, t210_0 hS, t210_5 hS, t210_13 hS, s_isLaw hS, hi, s_areM hS V, ha, ↓reduceIte, eq_self, and_self, and_true, true_and, not_true_eq_false, not_false_eq_true, ob_s, tl_s, tl_n, rf_ref, orf_ref, orf_null, nn_ref, nn_null, rfv_s, rfv_n, if_true, if_false, bi_01, bi_e0, bi_e1, or_t, Classical.not_not]
  · have hno := s_lawAt_no (X := X) (d := d + 5) (sz := sz) (sl := sl) (J := J) hS L hv
    have hi := hno.2
    refine ⟨-1, I, I, ?_, ?_, Sc.refl⟩
    · simp (disch := first | omega | exact ib_r | exact ib_n | exact isB_rfv _ | assumption) only [n99, t99_0 hS, t99_5 hS, hno.1, ↓reduceIte, eq_self, and_self, and_true, true_and, not_true_eq_false, not_false_eq_true, ob_s, tl_s, tl_n, rf_ref, orf_ref, orf_null, nn_ref, nn_null, rfv_s, rfv_n, if_true, if_false, bi_01, bi_e0, bi_e1, or_t, Classical.not_not]
    · simp (disch := first | omega | exact ib_r | exact ib_n | exact isB_rfv _ | assumption) only [n210, t210_0 hS, t210_5 hS, s_isLaw hS, hi, ↓reduceIte, eq_self, and_self, and_true, true_and, not_true_eq_false, not_false_eq_true, ob_s, tl_s, tl_n, rf_ref, orf_ref, orf_null, nn_ref, nn_null, rfv_s, rfv_n, if_true, if_false, bi_01, bi_e0, bi_e1, or_t, Classical.not_not]
end NEXT
