/-! LAWS STAND -/
def GL (T : Nat → List LN) (W : WW) (nl : Nat) (sh : Nat → Nat × Nat) (R : Nat → Nat → Option Nat) (I : Nat → Nat → Int32) : Prop :=
  nl ≤ 4 ∧ I 0 4 = Int32.ofNat nl ∧ I 37 12 = Int32.ofNat nl ∧ ∀ l, l < nl → R 5 l = some (W 3 l) ∧ mk W (W 3 l) (1000 + 10 * l) ∧ mk W (W 4 l) (1000 + 10 * l + 1) ∧ mk W (W 5 l) (1000 + 10 * l + 2) ∧ mk W (W 6 l) (1000 + 10 * l + 3) ∧
    LO sh R (W 3 l) (W 4 l) (W 5 l) (W 6 l) (tx (T l)).length ∧ (∀ q, q ∈ T l → wfl q) ∧ cdX I (W 4 l) 0 (tx (T l)) ∧ (tm (T l)).length ≤ 129 ∧ I 47 l = Int32.ofNat (tm (T l)).length ∧ cdX I 46 (200 * l) (tm (T l))
theorem GL.fr {T : Nat → List LN} {W W' : WW} {nl : Nat} {sh sh' : Nat → Nat × Nat} {R R' : Nat → Nat → Option Nat} {I I' : Nat → Nat → Int32} (hW : ∀ r k, 3 ≤ r → r ≤ 6 → W' r k = W r k) (h8 : ∀ a, W 8 a < 3000 → W' 8 a = W 8 a) (hs : ∀ a, W 8 a < 3000 → sh' a = sh a) (hR : ∀ a k, cR W a = 8 → R' a k = R a k) (h : sameI W 8 I I') (G : GL T W nl sh R I) : GL T W' nl sh' R' I' := by
  obtain ⟨h4, e1, e2, g⟩ := G
  refine ⟨h4, (h 0 4 rfl).trans e1, (h 37 12 rfl).trans e2, fun l hl => ?_⟩
  obtain ⟨q1, m3, m4, m5, m6, O, hw, c1, hm, e47, c2⟩ := g l hl
  obtain ⟨o1, o2, o3, o4, o5, o6, o7, o8, o9, o10, o11⟩ := O
  have mk' : ∀ a m, m < 3000 → mk W a m → mk W' a m := fun a m hm z => ⟨z.1, by rw [h8 a (by rw [z.2]; exact hm)]; exact z.2⟩
  have s : ∀ a m, m < 3000 → mk W a m → sh' a = sh a := fun a m hm z => hs a (by rw [z.2]; exact hm)
  have c3 : cR W (W 3 l) = 8 := by rw [m3.cR, dyc8 (by omega)]
  have c4 : ∀ k, cI W (W 4 l) k = 8 := fun k => by rw [m4.cI, dyc8' (by omega)]
  rw [hW 3 l (by decide) (by decide), hW 4 l (by decide) (by decide), hW 5 l (by decide) (by decide), hW 6 l (by decide) (by decide)]
  exact ⟨(hR 5 l rfl).trans q1, mk' _ _ (by omega) m3, mk' _ _ (by omega) m4, mk' _ _ (by omega) m5, mk' _ _ (by omega) m6, ⟨(s _ _ (by omega) m3).trans o1, (hR _ _ c3).trans o2, (hR _ _ c3).trans o3, (hR _ _ c3).trans o4, (s _ _ (by omega) m4).trans o5, (s _ _ (by omega) m5).trans o6, (s _ _ (by omega) m6).trans o7, o8, o9, o10, o11⟩, hw, c1.of (fun k => h _ _ (c4 k)), hm, (h 47 l rfl).trans e47, c2.of (fun k => h 46 k rfl)⟩
/-- the same but for scratch -/
def Sc (W : WW) (I I' : Nat → Nat → Int32) : Prop := ∀ a k, cI W a k ≠ 0 → I' a k = I a k
theorem Sc.refl {W : WW} {I : Nat → Nat → Int32} : Sc W I I := fun _ _ _ => rfl
theorem Sc.trans {W : WW} {I I1 I2 : Nat → Nat → Int32} (h1 : Sc W I I1) (h2 : Sc W I1 I2) : Sc W I I2 := fun a k hc => (h2 a k hc).trans (h1 a k hc)
theorem Sc.I {W : WW} {I I' : Nat → Nat → Int32} (h : Sc W I I') {g : Nat} (hg : g ≠ 0) : sameI W g I I' := fun a k e => h a k (by rw [e]; exact hg)
section TAKE
variable {X : XX} {d : Nat} {sz sl : Nat} {sh : Nat → Nat × Nat} {R : Nat → Nat → Option Nat} {I I0 : Nat → Nat → Int32} {J : Nat → Nat → Int64} {W : WW} {ns nl : Nat} {T : Nat → List LN}
theorem Sc.S (h : Sc W I0 I) (G : GS W ns sh R I0) : GS W ns sh R I := G.fr (fun _ _ _ => rfl) (fun _ _ => rfl) (fun _ _ => rfl) (fun _ _ _ => rfl) (h.I (by decide))
theorem Sc.L (h : Sc W I0 I) (G : GL T W nl sh R I0) : GL T W nl sh R I := G.fr (fun _ _ _ _ => rfl) (fun _ _ => rfl) (fun _ _ => rfl) (fun _ _ _ => rfl) (h.I (by decide))
theorem Sc.Y {Y : Nat → Nat → Nat} {ny : Nat} (h : Sc W I0 I) (G : GY Y W ny sh R I0) : GY Y W ny sh R I := G.fr (fun _ => rfl) (fun _ _ => rfl) (fun _ _ => rfl) (fun _ _ _ => rfl) (h.I (by decide)) (fun _ _ => trivial)
/-- what one foot takes -/
def tft (T : List LN) (h w u x dn s b : Nat) : Nat := clN (lv (mkE (Int32.ofNat h) (Int32.ofNat w) (Int32.ofNat u) (Int32.ofNat x) (Int32.ofNat dn) (Int32.ofNat s) (Int32.ofNat b)) T)
theorem tft_le {T : List LN} {h w u x dn s b : Nat} : tft T h w u x dn s b ≤ 9999 := clN_le
def dist (a b : Nat) : Nat := (a - b) + (b - a)
/-- takes -/
def tk (W : WW) (T : List LN) (i c p dn s b : Nat) : Nat := tft T (W 10 i) (W 11 i) (unl W i) (dist c p) dn s b + if b = 0 then 0 else tft T (W 10 i) (W 11 i) (unl W i) (dist c (7 - p)) dn s b
theorem tk_le {W : WW} {T : List LN} {i c p dn s b : Nat} : tk W T i c p dn s b ≤ 19998 := by
  unfold tk
  have h1 := @tft_le T (W 10 i) (W 11 i) (unl W i) (dist c p) dn s b
  have h2 := @tft_le T (W 10 i) (W 11 i) (unl W i) (dist c (7 - p)) dn s b
  split <;> omega
theorem s_footL (L : GL T W nl sh R I) {l : Nat} (hl : l < nl) {h w u x dn s b : Nat} : ∃ I', ev X (d + 2) 59 [.ref (W 3 l), .int (Int32.ofNat h), .int (Int32.ofNat w), .int (Int32.ofNat u), .int (Int32.ofNat x), .int (Int32.ofNat dn), .int (Int32.ofNat s), .int (Int32.ofNat b)] (sz, sl, sh, R, I, J) = some (some (.int (Int32.ofNat (tft (T l) h w u x dn s b))), (sz, sl, sh, R, I', J)) ∧ Sc W I I' := by
  obtain ⟨h4, e1, e2, g⟩ := L
  obtain ⟨q1, m3, m4, m5, m6, O, hw, c1, hm, e47, c2⟩ := g l hl
  obtain ⟨I', a1, a2⟩ := s_foot (X := X) (d := d) (sz := sz) (sl := sl) (J := J) O (a0 := Int32.ofNat h) (a1 := Int32.ofNat w) (a2 := Int32.ofNat u) (a3 := Int32.ofNat x) (a4 := Int32.ofNat dn) (a5 := Int32.ofNat s) (a6 := Int32.ofNat b) hw rfl c1
  refine ⟨I', a1, fun a k hc => a2 a k (fun z => hc ?_) (fun z => hc ?_)⟩
  · rw [z, m5.cI, dyc0 (by omega)]
  · rw [z, m6.cI, dyc0' (by omega)]
theorem s_takenAt (G : GS W ns sh R I) (L : GL T W nl sh R I) {l i c p dn s b : Nat} (hl : l < nl) (hi : i < ns) (hc : c < 8) (hp : p < 8) (hb : b < 2147483648) : ∃ I', ev X (d + 3) 58 [.ref (W 3 l), .ref (W 0 i), .int (Int32.ofNat c), .int (Int32.ofNat p), .int (Int32.ofNat dn), .int (Int32.ofNat s), .int (Int32.ofNat b)] (sz, sl, sh, R, I, J) = some (some (.int (Int32.ofNat (tk W (T l) i c p dn s b))), (sz, sl, sh, R, I', J)) ∧ Sc W I I' := by
  have h := G.2.2.2.1 i hi
  have hI := G.2.2.2.2.2.1 i hi
  have hL := (L.2.2.2 l hl).2.2.2.2.2.1.1
  obtain ⟨I1, a1, a2⟩ := s_footL (X := X) (d := d) (sz := sz) (sl := sl) (J := J) L hl (h := W 10 i) (w := W 11 i) (u := unl W i) (x := dist c p) (dn := dn) (s := s) (b := b)
  have e1 := n_abs (show c < 2147483648 by omega) (show p < 2147483648 by omega)
  have first : ev X (d + 3) 58 [.ref (W 3 l), .ref (W 0 i), .int (Int32.ofNat c), .int (Int32.ofNat p), .int (Int32.ofNat dn), .int (Int32.ofNat s), .int (Int32.ofNat b)] (sz, sl, sh, R, I, J) = exe X (d + 2) 58 36 [.ref (W 3 l), .ref (W 0 i), .int (Int32.ofNat c), .int (Int32.ofNat p), .int (Int32.ofNat dn), .int (Int32.ofNat s), .int (Int32.ofNat b), .int (Int32.ofNat (unl W i)), dm, dm, dm] [.int (Int32.ofNat (tft (T l) (W 10 i) (W 11 i) (unl W i) (dist c p) dn s b))] (sz, sl, sh, R, I1, J) := by
    rw [n58, t58_0 hL, if_pos h.2.1, s_unlikeX G hi, ob_s]
    show exe X (d + 2) 58 4 _ [.int _] _ = _
    rw [t58_4 hL, rf_ref, if_pos h.2.1, rf_ref, if_pos h.2.1, hI.1, hI.2.1, e1, show c - p + (p - c) = dist c p from rfl, a1, ob_s]
    rfl
  by_cases b0 : b = 0
  · subst b0
    refine ⟨I1, ?_, a2⟩
    rw [first, t58_36 hL, if_neg (fun z => z rfl)]
    unfold tk
    rw [if_pos rfl, Nat.add_zero]
  · have bz : ¬ Int32.ofNat b = 0 := by rw [k_0, n_eq hb (by decide)]; exact b0
    have G1 := a2.S G
    have L1 := a2.L L
    have hI1 := G1.2.2.2.2.2.1 i hi
    obtain ⟨I2, b1, b2⟩ := s_footL (X := X) (d := d) (sz := sz) (sl := sl) (J := J) L1 hl (h := W 10 i) (w := W 11 i) (u := unl W i) (x := dist c (7 - p)) (dn := dn) (s := s) (b := b)
    have e2 := n_abs (show c < 2147483648 by omega) (show 7 - p < 2147483648 by omega)
    have e7 : (7 : Int32) - Int32.ofNat p = Int32.ofNat (7 - p) := by rw [k_7, n_sub (by omega)]
    refine ⟨I2, ?_, a2.trans b2⟩
    rw [first, t58_36 hL, if_pos bz, rf_ref, if_pos h.2.1, rf_ref, if_pos h.2.1, hI1.1, hI1.2.1, e7, e2, show c - (7 - p) + (7 - p - c) = dist c (7 - p) from rfl, b1, ob_s]
    show exe X (d + 2) 58 81 _ [.int _, .int _] _ = _
    rw [t58_81, n_add]
    unfold tk
    rw [if_neg b0]
theorem clN_M {v : Int32} {A : Int32 → Option Rs} : (if 0 ≤ v then (if v ≤ 9999 then A v else A 9999) else A 0) = A (Int32.ofNat (clN v)) := by
  unfold clN
  by_cases h : 0 ≤ v
  · obtain ⟨u, hu, rfl⟩ := n_of h
    rw [if_pos h, n_cl hu]
    by_cases h1 : u ≤ 9999
    · rw [if_pos (by rw [k_9999, n_le hu (by decide)]; exact h1), Nat.min_eq_right h1]
    · rw [if_neg (by rw [k_9999, n_le hu (by decide)]; exact h1), Nat.min_eq_left (by omega)]
      rfl
  · have e : v.toNatClampNeg = 0 := by
      rw [Int32.le_iff_toInt_le] at h
      show v.toInt.toNat = 0
      have : (0 : Int32).toInt = 0 := rfl
      omega
    rw [if_neg h, e]
    rfl
theorem s_takesOne (hS : SF sh R) (G : GS W ns sh R I) (L : GL T W nl sh R I) {l i c p dn s b u : Nat} (hl : l < nl) (hi : i < ns) (hc : c < 8) (hp : p < 8) : ∃ I', ev X (d + 4) 181 [.ref 37, .int (Int32.ofNat l), .int (Int32.ofNat i), .int (Int32.ofNat c), .int (Int32.ofNat p), .int (Int32.ofNat dn), .int (Int32.ofNat s), .int (Int32.ofNat b), .int (Int32.ofNat u)] (sz, sl, sh, R, I, J) = some (some (.int (Int32.ofNat (tft (T l) (W 10 i) (W 11 i) u (dist c p) dn s b))), (sz, sl, sh, R, I', J)) ∧ Sc W I I' := by
  obtain ⟨q1, m3, m4, m5, m6, O, hw, c1, hm, e47, c2⟩ := L.2.2.2 l hl
  have g4 := G.2.2.2.2.2.2.1 i hi
  have h40 := G.1
  have h4 := L.1
  obtain ⟨I', a1, a2⟩ := s_worth (X := X) (d := d) (sz := sz) (sl := sl) (J := J) hS (show l < 4 by omega) (show i < 40 by omega) (a2 := Int32.ofNat u) (a3 := Int32.ofNat (dist c p)) (a4 := Int32.ofNat dn) (a5 := Int32.ofNat s) (a6 := Int32.ofNat b) hw hm e47 c2
  rw [g4.1, g4.2.1] at a1
  refine ⟨I', ?_, fun a k hc => a2 a k (fun z => hc (by rw [z]; rfl)) (fun z => hc (by rw [z]; rfl))⟩
  have first : ev X (d + 4) 181 [.ref 37, .int (Int32.ofNat l), .int (Int32.ofNat i), .int (Int32.ofNat c), .int (Int32.ofNat p), .int (Int32.ofNat dn), .int (Int32.ofNat s), .int (Int32.ofNat b), .int (Int32.ofNat u)] (sz, sl, sh, R, I, J) = exe X (d + 3) 181 17 [.ref 37, .int (Int32.ofNat l), .int (Int32.ofNat i), dm, dm, .int (Int32.ofNat dn), .int (Int32.ofNat s), .int (Int32.ofNat b), .int (Int32.ofNat u), dm, dm] [.int (Int32.ofNat (dist c p))] (sz, sl, sh, R, I, J) := by
    rw [n181, t181_0]
    unfold dist
    by_cases h : p ≤ c
    · rw [if_pos (by rw [n_le (by omega) (by omega)]; exact h), n_sub h, Nat.sub_eq_zero_of_le h, Nat.add_zero (c - p)]
    · rw [if_neg (by rw [n_le (by omega) (by omega)]; exact h), n_sub (by omega), Nat.sub_eq_zero_of_le (show c ≤ p by omega), Nat.zero_add (p - c)]
  rw [first, t181_17 hS, a1, ob_s]
  show exe X (d + 3) 181 35 _ [.int _] _ = _
  rw [t181_35]
  exact clN_M (A := fun v => some (some (.int v), (sz, sl, sh, R, I', J)))
theorem s_takesOf (hS : SF sh R) (G : GS W ns sh R I) (L : GL T W nl sh R I) {l i c p dn s b : Nat} (hl : l < nl) (hi : i < ns) (hc : c < 8) (hp : p < 8) (hb : b < 2147483648) : ∃ I', ev X (d + 5) 180 [.ref 37, .int (Int32.ofNat l), .int (Int32.ofNat i), .int (Int32.ofNat c), .int (Int32.ofNat p), .int (Int32.ofNat dn), .int (Int32.ofNat s), .int (Int32.ofNat b)] (sz, sl, sh, R, I, J) = some (some (.int (Int32.ofNat (tk W (T l) i c p dn s b))), (sz, sl, sh, R, I', J)) ∧ Sc W I I' := by
  obtain ⟨I1, a1, a2⟩ := s_takesOne (X := X) (d := d) (sz := sz) (sl := sl) (J := J) hS G L hl hi hc hp (dn := dn) (s := s) (b := b) (u := unl W i)
  have first : ev X (d + 5) 180 [.ref 37, .int (Int32.ofNat l), .int (Int32.ofNat i), .int (Int32.ofNat c), .int (Int32.ofNat p), .int (Int32.ofNat dn), .int (Int32.ofNat s), .int (Int32.ofNat b)] (sz, sl, sh, R, I, J) = exe X (d + 4) 180 20 [.ref 37, .int (Int32.ofNat l), .int (Int32.ofNat i), .int (Int32.ofNat c), .int (Int32.ofNat p), .int (Int32.ofNat dn), .int (Int32.ofNat s), .int (Int32.ofNat b), dm] [.int (Int32.ofNat (tft (T l) (W 10 i) (W 11 i) (unl W i) (dist c p) dn s b))] (sz, sl, sh, R, I1, J) := by
    rw [n180, t180_0 hS, s_unlikeM hS G hi, ob_s]
    show exe X (d + 4) 180 17 _ [.int _, .int _, .int _, .int _, .int _, .int _, .int _, .int _, .ref 37] _ = _
    rw [t180_17 rfl, rf_ref, if_pos (zS37 hS), a1, ob_s]
    rfl
  by_cases b0 : b = 0
  · subst b0
    refine ⟨I1, ?_, a2⟩
    rw [first, t180_20 hS, if_neg (fun z => z rfl)]
    unfold tk
    rw [if_pos rfl, Nat.add_zero]
  · have bz : ¬ Int32.ofNat b = 0 := by rw [k_0, n_eq hb (by decide)]; exact b0
    have G1 := a2.S G
    have L1 := a2.L L
    obtain ⟨I2, b1, b2⟩ := s_takesOne (X := X) (d := d) (sz := sz) (sl := sl) (J := J) hS G1 L1 hl hi hc (show 7 - p < 8 by omega) (dn := dn) (s := s) (b := b) (u := unl W i)
    have e7 : (7 : Int32) - Int32.ofNat p = Int32.ofNat (7 - p) := by rw [k_7, n_sub (by omega)]
    refine ⟨I2, ?_, a2.trans b2⟩
    rw [first, t180_20 hS, if_pos bz, e7, s_unlikeM hS G1 hi, ob_s]
    show exe X (d + 4) 180 54 _ [.int _, .int _, .int _, .int _, .int _, .int _, .int _, .int _, .ref 37, .int _] _ = _
    rw [t180_54 rfl, rf_ref, if_pos (zS37 hS), b1, ob_s]
    show exe X (d + 4) 180 57 _ [.int _, .int _] _ = _
    rw [t180_57, n_add]
    unfold tk
    rw [if_neg b0]
theorem s_lawAt (hS : SF sh R) (L : GL T W nl sh R I) {l : Nat} (hl : l < nl) : ev X (d + 2) 57 [.ref 0, .int (Int32.ofNat l)] (sz, sl, sh, R, I, J) = some (some (.ref (W 3 l)), (sz, sl, sh, R, I, J)) := by
  have h4 := L.1
  have hi : (0 : Int32) ≤ Int32.ofNat l ∧ Int32.ofNat l ≤ I 0 4 - 1 := by rw [L.2.1, idx (by omega)]; exact ⟨l, hl, rfl⟩
  have e1 : ¬ 4 ≤ l := by omega
  have e2 : l < 4 := by omega
  simp (disch := first | omega | exact ib_r | exact ib_n | exact isB_rfv _ | assumption) only [n57, t57_0 hS, t57_11 hS, s_within, ↓reduceIte, eq_self, and_self, and_true, true_and, not_true_eq_false, not_false_eq_true, ob_s, tl_s, tl_n, rf_ref, orf_ref, orf_null, nn_ref, nn_null, rfv_s, rfv_n, if_true, if_false, bi_01, bi_e0, bi_e1, or_t, Classical.not_not, hi]
  simp (disch := first | omega | exact ib_r | exact ib_n | exact isB_rfv _ | assumption) only [k_4, n_le, n_inb, n_cl, e1, e2, (L.2.2.2 l hl).1, ↓reduceIte, eq_self, and_self, and_true, true_and, not_true_eq_false, not_false_eq_true, ob_s, tl_s, tl_n, rf_ref, orf_ref, orf_null, nn_ref, nn_null, rfv_s, rfv_n, if_true, if_false, bi_01, bi_e0, bi_e1, or_t, Classical.not_not]
theorem s_lawAt_no (hS : SF sh R) (L : GL T W nl sh R I) {v : Int32} (hv : ¬ ∃ l, l < nl ∧ v = Int32.ofNat l) : ev X (d + 2) 57 [.ref 0, .int v] (sz, sl, sh, R, I, J) = some (some .null, (sz, sl, sh, R, I, J)) ∧ ¬ ((0 : Int32) ≤ v ∧ v ≤ I 37 12 - 1) := by
  have h4 := L.1
  have hi : ¬ ((0 : Int32) ≤ v ∧ v ≤ I 0 4 - 1) := by rw [L.2.1, idx (by omega)]; exact hv
  constructor
  · simp only [n57, t57_0 hS, t57_11 hS, s_within, ↓reduceIte, eq_self, and_self, and_true, true_and, not_true_eq_false, not_false_eq_true, ob_s, tl_s, tl_n, rf_ref, orf_ref, orf_null, nn_ref, nn_null, rfv_s, rfv_n, if_true, if_false, bi_01, bi_e0, bi_e1, or_t, Classical.not_not, hi, not_false_eq_true, if_true]
  · rw [L.2.2.1, idx (by omega)]; exact hv
theorem GL.is (L : GL T W nl sh R I) {l : Nat} (hl : l < nl) : (0 : Int32) ≤ Int32.ofNat l ∧ Int32.ofNat l ≤ I 37 12 - 1 := by
  have h4 := L.1
  rw [L.2.2.1, idx (by omega)]; exact ⟨l, hl, rfl⟩
theorem o_takes (hS : SF sh R) (G : GS W ns sh R I) (L : GL T W nl sh R I) {v w z : Int32} : ∃ x I1 I2, ev X (d + 6) 56 [.ref 0, .int v, .int w, .int z] (sz, sl, sh, R, I, J) = some (some (.int x), (sz, sl, sh, R, I1, J)) ∧ ev X (d + 6) 178 [.ref 37, .int v, .int w, .int z] (sz, sl, sh, R, I1, J) = some (some (.int x), (sz, sl, sh, R, I2, J)) ∧ Sc W I I2 := by
  have h40 := G.1
  have z1 : ¬ (1 : Int32) = 0 := by decide
  by_cases hv : ∃ l, l < nl ∧ v = Int32.ofNat l
  · obtain ⟨l, hl, rfl⟩ := hv
    have hi := L.is hl
    have hL := (L.2.2.2 l hl).2.2.2.2.2.1.1
    by_cases hw : celA ns w
    · obtain ⟨i, c, hi', hc, rfl⟩ := hw
      have e1 : Int32.ofNat (10 * i + c) / 10 = Int32.ofNat i := by rw [k_10, n_div (by omega) (by decide)]; congr 1; omega
      have e2 : Int32.ofNat (10 * i + c) - Int32.ofNat i * 10 = Int32.ofNat c := by rw [← e1, k_10, n_div (by omega) (by decide), n_rem']; congr 1; omega
      by_cases hz : 0 ≤ z ∧ z ≤ 7999
      · obtain ⟨u, -, hu, rfl⟩ := n_in (a := 0) (b := 7999) (by decide) hz.1 hz.2 (by decide)
        have p1 : Int32.ofNat u / 100 = Int32.ofNat (u / 100) := by rw [k_100, n_div (by omega) (by decide)]
        have p2 : Int32.ofNat (u / 100) / 10 = Int32.ofNat (u / 100 / 10) := by rw [k_10, n_div (by omega) (by decide)]
        have p3 : Int32.ofNat (u / 100) - Int32.ofNat (u / 100 / 10) * 10 = Int32.ofNat (u / 100 % 10) := by rw [k_10, n_rem']
        have p4 : Int32.ofNat u / 10 = Int32.ofNat (u / 10) := by rw [k_10, n_div (by omega) (by decide)]
        have p5 : Int32.ofNat u - Int32.ofNat (u / 10) * 10 = Int32.ofNat (u % 10) := by rw [k_10, n_rem']
        have p6 : Int32.ofNat (u / 10) / 10 = Int32.ofNat (u / 10 / 10) := by rw [k_10, n_div (by omega) (by decide)]
        have p7 : Int32.ofNat (u / 10) - Int32.ofNat (u / 10 / 10) * 10 = Int32.ofNat (u / 10 % 10) := by rw [k_10, n_rem']
        have p8 : Int32.ofNat u / 1000 = Int32.ofNat (u / 1000) := by rw [k_1000, n_div (by omega) (by decide)]
        by_cases f1 : (1 : Int32) < Int32.ofNat (u / 100 % 10)
        · refine ⟨-1, I, I, ?_, ?_, Sc.refl⟩
          · simp (disch := first | omega | exact ib_r | exact ib_n | exact isB_rfv _ | assumption) only [n56, t56_0 hS, t56_5 hS, t56_12, t56_47, s_lawAt hS L hl, s_cellX hS G hi' hc, s_within, hz, p1, p2, p3, p4, p5, f1, ↓reduceIte, eq_self, and_self, and_true, true_and, not_true_eq_false, not_false_eq_true, ob_s, tl_s, tl_n, rf_ref, orf_ref, orf_null, nn_ref, nn_null, rfv_s, rfv_n, if_true, if_false, bi_01, bi_e0, bi_e1, or_t, Classical.not_not]
          · simp (disch := first | omega | exact ib_r | exact ib_n | exact isB_rfv _ | assumption) only [n178, t178_0 hS, t178_5 hS, t178_13, t178_24 hS, s_isLaw hS, hi, s_cellM hS G hi' hc, z1, s_in, hz, p1, p2, p3, f1, ↓reduceIte, eq_self, and_self, and_true, true_and, not_true_eq_false, not_false_eq_true, ob_s, tl_s, tl_n, rf_ref, orf_ref, orf_null, nn_ref, nn_null, rfv_s, rfv_n, if_true, if_false, bi_01, bi_e0, bi_e1, or_t, Classical.not_not]
        · by_cases f2 : Int32.ofNat (u % 10) ≤ 1
          · obtain ⟨I1, a1, a2⟩ := s_takenAt (X := X) (d := d + 2) (sz := sz) (sl := sl) (J := J) G L hl hi' hc (p := u / 1000) (dn := u / 100 % 10) (s := u / 10 % 10) (b := u % 10) (by omega) (by omega)
            have G1 := a2.S G
            have L1 := a2.L L
            have hi1 := L1.is hl
            obtain ⟨I2, b1, b2⟩ := s_takesOf (X := X) (d := d) (sz := sz) (sl := sl) (J := J) hS G1 L1 hl hi' hc (p := u / 1000) (dn := u / 100 % 10) (s := u / 10 % 10) (b := u % 10) (by omega) (by omega)
            refine ⟨Int32.ofNat (tk W (T l) i c (u / 1000) (u / 100 % 10) (u / 10 % 10) (u % 10)), I1, I2, ?_, ?_, a2.trans b2⟩
            rotate_left
            · simp (disch := first | omega | exact ib_r | exact ib_n | exact isB_rfv _ | assumption) only [n178, t178_0 hS, t178_5 hS, t178_13, t178_24 hS, t178_84, s_isLaw hS, hi1, s_cellM hS G1 hi' hc, z1, s_in, hz, p1, p2, p3, p4, p5, p6, p7, p8, e1, e2, f1, f2, b1, ↓reduceIte, eq_self, and_self, and_true, true_and, not_true_eq_false, not_false_eq_true, ob_s, tl_s, tl_n, rf_ref, orf_ref, orf_null, nn_ref, nn_null, rfv_s, rfv_n, if_true, if_false, bi_01, bi_e0, bi_e1, or_t, Classical.not_not]
            · simp (disch := first | omega | exact ib_r | exact ib_n | exact isB_rfv _ | assumption) only [n56, t56_0 hS, t56_5 hS, t56_12, t56_47, t56_91, s_lawAt hS L hl, s_cellX hS G hi' hc, s_within, hz, p1, p2, p3, p4, p5, p6, p7, p8, e1, e2, f1, f2, hL, a1, ↓reduceIte, eq_self, and_self, and_true, true_and, not_true_eq_false, not_false_eq_true, ob_s, tl_s, tl_n, rf_ref, orf_ref, orf_null, nn_ref, nn_null, rfv_s, rfv_n, if_true, if_false, bi_01, bi_e0, bi_e1, or_t, Classical.not_not]
          · refine ⟨-1, I, I, ?_, ?_, Sc.refl⟩
            · simp (disch := first | omega | exact ib_r | exact ib_n | exact isB_rfv _ | assumption) only [n56, t56_0 hS, t56_5 hS, t56_12, t56_47, s_lawAt hS L hl, s_cellX hS G hi' hc, s_within, hz, p1, p2, p3, p4, p5, f1, f2, ↓reduceIte, eq_self, and_self, and_true, true_and, not_true_eq_false, not_false_eq_true, ob_s, tl_s, tl_n, rf_ref, orf_ref, orf_null, nn_ref, nn_null, rfv_s, rfv_n, if_true, if_false, bi_01, bi_e0, bi_e1, or_t, Classical.not_not]
            · simp (disch := first | omega | exact ib_r | exact ib_n | exact isB_rfv _ | assumption) only [n178, t178_0 hS, t178_5 hS, t178_13, t178_24 hS, s_isLaw hS, hi, s_cellM hS G hi' hc, z1, s_in, hz, p1, p2, p3, p4, p5, f1, f2, ↓reduceIte, eq_self, and_self, and_true, true_and, not_true_eq_false, not_false_eq_true, ob_s, tl_s, tl_n, rf_ref, orf_ref, orf_null, nn_ref, nn_null, rfv_s, rfv_n, if_true, if_false, bi_01, bi_e0, bi_e1, or_t, Classical.not_not]
      · refine ⟨-1, I, I, ?_, ?_, Sc.refl⟩
        · simp (disch := first | omega | exact ib_r | exact ib_n | exact isB_rfv _ | assumption) only [n56, t56_0 hS, t56_5 hS, t56_12, t56_47, s_lawAt hS L hl, s_cellX hS G hi' hc, s_within, hz, ↓reduceIte, eq_self, and_self, and_true, true_and, not_true_eq_false, not_false_eq_true, ob_s, tl_s, tl_n, rf_ref, orf_ref, orf_null, nn_ref, nn_null, rfv_s, rfv_n, if_true, if_false, bi_01, bi_e0, bi_e1, or_t, Classical.not_not]
        · simp (disch := first | omega | exact ib_r | exact ib_n | exact isB_rfv _ | assumption) only [n178, t178_0 hS, t178_5 hS, t178_13, t178_24 hS, s_isLaw hS, hi, s_cellM hS G hi' hc, z1, s_in, hz, ↓reduceIte, eq_self, and_self, and_true, true_and, not_true_eq_false, not_false_eq_true, ob_s, tl_s, tl_n, rf_ref, orf_ref, orf_null, nn_ref, nn_null, rfv_s, rfv_n, if_true, if_false, bi_01, bi_e0, bi_e1, or_t, Classical.not_not]
    · refine ⟨-1, I, I, ?_, ?_, Sc.refl⟩
      · simp (disch := first | omega | exact ib_r | exact ib_n | exact isB_rfv _ | assumption) only [n56, t56_0 hS, t56_5 hS, t56_12, s_lawAt hS L hl, (s_cell_no hS G hw).1, ↓reduceIte, eq_self, and_self, and_true, true_and, not_true_eq_false, not_false_eq_true, ob_s, tl_s, tl_n, rf_ref, orf_ref, orf_null, nn_ref, nn_null, rfv_s, rfv_n, if_true, if_false, bi_01, bi_e0, bi_e1, or_t, Classical.not_not]
      · simp (disch := first | omega | exact ib_r | exact ib_n | exact isB_rfv _ | assumption) only [n178, t178_0 hS, t178_5 hS, t178_13, s_isLaw hS, hi, (s_cell_no hS G hw).2, ↓reduceIte, eq_self, and_self, and_true, true_and, not_true_eq_false, not_false_eq_true, ob_s, tl_s, tl_n, rf_ref, orf_ref, orf_null, nn_ref, nn_null, rfv_s, rfv_n, if_true, if_false, bi_01, bi_e0, bi_e1, or_t, Classical.not_not]
  · have hno := s_lawAt_no (X := X) (d := d + 3) (sz := sz) (sl := sl) (J := J) hS L hv
    have hi := hno.2
    refine ⟨-1, I, I, ?_, ?_, Sc.refl⟩
    · by_cases hw : celA ns w
      · obtain ⟨i, c, hi', hc, rfl⟩ := hw
        simp (disch := first | omega | exact ib_r | exact ib_n | exact isB_rfv _ | assumption) only [n56, t56_0 hS, t56_5 hS, t56_12, hno.1, s_cellX hS G hi' hc, ↓reduceIte, eq_self, and_self, and_true, true_and, not_true_eq_false, not_false_eq_true, ob_s, tl_s, tl_n, rf_ref, orf_ref, orf_null, nn_ref, nn_null, rfv_s, rfv_n, if_true, if_false, bi_01, bi_e0, bi_e1, or_t, Classical.not_not]
      · simp (disch := first | omega | exact ib_r | exact ib_n | exact isB_rfv _ | assumption) only [n56, t56_0 hS, t56_5 hS, t56_12, hno.1, (s_cell_no hS G hw).1, ↓reduceIte, eq_self, and_self, and_true, true_and, not_true_eq_false, not_false_eq_true, ob_s, tl_s, tl_n, rf_ref, orf_ref, orf_null, nn_ref, nn_null, rfv_s, rfv_n, if_true, if_false, bi_01, bi_e0, bi_e1, or_t, Classical.not_not]
    · simp (disch := first | omega | exact ib_r | exact ib_n | exact isB_rfv _ | assumption) only [n178, t178_0 hS, t178_5 hS, s_isLaw hS, hi, ↓reduceIte, eq_self, and_self, and_true, true_and, not_true_eq_false, not_false_eq_true, ob_s, tl_s, tl_n, rf_ref, orf_ref, orf_null, nn_ref, nn_null, rfv_s, rfv_n, if_true, if_false, bi_01, bi_e0, bi_e1, or_t, Classical.not_not]
/-! SLIPPED -/
/-- the most unlike from step s on: the best so far, how unlike -/
def muI (W : WW) : Nat → Nat → Int32 → Nat → Int32 × Nat
  | 0, _, b, m => (b, m)
  | n + 1, s, b, m => if unl W s ≤ m then muI W n (s + 1) b m else muI W n (s + 1) (Int32.ofNat s) (unl W s)
theorem unl_le (G : GS W ns sh R I) {i : Nat} (hi : i < ns) : unl W i ≤ 98 := by
  have h1 := (G.2.2.2.2.2.2.2.1 i hi).2.2.2.1
  unfold unl
  split
  · omega
  · have h2 := (G.2.2.2.2.2.2.2.1 (i - 1) (by omega)).2.2.2.1
    omega
theorem s_muX (hS : SF sh R) (G : GS W ns sh R I) : ∀ (n s m : Nat) (b : Int32), s + n = ns → m ≤ 98 → exe X (d + 2) 102 7 [.ref 0, .int b, .int (Int32.ofNat m), .int (Int32.ofNat s), dm] [] (sz, sl, sh, R, I, J) = some (some (.int (muI W n s b m).1), (sz, sl, sh, R, I, J))
  | 0, s, m, b, h, hm => by
    have h40 := G.1
    have e : ns ≤ s := by omega
    rw [t102_7 hS, G.n1, if_pos (by rw [n_le (by omega) (by omega)]; exact e)]
    rfl
  | n + 1, s, m, b, h, hm => by
    have h40 := G.1
    have e : ¬ ns ≤ s := by omega
    have hs : s < ns := by omega
    have h2 := (G.2.2.2.1 s hs).2.1
    have hu := unl_le G hs
    rw [t102_7 hS, G.n1, if_neg (by rw [n_le (by omega) (by omega)]; exact e), s_stepAt hS G hs, ob_s, muI]
    show exe X (d + 2) 102 20 _ [.ref (W 0 s)] _ = _
    rw [t102_20 rfl, nn_ref, rf_ref, if_pos h2, s_unlikeX G hs, ob_s]
    show exe X (d + 2) 102 32 _ [.int _] _ = _
    rw [t102_32 rfl]
    by_cases hm' : unl W s ≤ m
    · rw [if_pos (by rw [n_le (by omega) (by omega)]; exact hm'), if_pos hm', n_suc, s_muX hS G n (s + 1) m b (by omega) hm]
    · rw [if_neg (by rw [n_le (by omega) (by omega)]; exact hm'), if_neg hm', rf_ref, if_pos h2, s_unlikeX G hs, ob_s]
      show exe X (d + 2) 102 43 _ [.int _] _ = _
      rw [t102_43, n_suc, s_muX hS G n (s + 1) _ _ (by omega) hu]
theorem s_muM (hS : SF sh R) (G : GS W ns sh R I) {l p q : Int32} : ∀ (n s m : Nat) (b : Int32), s + n = ns → m ≤ 98 → exe X (d + 2) 211 39 [.ref 37, .int l, .int p, .int q, .int b, .int (Int32.ofNat m), .int (Int32.ofNat s), dm] [] (sz, sl, sh, R, I, J) = exe X (d + 2) 211 39 [.ref 37, .int l, .int p, .int q, .int (muI W n s b m).1, .int (Int32.ofNat (muI W n s b m).2), .int (Int32.ofNat ns), dm] [] (sz, sl, sh, R, I, J)
  | 0, s, m, b, h, hm => by
    obtain rfl : s = ns := h
    rfl
  | n + 1, s, m, b, h, hm => by
    have h40 := G.1
    have e : ¬ ns ≤ s := by omega
    have hs : s < ns := by omega
    have hu := unl_le G hs
    rw [t211_39 hS, G.n2, if_neg (by rw [n_le (by omega) (by omega)]; exact e), s_unlikeM hS G hs, ob_s, muI]
    show exe X (d + 2) 211 54 _ [.int _] _ = _
    rw [t211_54 hS]
    by_cases hm' : unl W s ≤ m
    · rw [if_pos (by rw [n_le (by omega) (by omega)]; exact hm'), if_pos hm', n_suc, s_muM hS G n (s + 1) m b (by omega) hm]
    · rw [if_neg (by rw [n_le (by omega) (by omega)]; exact hm'), if_neg hm', s_unlikeM hS G hs, ob_s]
      show exe X (d + 2) 211 69 _ [.int _] _ = _
      rw [t211_69, n_suc, s_muM hS G n (s + 1) _ _ (by omega) hu]
theorem muI_ok : ∀ (n s m : Nat) (b : Int32), s + n = ns → (b = -2 ∨ ∃ j, j < ns ∧ b = Int32.ofNat j ∧ m = unl W j) → ((muI W n s b m).1 = -2 ∨ ∃ j, j < ns ∧ (muI W n s b m).1 = Int32.ofNat j ∧ (muI W n s b m).2 = unl W j)
  | 0, _, _, _, _, hb => hb
  | n + 1, s, m, b, h, hb => by
    unfold muI
    by_cases c : unl W s ≤ m
    · rw [if_pos c]; exact muI_ok n (s + 1) m b (by omega) hb
    · rw [if_neg c]; exact muI_ok n (s + 1) _ _ (by omega) (Or.inr ⟨s, by omega, rfl, rfl⟩)
theorem o_slipped (hS : SF sh R) (G : GS W ns sh R I) (L : GL T W nl sh R I) {v w z : Int32} : ∃ x I1 I2, ev X (d + 6) 101 [.ref 0, .int v, .int w, .int z] (sz, sl, sh, R, I, J) = some (some (.int x), (sz, sl, sh, R, I1, J)) ∧ ev X (d + 6) 211 [.ref 37, .int v, .int w, .int z] (sz, sl, sh, R, I1, J) = some (some (.int x), (sz, sl, sh, R, I2, J)) ∧ Sc W I I2 := by
  have h40 := G.1
  have z1 : ¬ (1 : Int32) = 0 := by decide
  by_cases hv : ∃ l, l < nl ∧ v = Int32.ofNat l
  · obtain ⟨l, hl, rfl⟩ := hv
    have hi := L.is hl
    have hL := (L.2.2.2 l hl).2.2.2.2.2.1.1
    by_cases hw : 0 ≤ w ∧ w ≤ 7
    · by_cases hz : 0 ≤ z ∧ z ≤ 1
      · obtain ⟨p, -, hp, rfl⟩ := n_in (a := 0) (b := 7) (by decide) hw.1 hw.2 (by decide)
        have mx := s_muX (X := X) (d := d + 2) (sz := sz) (sl := sl) (J := J) hS G ns 0 0 (-2) (by omega) (by omega)
        have mm := fun I1 (G1 : GS W ns sh R I1) => s_muM (X := X) (d := d + 3) (sz := sz) (sl := sl) (J := J) (I := I1) (l := Int32.ofNat l) (p := Int32.ofNat p) (q := z) hS G1 ns 0 0 (-2) (by omega) (by omega)
        rw [← k_0] at mx mm
        have ok := muI_ok (W := W) (ns := ns) ns 0 0 (-2) (by omega) (Or.inl rfl)
        have X1 : ev X (d + 6) 101 [.ref 0, .int (Int32.ofNat l), .int (Int32.ofNat p), .int z] (sz, sl, sh, R, I, J) = exe X (d + 5) 101 37 [.ref 0, dm, dm, .int z, .ref (W 3 l), dm, dm, dm, dm] [.int (muI W ns 0 (-2) 0).1] (sz, sl, sh, R, I, J) := by
          simp (disch := first | omega | exact ib_r | exact ib_n | exact isB_rfv _ | assumption) only [n101, t101_0 hS, t101_5, t101_19, t101_28 hS, s_lawAt hS L hl, s_within, hw, hz, ↓reduceIte, eq_self, and_self, and_true, true_and, not_true_eq_false, not_false_eq_true, ob_s, tl_s, tl_n, rf_ref, orf_ref, orf_null, nn_ref, nn_null, rfv_s, rfv_n, if_true, if_false, bi_01, bi_e0, bi_e1, or_t, Classical.not_not, n102, t102_0, mx]
        have M1 : ∀ I1, GS W ns sh R I1 → GL T W nl sh R I1 → ev X (d + 6) 211 [.ref 37, .int (Int32.ofNat l), .int (Int32.ofNat p), .int z] (sz, sl, sh, R, I1, J) = (if (muI W ns 0 (-2) 0).1 = -2 then some (some (.int (muI W ns 0 (-2) 0).1), (sz, sl, sh, R, I1, J)) else if ¬ z = 0 then ((ev X (d + 5) 181 [.ref 37, .int (Int32.ofNat l), .int (muI W ns 0 (-2) 0).1, .int (Int32.ofNat p), .int (Int32.ofNat p), .int 1, .int 0, .int 0, .int 0] (sz, sl, sh, R, I1, J)).bind fun q => exe X (d + 5) 211 104 [.ref 37, .int (Int32.ofNat l), .int (Int32.ofNat p), dm, .int (muI W ns 0 (-2) 0).1, .int (Int32.ofNat (muI W ns 0 (-2) 0).2), dm, dm] (q.1.toList ++ []) q.2) else some (some (.int (muI W ns 0 (-2) 0).1), (sz, sl, sh, R, I1, J))) := by
          intro I1 G1 L1
          have hi1 := L1.is hl
          have e : (Int32.ofNat ns ≤ Int32.ofNat ns) = True := eq_true (Int32.le_refl _)
          have m1 := mm I1 G1
          rw [t211_39 hS (l6 := Int32.ofNat ns), G1.n2, if_pos (Int32.le_refl _)] at m1
          simp (disch := first | omega | exact ib_r | exact ib_n | exact isB_rfv _ | assumption) only [n211, t211_0 hS, t211_5, t211_15, t211_24, s_isLaw hS, hi1, s_in, hw, hz, ↓reduceIte, eq_self, and_self, and_true, true_and, not_true_eq_false, not_false_eq_true, ob_s, tl_s, tl_n, rf_ref, orf_ref, orf_null, nn_ref, nn_null, rfv_s, rfv_n, if_true, if_false, bi_01, bi_e0, bi_e1, or_t, Classical.not_not]
          exact m1
        rcases ok with hno | ⟨j, hj, ej, em⟩
        · have hn : ¬ ∃ j, j < ns ∧ (-2 : Int32) = Int32.ofNat j := by
            rintro ⟨j, hj, e⟩
            exact neg_ne (n := j) (by omega) (by decide) e.symm
          refine ⟨-2, I, I, ?_, ?_, Sc.refl⟩
          · rw [X1, hno, t101_37 hS rfl, s_stepAt_no hS G hn, ob_s]
            show exe X (d + 5) 101 45 _ [.null] _ = _
            rw [t101_45 rfl rfl, nn_null]
          · rw [M1 I G L, if_pos hno, hno]
        · have h := G.2.2.2.1 j hj
          have hIj := G.2.2.2.2.2.1 j hj
          have hne : ¬ Int32.ofNat j = -2 := neg_ne (by omega) (by decide)
          have X2 : ev X (d + 6) 101 [.ref 0, .int (Int32.ofNat l), .int (Int32.ofNat p), .int z] (sz, sl, sh, R, I, J) = exe X (d + 5) 101 45 [dm, dm, dm, .int z, .ref (W 3 l), .int (Int32.ofNat j), dm, dm, dm] [.ref (W 0 j)] (sz, sl, sh, R, I, J) := by
            rw [X1, ej, t101_37 hS rfl, s_stepAt hS G hj, ob_s]
            rfl
          by_cases z0 : z = 0
          · refine ⟨Int32.ofNat j, I, I, ?_, ?_, Sc.refl⟩
            · rw [X2, t101_45 rfl rfl, nn_ref, if_neg (fun y => y z0)]
            · rw [M1 I G L, ej, if_neg hne, if_neg (fun y => y z0)]
          · obtain ⟨I1, a1, a2⟩ := s_footL (X := X) (d := d + 3) (sz := sz) (sl := sl) (J := J) L hl (h := W 10 j) (w := W 11 j) (u := unl W j) (x := 0) (dn := 1) (s := 0) (b := 0)
            have G1 := a2.S G
            have L1 := a2.L L
            have hIj1 := G1.2.2.2.2.2.1 j hj
            obtain ⟨I2, b1, b2⟩ := s_footL (X := X) (d := d + 3) (sz := sz) (sl := sl) (J := J) L1 hl (h := W 10 j) (w := W 11 j) (u := 0) (x := 0) (dn := 1) (s := 0) (b := 0)
            have G2 := b2.S G1
            have L2 := b2.L L1
            obtain ⟨I3, c1, c2⟩ := s_takesOne (X := X) (d := d + 1) (sz := sz) (sl := sl) (J := J) hS G2 L2 hl hj (show p < 8 by omega) (show p < 8 by omega) (dn := 1) (s := 0) (b := 0) (u := 0)
            have G3 := c2.S G2
            have L3 := c2.L L2
            obtain ⟨I4, d1, d2⟩ := s_takesOne (X := X) (d := d + 1) (sz := sz) (sl := sl) (J := J) hS G3 L3 hl hj (show p < 8 by omega) (show p < 8 by omega) (dn := 1) (s := 0) (b := 0) (u := unl W j)
            have ed : dist p p = 0 := by unfold dist; omega
            rw [ed] at c1 d1
            rw [← k_0, ← k_1] at a1 b1 c1 d1
            have XX : ev X (d + 6) 101 [.ref 0, .int (Int32.ofNat l), .int (Int32.ofNat p), .int z] (sz, sl, sh, R, I, J) = exe X (d + 5) 101 108 [dm, dm, dm, dm, dm, dm, dm, .int (Int32.ofNat (tft (T l) (W 10 j) (W 11 j) (unl W j) 0 1 0 0)), dm] [.int (Int32.ofNat (tft (T l) (W 10 j) (W 11 j) 0 0 1 0 0))] (sz, sl, sh, R, I2, J) := by
              rw [X2, t101_45 rfl rfl, nn_ref, if_pos z0, rf_ref, if_pos h.2.1, rf_ref, if_pos h.2.1, rf_ref, if_pos h.2.1, s_unlikeX G hj, ob_s, hIj.1, hIj.2.1]
              show exe X (d + 5) 101 79 _ [.int _, .int _, .int _, .ref (W 3 l)] _ = _
              rw [t101_79 rfl rfl rfl, rf_ref, if_pos hL, a1, ob_s]
              show exe X (d + 5) 101 86 _ [.int _] _ = _
              rw [t101_86 rfl rfl, rf_ref, if_pos h.2.1, rf_ref, if_pos h.2.1, rf_ref, if_pos hL, hIj1.1, hIj1.2.1, b1, ob_s]
              rfl
            have MM : ev X (d + 6) 211 [.ref 37, .int (Int32.ofNat l), .int (Int32.ofNat p), .int z] (sz, sl, sh, R, I2, J) = exe X (d + 5) 211 120 [dm, dm, dm, dm, dm, dm, .int (Int32.ofNat (tft (T l) (W 10 j) (W 11 j) 0 0 1 0 0)), dm] [.int (Int32.ofNat (tft (T l) (W 10 j) (W 11 j) (unl W j) 0 1 0 0))] (sz, sl, sh, R, I4, J) := by
              rw [M1 I2 G2 L2, ej, em, if_neg hne, if_pos z0, c1, ob_s]
              show exe X (d + 5) 211 104 _ [.int _] _ = _
              rw [t211_104 hS, d1, ob_s]
              rfl
            have hsc := ((a2.trans b2).trans c2).trans d2
            by_cases e0 : Int32.ofNat (tft (T l) (W 10 j) (W 11 j) 0 0 1 0 0) = 0
            · exact ⟨0, I2, I4, by rw [XX, t101_108, if_neg (fun y => y e0)], by rw [MM, t211_120, if_neg (fun y => y e0)], hsc⟩
            · exact ⟨1000 * (Int32.ofNat (tft (T l) (W 10 j) (W 11 j) (unl W j) 0 1 0 0) - Int32.ofNat (tft (T l) (W 10 j) (W 11 j) 0 0 1 0 0)) / Int32.ofNat (tft (T l) (W 10 j) (W 11 j) 0 0 1 0 0), I2, I4, by rw [XX, t101_108, if_pos e0, if_neg e0, Int32.mul_comm], by rw [MM, t211_120, if_pos e0, if_neg e0], hsc⟩
      · refine ⟨-1, I, I, ?_, ?_, Sc.refl⟩
        · simp (disch := first | omega | exact ib_r | exact ib_n | exact isB_rfv _ | assumption) only [n101, t101_0 hS, t101_5, t101_19, t101_28 hS, s_lawAt hS L hl, s_within, hw, hz, ↓reduceIte, eq_self, and_self, and_true, true_and, not_true_eq_false, not_false_eq_true, ob_s, tl_s, tl_n, rf_ref, orf_ref, orf_null, nn_ref, nn_null, rfv_s, rfv_n, if_true, if_false, bi_01, bi_e0, bi_e1, or_t, Classical.not_not]
        · simp (disch := first | omega | exact ib_r | exact ib_n | exact isB_rfv _ | assumption) only [n211, t211_0 hS, t211_5, t211_15, t211_24, s_isLaw hS, hi, s_in, hw, hz, ↓reduceIte, eq_self, and_self, and_true, true_and, not_true_eq_false, not_false_eq_true, ob_s, tl_s, tl_n, rf_ref, orf_ref, orf_null, nn_ref, nn_null, rfv_s, rfv_n, if_true, if_false, bi_01, bi_e0, bi_e1, or_t, Classical.not_not]
    · refine ⟨-1, I, I, ?_, ?_, Sc.refl⟩
      · simp (disch := first | omega | exact ib_r | exact ib_n | exact isB_rfv _ | assumption) only [n101, t101_0 hS, t101_5, t101_19, s_lawAt hS L hl, s_within, hw, ↓reduceIte, eq_self, and_self, and_true, true_and, not_true_eq_false, not_false_eq_true, ob_s, tl_s, tl_n, rf_ref, orf_ref, orf_null, nn_ref, nn_null, rfv_s, rfv_n, if_true, if_false, bi_01, bi_e0, bi_e1, or_t, Classical.not_not]
      · simp (disch := first | omega | exact ib_r | exact ib_n | exact isB_rfv _ | assumption) only [n211, t211_0 hS, t211_5, t211_15, s_isLaw hS, hi, s_in, hw, ↓reduceIte, eq_self, and_self, and_true, true_and, not_true_eq_false, not_false_eq_true, ob_s, tl_s, tl_n, rf_ref, orf_ref, orf_null, nn_ref, nn_null, rfv_s, rfv_n, if_true, if_false, bi_01, bi_e0, bi_e1, or_t, Classical.not_not]
  · have hno := s_lawAt_no (X := X) (d := d + 3) (sz := sz) (sl := sl) (J := J) hS L hv
    have hi := hno.2
    refine ⟨-1, I, I, ?_, ?_, Sc.refl⟩
    · simp (disch := first | omega | exact ib_r | exact ib_n | exact isB_rfv _ | assumption) only [n101, t101_0 hS, t101_5, hno.1, ↓reduceIte, eq_self, and_self, and_true, true_and, not_true_eq_false, not_false_eq_true, ob_s, tl_s, tl_n, rf_ref, orf_ref, orf_null, nn_ref, nn_null, rfv_s, rfv_n, if_true, if_false, bi_01, bi_e0, bi_e1, or_t, Classical.not_not]
    · simp (disch := first | omega | exact ib_r | exact ib_n | exact isB_rfv _ | assumption) only [n211, t211_0 hS, t211_5, s_isLaw hS, hi, ↓reduceIte, eq_self, and_self, and_true, true_and, not_true_eq_false, not_false_eq_true, ob_s, tl_s, tl_n, rf_ref, orf_ref, orf_null, nn_ref, nn_null, rfv_s, rfv_n, if_true, if_false, bi_01, bi_e0, bi_e1, or_t, Classical.not_not]
end TAKE
