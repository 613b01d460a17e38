/-! TAKES, with what stays -/
def Sf (W : WW) (I I' : Nat → Nat → Int32) : Prop := Sc W I I' ∧ ∀ a k, a < 71 → a ≠ 65 → a ≠ 66 → I' a k = I a k
theorem Sf.refl {W : WW} {I : Nat → Nat → Int32} : Sf W I I := ⟨Sc.refl, fun _ _ _ _ _ => rfl⟩
theorem Sf.trans {W : WW} {I I1 I2 : Nat → Nat → Int32} (h1 : Sf W I I1) (h2 : Sf W I1 I2) : Sf W I I2 := ⟨h1.1.trans h2.1, fun a k x y z => (h2.2 a k x y z).trans (h1.2 a k x y z)⟩
section TAKES2
variable {X : XX} {d : Nat} {sz sl : Nat} {sh : Nat → Nat × Nat} {R : Nat → Nat → Option Nat} {I I0 : Nat → Nat → Int32} {J : Nat → Nat → Int64} {W : WW} {ns nl : Nat} {T : Nat → List LN}
theorem Sf.S (h : Sf W I0 I) (G : GS W ns sh R I0) : GS W ns sh R I := h.1.S G
theorem Sf.L (h : Sf W I0 I) (G : GL T W nl sh R I0) : GL T W nl sh R I := h.1.L G
theorem s_footL2 (L : GL T W nl sh R I) {l : Nat} (hl : l < nl) {h w u x dn s b : Nat} : ∃ I', ev X (d + 2) 59 [.ref (W 3 l), .int (Int32.ofNat h), .int (Int32.ofNat w), .int (Int32.ofNat u), .int (Int32.ofNat x), .int (Int32.ofNat dn), .int (Int32.ofNat s), .int (Int32.ofNat b)] (sz, sl, sh, R, I, J) = some (some (.int (Int32.ofNat (tft (T l) h w u x dn s b))), (sz, sl, sh, R, I', J)) ∧ Sf W I I' := by
  obtain ⟨h4, e1, e2, g⟩ := L
  obtain ⟨q1, m3, m4, m5, m6, O, hw, c1, hm, e47, c2⟩ := g l hl
  obtain ⟨I', a1, a2⟩ := s_foot (X := X) (d := d) (sz := sz) (sl := sl) (J := J) O (a0 := Int32.ofNat h) (a1 := Int32.ofNat w) (a2 := Int32.ofNat u) (a3 := Int32.ofNat x) (a4 := Int32.ofNat dn) (a5 := Int32.ofNat s) (a6 := Int32.ofNat b) hw rfl c1
  refine ⟨I', a1, fun a k hc => a2 a k (fun z => hc ?_) (fun z => hc ?_), fun a k ha _ _ => a2 a k (by have := m5.1; omega) (by have := m6.1; omega)⟩
  · rw [z, m5.cI, dyc0 (by omega)]
  · rw [z, m6.cI, dyc0' (by omega)]
theorem s_takenAt2 (G : GS W ns sh R I) (L : GL T W nl sh R I) {l i c p dn s b : Nat} (hl : l < nl) (hi : i < ns) (hc : c < 8) (hp : p < 8) (hb : b < 2147483648) : ∃ I', ev X (d + 3) 58 [.ref (W 3 l), .ref (W 0 i), .int (Int32.ofNat c), .int (Int32.ofNat p), .int (Int32.ofNat dn), .int (Int32.ofNat s), .int (Int32.ofNat b)] (sz, sl, sh, R, I, J) = some (some (.int (Int32.ofNat (tk W (T l) i c p dn s b))), (sz, sl, sh, R, I', J)) ∧ Sf W I I' := by
  have h := G.2.2.2.1 i hi
  have hI := G.2.2.2.2.2.1 i hi
  have hL := (L.2.2.2 l hl).2.2.2.2.2.1.1
  obtain ⟨I1, a1, a2⟩ := s_footL2 (X := X) (d := d) (sz := sz) (sl := sl) (J := J) L hl (h := W 10 i) (w := W 11 i) (u := unl W i) (x := dist c p) (dn := dn) (s := s) (b := b)
  have e1 := n_abs (show c < 2147483648 by omega) (show p < 2147483648 by omega)
  have first : ev X (d + 3) 58 [.ref (W 3 l), .ref (W 0 i), .int (Int32.ofNat c), .int (Int32.ofNat p), .int (Int32.ofNat dn), .int (Int32.ofNat s), .int (Int32.ofNat b)] (sz, sl, sh, R, I, J) = exe X (d + 2) 58 36 [.ref (W 3 l), .ref (W 0 i), .int (Int32.ofNat c), .int (Int32.ofNat p), .int (Int32.ofNat dn), .int (Int32.ofNat s), .int (Int32.ofNat b), .int (Int32.ofNat (unl W i)), dm, dm, dm] [.int (Int32.ofNat (tft (T l) (W 10 i) (W 11 i) (unl W i) (dist c p) dn s b))] (sz, sl, sh, R, I1, J) := by
    rw [n58, t58_0 hL, if_pos h.2.1, s_unlikeX G hi, ob_s]
    show exe X (d + 2) 58 4 _ [.int _] _ = _
    rw [t58_4 hL, rf_ref, if_pos h.2.1, rf_ref, if_pos h.2.1, hI.1, hI.2.1, e1, show c - p + (p - c) = dist c p from rfl, a1, ob_s]
    rfl
  by_cases b0 : b = 0
  · subst b0
    refine ⟨I1, ?_, a2⟩
    rw [first, t58_36 hL, if_neg (fun z => z rfl)]
    unfold tk
    rw [if_pos rfl, Nat.add_zero]
  · have bz : ¬ Int32.ofNat b = 0 := by rw [k_0, n_eq hb (by decide)]; exact b0
    have G1 := a2.S G
    have L1 := a2.L L
    have hI1 := G1.2.2.2.2.2.1 i hi
    obtain ⟨I2, b1, b2⟩ := s_footL2 (X := X) (d := d) (sz := sz) (sl := sl) (J := J) L1 hl (h := W 10 i) (w := W 11 i) (u := unl W i) (x := dist c (7 - p)) (dn := dn) (s := s) (b := b)
    have e2 := n_abs (show c < 2147483648 by omega) (show 7 - p < 2147483648 by omega)
    have e7 : (7 : Int32) - Int32.ofNat p = Int32.ofNat (7 - p) := by rw [k_7, n_sub (by omega)]
    refine ⟨I2, ?_, a2.trans b2⟩
    rw [first, t58_36 hL, if_pos bz, rf_ref, if_pos h.2.1, rf_ref, if_pos h.2.1, hI1.1, hI1.2.1, e7, e2, show c - (7 - p) + (7 - p - c) = dist c (7 - p) from rfl, b1, ob_s]
    show exe X (d + 2) 58 81 _ [.int _, .int _] _ = _
    rw [t58_81, n_add]
    unfold tk
    rw [if_neg b0]
theorem s_takesOne2 (hS : SF sh R) (G : GS W ns sh R I) (L : GL T W nl sh R I) {l i c p dn s b u : Nat} (hl : l < nl) (hi : i < ns) (hc : c < 8) (hp : p < 8) : ∃ I', ev X (d + 4) 181 [.ref 37, .int (Int32.ofNat l), .int (Int32.ofNat i), .int (Int32.ofNat c), .int (Int32.ofNat p), .int (Int32.ofNat dn), .int (Int32.ofNat s), .int (Int32.ofNat b), .int (Int32.ofNat u)] (sz, sl, sh, R, I, J) = some (some (.int (Int32.ofNat (tft (T l) (W 10 i) (W 11 i) u (dist c p) dn s b))), (sz, sl, sh, R, I', J)) ∧ Sf W I I' := by
  obtain ⟨q1, m3, m4, m5, m6, O, hw, c1, hm, e47, c2⟩ := L.2.2.2 l hl
  have g4 := G.2.2.2.2.2.2.1 i hi
  have h40 := G.1
  have h4 := L.1
  obtain ⟨I', a1, a2⟩ := s_worth (X := X) (d := d) (sz := sz) (sl := sl) (J := J) hS (show l < 4 by omega) (show i < 40 by omega) (a2 := Int32.ofNat u) (a3 := Int32.ofNat (dist c p)) (a4 := Int32.ofNat dn) (a5 := Int32.ofNat s) (a6 := Int32.ofNat b) hw hm e47 c2
  rw [g4.1, g4.2.1] at a1
  refine ⟨I', ?_, fun a k hc => a2 a k (fun z => hc (by rw [z]; rfl)) (fun z => hc (by rw [z]; rfl)), fun a k _ x y => a2 a k x y⟩
  have first : ev X (d + 4) 181 [.ref 37, .int (Int32.ofNat l), .int (Int32.ofNat i), .int (Int32.ofNat c), .int (Int32.ofNat p), .int (Int32.ofNat dn), .int (Int32.ofNat s), .int (Int32.ofNat b), .int (Int32.ofNat u)] (sz, sl, sh, R, I, J) = exe X (d + 3) 181 17 [.ref 37, .int (Int32.ofNat l), .int (Int32.ofNat i), dm, dm, .int (Int32.ofNat dn), .int (Int32.ofNat s), .int (Int32.ofNat b), .int (Int32.ofNat u), dm, dm] [.int (Int32.ofNat (dist c p))] (sz, sl, sh, R, I, J) := by
    rw [n181, t181_0]
    unfold dist
    by_cases h : p ≤ c
    · rw [if_pos (by rw [n_le (by omega) (by omega)]; exact h), n_sub h, Nat.sub_eq_zero_of_le h, Nat.add_zero (c - p)]
    · rw [if_neg (by rw [n_le (by omega) (by omega)]; exact h), n_sub (by omega), Nat.sub_eq_zero_of_le (show c ≤ p by omega), Nat.zero_add (p - c)]
  rw [first, t181_17 hS, a1, ob_s]
  show exe X (d + 3) 181 35 _ [.int _] _ = _
  rw [t181_35]
  exact clN_M (A := fun v => some (some (.int v), (sz, sl, sh, R, I', J)))
theorem s_takesOf2 (hS : SF sh R) (G : GS W ns sh R I) (L : GL T W nl sh R I) {l i c p dn s b : Nat} (hl : l < nl) (hi : i < ns) (hc : c < 8) (hp : p < 8) (hb : b < 2147483648) : ∃ I', ev X (d + 5) 180 [.ref 37, .int (Int32.ofNat l), .int (Int32.ofNat i), .int (Int32.ofNat c), .int (Int32.ofNat p), .int (Int32.ofNat dn), .int (Int32.ofNat s), .int (Int32.ofNat b)] (sz, sl, sh, R, I, J) = some (some (.int (Int32.ofNat (tk W (T l) i c p dn s b))), (sz, sl, sh, R, I', J)) ∧ Sf W I I' := by
  obtain ⟨I1, a1, a2⟩ := s_takesOne2 (X := X) (d := d) (sz := sz) (sl := sl) (J := J) hS G L hl hi hc hp (dn := dn) (s := s) (b := b) (u := unl W i)
  have first : ev X (d + 5) 180 [.ref 37, .int (Int32.ofNat l), .int (Int32.ofNat i), .int (Int32.ofNat c), .int (Int32.ofNat p), .int (Int32.ofNat dn), .int (Int32.ofNat s), .int (Int32.ofNat b)] (sz, sl, sh, R, I, J) = exe X (d + 4) 180 20 [.ref 37, .int (Int32.ofNat l), .int (Int32.ofNat i), .int (Int32.ofNat c), .int (Int32.ofNat p), .int (Int32.ofNat dn), .int (Int32.ofNat s), .int (Int32.ofNat b), dm] [.int (Int32.ofNat (tft (T l) (W 10 i) (W 11 i) (unl W i) (dist c p) dn s b))] (sz, sl, sh, R, I1, J) := by
    rw [n180, t180_0 hS, s_unlikeM hS G hi, ob_s]
    show exe X (d + 4) 180 17 _ [.int _, .int _, .int _, .int _, .int _, .int _, .int _, .int _, .ref 37] _ = _
    rw [t180_17 rfl, rf_ref, if_pos (zS37 hS), a1, ob_s]
    rfl
  by_cases b0 : b = 0
  · subst b0
    refine ⟨I1, ?_, a2⟩
    rw [first, t180_20 hS, if_neg (fun z => z rfl)]
    unfold tk
    rw [if_pos rfl, Nat.add_zero]
  · have bz : ¬ Int32.ofNat b = 0 := by rw [k_0, n_eq hb (by decide)]; exact b0
    have G1 := a2.S G
    have L1 := a2.L L
    obtain ⟨I2, b1, b2⟩ := s_takesOne2 (X := X) (d := d) (sz := sz) (sl := sl) (J := J) hS G1 L1 hl hi hc (show 7 - p < 8 by omega) (dn := dn) (s := s) (b := b) (u := unl W i)
    have e7 : (7 : Int32) - Int32.ofNat p = Int32.ofNat (7 - p) := by rw [k_7, n_sub (by omega)]
    refine ⟨I2, ?_, a2.trans b2⟩
    rw [first, t180_20 hS, if_pos bz, e7, s_unlikeM hS G1 hi, ob_s]
    show exe X (d + 4) 180 54 _ [.int _, .int _, .int _, .int _, .int _, .int _, .int _, .int _, .ref 37, .int _] _ = _
    rw [t180_54 rfl, rf_ref, if_pos (zS37 hS), b1, ob_s]
    show exe X (d + 4) 180 57 _ [.int _, .int _] _ = _
    rw [t180_57, n_add]
    unfold tk
    rw [if_neg b0]
end TAKES2
