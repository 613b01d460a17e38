/-! SHARES: the class, the whole search -/
section FINDX2
variable {X : XX} {d : Nat} {sz sl : Nat} {sh : Nat → Nat × Nat} {R : Nat → Nat → Option Nat} {I I0 : Nat → Nat → Int32} {J : Nat → Nat → Int64} {W : WW} {ns nl : Nat} {T : Nat → List LN}
theorem s_left (hS : SF sh R) (G : GS W ns sh R I0) {i a : Nat} {U : Nat → Nat} (hi : i < ns) (hU : ∀ c, U c ≤ 19998) (ha : a ≤ 60) : ∀ (n c : Nat) (I : Nat → Nat → Int32), c + n = 8 → Sc W I0 I → (∀ j, j < 8 → I 8 j = Int32.ofNat (U j)) → (∀ j, j < c → (I 10 j).toInt = lf (fun c => W 15 (8 * i + c)) U a j) → ∃ I', exe X (d + 3) 79 73 [.ref 7, dm, .ref (W 0 i), dm, dm, .int (Int32.ofNat a), .int (Int32.ofNat c)] [] (sz, sl, sh, R, I, J) = exe X (d + 3) 79 73 [.ref 7, dm, .ref (W 0 i), dm, dm, .int (Int32.ofNat a), .int (Int32.ofNat 8)] [] (sz, sl, sh, R, I', J) ∧ (∀ j, j < 8 → (I' 10 j).toInt = lf (fun c => W 15 (8 * i + c)) U a j) ∧ (∀ j k, j ≠ 10 → I' j k = I j k)
  | 0, c, I, h, hs, h8, h10 => by
    obtain rfl : c = 8 := h
    exact ⟨I, rfl, h10, fun _ _ _ => rfl⟩
  | n + 1, c, I, h, hs, h8, h10 => by
    have G1 := hs.S G
    have hc : c < 8 := by omega
    have h2 := (G.2.2.2.1 i hi).2.1
    have g1 : W 15 (8 * i + c) ≤ 99999 := (G.2.2.2.2.2.2.2.2.1 i c hi hc).2.2.2.2.1
    have g2 : a * U c ≤ 60 * 19998 := Nat.mul_le_mul ha (hU c)
    have in8 : inb (Int32.ofNat c) 8 := by rw [n_inb (by omega)]; exact hc
    obtain ⟨I', a1, a2, a3⟩ := s_left hS G hi hU ha n (c + 1) (u2 I 10 c (Int32.ofNat (W 15 (8 * i + c)) - Int32.ofNat (a * U c))) (by omega) (hs.trans (Sc.set rfl)) (fun j hj => (u2_pa (by omega)).trans (h8 j hj)) (fun j hj => by
      by_cases q : j = c
      · rw [q]
        show (if 10 = 10 ∧ c = c then Int32.ofNat (W 15 (8 * i + c)) - Int32.ofNat (a * U c) else _).toInt = _
        rw [if_pos ⟨rfl, rfl⟩]
        show (Int32.ofNat (W 15 (8 * i + c)) - Int32.ofNat (a * U c)).toInt = ((W 15 (8 * i + c) : Nat) : Int) - ((a * U c : Nat) : Int)
        exact n_subI (n_ti (by omega)) (n_ti (by omega)) (by omega) (by omega)
      · show (if 10 = 10 ∧ j = c then _ else I 10 j).toInt = _
        rw [if_neg (by omega)]
        exact h10 j (by omega))
    refine ⟨I', ?_, a2, fun j k hj => (a3 j k hj).trans (u2_pa (by omega))⟩
    rw [← a1, t79_73 hS, if_neg (by rw [k_8, n_le (by decide) (by omega)]; omega), if_pos h2, s_measure G1 hi hc, ob_s]
    show exe X (d + 3) 79 92 _ [.int _, .int _, .ref 10] _ = _
    rw [t79_92 hS rfl, if_pos in8, rf_ref, if_pos ⟨by rw [zS10 hS], by rw [zS10 hS]; exact in8⟩, n_cl (by omega), h8 c hc, n_mul, n_suc]
theorem s_upsX (hS : SF sh R) (G : GS W ns sh R I0) {i : Nat} {U D : Nat → Nat} (hi : i < ns) (hU : ∀ c, U c ≤ 19998) (hD : ∀ c, D c ≤ 19998) : ∀ (n a : Nat) (s : Nat × Nat × Nat) (I : Nat → Nat → Int32), a + n = 61 → Sc W I0 I → stF I s → (∀ j, j < 8 → I 8 j = Int32.ofNat (U j)) → (∀ j, j < 8 → I 9 j = Int32.ofNat (D j)) → ∃ I', exe X (d + 3) 79 63 [.ref 7, dm, .ref (W 0 i), dm, dm, .int (Int32.ofNat a), dm] [] (sz, sl, sh, R, I, J) = some (none, (sz, sl, sh, R, I', J)) ∧ Sc W I0 I' ∧ stF I' (gup (ofN (fun c => W 15 (8 * i + c)) U D) n a s)
  | 0, a, s, I, h, hs, hst, h8, h9 => by
    obtain rfl : a = 61 := h
    refine ⟨I, ?_, hs, hst⟩
    rw [t79_63, if_pos (by decide)]
  | n + 1, a, s, I, h, hs, hst, h8, h9 => by
    have hm : ∀ c, c < 8 → (fun c => W 15 (8 * i + c)) c ≤ 99999 := fun c hc => (G.2.2.2.2.2.2.2.2.1 i c hi hc).2.2.2.2.1
    obtain ⟨I1, a1, a2, a3⟩ := s_left (X := X) (d := d) (sz := sz) (sl := sl) (J := J) (a := a) hS G hi hU (by omega) 8 0 I rfl hs h8 (fun j hj => absurd hj (by omega))
    have hs1 : Sc W I0 I1 := fun x k hc => (a3 x k (fun z => hc (by rw [z]; rfl))).trans (hs x k hc)
    obtain ⟨t1, t2, t3⟩ := hst
    have st1 : stF I1 s := ⟨(a3 7 5 (by omega)).trans t1, t2, t3.elim Or.inl (fun z => Or.inr ⟨(a3 7 3 (by omega)).trans z.1, (a3 7 4 (by omega)).trans z.2⟩)⟩
    obtain ⟨I2, b1, b2, b3⟩ := s_downs (X := X) (d := d + 1) (sz := sz) (sl := sl) (J := J) (a := a) hS hm hU hD (by omega) 61 0 s I1 rfl st1 (fun j hj => (a3 9 j (by omega)).trans (h9 j hj)) a2
    have hs2 : Sc W I0 I2 := fun x k hc => (b3 x k (Or.inl (fun z => hc (by rw [z]; rfl)))).trans (hs1 x k hc)
    have run : ev X (d + 3) 80 [.ref 7, .int (Int32.ofNat a)] (sz, sl, sh, R, I1, J) = some (none, (sz, sl, sh, R, I2, J)) := by
      rw [n80, t80_0]
      exact b1
    obtain ⟨I3, c1, c2, c3⟩ := s_upsX hS G hi hU hD n (a + 1) _ I2 (by omega) hs2 b2 (fun j hj => (b3 8 j (Or.inl (by omega))).trans ((a3 8 j (by omega)).trans (h8 j hj))) (fun j hj => (b3 9 j (Or.inl (by omega))).trans ((a3 9 j (by omega)).trans (h9 j hj)))
    refine ⟨I3, ?_, c2, c3⟩
    rw [t79_63, if_neg (by rw [k_60, n_lt (by decide) (by omega)]; omega)]
    refine Eq.trans a1 ?_
    rw [t79_73 hS, if_pos (by decide), run, ob_s]
    show exe X (d + 3) 79 116 _ [] _ = _
    rw [t79_116, n_suc]
    exact c1
theorem s_tkX (hS : SF sh R) (G : GS W ns sh R I0) (L : GL T W nl sh R I0) {l i p s : Nat} (hl : l < nl) (hi : i < ns) (hp : p < 8) : ∀ (n c : Nat) (I : Nat → Nat → Int32), c + n = 8 → Sc W I0 I → (∀ j, j < c → I 8 j = Int32.ofNat (tk W (T l) i j p 0 s 0) ∧ I 9 j = Int32.ofNat (tk W (T l) i j p 1 s 0)) → ∃ I', exe X (d + 3) 79 3 [.ref 7, .ref (W 3 l), .ref (W 0 i), .int (Int32.ofNat p), .int (Int32.ofNat s), .int (Int32.ofNat c), dm] [] (sz, sl, sh, R, I, J) = exe X (d + 3) 79 63 [.ref 7, dm, .ref (W 0 i), dm, dm, .int 0, dm] [] (sz, sl, sh, R, u2 I' 7 5 2000000000, J) ∧ Sc W I0 I' ∧ (∀ j, j < 8 → I' 8 j = Int32.ofNat (tk W (T l) i j p 0 s 0) ∧ I' 9 j = Int32.ofNat (tk W (T l) i j p 1 s 0))
  | 0, c, I, h, hs, h8 => by
    obtain rfl : c = 8 := h
    refine ⟨I, ?_, hs, h8⟩
    rw [t79_3 hS, if_pos (by decide)]
  | n + 1, c, I, h, hs, h8 => by
    have hc : c < 8 := by omega
    have hL := (L.2.2.2 l hl).2.2.2.2.2.1.1
    have in8 : inb (Int32.ofNat c) 8 := by rw [n_inb (by omega)]; exact hc
    obtain ⟨I1, a1, a2⟩ := s_takenAt2 (X := X) (d := d) (sz := sz) (sl := sl) (J := J) (hs.S G) (hs.L L) hl hi hc (p := p) (dn := 0) (s := s) (b := 0) hp (by decide)
    have hs1 : Sc W I0 (u2 I1 8 c (Int32.ofNat (tk W (T l) i c p 0 s 0))) := (hs.trans a2.1).trans (Sc.set rfl)
    obtain ⟨I2, b1, b2⟩ := s_takenAt2 (X := X) (d := d) (sz := sz) (sl := sl) (J := J) (hs1.S G) (hs1.L L) hl hi hc (p := p) (dn := 1) (s := s) (b := 0) hp (by decide)
    rw [← k_0] at a1 b1
    rw [← k_1] at b1
    have hs2 : Sc W I0 (u2 I2 9 c (Int32.ofNat (tk W (T l) i c p 1 s 0))) := (hs1.trans b2.1).trans (Sc.set rfl)
    obtain ⟨I3, c1, c2, c3⟩ := s_tkX hS G L hl hi hp n (c + 1) _ (by omega) hs2 (fun j hj => by
      have x8 : u2 I2 9 c (Int32.ofNat (tk W (T l) i c p 1 s 0)) 8 j = u2 I1 8 c (Int32.ofNat (tk W (T l) i c p 0 s 0)) 8 j := (u2_pa (by omega)).trans (b2.2 8 j (by omega) (by omega) (by omega))
      by_cases q : j = c
      · rw [x8, q]
        exact ⟨if_pos ⟨rfl, rfl⟩, if_pos ⟨rfl, rfl⟩⟩
      · have hj' := h8 j (by omega)
        rw [x8]
        constructor
        · show (if 8 = 8 ∧ j = c then _ else I1 8 j) = _
          rw [if_neg (by omega)]
          exact (a2.2 8 j (by omega) (by omega) (by omega)).trans hj'.1
        · show (if 9 = 9 ∧ j = c then _ else I2 9 j) = _
          rw [if_neg (by omega)]
          exact (b2.2 9 j (by omega) (by omega) (by omega)).trans ((u2_pa (by omega)).trans ((a2.2 9 j (by omega) (by omega) (by omega)).trans hj'.2)))
    refine ⟨I3, ?_, c2, c3⟩
    rw [t79_3 hS, if_neg (by rw [k_8, n_le (by decide) (by omega)]; omega), if_pos hL, a1, ob_s]
    show exe X (d + 3) 79 28 _ [.int _, .int _, .ref 8] _ = _
    rw [t79_28 hS rfl, rf_ref, if_pos ⟨by rw [zS8 hS], by rw [zS8 hS]; exact in8⟩, if_pos hL, n_cl (by omega), b1, ob_s]
    show exe X (d + 3) 79 47 _ [.int _, .int _, .ref 9] _ = _
    rw [t79_47 rfl, rf_ref, if_pos ⟨by rw [zS9 hS], by rw [zS9 hS]; exact in8⟩, n_cl (by omega), n_suc]
    exact c1
/-- what the search finds -/
def fnd (W : WW) (T : List LN) (i p s : Nat) : Nat × Nat × Nat := gup (ofN (fun c => W 15 (8 * i + c)) (fun c => tk W T i c p 0 s 0) (fun c => tk W T i c p 1 s 0)) 61 0 (2000000000, 0, 0)
theorem fnd_lt (G : GS W ns sh R I0) {i p s : Nat} {Tl : List LN} (hi : i < ns) : (fnd W Tl i p s).1 ≤ 19998072 := by
  have h := (gup_le (f := ofN (fun c => W 15 (8 * i + c)) (fun c => tk W Tl i c p 0 s 0) (fun c => tk W Tl i c p 1 s 0)) 61 0 (2000000000, 0, 0)).2 (by decide)
  have h2 := ofN_le (m := fun c => W 15 (8 * i + c)) (U := fun c => tk W Tl i c p 0 s 0) (D := fun c => tk W Tl i c p 1 s 0) (a := 0) (b := 0) (fun c hc => (G.2.2.2.2.2.2.2.2.1 i c hi hc).2.2.2.2.1) (fun _ => tk_le) (fun _ => tk_le) (by decide) (by decide)
  exact Nat.le_trans h h2
theorem s_findX (hS : SF sh R) (G : GS W ns sh R I) (L : GL T W nl sh R I) {l i p s : Nat} (hl : l < nl) (hi : i < ns) (hp : p < 8) : ∃ I', ev X (d + 4) 79 [.ref 7, .ref (W 3 l), .ref (W 0 i), .int (Int32.ofNat p), .int (Int32.ofNat s)] (sz, sl, sh, R, I, J) = some (none, (sz, sl, sh, R, I', J)) ∧ Sc W I I' ∧ I' 7 3 = Int32.ofNat (fnd W (T l) i p s).2.1 ∧ I' 7 4 = Int32.ofNat (fnd W (T l) i p s).2.2 ∧ I' 7 5 = Int32.ofNat (fnd W (T l) i p s).1 := by
  obtain ⟨I1, a1, a2, a3⟩ := s_tkX (X := X) (d := d) (sz := sz) (sl := sl) (J := J) (p := p) (s := s) hS G L hl hi hp 8 0 I rfl Sc.refl (fun j hj => absurd hj (by omega))
  have st0 : stF (u2 I1 7 5 2000000000) (2000000000, 0, 0) := ⟨by show (2000000000 : Int32) = Int32.ofNat 2000000000; exact k_2000000000, Nat.le_of_ble_eq_true rfl, Or.inl rfl⟩
  obtain ⟨I2, b1, b2, b3⟩ := s_upsX (X := X) (d := d) (sz := sz) (sl := sl) (J := J) (U := fun c => tk W (T l) i c p 0 s 0) (D := fun c => tk W (T l) i c p 1 s 0) hS G hi (fun _ => tk_le) (fun _ => tk_le) 61 0 (2000000000, 0, 0) (u2 I1 7 5 2000000000) rfl (a2.trans (Sc.set rfl)) st0 (fun j hj => (u2_pa (by omega)).trans (a3 j hj).1) (fun j hj => (u2_pa (by omega)).trans (a3 j hj).2)
  have lt := fnd_lt (Tl := T l) (p := p) (s := s) G hi
  have b4 : stF I2 (fnd W (T l) i p s) := b3
  clear b3
  generalize fnd W (T l) i p s = S at b4 lt ⊢
  obtain ⟨c1, c2, c3⟩ := b4
  have c4 : I2 7 3 = Int32.ofNat S.2.1 ∧ I2 7 4 = Int32.ofNat S.2.2 := c3.resolve_left (fun z => by omega)
  refine ⟨I2, ?_, b2, c4.1, c4.2, c1⟩
  rw [n79, t79_0]
  exact a1.trans b1
end FINDX2
