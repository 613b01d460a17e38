/-! SHARES: the reference -/
section FINDM
variable {X : XX} {d : Nat} {sz sl : Nat} {sh : Nat → Nat × Nat} {R : Nat → Nat → Option Nat} {I I0 : Nat → Nat → Int32} {J J0 : Nat → Nat → Int64} {W : WW} {ns nl : Nat} {T : Nat → List LN}
def stM (I : Nat → Nat → Int32) (J : Nat → Nat → Int64) (s : Nat × Nat × Nat) : Prop := s.1 ≤ 2000000000 ∧ (J 37 44 = -1 ∧ s.1 = 2000000000 ∨ J 37 44 = Int64.ofNat s.1 ∧ I 37 42 = Int32.ofNat s.2.1 ∧ I 37 43 = Int32.ofNat s.2.2)
theorem l_absI {x : Int64} {v : Int} (h : x.toInt = v) (hv : v.natAbs < 4611686018427387904) : (if 0 ≤ x then x else -x) = Int64.ofNat v.natAbs := by
  have z0 : (0 : Int64).toInt = 0 := rfl
  by_cases q : 0 ≤ v
  · rw [if_pos (by rw [Int64.le_iff_toInt_le, z0, h]; exact q)]
    apply Int64.toInt_inj.mp
    rw [h, l_ti (by omega)]
    omega
  · rw [if_neg (by rw [Int64.le_iff_toInt_le, z0, h]; exact q), ← Int64.zero_sub]
    apply Int64.toInt_inj.mp
    rw [l_ti (by omega), Int64.toInt_sub, z0, h, Int.bmod_eq_of_le (by omega) (by omega)]
    omega
theorem l_subI {x y : Int64} {v w : Int} (h : x.toInt = v) (h2 : y.toInt = w) (hb : -4611686018427387904 ≤ v - w) (hc : v - w < 4611686018427387904) : (x - y).toInt = v - w := by
  rw [Int64.toInt_sub, h, h2, Int.bmod_eq_of_le (by omega) (by omega)]
theorem s_sumM {m U D : Nat → Nat} {i a b : Nat} (hS : SF sh R) (hi : i < 40) (hm : ∀ c, c < 8 → m c ≤ 99999) (hU : ∀ c, U c ≤ 19998) (hD : ∀ c, D c ≤ 19998) (ha : a ≤ 60) (hb : b ≤ 60) (h42 : ∀ c, c < 8 → I 42 (8 * i + c) = Int32.ofNat (m c)) (h67 : ∀ c, c < 8 → I 67 c = Int32.ofNat (U c)) (h68 : ∀ c, c < 8 → I 68 c = Int32.ofNat (D c)) : ∀ (n c acc : Nat), c + n = 8 → exe X (d + 1) 200 99 [.ref 37, dm, .int (Int32.ofNat i), dm, .int (Int32.ofNat a), .int (Int32.ofNat b), .long (Int64.ofNat acc), dm, .int (Int32.ofNat c)] [] (sz, sl, sh, R, I, J) = exe X (d + 1) 200 99 [.ref 37, dm, .int (Int32.ofNat i), dm, .int (Int32.ofNat a), .int (Int32.ofNat b), .long (Int64.ofNat (acc + sumf (of1 m U D a b) c n)), dm, .int (Int32.ofNat 8)] [] (sz, sl, sh, R, I, J)
  | 0, c, acc, h => by
    obtain rfl : c = 8 := h
    rfl
  | n + 1, c, acc, h => by
    have hc : c < 8 := by omega
    have g1 := hm c hc
    have g2 : a * U c ≤ 60 * 19998 := Nat.mul_le_mul ha (hU c)
    have g3 : b * D c ≤ 60 * 19998 := Nat.mul_le_mul hb (hD c)
    have g4 : of1 m U D a b c ≤ 2499759 := by
      unfold of1 lf
      omega
    have gU := hU c
    have gD := hD c
    have e8 : (8 : Int32) * Int32.ofNat i + Int32.ofNat c = Int32.ofNat (8 * i + c) := by rw [k_8, n_mul, n_add]
    have v1 : (if (0 : Int64) ≤ Int64.ofNat (m c) - Int64.ofNat (a * U c) - Int64.ofNat (b * D c) then Int64.ofNat (m c) - Int64.ofNat (a * U c) - Int64.ofNat (b * D c) else -(Int64.ofNat (m c) - Int64.ofNat (a * U c) - Int64.ofNat (b * D c))) = Int64.ofNat (of1 m U D a b c) := by
      refine l_absI (v := lf m U a c - (b * D c : Nat)) (l_subI (v := lf m U a c) (w := (b * D c : Nat)) (l_subI (v := (m c : Nat)) (w := (a * U c : Nat)) (l_ti (by omega)) (l_ti (by omega)) (by omega) (by omega)) (l_ti (by omega)) ?_ ?_) ?_
      · unfold lf; omega
      · unfold lf; omega
      · show of1 m U D a b c < _
        omega
    rw [t200_99 hS, if_neg (by rw [k_8, n_le (by decide) (by omega)]; omega), e8, if_pos (by rw [n_inb (by omega)]; omega), if_pos (by rw [n_inb (by omega)]; exact hc), if_pos (by rw [n_inb (by omega)]; exact hc), n_cl (by omega), n_cl (by omega), h42 c hc, h67 c hc, h68 c hc, n_64 (by omega), n_64 (by omega), n_64 (by omega), n_64 (by omega), n_64 (by omega), l_mul, l_mul, s_size, v1, ob_s]
    show exe X (d + 1) 200 150 _ [.long _, .long _] _ = _
    rw [t200_150, l_add, n_suc, s_sumM hS hi hm hU hD ha hb h42 h67 h68 n (c + 1) _ (by omega), Nat.add_assoc]
    rfl
theorem s_bM {m U D : Nat → Nat} {i a : Nat} (hS : SF sh R) (hi : i < 40) (hm : ∀ c, c < 8 → m c ≤ 99999) (hU : ∀ c, U c ≤ 19998) (hD : ∀ c, D c ≤ 19998) (ha : a ≤ 60) : ∀ (n b : Nat) (s : Nat × Nat × Nat) (I : Nat → Nat → Int32) (J : Nat → Nat → Int64), b + n = 61 → stM I J s → (∀ c, c < 8 → I 42 (8 * i + c) = Int32.ofNat (m c)) → (∀ c, c < 8 → I 67 c = Int32.ofNat (U c)) → (∀ c, c < 8 → I 68 c = Int32.ofNat (D c)) → ∃ I' J', exe X (d + 1) 200 86 [.ref 37, dm, .int (Int32.ofNat i), dm, .int (Int32.ofNat a), .int (Int32.ofNat b), dm, dm, dm] [] (sz, sl, sh, R, I, J) = exe X (d + 1) 200 76 [.ref 37, dm, .int (Int32.ofNat i), dm, .int (Int32.ofNat (a + 1)), dm, dm, dm, dm] [] (sz, sl, sh, R, I', J') ∧ stM I' J' (gdn (ofN m U D a) a n b s) ∧ (∀ j k, ¬ (j = 37 ∧ (k = 42 ∨ k = 43)) → I' j k = I j k) ∧ (∀ j k, ¬ (j = 37 ∧ k = 44) → J' j k = J j k)
  | 0, b, s, I, J, h, hs, h42, h67, h68 => by
    obtain rfl : b = 61 := h
    refine ⟨I, J, ?_, hs, fun _ _ _ => rfl, fun _ _ _ => rfl⟩
    rw [t200_86, if_pos (by decide), n_suc]
  | n + 1, b, s, I, J, h, hs, h42, h67, h68 => by
    have e := s_sumM (X := X) (d := d) (sz := sz) (sl := sl) (J := J) (a := a) (b := b) hS hi hm hU hD ha (by omega) h42 h67 h68 8 0 0 rfl
    rw [Nat.zero_add] at e
    have hof : sumf (of1 m U D a b) 0 8 = ofN m U D a b := rfl
    rw [hof] at e
    have le := ofN_le (m := m) (U := U) (D := D) (a := a) (b := b) hm hU hD ha (by omega)
    have up : ∃ I' J', exe X (d + 1) 200 178 [.ref 37, dm, .int (Int32.ofNat i), dm, .int (Int32.ofNat a), .int (Int32.ofNat b), .long (Int64.ofNat (ofN m U D a b)), dm, dm] [] (sz, sl, sh, R, I, J) = exe X (d + 1) 200 76 [.ref 37, dm, .int (Int32.ofNat i), dm, .int (Int32.ofNat (a + 1)), dm, dm, dm, dm] [] (sz, sl, sh, R, I', J') ∧ stM I' J' (gdn (ofN m U D a) a n (b + 1) (ofN m U D a b, a, b)) ∧ (∀ j k, ¬ (j = 37 ∧ (k = 42 ∨ k = 43)) → I' j k = I j k) ∧ (∀ j k, ¬ (j = 37 ∧ k = 44) → J' j k = J j k) := by
      obtain ⟨I', J', b1, b2, b3, b4⟩ := s_bM hS hi hm hU hD ha n (b + 1) (ofN m U D a b, a, b) (u2 (u2 I 37 42 (Int32.ofNat a)) 37 43 (Int32.ofNat b)) (u2 J 37 44 (Int64.ofNat (ofN m U D a b))) (by omega) ⟨by show ofN m U D a b ≤ _; omega, Or.inr ⟨rfl, rfl, rfl⟩⟩ h42 h67 h68
      refine ⟨I', J', ?_, b2, fun j k hj => (b3 j k hj).trans ?_, fun j k hj => (b4 j k hj).trans ?_⟩
      · rw [t200_178 hS, n_suc]
        exact b1
      · unfold u2
        rw [if_neg (by omega), if_neg (by omega)]
      · unfold u2
        rw [if_neg hj]
    have first : exe X (d + 1) 200 86 [.ref 37, dm, .int (Int32.ofNat i), dm, .int (Int32.ofNat a), .int (Int32.ofNat b), dm, dm, dm] [] (sz, sl, sh, R, I, J) = (if J 37 44 < 0 then exe X (d + 1) 200 178 [.ref 37, dm, .int (Int32.ofNat i), dm, .int (Int32.ofNat a), .int (Int32.ofNat b), .long (Int64.ofNat (ofN m U D a b)), dm, dm] [] (sz, sl, sh, R, I, J) else if J 37 44 ≤ Int64.ofNat (ofN m U D a b) then exe X (d + 1) 200 86 [.ref 37, dm, .int (Int32.ofNat i), dm, .int (Int32.ofNat a), .int (Int32.ofNat b + 1), dm, dm, dm] [] (sz, sl, sh, R, I, J) else exe X (d + 1) 200 178 [.ref 37, dm, .int (Int32.ofNat i), dm, .int (Int32.ofNat a), .int (Int32.ofNat b), .long (Int64.ofNat (ofN m U D a b)), dm, dm] [] (sz, sl, sh, R, I, J)) := by
      rw [t200_86, if_neg (by rw [k_60, n_lt (by decide) (by omega)]; omega)]
      refine Eq.trans e ?_
      rw [t200_99 hS, if_pos (by decide)]
      simp only [c_lt, c_ge]
    rw [first, gdn]
    obtain ⟨s1, s2⟩ := hs
    rcases s2 with ⟨q1, q2⟩ | ⟨q1, q2, q3⟩
    · rw [if_pos (by rw [q1]; decide), if_neg (by omega)]
      exact up
    · rw [if_neg (by rw [q1, kl_0, l_lt (by omega) (by decide)]; omega), q1]
      by_cases q : s.1 ≤ ofN m U D a b
      · rw [if_pos (by rw [l_le (by omega) (by omega)]; exact q), if_pos q, n_suc]
        exact s_bM hS hi hm hU hD ha n (b + 1) s I J (by omega) ⟨s1, Or.inr ⟨q1, q2, q3⟩⟩ h42 h67 h68
      · rw [if_neg (by rw [l_le (by omega) (by omega)]; exact q), if_neg q]
        exact up
theorem s_aM {m U D : Nat → Nat} {i : Nat} (hS : SF sh R) (hi : i < 40) (hm : ∀ c, c < 8 → m c ≤ 99999) (hU : ∀ c, U c ≤ 19998) (hD : ∀ c, D c ≤ 19998) : ∀ (n a : Nat) (s : Nat × Nat × Nat) (I : Nat → Nat → Int32) (J : Nat → Nat → Int64), a + n = 61 → stM I J s → (∀ c, c < 8 → I 42 (8 * i + c) = Int32.ofNat (m c)) → (∀ c, c < 8 → I 67 c = Int32.ofNat (U c)) → (∀ c, c < 8 → I 68 c = Int32.ofNat (D c)) → ∃ I' J', exe X (d + 1) 200 76 [.ref 37, dm, .int (Int32.ofNat i), dm, .int (Int32.ofNat a), dm, dm, dm, dm] [] (sz, sl, sh, R, I, J) = some (none, (sz, sl, sh, R, I', J')) ∧ stM I' J' (gup (ofN m U D) n a s) ∧ (∀ j k, ¬ (j = 37 ∧ (k = 42 ∨ k = 43)) → I' j k = I j k) ∧ (∀ j k, ¬ (j = 37 ∧ k = 44) → J' j k = J j k)
  | 0, a, s, I, J, h, hs, h42, h67, h68 => by
    obtain rfl : a = 61 := h
    refine ⟨I, J, ?_, hs, fun _ _ _ => rfl, fun _ _ _ => rfl⟩
    rw [t200_76, if_pos (by decide)]
  | n + 1, a, s, I, J, h, hs, h42, h67, h68 => by
    obtain ⟨I1, J1, a1, a2, a3, a4⟩ := s_bM (X := X) (d := d) (sz := sz) (sl := sl) (a := a) hS hi hm hU hD (by omega) 61 0 s I J rfl hs h42 h67 h68
    obtain ⟨I2, J2, b1, b2, b3, b4⟩ := s_aM hS hi hm hU hD n (a + 1) _ I1 J1 (by omega) a2 (fun c hc => (a3 42 _ (by omega)).trans (h42 c hc)) (fun c hc => (a3 67 _ (by omega)).trans (h67 c hc)) (fun c hc => (a3 68 _ (by omega)).trans (h68 c hc))
    refine ⟨I2, J2, ?_, b2, fun j k hj => (b3 j k hj).trans (a3 j k hj), fun j k hj => (b4 j k hj).trans (a4 j k hj)⟩
    rw [t200_76, if_neg (by rw [k_60, n_lt (by decide) (by omega)]; omega)]
    exact a1.trans b1
theorem s_tkM (hS : SF sh R) (G : GS W ns sh R I0) (L : GL T W nl sh R I0) {l i p s : Nat} {z : Int32} (z1 : z / 10 = Int32.ofNat p) (z2 : z - Int32.ofNat p * 10 = Int32.ofNat s) (hl : l < nl) (hi : i < ns) (hp : p < 8) : ∀ (n c : Nat) (I : Nat → Nat → Int32), c + n = 8 → Sc W I0 I → (∀ j, j < c → I 67 j = Int32.ofNat (tk W (T l) i j p 0 s 0) ∧ I 68 j = Int32.ofNat (tk W (T l) i j p 1 s 0)) → ∃ I', exe X (d + 5) 200 3 [.ref 37, .int (Int32.ofNat l), .int (Int32.ofNat i), .int z, .int (Int32.ofNat c), dm, dm, dm, dm] [] (sz, sl, sh, R, I, J) = exe X (d + 5) 200 76 [.ref 37, dm, .int (Int32.ofNat i), dm, .int 0, dm, dm, dm, dm] [] (sz, sl, sh, R, I', u2 J 37 44 (-1)) ∧ Sc W I0 I' ∧ (∀ j, j < 8 → I' 67 j = Int32.ofNat (tk W (T l) i j p 0 s 0) ∧ I' 68 j = Int32.ofNat (tk W (T l) i j p 1 s 0))
  | 0, c, I, h, hs, h8 => by
    obtain rfl : c = 8 := h
    refine ⟨I, ?_, hs, h8⟩
    rw [t200_3 hS, if_pos (by decide)]
  | n + 1, c, I, h, hs, h8 => by
    have hc : c < 8 := by omega
    have in8 : inb (Int32.ofNat c) 8 := by rw [n_inb (by omega)]; exact hc
    obtain ⟨I1, a1, a2⟩ := s_takesOf2 (X := X) (d := d) (sz := sz) (sl := sl) (J := J) hS (hs.S G) (hs.L L) hl hi hc (p := p) (dn := 0) (s := s) (b := 0) hp (by decide)
    have hs1 : Sc W I0 (u2 I1 67 c (Int32.ofNat (tk W (T l) i c p 0 s 0))) := (hs.trans a2.1).trans (Sc.set rfl)
    obtain ⟨I2, b1, b2⟩ := s_takesOf2 (X := X) (d := d) (sz := sz) (sl := sl) (J := J) hS (hs1.S G) (hs1.L L) hl hi hc (p := p) (dn := 1) (s := s) (b := 0) hp (by decide)
    rw [← k_0] at a1 b1
    rw [← k_1] at b1
    have hs2 : Sc W I0 (u2 I2 68 c (Int32.ofNat (tk W (T l) i c p 1 s 0))) := (hs1.trans b2.1).trans (Sc.set rfl)
    obtain ⟨I3, c1, c2, c3⟩ := s_tkM hS G L z1 z2 hl hi hp n (c + 1) _ (by omega) hs2 (fun j hj => by
      have x8 : u2 I2 68 c (Int32.ofNat (tk W (T l) i c p 1 s 0)) 67 j = u2 I1 67 c (Int32.ofNat (tk W (T l) i c p 0 s 0)) 67 j := (u2_pa (by omega)).trans (b2.2 67 j (by omega) (by omega) (by omega))
      by_cases q : j = c
      · rw [x8, q]
        exact ⟨if_pos ⟨rfl, rfl⟩, if_pos ⟨rfl, rfl⟩⟩
      · have hj' := h8 j (by omega)
        rw [x8]
        constructor
        · show (if 67 = 67 ∧ j = c then _ else I1 67 j) = _
          rw [if_neg (by omega)]
          exact (a2.2 67 j (by omega) (by omega) (by omega)).trans hj'.1
        · show (if 68 = 68 ∧ j = c then _ else I2 68 j) = _
          rw [if_neg (by omega)]
          exact (b2.2 68 j (by omega) (by omega) (by omega)).trans ((u2_pa (by omega)).trans ((a2.2 68 j (by omega) (by omega) (by omega)).trans hj'.2)))
    refine ⟨I3, ?_, c2, c3⟩
    rw [t200_3 hS, if_neg (by rw [k_8, n_le (by decide) (by omega)]; omega), z1, z2, a1, ob_s]
    show exe X (d + 5) 200 34 _ [.int _, .int _, .ref 67] _ = _
    rw [t200_34 hS rfl, rf_ref, if_pos ⟨by rw [zS67 hS], by rw [zS67 hS]; exact in8⟩, z1, z2, n_cl (by omega), b1, ob_s]
    show exe X (d + 5) 200 59 _ [.int _, .int _, .ref 68] _ = _
    rw [t200_59 rfl, rf_ref, if_pos ⟨by rw [zS68 hS], by rw [zS68 hS]; exact in8⟩, n_cl (by omega), n_suc]
    exact c1
theorem s_findM (hS : SF sh R) (G : GS W ns sh R I) (L : GL T W nl sh R I) {l i p s : Nat} {z : Int32} (z1 : z / 10 = Int32.ofNat p) (z2 : z - Int32.ofNat p * 10 = Int32.ofNat s) (hl : l < nl) (hi : i < ns) (hp : p < 8) : ∃ I' J', ev X (d + 6) 200 [.ref 37, .int (Int32.ofNat l), .int (Int32.ofNat i), .int z] (sz, sl, sh, R, I, J) = some (none, (sz, sl, sh, R, I', J')) ∧ Sc W I I' ∧ I' 37 42 = Int32.ofNat (fnd W (T l) i p s).2.1 ∧ I' 37 43 = Int32.ofNat (fnd W (T l) i p s).2.2 ∧ J' 37 44 = Int64.ofNat (fnd W (T l) i p s).1 ∧ (∀ j k, ¬ (j = 37 ∧ k = 44) → J' j k = J j k) := by
  have h40 := G.1
  obtain ⟨I1, a1, a2, a3⟩ := s_tkM (X := X) (d := d) (sz := sz) (sl := sl) (J := J) (p := p) (s := s) hS G L z1 z2 hl hi hp 8 0 I rfl Sc.refl (fun j hj => absurd hj (by omega))
  have G1 := a2.S G
  have st0 : stM I1 (u2 J 37 44 (-1)) (2000000000, 0, 0) := ⟨Nat.le_of_ble_eq_true rfl, Or.inl ⟨rfl, rfl⟩⟩
  obtain ⟨I2, J2, b1, b2, b3, b4⟩ := s_aM (X := X) (d := d + 4) (sz := sz) (sl := sl) (i := i) (m := fun c => W 15 (8 * i + c)) (U := fun c => tk W (T l) i c p 0 s 0) (D := fun c => tk W (T l) i c p 1 s 0) hS (by omega) (fun c hc => (G.2.2.2.2.2.2.2.2.1 i c hi hc).2.2.2.2.1) (fun _ => tk_le) (fun _ => tk_le) 61 0 (2000000000, 0, 0) I1 (u2 J 37 44 (-1)) rfl st0 (fun c hc => (G1.2.2.2.2.2.2.2.2.1 i c hi hc).2.2.1) (fun j hj => (a3 j hj).1) (fun j hj => (a3 j hj).2)
  have lt := fnd_lt (Tl := T l) (p := p) (s := s) G hi
  have b5 : stM I2 J2 (fnd W (T l) i p s) := b2
  clear b2
  generalize fnd W (T l) i p s = S at b5 lt ⊢
  obtain ⟨c1, c2⟩ := b5
  have c3 := c2.resolve_left (fun z => by omega)
  refine ⟨I2, J2, ?_, a2.trans (fun a k hc => b3 a k ?_), c3.2.1, c3.2.2, c3.1, fun j k hj => (b4 j k hj).trans ?_⟩
  · rw [n200, t200_0]
    exact a1.trans b1
  · rintro ⟨rfl, rfl | rfl⟩
    · exact hc rfl
    · exact hc rfl
  · unfold u2
    rw [if_neg hj]
end FINDM
