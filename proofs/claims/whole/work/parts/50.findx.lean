/-! SHARES: the class -/
section FINDX
variable {X : XX} {d : Nat} {sz sl : Nat} {sh : Nat → Nat × Nat} {R : Nat → Nat → Option Nat} {I I0 : Nat → Nat → Int32} {J : Nat → Nat → Int64} {W : WW} {ns nl : Nat} {T : Nat → List LN}
theorem Sc.set {a k : Nat} {v : Int32} (h : cI W a k = 0) : Sc W I (u2 I a k v) := fun b j hc => by
  unfold u2
  rw [if_neg (fun z => hc (by rw [z.1, z.2]; exact h))]
def lf (m U : Nat → Nat) (a c : Nat) : Int := (m c : Int) - (a * U c : Nat)
def of1 (m U D : Nat → Nat) (a b c : Nat) : Nat := (lf m U a c - (b * D c : Nat)).natAbs
def ofN (m U D : Nat → Nat) (a b : Nat) : Nat := sumf (of1 m U D a b) 0 8
/-- one a, the bs gone through -/
def gdn (f : Nat → Nat) (a : Nat) : Nat → Nat → Nat × Nat × Nat → Nat × Nat × Nat
  | 0, _, s => s
  | n + 1, b, s => gdn f a n (b + 1) (if s.1 ≤ f b then s else (f b, a, b))
def gup (f : Nat → Nat → Nat) : Nat → Nat → Nat × Nat × Nat → Nat × Nat × Nat
  | 0, _, s => s
  | n + 1, a, s => gup f n (a + 1) (gdn (f a) a 61 0 s)
theorem gdn_le {f : Nat → Nat} {a : Nat} : ∀ (n b : Nat) (s : Nat × Nat × Nat), (gdn f a n b s).1 ≤ s.1 ∧ (n ≠ 0 → (gdn f a n b s).1 ≤ f b)
  | 0, b, s => ⟨Nat.le_refl _, fun z => absurd rfl z⟩
  | n + 1, b, s => by
    unfold gdn
    have h := (gdn_le (f := f) (a := a) n (b + 1) (if s.1 ≤ f b then s else (f b, a, b))).1
    by_cases q : s.1 ≤ f b
    · rw [if_pos q] at h ⊢
      exact ⟨h, fun _ => by omega⟩
    · rw [if_neg q] at h ⊢
      have h' : (gdn f a n (b + 1) (f b, a, b)).1 ≤ f b := h
      exact ⟨by omega, fun _ => h'⟩
theorem gup_le {f : Nat → Nat → Nat} : ∀ (n a : Nat) (s : Nat × Nat × Nat), (gup f n a s).1 ≤ s.1 ∧ (n ≠ 0 → (gup f n a s).1 ≤ f a 0)
  | 0, a, s => ⟨Nat.le_refl _, fun z => absurd rfl z⟩
  | n + 1, a, s => by
    unfold gup
    have h := (gup_le (f := f) n (a + 1) (gdn (f a) a 61 0 s)).1
    have h2 := gdn_le (f := f a) (a := a) 61 0 s
    have h3 := h2.2 (by decide)
    exact ⟨by omega, fun _ => by omega⟩
/-- a state of the search -/
def stF (I : Nat → Nat → Int32) (s : Nat × Nat × Nat) : Prop := I 7 5 = Int32.ofNat s.1 ∧ s.1 ≤ 2000000000 ∧ (s.1 = 2000000000 ∨ I 7 3 = Int32.ofNat s.2.1 ∧ I 7 4 = Int32.ofNat s.2.2)
theorem n_absI {x : Int32} {v : Int} (h : x.toInt = v) (hv : v.natAbs < 2147483648) : (if 0 ≤ x then x else 0 - x) = Int32.ofNat v.natAbs := by
  have z0 : (0 : Int32).toInt = 0 := rfl
  by_cases q : 0 ≤ v
  · rw [if_pos (by rw [Int32.le_iff_toInt_le, z0, h]; exact q)]
    apply Int32.toInt_inj.mp
    rw [h, n_ti hv]
    omega
  · rw [if_neg (by rw [Int32.le_iff_toInt_le, z0, h]; exact q)]
    apply Int32.toInt_inj.mp
    rw [n_ti hv, Int32.toInt_sub, z0, h, Int.bmod_eq_of_le (by omega) (by omega)]
    omega
theorem n_subI {x y : Int32} {v w : Int} (h : x.toInt = v) (h2 : y.toInt = w) (hb : -2147483648 ≤ v - w) (hc : v - w < 2147483648) : (x - y).toInt = v - w := by
  rw [Int32.toInt_sub, h, h2, Int.bmod_eq_of_le (by omega) (by omega)]
theorem s_offBy {m U D : Nat → Nat} {a b best : Nat} (hS : SF sh R) (hm : ∀ c, c < 8 → m c ≤ 99999) (hU : ∀ c, U c ≤ 19998) (hD : ∀ c, D c ≤ 19998) (ha : a ≤ 60) (hb : b ≤ 60) (h5 : I 7 5 = Int32.ofNat best) (hbest : best ≤ 2000000000) (h9 : ∀ c, c < 8 → I 9 c = Int32.ofNat (D c)) (h10 : ∀ c, c < 8 → (I 10 c).toInt = lf m U a c) : ∀ (n c acc : Nat), c + n = 8 → acc ≤ c * 2499759 → ∃ v, exe X d 81 4 [.ref 7, .int (Int32.ofNat b), .int (Int32.ofNat acc), .int (Int32.ofNat c)] [] (sz, sl, sh, R, I, J) = some (some (.int (Int32.ofNat v)), (sz, sl, sh, R, I, J)) ∧ (best ≤ v ↔ best ≤ acc + sumf (of1 m U D a b) c n) ∧ (¬ best ≤ v → v = acc + sumf (of1 m U D a b) c n) ∧ v ≤ 19998072
  | 0, c, acc, h, hacc => by
    obtain rfl : c = 8 := h
    refine ⟨acc, ?_, by rw [show sumf (of1 m U D a b) 8 0 = 0 from rfl, Nat.add_zero], fun _ => rfl, by omega⟩
    rw [t81_4 hS, if_pos (by decide)]
  | n + 1, c, acc, h, hacc => by
    have g1 := hm c (by omega)
    have g2 : a * U c ≤ 60 * 19998 := Nat.mul_le_mul ha (hU c)
    have g3 : b * D c ≤ 60 * 19998 := Nat.mul_le_mul hb (hD c)
    have g4 : of1 m U D a b c ≤ 2499759 := by
      unfold of1 lf
      omega
    rw [t81_4 hS, if_neg (by rw [k_8, n_le (by decide) (by omega)]; omega), h5]
    by_cases q : best ≤ acc
    · refine ⟨acc, ?_, ⟨fun _ => by omega, fun _ => q⟩, fun z => absurd q z, by omega⟩
      rw [if_pos (by rw [n_le (by omega) (by omega)]; exact q)]
    · have e1 : (if 0 ≤ I 10 (Int32.ofNat c).toNatClampNeg - Int32.ofNat b * I 9 (Int32.ofNat c).toNatClampNeg then I 10 (Int32.ofNat c).toNatClampNeg - Int32.ofNat b * I 9 (Int32.ofNat c).toNatClampNeg else 0 - (I 10 (Int32.ofNat c).toNatClampNeg - Int32.ofNat b * I 9 (Int32.ofNat c).toNatClampNeg)) = Int32.ofNat (of1 m U D a b c) := by
        rw [n_cl (by omega), h9 c (by omega), n_mul]
        refine n_absI (v := lf m U a c - (b * D c : Nat)) (n_subI (h10 c (by omega)) (n_ti (by omega)) ?_ ?_) ?_
        · unfold lf; omega
        · unfold lf; omega
        · show of1 m U D a b c < _
          omega
      obtain ⟨v, a1, a2, a3, a4⟩ := s_offBy hS hm hU hD ha hb h5 hbest h9 h10 n (c + 1) (acc + of1 m U D a b c) (by omega) (by omega)
      rw [Nat.add_assoc] at a2 a3
      refine ⟨v, ?_, a2, a3, a4⟩
      rw [if_neg (by rw [n_le (by omega) (by omega)]; exact q), if_pos (by rw [n_inb (by omega)]; omega), if_pos (by rw [n_inb (by omega)]; omega), e1, n_add, n_suc]
      exact a1
theorem ofN_le {m U D : Nat → Nat} {a b : Nat} (hm : ∀ c, c < 8 → m c ≤ 99999) (hU : ∀ c, U c ≤ 19998) (hD : ∀ c, D c ≤ 19998) (ha : a ≤ 60) (hb : b ≤ 60) : ofN m U D a b ≤ 19998072 := by
  refine Nat.le_trans (sumf_le (B := 2499759) 8 0 (fun c _ hc => ?_)) (by decide)
  have g1 := hm c (by omega)
  have g2 : a * U c ≤ 60 * 19998 := Nat.mul_le_mul ha (hU c)
  have g3 : b * D c ≤ 60 * 19998 := Nat.mul_le_mul hb (hD c)
  unfold of1 lf
  omega
theorem s_downs {m U D : Nat → Nat} {a : Nat} (hS : SF sh R) (hm : ∀ c, c < 8 → m c ≤ 99999) (hU : ∀ c, U c ≤ 19998) (hD : ∀ c, D c ≤ 19998) (ha : a ≤ 60) : ∀ (n b : Nat) (s : Nat × Nat × Nat) (I : Nat → Nat → Int32), b + n = 61 → stF I s → (∀ c, c < 8 → I 9 c = Int32.ofNat (D c)) → (∀ c, c < 8 → (I 10 c).toInt = lf m U a c) → ∃ I', exe X (d + 1) 80 2 [.ref 7, .int (Int32.ofNat a), .int (Int32.ofNat b), dm] [] (sz, sl, sh, R, I, J) = some (none, (sz, sl, sh, R, I', J)) ∧ stF I' (gdn (ofN m U D a) a n b s) ∧ ∀ j k, j ≠ 7 ∨ k < 3 ∨ 5 < k → I' j k = I j k
  | 0, b, s, I, h, hs, h9, h10 => by
    obtain rfl : b = 61 := h
    refine ⟨I, ?_, hs, fun _ _ _ => rfl⟩
    rw [t80_2 hS, if_pos (by decide)]
  | n + 1, b, s, I, h, hs, h9, h10 => by
    obtain ⟨s1, s2, s3⟩ := hs
    obtain ⟨v, a1, a2, a3, a4⟩ := s_offBy (X := X) (d := d) (sz := sz) (sl := sl) (J := J) hS hm hU hD ha (b := b) (by omega) s1 s2 h9 h10 8 0 0 rfl (Nat.zero_le _)
    rw [Nat.zero_add] at a2 a3
    have hof : sumf (of1 m U D a b) 0 8 = ofN m U D a b := rfl
    rw [hof] at a2 a3
    have run : ev X (d + 1) 81 [.ref 7, .int (Int32.ofNat b)] (sz, sl, sh, R, I, J) = some (some (.int (Int32.ofNat v)), (sz, sl, sh, R, I, J)) := by
      rw [n81, t81_0]
      exact a1
    rw [t80_2 hS, if_neg (by rw [k_60, n_lt (by decide) (by omega)]; omega), run, ob_s, gdn]
    show ∃ I', exe X (d + 1) 80 13 _ [.int _] _ = _ ∧ _
    rw [t80_13 hS, s1]
    by_cases q : s.1 ≤ ofN m U D a b
    · obtain ⟨I', b1, b2, b3⟩ := s_downs hS hm hU hD ha n (b + 1) s I (by omega) ⟨s1, s2, s3⟩ h9 h10
      rw [if_pos (by rw [n_le (by omega) (by omega)]; exact a2.mpr q), if_pos q, n_suc]
      exact ⟨I', b1, b2, b3⟩
    · have hv := a3 (fun z => q (a2.mp z))
      subst hv
      obtain ⟨I', b1, b2, b3⟩ := s_downs hS hm hU hD ha n (b + 1) (ofN m U D a b, a, b) (u2 (u2 (u2 I 7 5 (Int32.ofNat (ofN m U D a b))) 7 3 (Int32.ofNat a)) 7 4 (Int32.ofNat b)) (by omega) ⟨rfl, by show ofN m U D a b ≤ _; omega, Or.inr ⟨rfl, rfl⟩⟩ h9 h10
      rw [if_neg (by rw [n_le (by omega) (by omega)]; exact q), if_neg q, n_suc]
      refine ⟨I', b1, b2, fun j k hj => (b3 j k hj).trans ?_⟩
      unfold u2
      rw [if_neg (by omega), if_neg (by omega), if_neg (by omega)]
end FINDX
