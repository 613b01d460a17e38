/-! NUMBERS: an int that isn't below zero is a natural number's -/
theorem n_lit (n : Nat) : (no_index (OfNat.ofNat n) : Int32) = Int32.ofNat n := rfl
theorem n_cl {n : Nat} (h : n < 2147483648) : (Int32.ofNat n).toNatClampNeg = n := Int32.toNatClampNeg_ofNat_of_lt h
theorem n_ti {n : Nat} (h : n < 2147483648) : (Int32.ofNat n).toInt = (n : Int) := Int32.toInt_ofNat_of_lt h
theorem n_lt {a b : Nat} (ha : a < 2147483648) (hb : b < 2147483648) : (Int32.ofNat a < Int32.ofNat b) = (a < b) := propext (Int32.ofNat_lt_iff_lt ha hb)
theorem n_le {a b : Nat} (ha : a < 2147483648) (hb : b < 2147483648) : (Int32.ofNat a ≤ Int32.ofNat b) = (a ≤ b) := propext (Int32.ofNat_le_iff_le ha hb)
theorem n_eq {a b : Nat} (ha : a < 2147483648) (hb : b < 2147483648) : (Int32.ofNat a = Int32.ofNat b) = (a = b) :=
  propext ⟨fun e => by have := congrArg Int32.toNatClampNeg e; rwa [n_cl ha, n_cl hb] at this, fun e => e ▸ rfl⟩
theorem n_add (a b : Nat) : Int32.ofNat a + Int32.ofNat b = Int32.ofNat (a + b) := (Int32.ofNat_add a b).symm
theorem n_mul (a b : Nat) : Int32.ofNat a * Int32.ofNat b = Int32.ofNat (a * b) := (Int32.ofNat_mul a b).symm
theorem n_sub {a b : Nat} (h : b ≤ a) : Int32.ofNat a - Int32.ofNat b = Int32.ofNat (a - b) := (Int32.ofNat_sub a b h).symm
theorem n_div {a b : Nat} (ha : a < 2147483648) (hb : b < 2147483648) : Int32.ofNat a / Int32.ofNat b = Int32.ofNat (a / b) := (Int32.ofNat_div ha hb).symm
theorem n_rem {a b : Nat} (ha : a < 2147483648) (hb : b < 2147483648) : Int32.ofNat a - Int32.ofNat a / Int32.ofNat b * Int32.ofNat b = Int32.ofNat (a % b) := by
  rw [n_div ha hb, n_mul, n_sub (Nat.div_mul_le_self a b)]
  congr 1
  have := Nat.div_add_mod a b
  have : a / b * b = b * (a / b) := Nat.mul_comm _ _
  omega
theorem n_of {v : Int32} (h : (0 : Int32) ≤ v) : ∃ j, j < 2147483648 ∧ v = Int32.ofNat j := ⟨v.toNatClampNeg, Int32.toNatClampNeg_lt v, (Int32.ofNat_toNatClampNeg v h).symm⟩
theorem n_ge {n : Nat} (h : n < 2147483648) : (0 : Int32) ≤ Int32.ofNat n := Int32.zero_le_ofNat_of_lt h
theorem n_inb {i n : Nat} (h : i < 2147483648) : inb (Int32.ofNat i) n = (i < n) := by
  unfold inb
  rw [n_cl h]
  refine propext ⟨fun z => Nat.lt_of_not_le fun y => z (Or.inr y), fun z y => ?_⟩
  rcases y with y | y
  · exact absurd (n_ge h) (Int32.not_le.mpr y)
  · omega
theorem n_64 {n : Nat} (h : n < 2147483648) : (Int32.ofNat n).toInt64 = Int64.ofNat n := Int64.toInt_inj.mp (by rw [Int32.toInt_toInt64, n_ti h, Int64.toInt_ofNat_of_lt (by omega)])
theorem nlt32 {a b : Int32} : (¬ a < b) = (b ≤ a) := propext Int32.not_lt
theorem nle32 {a b : Int32} : (¬ a ≤ b) = (b < a) := propext Int32.not_le
/-- within two bounds -/
theorem n_in {v : Int32} {a b : Nat} (hb : b < 2147483648) (h1 : Int32.ofNat a ≤ v) (h2 : v ≤ Int32.ofNat b) (ha : a < 2147483648) : ∃ j, a ≤ j ∧ j ≤ b ∧ v = Int32.ofNat j := by
  have h0 : (0 : Int32) ≤ v := by
    rw [Int32.le_iff_toInt_le] at h1 ⊢
    rw [n_ti ha] at h1
    show (0 : Int) ≤ _
    omega
  obtain ⟨j, hj, rfl⟩ := n_of h0
  rw [n_le ha hj] at h1
  rw [n_le hj hb] at h2
  exact ⟨j, h1, h2, rfl⟩
/-- a truth as an int -/
def bi (c : Prop) [Decidable c] : Int32 := if c then 1 else 0
theorem bi_e0 {c : Prop} [Decidable c] : (bi c = 0) = ¬ c := by
  unfold bi
  by_cases h : c
  · rw [if_pos h]; exact propext ⟨fun z => absurd z (by decide), fun z => absurd h z⟩
  · rw [if_neg h]; exact propext ⟨fun _ => h, fun _ => rfl⟩
theorem bi_e1 {c : Prop} [Decidable c] : (bi c = 1) = c := by
  unfold bi
  by_cases h : c
  · rw [if_pos h]; exact propext ⟨fun _ => h, fun _ => rfl⟩
  · rw [if_neg h]; exact propext ⟨fun z => absurd z (by decide), fun z => absurd z h⟩
theorem bi_01 {c : Prop} [Decidable c] : bi c = 0 ∨ bi c = 1 := by
  unfold bi
  by_cases h : c
  · rw [if_pos h]; exact Or.inr rfl
  · rw [if_neg h]; exact Or.inl rfl
theorem or_t {c : Prop} : (¬ c ∨ c) = True := propext ⟨fun _ => trivial, fun _ => (Classical.em c).symm⟩
theorem bi_t {c : Prop} [Decidable c] (h : c) : bi c = 1 := if_pos h
theorem bi_f {c : Prop} [Decidable c] (h : ¬ c) : bi c = 0 := if_neg h
/-! the heads of what is run -/
theorem ob_s {v : Rs} {f : Rs → Option Rs} : (some v).bind f = f v := rfl
theorem tl_s {v : Value} {l : List Value} : (some v).toList ++ l = v :: l := rfl
theorem tl_n {l : List Value} : (none : Option Value).toList ++ l = l := rfl
theorem rfv_s {a : Nat} : rfv (some a) = .ref a := rfl
theorem rfv_n : rfv none = .null := rfl
theorem ib_r {a : Nat} : isB (.ref a) = true := rfl
theorem ib_n : isB .null = true := rfl
/-! what reads little -/
section LEAF
variable {X : XX} {d : Nat} {sz sl : Nat} {sh : Nat → Nat × Nat} {R : Nat → Nat → Option Nat} {I : Nat → Nat → Int32} {J : Nat → Nat → Int64}
theorem s_within {a b c : Int32} : ev X (d + 1) 10 [.int a, .int b, .int c] (sz, sl, sh, R, I, J) = some (some (.int (bi (b ≤ a ∧ a ≤ c))), (sz, sl, sh, R, I, J)) := by
  rw [n10, t10_0]
  by_cases h1 : a < b
  · rw [if_pos h1, bi_f (fun z => absurd h1 (Int32.not_lt.mpr z.1))]
  · rw [if_neg h1]
    by_cases h2 : c < a
    · rw [if_pos h2, bi_f (fun z => absurd h2 (Int32.not_lt.mpr z.2))]
    · rw [if_neg h2, bi_t ⟨Int32.not_lt.mp h1, Int32.not_lt.mp h2⟩]
theorem s_in {a b c : Int32} : ev X (d + 1) 148 [.int a, .int b, .int c] (sz, sl, sh, R, I, J) = some (some (.int (bi (b ≤ a ∧ a ≤ c))), (sz, sl, sh, R, I, J)) := by
  rw [n148, t148_0]
  by_cases h1 : a < b
  · rw [if_pos h1, bi_f (fun z => absurd h1 (Int32.not_lt.mpr z.1))]
  · rw [if_neg h1]
    by_cases h2 : c < a
    · rw [if_pos h2, bi_f (fun z => absurd h2 (Int32.not_lt.mpr z.2))]
    · rw [if_neg h2, bi_t ⟨Int32.not_lt.mp h1, Int32.not_lt.mp h2⟩]
theorem s_isYear {a : Int32} : ev X (d + 2) 11 [.int a] (sz, sl, sh, R, I, J) = some (some (.int (bi (0 ≤ a ∧ a ≤ 2000))), (sz, sl, sh, R, I, J)) := by
  simp only [n11, t11_0, t11_8, s_within, and_self, and_true, true_and, not_true_eq_false, not_false_eq_true, ob_s, tl_s, tl_n, rf_ref, orf_ref, orf_null, nn_ref, nn_null, rfv_s, rfv_n, if_true, if_false, bi_01, bi_e0, bi_e1, or_t, Classical.not_not]
theorem s_isStep {a : Int32} (hS : SF sh R) : ev X (d + 2) 150 [.ref 37, .int a] (sz, sl, sh, R, I, J) = some (some (.int (bi (0 ≤ a ∧ a ≤ I 37 0 - 1))), (sz, sl, sh, R, I, J)) := by
  simp only [n150, t150_0 hS, t150_11, s_in, and_self, and_true, true_and, not_true_eq_false, not_false_eq_true, ob_s, tl_s, tl_n, rf_ref, orf_ref, orf_null, nn_ref, nn_null, rfv_s, rfv_n, if_true, if_false, bi_01, bi_e0, bi_e1, or_t, Classical.not_not]
theorem s_isLaw {a : Int32} (hS : SF sh R) : ev X (d + 2) 179 [.ref 37, .int a] (sz, sl, sh, R, I, J) = some (some (.int (bi (0 ≤ a ∧ a ≤ I 37 12 - 1))), (sz, sl, sh, R, I, J)) := by
  simp only [n179, t179_0 hS, t179_11, s_in, and_self, and_true, true_and, not_true_eq_false, not_false_eq_true, ob_s, tl_s, tl_n, rf_ref, orf_ref, orf_null, nn_ref, nn_null, rfv_s, rfv_n, if_true, if_false, bi_01, bi_e0, bi_e1, or_t, Classical.not_not]
theorem s_isShelf {a : Int32} : ev X (d + 2) 160 [.int a] (sz, sl, sh, R, I, J) = some (some (.int (bi (0 ≤ a ∧ a ≤ 5))), (sz, sl, sh, R, I, J)) := by
  simp only [n160, t160_0, t160_6, s_in, and_self, and_true, true_and, not_true_eq_false, not_false_eq_true, ob_s, tl_s, tl_n, rf_ref, orf_ref, orf_null, nn_ref, nn_null, rfv_s, rfv_n, if_true, if_false, bi_01, bi_e0, bi_e1, or_t, Classical.not_not]
theorem s_isKind {a : Int32} : ev X (d + 1) 117 [.int a] (sz, sl, sh, R, I, J) = some (some (.int (bi (0 ≤ a ∧ a ≤ 7))), (sz, sl, sh, R, I, J)) := by
  rw [n117, t117_0]
  by_cases h : 0 ≤ a ∧ a ≤ 7
  · rw [bi_t h]
    simp only [Int32.lt_iff_toInt_lt, Int32.le_iff_toInt_le, Int32.reduceToInt] at h ⊢
    rw [if_neg (by omega), if_neg (by omega)]
  · rw [bi_f h]
    simp only [Int32.lt_iff_toInt_lt, Int32.le_iff_toInt_le, Int32.reduceToInt] at h ⊢
    by_cases h1 : a.toInt < 0
    · rw [if_pos h1]
    · rw [if_neg h1, if_pos (by omega)]
end LEAF
