/-! NUMBERS: an int that isn't below zero is a natural number's -/
theorem k_0 : (0 : Int32) = Int32.ofNat 0 := rfl
theorem k_1 : (1 : Int32) = Int32.ofNat 1 := rfl
theorem k_2 : (2 : Int32) = Int32.ofNat 2 := rfl
theorem k_3 : (3 : Int32) = Int32.ofNat 3 := rfl
theorem k_4 : (4 : Int32) = Int32.ofNat 4 := rfl
theorem k_5 : (5 : Int32) = Int32.ofNat 5 := rfl
theorem k_6 : (6 : Int32) = Int32.ofNat 6 := rfl
theorem k_7 : (7 : Int32) = Int32.ofNat 7 := rfl
theorem k_8 : (8 : Int32) = Int32.ofNat 8 := rfl
theorem k_9 : (9 : Int32) = Int32.ofNat 9 := rfl
theorem k_10 : (10 : Int32) = Int32.ofNat 10 := rfl
theorem k_11 : (11 : Int32) = Int32.ofNat 11 := rfl
theorem k_12 : (12 : Int32) = Int32.ofNat 12 := rfl
theorem k_13 : (13 : Int32) = Int32.ofNat 13 := rfl
theorem k_14 : (14 : Int32) = Int32.ofNat 14 := rfl
theorem k_15 : (15 : Int32) = Int32.ofNat 15 := rfl
theorem k_16 : (16 : Int32) = Int32.ofNat 16 := rfl
theorem k_17 : (17 : Int32) = Int32.ofNat 17 := rfl
theorem k_18 : (18 : Int32) = Int32.ofNat 18 := rfl
theorem k_19 : (19 : Int32) = Int32.ofNat 19 := rfl
theorem k_20 : (20 : Int32) = Int32.ofNat 20 := rfl
theorem k_21 : (21 : Int32) = Int32.ofNat 21 := rfl
theorem k_22 : (22 : Int32) = Int32.ofNat 22 := rfl
theorem k_24 : (24 : Int32) = Int32.ofNat 24 := rfl
theorem k_30 : (30 : Int32) = Int32.ofNat 30 := rfl
theorem k_32 : (32 : Int32) = Int32.ofNat 32 := rfl
theorem k_33 : (33 : Int32) = Int32.ofNat 33 := rfl
theorem k_37 : (37 : Int32) = Int32.ofNat 37 := rfl
theorem k_38 : (38 : Int32) = Int32.ofNat 38 := rfl
theorem k_39 : (39 : Int32) = Int32.ofNat 39 := rfl
theorem k_40 : (40 : Int32) = Int32.ofNat 40 := rfl
theorem k_41 : (41 : Int32) = Int32.ofNat 41 := rfl
theorem k_42 : (42 : Int32) = Int32.ofNat 42 := rfl
theorem k_43 : (43 : Int32) = Int32.ofNat 43 := rfl
theorem k_45 : (45 : Int32) = Int32.ofNat 45 := rfl
theorem k_47 : (47 : Int32) = Int32.ofNat 47 := rfl
theorem k_48 : (48 : Int32) = Int32.ofNat 48 := rfl
theorem k_50 : (50 : Int32) = Int32.ofNat 50 := rfl
theorem k_57 : (57 : Int32) = Int32.ofNat 57 := rfl
theorem k_59 : (59 : Int32) = Int32.ofNat 59 := rfl
theorem k_60 : (60 : Int32) = Int32.ofNat 60 := rfl
theorem k_61 : (61 : Int32) = Int32.ofNat 61 := rfl
theorem k_62 : (62 : Int32) = Int32.ofNat 62 := rfl
theorem k_63 : (63 : Int32) = Int32.ofNat 63 := rfl
theorem k_70 : (70 : Int32) = Int32.ofNat 70 := rfl
theorem k_79 : (79 : Int32) = Int32.ofNat 79 := rfl
theorem k_80 : (80 : Int32) = Int32.ofNat 80 := rfl
theorem k_81 : (81 : Int32) = Int32.ofNat 81 := rfl
theorem k_99 : (99 : Int32) = Int32.ofNat 99 := rfl
theorem k_100 : (100 : Int32) = Int32.ofNat 100 := rfl
theorem k_120 : (120 : Int32) = Int32.ofNat 120 := rfl
theorem k_124 : (124 : Int32) = Int32.ofNat 124 := rfl
theorem k_130 : (130 : Int32) = Int32.ofNat 130 := rfl
theorem k_200 : (200 : Int32) = Int32.ofNat 200 := rfl
theorem k_241 : (241 : Int32) = Int32.ofNat 241 := rfl
theorem k_255 : (255 : Int32) = Int32.ofNat 255 := rfl
theorem k_256 : (256 : Int32) = Int32.ofNat 256 := rfl
theorem k_320 : (320 : Int32) = Int32.ofNat 320 := rfl
theorem k_360 : (360 : Int32) = Int32.ofNat 360 := rfl
theorem k_799 : (799 : Int32) = Int32.ofNat 799 := rfl
theorem k_800 : (800 : Int32) = Int32.ofNat 800 := rfl
theorem k_1000 : (1000 : Int32) = Int32.ofNat 1000 := rfl
theorem k_2000 : (2000 : Int32) = Int32.ofNat 2000 := rfl
theorem k_3200 : (3200 : Int32) = Int32.ofNat 3200 := rfl
theorem k_7999 : (7999 : Int32) = Int32.ofNat 7999 := rfl
theorem k_9999 : (9999 : Int32) = Int32.ofNat 9999 := rfl
theorem k_10000 : (10000 : Int32) = Int32.ofNat 10000 := rfl
theorem k_12345 : (12345 : Int32) = Int32.ofNat 12345 := rfl
theorem k_20000 : (20000 : Int32) = Int32.ofNat 20000 := rfl
theorem k_20045 : (20045 : Int32) = Int32.ofNat 20045 := rfl
theorem k_20059 : (20059 : Int32) = Int32.ofNat 20059 := rfl
theorem k_20061 : (20061 : Int32) = Int32.ofNat 20061 := rfl
theorem k_20063 : (20063 : Int32) = Int32.ofNat 20063 := rfl
theorem k_99999 : (99999 : Int32) = Int32.ofNat 99999 := rfl
theorem k_100000 : (100000 : Int32) = Int32.ofNat 100000 := rfl
theorem k_999999 : (999999 : Int32) = Int32.ofNat 999999 := rfl
theorem k_252645135 : (252645135 : Int32) = Int32.ofNat 252645135 := rfl
theorem k_858993459 : (858993459 : Int32) = Int32.ofNat 858993459 := rfl
theorem k_1103515245 : (1103515245 : Int32) = Int32.ofNat 1103515245 := rfl
theorem k_1431655765 : (1431655765 : Int32) = Int32.ofNat 1431655765 := rfl
theorem k_2000000000 : (2000000000 : Int32) = Int32.ofNat 2000000000 := rfl
theorem n_cl {n : Nat} (h : n < 2147483648) : (Int32.ofNat n).toNatClampNeg = n := Int32.toNatClampNeg_ofNat_of_lt h
theorem n_ti {n : Nat} (h : n < 2147483648) : (Int32.ofNat n).toInt = (n : Int) := Int32.toInt_ofNat_of_lt h
theorem n_lt {a b : Nat} (ha : a < 2147483648) (hb : b < 2147483648) : (Int32.ofNat a < Int32.ofNat b) = (a < b) := propext (Int32.ofNat_lt_iff_lt ha hb)
theorem n_le {a b : Nat} (ha : a < 2147483648) (hb : b < 2147483648) : (Int32.ofNat a ≤ Int32.ofNat b) = (a ≤ b) := propext (Int32.ofNat_le_iff_le ha hb)
theorem n_eq {a b : Nat} (ha : a < 2147483648) (hb : b < 2147483648) : (Int32.ofNat a = Int32.ofNat b) = (a = b) :=
  propext ⟨fun e => by have := congrArg Int32.toNatClampNeg e; rwa [n_cl ha, n_cl hb] at this, fun e => e ▸ rfl⟩
theorem n_add (a b : Nat) : Int32.ofNat a + Int32.ofNat b = Int32.ofNat (a + b) := (Int32.ofNat_add a b).symm
theorem n_mul (a b : Nat) : Int32.ofNat a * Int32.ofNat b = Int32.ofNat (a * b) := (Int32.ofNat_mul a b).symm
theorem n_sub {a b : Nat} (h : b ≤ a) : Int32.ofNat a - Int32.ofNat b = Int32.ofNat (a - b) := (Int32.ofNat_sub a b h).symm
theorem n_div {a b : Nat} (ha : a < 2147483648) (hb : b < 2147483648) : Int32.ofNat a / Int32.ofNat b = Int32.ofNat (a / b) := (Int32.ofNat_div ha hb).symm
theorem n_rem {a b : Nat} (ha : a < 2147483648) (hb : b < 2147483648) : Int32.ofNat a - Int32.ofNat a / Int32.ofNat b * Int32.ofNat b = Int32.ofNat (a % b) := by
  rw [n_div ha hb, n_mul, n_sub (Nat.div_mul_le_self a b)]
  congr 1
  have := Nat.div_add_mod a b
  have : a / b * b = b * (a / b) := Nat.mul_comm _ _
  omega
/-- the rest, once the quotient stands -/
theorem n_rem' {a b : Nat} : Int32.ofNat a - Int32.ofNat (a / b) * Int32.ofNat b = Int32.ofNat (a % b) := by
  rw [n_mul, n_sub (Nat.div_mul_le_self a b)]
  congr 1
  have := Nat.div_add_mod a b
  have : a / b * b = b * (a / b) := Nat.mul_comm _ _
  omega
theorem n_of {v : Int32} (h : (0 : Int32) ≤ v) : ∃ j, j < 2147483648 ∧ v = Int32.ofNat j := ⟨v.toNatClampNeg, Int32.toNatClampNeg_lt v, (Int32.ofNat_toNatClampNeg v h).symm⟩
theorem n_ge {n : Nat} (h : n < 2147483648) : (0 : Int32) ≤ Int32.ofNat n := Int32.zero_le_ofNat_of_lt h
theorem n_inb {i n : Nat} (h : i < 2147483648) : inb (Int32.ofNat i) n = (i < n) := by
  unfold inb
  rw [n_cl h]
  refine propext ⟨fun z => Nat.lt_of_not_le fun y => z (Or.inr y), fun z y => ?_⟩
  rcases y with y | y
  · exact absurd (n_ge h) (Int32.not_le.mpr y)
  · omega
theorem n_64 {n : Nat} (h : n < 2147483648) : (Int32.ofNat n).toInt64 = Int64.ofNat n := Int64.toInt_inj.mp (by rw [Int32.toInt_toInt64, n_ti h, Int64.toInt_ofNat_of_lt (by omega)])
theorem nlt32 {a b : Int32} : (¬ a < b) = (b ≤ a) := propext Int32.not_lt
theorem nle32 {a b : Int32} : (¬ a ≤ b) = (b < a) := propext Int32.not_le
/-- within two bounds -/
theorem n_in {v : Int32} {a b : Nat} (hb : b < 2147483648) (h1 : Int32.ofNat a ≤ v) (h2 : v ≤ Int32.ofNat b) (ha : a < 2147483648) : ∃ j, a ≤ j ∧ j ≤ b ∧ v = Int32.ofNat j := by
  have h0 : (0 : Int32) ≤ v := by
    rw [Int32.le_iff_toInt_le] at h1 ⊢
    rw [n_ti ha] at h1
    show (0 : Int) ≤ _
    omega
  obtain ⟨j, hj, rfl⟩ := n_of h0
  rw [n_le ha hj] at h1
  rw [n_le hj hb] at h2
  exact ⟨j, h1, h2, rfl⟩
/-- a truth as an int -/
def bi (c : Prop) [Decidable c] : Int32 := if c then 1 else 0
theorem bi_e0 {c : Prop} [Decidable c] : (bi c = 0) = ¬ c := by
  unfold bi
  by_cases h : c
  · rw [if_pos h]; exact propext ⟨fun z => absurd z (by decide), fun z => absurd h z⟩
  · rw [if_neg h]; exact propext ⟨fun _ => h, fun _ => rfl⟩
theorem bi_e1 {c : Prop} [Decidable c] : (bi c = 1) = c := by
  unfold bi
  by_cases h : c
  · rw [if_pos h]; exact propext ⟨fun _ => h, fun _ => rfl⟩
  · rw [if_neg h]; exact propext ⟨fun z => absurd z (by decide), fun z => absurd z h⟩
theorem bi_01 {c : Prop} [Decidable c] : bi c = 0 ∨ bi c = 1 := by
  unfold bi
  by_cases h : c
  · rw [if_pos h]; exact Or.inr rfl
  · rw [if_neg h]; exact Or.inl rfl
theorem or_t {c : Prop} : (¬ c ∨ c) = True := propext ⟨fun _ => trivial, fun _ => (Classical.em c).symm⟩
theorem bi_t {c : Prop} [Decidable c] (h : c) : bi c = 1 := if_pos h
theorem bi_f {c : Prop} [Decidable c] (h : ¬ c) : bi c = 0 := if_neg h
/-! LONGS -/
theorem kl_0 : (0 : Int64) = Int64.ofNat 0 := rfl
theorem kl_1 : (1 : Int64) = Int64.ofNat 1 := rfl
theorem kl_2 : (2 : Int64) = Int64.ofNat 2 := rfl
theorem kl_300 : (300 : Int64) = Int64.ofNat 300 := rfl
theorem kl_1000 : (1000 : Int64) = Int64.ofNat 1000 := rfl
theorem kl_2000000000 : (2000000000 : Int64) = Int64.ofNat 2000000000 := rfl
theorem l_ti {n : Nat} (h : n < 9223372036854775808) : (Int64.ofNat n).toInt = (n : Int) := Int64.toInt_ofNat_of_lt h
theorem l_lt {a b : Nat} (ha : a < 9223372036854775808) (hb : b < 9223372036854775808) : (Int64.ofNat a < Int64.ofNat b) = (a < b) := propext (Int64.ofNat_lt_iff_lt ha hb)
theorem l_le {a b : Nat} (ha : a < 9223372036854775808) (hb : b < 9223372036854775808) : (Int64.ofNat a ≤ Int64.ofNat b) = (a ≤ b) := propext (Int64.ofNat_le_iff_le ha hb)
theorem l_eq {a b : Nat} (ha : a < 9223372036854775808) (hb : b < 9223372036854775808) : (Int64.ofNat a = Int64.ofNat b) = (a = b) :=
  propext ⟨fun e => by have := congrArg Int64.toInt e; rw [l_ti ha, l_ti hb] at this; omega, fun e => e ▸ rfl⟩
theorem l_add (a b : Nat) : Int64.ofNat a + Int64.ofNat b = Int64.ofNat (a + b) := (Int64.ofNat_add a b).symm
theorem l_mul (a b : Nat) : Int64.ofNat a * Int64.ofNat b = Int64.ofNat (a * b) := (Int64.ofNat_mul a b).symm
theorem l_sub {a b : Nat} (h : b ≤ a) : Int64.ofNat a - Int64.ofNat b = Int64.ofNat (a - b) := (Int64.ofNat_sub a b h).symm
theorem l_div {a b : Nat} (ha : a < 9223372036854775808) (hb : b < 9223372036854775808) : Int64.ofNat a / Int64.ofNat b = Int64.ofNat (a / b) := (Int64.ofNat_div ha hb).symm
theorem l_32 (n : Nat) : (Int64.ofNat n).toInt32 = Int32.ofNat n := Int64.toInt32_ofNat'
theorem c_tri (x y : Int64) : (y < x ∧ lg_cmp x y = 1) ∨ (x = y ∧ lg_cmp x y = 0) ∨ (x < y ∧ lg_cmp x y = -1) := by
  unfold lg_cmp
  by_cases h : x > y
  · rw [if_pos h]; exact Or.inl ⟨h, rfl⟩
  · rw [if_neg h]
    by_cases h2 : x = y
    · rw [if_pos h2]; exact Or.inr (Or.inl ⟨h2, rfl⟩)
    · rw [if_neg h2]; exact Or.inr (Or.inr ⟨Int64.lt_iff_le_and_ne.mpr ⟨Int64.not_lt.mp h, h2⟩, rfl⟩)
theorem l_irr {x : Int64} : ¬ x < x := Int64.lt_irrefl
theorem l_asy {x y : Int64} (h : x < y) : ¬ y < x := fun z => by rw [Int64.lt_iff_toInt_lt] at h z; omega
theorem l_ne {x y : Int64} (h : x < y) : ¬ x = y := fun z => by subst z; exact l_irr h
theorem l_of (x y : Int64) (h : x < y) : x ≤ y := by rw [Int64.lt_iff_toInt_lt] at h; rw [Int64.le_iff_toInt_le]; omega
theorem c_le {x y : Int64} : (lg_cmp x y ≤ 0) = (x ≤ y) := by
  rcases c_tri x y with ⟨h, e⟩ | ⟨h, e⟩ | ⟨h, e⟩ <;> rw [e]
  · exact propext ⟨fun z => absurd z (by decide), fun z => absurd h (Int64.not_lt.mpr z)⟩
  · subst h; exact propext ⟨fun _ => Int64.le_refl x, fun _ => by decide⟩
  · exact propext ⟨fun _ => l_of _ _ h, fun _ => by decide⟩
theorem c_gt {x y : Int64} : (0 < lg_cmp x y) = (y < x) := by
  rcases c_tri x y with ⟨h, e⟩ | ⟨h, e⟩ | ⟨h, e⟩ <;> rw [e]
  · exact propext ⟨fun _ => h, fun _ => by decide⟩
  · subst h; exact propext ⟨fun z => absurd z (by decide), fun z => absurd z l_irr⟩
  · exact propext ⟨fun z => absurd z (by decide), fun z => absurd h (l_asy z)⟩
theorem c_ge {x y : Int64} : (0 ≤ lg_cmp x y) = (y ≤ x) := by
  rcases c_tri x y with ⟨h, e⟩ | ⟨h, e⟩ | ⟨h, e⟩ <;> rw [e]
  · exact propext ⟨fun _ => l_of _ _ h, fun _ => by decide⟩
  · subst h; exact propext ⟨fun _ => Int64.le_refl x, fun _ => by decide⟩
  · exact propext ⟨fun z => absurd z (by decide), fun z => absurd h (Int64.not_lt.mpr z)⟩
theorem c_lt {x y : Int64} : (lg_cmp x y < 0) = (x < y) := by
  rcases c_tri x y with ⟨h, e⟩ | ⟨h, e⟩ | ⟨h, e⟩ <;> rw [e]
  · exact propext ⟨fun z => absurd z (by decide), fun z => absurd h (l_asy z)⟩
  · subst h; exact propext ⟨fun z => absurd z (by decide), fun z => absurd z l_irr⟩
  · exact propext ⟨fun _ => h, fun _ => by decide⟩
theorem c_eq {x y : Int64} : (lg_cmp x y = 0) = (x = y) := by
  rcases c_tri x y with ⟨h, e⟩ | ⟨h, e⟩ | ⟨h, e⟩ <;> rw [e]
  · exact propext ⟨fun z => absurd z (by decide), fun z => absurd z.symm (l_ne h)⟩
  · exact propext ⟨fun _ => h, fun _ => rfl⟩
  · exact propext ⟨fun z => absurd z (by decide), fun z => absurd z (l_ne h)⟩
/-- the size of an int by longs -/
theorem l_abs {x : Int32} : (if (0 : Int64) ≤ x.toInt64 then x.toInt64 else -x.toInt64).toInt32 = if 0 ≤ x then x else 0 - x := by
  have e : ((0 : Int64) ≤ x.toInt64) = ((0 : Int32) ≤ x) := by
    rw [Int64.le_iff_toInt_le, Int32.le_iff_toInt_le, Int32.toInt_toInt64]; rfl
  by_cases h : (0 : Int32) ≤ x
  · rw [if_pos h, if_pos (by rw [e]; exact h), Int32.toInt32_toInt64]
  · rw [if_neg h, if_neg (by rw [e]; exact h), Int64.toInt32_neg, Int32.toInt32_toInt64, Int32.zero_sub]
theorem n_abs {a b : Nat} (ha : a < 2147483648) (hb : b < 2147483648) : (if 0 ≤ Int32.ofNat a - Int32.ofNat b then Int32.ofNat a - Int32.ofNat b else 0 - (Int32.ofNat a - Int32.ofNat b)) = Int32.ofNat ((a - b) + (b - a)) := by
  by_cases h : b ≤ a
  · rw [n_sub h, if_pos (n_ge (by omega)), Nat.sub_eq_zero_of_le h, Nat.add_zero]
  · have e : Int32.ofNat a - Int32.ofNat b = -(Int32.ofNat (b - a)) := by
      rw [← n_sub (by omega), Int32.neg_sub]
    rw [e, if_neg, Int32.zero_sub, Int32.neg_neg, Nat.sub_eq_zero_of_le (show a ≤ b by omega), Nat.zero_add]
    rw [Int32.le_iff_toInt_le, Int32.toInt_neg, n_ti (by omega)]
    show ¬ (0 : Int) ≤ _
    rw [Int.bmod_eq_of_le (by omega) (by omega)]
    omega
/-! the heads of what is run -/
theorem ob_s {v : Rs} {f : Rs → Option Rs} : (some v).bind f = f v := rfl
theorem tl_s {v : Value} {l : List Value} : (some v).toList ++ l = v :: l := rfl
theorem tl_n {l : List Value} : (none : Option Value).toList ++ l = l := rfl
theorem rfv_s {a : Nat} : rfv (some a) = .ref a := rfl
theorem rfv_n : rfv none = .null := rfl
theorem ib_r {a : Nat} : isB (.ref a) = true := rfl
theorem ib_n : isB .null = true := rfl
/-! what reads little -/
section LEAF
variable {X : XX} {d : Nat} {sz sl : Nat} {sh : Nat → Nat × Nat} {R : Nat → Nat → Option Nat} {I : Nat → Nat → Int32} {J : Nat → Nat → Int64}
theorem s_within {a b c : Int32} : ev X (d + 1) 10 [.int a, .int b, .int c] (sz, sl, sh, R, I, J) = some (some (.int (bi (b ≤ a ∧ a ≤ c))), (sz, sl, sh, R, I, J)) := by
  rw [n10, t10_0]
  by_cases h1 : a < b
  · rw [if_pos h1, bi_f (fun z => absurd h1 (Int32.not_lt.mpr z.1))]
  · rw [if_neg h1]
    by_cases h2 : c < a
    · rw [if_pos h2, bi_f (fun z => absurd h2 (Int32.not_lt.mpr z.2))]
    · rw [if_neg h2, bi_t ⟨Int32.not_lt.mp h1, Int32.not_lt.mp h2⟩]
theorem s_in {a b c : Int32} : ev X (d + 1) 148 [.int a, .int b, .int c] (sz, sl, sh, R, I, J) = some (some (.int (bi (b ≤ a ∧ a ≤ c))), (sz, sl, sh, R, I, J)) := by
  rw [n148, t148_0]
  by_cases h1 : a < b
  · rw [if_pos h1, bi_f (fun z => absurd h1 (Int32.not_lt.mpr z.1))]
  · rw [if_neg h1]
    by_cases h2 : c < a
    · rw [if_pos h2, bi_f (fun z => absurd h2 (Int32.not_lt.mpr z.2))]
    · rw [if_neg h2, bi_t ⟨Int32.not_lt.mp h1, Int32.not_lt.mp h2⟩]
theorem s_isYear {a : Int32} : ev X (d + 2) 11 [.int a] (sz, sl, sh, R, I, J) = some (some (.int (bi (0 ≤ a ∧ a ≤ 2000))), (sz, sl, sh, R, I, J)) := by
  simp only [n11, t11_0, t11_8, s_within, ↓reduceIte, eq_self, and_self, and_true, true_and, not_true_eq_false, not_false_eq_true, ob_s, tl_s, tl_n, rf_ref, orf_ref, orf_null, nn_ref, nn_null, rfv_s, rfv_n, if_true, if_false, bi_01, bi_e0, bi_e1, or_t, Classical.not_not]
theorem s_isStep {a : Int32} (hS : SF sh R) : ev X (d + 2) 150 [.ref 37, .int a] (sz, sl, sh, R, I, J) = some (some (.int (bi (0 ≤ a ∧ a ≤ I 37 0 - 1))), (sz, sl, sh, R, I, J)) := by
  simp only [n150, t150_0 hS, t150_11, s_in, ↓reduceIte, eq_self, and_self, and_true, true_and, not_true_eq_false, not_false_eq_true, ob_s, tl_s, tl_n, rf_ref, orf_ref, orf_null, nn_ref, nn_null, rfv_s, rfv_n, if_true, if_false, bi_01, bi_e0, bi_e1, or_t, Classical.not_not]
theorem s_isLaw {a : Int32} (hS : SF sh R) : ev X (d + 2) 179 [.ref 37, .int a] (sz, sl, sh, R, I, J) = some (some (.int (bi (0 ≤ a ∧ a ≤ I 37 12 - 1))), (sz, sl, sh, R, I, J)) := by
  simp only [n179, t179_0 hS, t179_11, s_in, ↓reduceIte, eq_self, and_self, and_true, true_and, not_true_eq_false, not_false_eq_true, ob_s, tl_s, tl_n, rf_ref, orf_ref, orf_null, nn_ref, nn_null, rfv_s, rfv_n, if_true, if_false, bi_01, bi_e0, bi_e1, or_t, Classical.not_not]
theorem s_isShelf {a : Int32} : ev X (d + 2) 160 [.int a] (sz, sl, sh, R, I, J) = some (some (.int (bi (0 ≤ a ∧ a ≤ 5))), (sz, sl, sh, R, I, J)) := by
  simp only [n160, t160_0, t160_6, s_in, ↓reduceIte, eq_self, and_self, and_true, true_and, not_true_eq_false, not_false_eq_true, ob_s, tl_s, tl_n, rf_ref, orf_ref, orf_null, nn_ref, nn_null, rfv_s, rfv_n, if_true, if_false, bi_01, bi_e0, bi_e1, or_t, Classical.not_not]
theorem s_isKind {a : Int32} : ev X (d + 1) 117 [.int a] (sz, sl, sh, R, I, J) = some (some (.int (bi (0 ≤ a ∧ a ≤ 7))), (sz, sl, sh, R, I, J)) := by
  rw [n117, t117_0]
  by_cases h : 0 ≤ a ∧ a ≤ 7
  · rw [bi_t h]
    simp only [Int32.lt_iff_toInt_lt, Int32.le_iff_toInt_le, Int32.reduceToInt] at h ⊢
    rw [if_neg (by omega), if_neg (by omega)]
  · rw [bi_f h]
    simp only [Int32.lt_iff_toInt_lt, Int32.le_iff_toInt_le, Int32.reduceToInt] at h ⊢
    by_cases h1 : a.toInt < 0
    · rw [if_pos h1]
    · rw [if_neg h1, if_pos (by omega)]
theorem s_size {a : Int64} : ev X (d + 1) 152 [.long a] (sz, sl, sh, R, I, J) = some (some (.long (if 0 ≤ a then a else -a)), (sz, sl, sh, R, I, J)) := by
  rw [n152, t152_0]
  by_cases h : 0 ≤ a
  · rw [if_pos h, if_pos (by rw [c_ge]; exact h)]
  · rw [if_neg h, if_neg (by rw [c_ge]; exact h)]
end LEAF
