/-! FITS, BEST: masks -/
theorem sub_iff {s B : Nat} : s &&& B = s ↔ ∀ j, s.testBit j = true → B.testBit j = true := by
  constructor
  · intro h j hj
    rw [← h, Nat.testBit_and, Bool.and_eq_true] at hj
    exact hj.2
  · intro h
    apply Nat.eq_of_testBit_eq
    intro j
    rw [Nat.testBit_and]
    cases q : s.testBit j with
    | false => rfl
    | true => rw [h j q]; rfl
theorem sub_le {s B : Nat} (h : s &&& B = s) : s ≤ B := by
  rw [← h]
  exact Nat.and_le_right
theorem sub_add {s t B : Nat} (hs : s < 2 ^ t) : (2 ^ t + s) &&& B = 2 ^ t + s ↔ (B.testBit t = true ∧ s &&& B = s) := by
  rw [sub_iff, sub_iff]
  have ht : s.testBit t = false := Nat.testBit_lt_two_pow hs
  constructor
  · intro h
    refine ⟨h t (by rw [Nat.testBit_two_pow_add_eq, ht]; rfl), fun j hj => ?_⟩
    have hjt : j < t := by
      by_cases q : j < t
      · exact q
      · have : s.testBit j = false := Nat.testBit_lt_two_pow (Nat.lt_of_lt_of_le hs (Nat.pow_le_pow_right (by decide) (by omega)))
        rw [this] at hj
        exact absurd hj (by decide)
    exact h j (by rw [Nat.testBit_two_pow_add_gt hjt]; exact hj)
  · rintro ⟨h1, h2⟩ j hj
    rcases (show j < t ∨ j = t ∨ t < j by omega) with q | q | q
    · rw [Nat.testBit_two_pow_add_gt q] at hj
      exact h2 j hj
    · rw [q]; exact h1
    · have : (2 ^ t + s).testBit j = false := Nat.testBit_lt_two_pow (Nat.lt_of_lt_of_le (show 2 ^ t + s < 2 ^ (t + 1) by rw [Nat.pow_succ]; omega) (Nat.pow_le_pow_right (by decide) (by omega)))
      rw [this] at hj
      exact absurd hj (by decide)
theorem Lm_filter {B : Nat} : ∀ t, (List.range (2 ^ t)).filter (fun s => decide (s &&& B = s)) = Lm B t
  | 0 => by
    show (List.range 1).filter _ = [0]
    rw [show List.range 1 = [0] from rfl, List.filter_cons_of_pos (by rw [Nat.zero_and]; rfl)]
    rfl
  | t + 1 => by
    rw [Lm, ← Lm_filter t, Nat.pow_succ, show 2 ^ t * 2 = 2 ^ t + 2 ^ t by omega, List.range_add, List.filter_append, List.filter_map]
    by_cases h : B.testBit t = true
    · rw [if_pos h]
      congr 1
      have e : (fun s => s + 2 ^ t) = (fun s => 2 ^ t + s) := by funext s; omega
      rw [e]
      congr 1
      apply List.filter_congr
      intro s hs
      have := sub_add (B := B) (List.mem_range.mp hs)
      show decide ((2 ^ t + s) &&& B = 2 ^ t + s) = decide (s &&& B = s)
      apply decide_eq_decide.mpr
      rw [this]
      exact ⟨fun z => z.2, fun z => ⟨h, z⟩⟩
    · rw [if_neg h]
      have e : ((List.range (2 ^ t)).filter ((fun s => decide (s &&& B = s)) ∘ fun x => 2 ^ t + x)) = [] := by
        apply List.filter_eq_nil_iff.mpr
        intro s hs z
        have := sub_add (B := B) (List.mem_range.mp hs)
        exact h (this.mp (of_decide_eq_true z)).1
      rw [e, List.map_nil, List.append_nil]
theorem Lm_len {B : Nat} : ∀ t, (Lm B t).length = 2 ^ sumf (fun j => if B.testBit j then 1 else 0) 0 t
  | 0 => rfl
  | t + 1 => by
    have e : ∀ (n k : Nat) (f : Nat → Nat), sumf f k (n + 1) = sumf f k n + f (k + n) := by
      intro n
      induction n with
      | zero => intro k f; show f k + 0 = 0 + f (k + 0); rw [Nat.add_zero, Nat.zero_add]; rfl
      | succ n ih => intro k f; rw [sumf, ih (k + 1) f, sumf, show k + 1 + n = k + (n + 1) by omega, Nat.add_assoc (f k)]
    rw [e t 0, Lm, Nat.zero_add]
    by_cases h : B.testBit t = true
    · rw [if_pos h, if_pos h, List.length_append, List.length_map, Lm_len t, Nat.pow_succ]
      omega
    · rw [if_neg h, if_neg h, Lm_len t, Nat.add_zero]
