/-! FITS, BEST: spread -/
def fwd (B : Nat) (idx : Nat) : Nat → Nat × Nat
  | 0 => (0, idx)
  | t + 1 => if B.testBit t then ((fwd B idx t).1 + (fwd B idx t).2 % 2 * 2 ^ t, (fwd B idx t).2 / 2) else fwd B idx t
theorem Lm_pos {B : Nat} (t : Nat) : 0 < (Lm B t).length := by
  rw [Lm_len]
  exact Nat.two_pow_pos _
theorem fwd_Lm {B idx : Nat} : ∀ t, (Lm B t)[idx % (Lm B t).length]? = some (fwd B idx t).1 ∧ (fwd B idx t).2 = idx / (Lm B t).length
  | 0 => by
    constructor
    · show [0][idx % 1]? = some 0
      rw [Nat.mod_one]
      rfl
    · show idx = idx / 1
      rw [Nat.div_one]
  | t + 1 => by
    obtain ⟨h1, h2⟩ := fwd_Lm (B := B) (idx := idx) t
    have hp := Lm_pos (B := B) t
    unfold Lm fwd
    by_cases h : B.testBit t = true
    · rw [if_pos h, if_pos h, List.length_append, List.length_map, h2]
      generalize hn : (Lm B t).length = m at *
      have e1 : m + m = m * 2 := by omega
      refine ⟨?_, ?_⟩
      · show _ = some ((fwd B idx t).1 + idx / m % 2 * 2 ^ t)
        rw [e1, Nat.mod_mul]
        have hlt : idx % m < m := Nat.mod_lt _ hp
        rcases (show idx / m % 2 = 0 ∨ idx / m % 2 = 1 by omega) with q | q
        · rw [q, Nat.mul_zero, Nat.add_zero, Nat.zero_mul, Nat.add_zero, List.getElem?_append_left (by omega)]
          exact h1
        · rw [q, Nat.mul_one, Nat.one_mul, List.getElem?_append_right (by omega), hn, show idx % m + m - m = idx % m by omega, List.getElem?_map, h1]
          rfl
      · show idx / m / 2 = _
        rw [Nat.div_div_eq_div_mul, e1]
    · rw [if_neg h, if_neg h]
      exact ⟨h1, h2⟩
theorem fwd_lt {B idx : Nat} : ∀ t, (fwd B idx t).1 < 2 ^ t ∧ (fwd B idx t).2 ≤ idx
  | 0 => ⟨show (0 : Nat) < 2 ^ 0 by decide, Nat.le_refl _⟩
  | t + 1 => by
    obtain ⟨h1, h2⟩ := fwd_lt (B := B) (idx := idx) t
    unfold fwd
    rw [Nat.pow_succ]
    by_cases h : B.testBit t = true
    · rw [if_pos h]
      refine ⟨?_, ?_⟩
      · show (fwd B idx t).1 + (fwd B idx t).2 % 2 * 2 ^ t < _
        rcases (show (fwd B idx t).2 % 2 = 0 ∨ (fwd B idx t).2 % 2 = 1 by omega) with q | q <;> rw [q] <;> omega
      · show (fwd B idx t).2 / 2 ≤ _
        omega
    · rw [if_neg h]
      exact ⟨by omega, h2⟩
theorem b_bit : ∀ t, t < 10 → ∀ B, B < 1024 → (((Int32.ofNat B >>> (Int32.ofNat t &&& 31)) &&& 1 = 1) ↔ B.testBit t = true) := by decide +kernel
theorem b_or : ∀ t, t < 10 → ∀ a, a < 2 ^ t → Int32.ofNat a ||| ((1 : Int32) <<< (Int32.ofNat t &&& 31)) = Int32.ofNat (a + 2 ^ t) ∧ Int32.ofNat a ||| ((0 : Int32) <<< (Int32.ofNat t &&& 31)) = Int32.ofNat a := by decide +kernel
theorem b_half : ∀ i, i < 256 → Int32.ofNat i &&& 1 = Int32.ofNat (i % 2) ∧ Int32.ofNat i >>> ((1 : Int32) &&& 31) = Int32.ofNat (i / 2) := by decide +kernel
section SPREAD
variable {X : XX} {d : Nat} {sz sl : Nat} {sh : Nat → Nat × Nat} {R : Nat → Nat → Option Nat} {I : Nat → Nat → Int32} {J : Nat → Nat → Int64}
theorem s_spL {B idx : Nat} (hB : B < 1024) (hi : idx < 256) : ∀ (n t : Nat), t + n = 10 → exe X d 95 7 [dm, .int (Int32.ofNat B), .int (Int32.ofNat (fwd B idx t).1), .int (Int32.ofNat (fwd B idx t).2), .int (Int32.ofNat t)] [] (sz, sl, sh, R, I, J) = some (some (.int (Int32.ofNat (fwd B idx 10).1)), (sz, sl, sh, R, I, J))
  | 0, t, h => by
    obtain rfl : t = 10 := h
    rw [t95_7, if_pos (by decide)]
  | n + 1, t, h => by
    have ih := s_spL hB hi n (t + 1) (by omega)
    obtain ⟨f1, f2⟩ := fwd_lt (B := B) (idx := idx) t
    rw [t95_7, if_neg (by rw [k_10, n_le (by decide) (by omega)]; omega), n_suc]
    rw [fwd] at ih
    by_cases q : B.testBit t = true
    · rw [if_pos q] at ih
      rw [if_neg (by rw [b_bit t (by omega) B hB]; exact fun z => z q), (b_half _ (by omega)).1, (b_half _ (by omega)).2]
      have e : Int32.ofNat (fwd B idx t).1 ||| (Int32.ofNat ((fwd B idx t).2 % 2) <<< (Int32.ofNat t &&& 31)) = Int32.ofNat ((fwd B idx t).1 + (fwd B idx t).2 % 2 * 2 ^ t) := by
        have bo := b_or t (by omega) _ f1
        rcases (show (fwd B idx t).2 % 2 = 0 ∨ (fwd B idx t).2 % 2 = 1 by omega) with z | z
        · rw [z, Nat.zero_mul, Nat.add_zero]
          exact bo.2
        · rw [z, Nat.one_mul]
          exact bo.1
      rw [e]
      exact ih
    · rw [if_neg q] at ih
      rw [if_pos (by rw [b_bit t (by omega) B hB]; exact q)]
      exact ih
theorem s_spread {B idx : Nat} (hB : B < 1024) (hi : idx < 256) : ev X (d + 1) 95 [.int (Int32.ofNat idx), .int (Int32.ofNat B)] (sz, sl, sh, R, I, J) = some (some (.int (Int32.ofNat (fwd B idx 10).1)), (sz, sl, sh, R, I, J)) := by
  rw [n95, t95_0]
  exact s_spL hB hi 10 0 rfl
end SPREAD
