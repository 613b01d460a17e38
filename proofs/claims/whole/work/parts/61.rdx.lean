/-! FITS, BEST: what is read off the sets -/
theorem dr_cons {α : Type} {L r : List α} {s : α} {i : Nat} (h : L.drop i = s :: r) : L[i]? = some s ∧ L.drop (i + 1) = r ∧ i < L.length := by
  have e : L[i]? = some s := by
    have := List.getElem?_drop (xs := L) (i := i) (j := 0)
    rw [h, Nat.add_zero] at this
    exact this.symm
  refine ⟨e, ?_, (List.getElem?_eq_some_iff.mp e).1⟩
  rw [← List.tail_drop, h]
  rfl
theorem dr_nil {α : Type} {L : List α} {i : Nat} (h : L.drop i = []) : L.length ≤ i := List.drop_eq_nil_iff.mp h
/-- the first least -/
def bst (f : Nat → Nat) : Nat → List Nat → Nat
  | s, [] => s
  | s, t :: r => if f s ≤ f t then bst f s r else bst f t r
section RDX
variable {X : XX} {d : Nat} {sz sl : Nat} {sh : Nat → Nat × Nat} {R : Nat → Nat → Option Nat} {I : Nat → Nat → Int32} {J : Nat → Nat → Int64}
theorem s_fitL (hS : SF sh R) {L : List Nat} {lim : Nat} {f : Nat → Nat} (h256 : L.length ≤ 256) (hl : lim ≤ 99999) (h3 : I 11 3 = Int32.ofNat L.length) (h14 : aL L f (J 14)) (hf : ∀ s, s ∈ L → f s ≤ 300000000000) : ∀ (r : List Nat) (i acc : Nat), L.drop i = r → i ≤ 256 → exe X d 93 4 [.ref 11, .int (Int32.ofNat lim), .int (Int32.ofNat acc), .int (Int32.ofNat i)] [] (sz, sl, sh, R, I, J) = some (some (.int (Int32.ofNat (acc + r.countP (fun s => decide (f s ≤ lim))))), (sz, sl, sh, R, I, J))
  | [], i, acc, h, hi => by
    have := dr_nil h
    rw [t93_4 hS, h3, if_pos (by rw [n_le (by omega) (by omega)]; exact this), List.countP_nil, Nat.add_zero]
  | s :: r, i, acc, h, hi => by
    obtain ⟨e1, e2, e3⟩ := dr_cons h
    have fs := hf s (List.mem_of_getElem? e1)
    rw [t93_4 hS, h3, if_neg (by rw [n_le (by omega) (by omega)]; omega), if_neg (by rw [k_256, n_le (by decide) (by omega)]; omega), if_pos (by rw [n_inb (by omega)]; omega), n_cl (by omega), h14 i s e1, n_64 (by omega), List.countP_cons, n_suc]
    by_cases q : f s ≤ lim
    · rw [if_neg (by rw [c_gt, l_lt (by omega) (by omega)]; omega), if_pos (decide_eq_true q), n_suc, s_fitL hS h256 hl h3 h14 hf r (i + 1) (acc + 1) e2 (by omega), Nat.add_comm (r.countP _) 1, ← Nat.add_assoc]
    · rw [if_pos (by rw [c_gt, l_lt (by omega) (by omega)]; omega), if_neg (by rw [decide_eq_true_eq]; exact q), s_fitL hS h256 hl h3 h14 hf r (i + 1) acc e2 (by omega), Nat.add_zero]
theorem s_leaL (hS : SF sh R) {L : List Nat} {lim : Nat} {f : Nat → Nat} (h256 : L.length ≤ 256) (hl : lim ≤ 99999) (h3 : I 11 3 = Int32.ofNat L.length) (h14 : aL L f (J 14)) (hf : ∀ s, s ∈ L → f s ≤ 300000000000) : ∀ (r : List Nat) (i : Nat), L.drop i = r → i ≤ 256 → (r.find? (fun s => decide (f s ≤ lim)) = none ∧ exe X d 94 2 [.ref 11, .int (Int32.ofNat lim), .int (Int32.ofNat i)] [] (sz, sl, sh, R, I, J) = some (some (.int (-2)), (sz, sl, sh, R, I, J))) ∨ (∃ s j, j < 256 ∧ r.find? (fun s => decide (f s ≤ lim)) = some s ∧ L[j]? = some s ∧ exe X d 94 2 [.ref 11, .int (Int32.ofNat lim), .int (Int32.ofNat i)] [] (sz, sl, sh, R, I, J) = some (some (.int (Int32.ofNat j)), (sz, sl, sh, R, I, J)))
  | [], i, h, hi => by
    have := dr_nil h
    refine Or.inl ⟨rfl, ?_⟩
    rw [t94_2 hS, h3, if_pos (by rw [n_le (by omega) (by omega)]; exact this)]
  | s :: r, i, h, hi => by
    obtain ⟨e1, e2, e3⟩ := dr_cons h
    have fs := hf s (List.mem_of_getElem? e1)
    rw [t94_2 hS, h3, if_neg (by rw [n_le (by omega) (by omega)]; omega), if_neg (by rw [k_256, n_le (by decide) (by omega)]; omega), if_pos (by rw [n_inb (by omega)]; omega), n_cl (by omega), h14 i s e1, n_64 (by omega), n_suc]
    by_cases q : f s ≤ lim
    · refine Or.inr ⟨s, i, by omega, List.find?_cons_of_pos (decide_eq_true q), e1, ?_⟩
      rw [if_neg (by rw [c_gt, l_lt (by omega) (by omega)]; omega)]
    · rw [if_pos (by rw [c_gt, l_lt (by omega) (by omega)]; omega), List.find?_cons_of_neg (by rw [decide_eq_true_eq]; exact q)]
      exact s_leaL hS h256 hl h3 h14 hf r (i + 1) e2 (by omega)
theorem s_neaL (hS : SF sh R) {L : List Nat} {f : Nat → Nat} (h256 : L.length ≤ 256) (h3 : I 11 3 = Int32.ofNat L.length) (h13 : aL L f (J 13)) (hf : ∀ s, s ∈ L → f s ≤ 300000000000000) : ∀ (r : List Nat) (i b s : Nat), L.drop i = r → i ≤ 256 → L[b]? = some s → ∃ j, j < 256 ∧ L[j]? = some (bst f s r) ∧ exe X d 97 4 [.ref 11, .int (Int32.ofNat b), .int (Int32.ofNat i)] [] (sz, sl, sh, R, I, J) = some (some (.int (Int32.ofNat j)), (sz, sl, sh, R, I, J))
  | [], i, b, s, h, hi, hb => by
    have := dr_nil h
    have b1 := (List.getElem?_eq_some_iff.mp hb).1
    refine ⟨b, by omega, hb, ?_⟩
    rw [t97_4 hS, h3, if_pos (by rw [n_le (by omega) (by omega)]; exact this)]
  | u :: r, i, b, s, h, hi, hb => by
    obtain ⟨e1, e2, e3⟩ := dr_cons h
    have b1 := (List.getElem?_eq_some_iff.mp hb).1
    have fu := hf u (List.mem_of_getElem? e1)
    have fs := hf s (List.mem_of_getElem? hb)
    rw [t97_4 hS, h3, if_neg (by rw [n_le (by omega) (by omega)]; omega), if_neg (by rw [k_256, n_le (by decide) (by omega)]; omega), if_pos (by rw [n_inb (by omega)]; omega), if_pos (by rw [n_inb (by omega)]; omega), n_cl (by omega), n_cl (by omega), h13 i u e1, h13 b s hb, n_suc, bst]
    by_cases q : f s ≤ f u
    · rw [if_pos q, if_pos (by rw [c_ge, l_le (by omega) (by omega)]; exact q)]
      exact s_neaL hS h256 h3 h13 hf r (i + 1) b s e2 (by omega) hb
    · rw [if_neg q, if_neg (by rw [c_ge, l_le (by omega) (by omega)]; exact q)]
      exact s_neaL hS h256 h3 h13 hf r (i + 1) i u e2 (by omega) e1
theorem s_offOf (hS : SF sh R) {L : List Nat} {f : Nat → Nat} (h256 : L.length ≤ 256) (h13 : aL L f (J 13)) {j s : Nat} (hj : L[j]? = some s) : ev X (d + 1) 98 [.ref 11, .int (Int32.ofNat j)] (sz, sl, sh, R, I, J) = some (some (.long (Int64.ofNat (f s))), (sz, sl, sh, R, I, J)) := by
  have b1 := (List.getElem?_eq_some_iff.mp hj).1
  rw [n98, t98_0 hS, if_neg (Int32.not_lt.mpr (n_ge (by omega))), if_neg (by rw [k_256, n_le (by decide) (by omega)]; omega), if_pos (by rw [n_inb (by omega)]; omega), n_cl (by omega), h13 j s hj]
end RDX
/-! lists of masks -/
theorem Lm_range {B : Nat} (hB : B < 1024) : Lm B 10 = (List.range' 0 (B + 1)).filter (fun s => decide (s &&& B = s)) := by
  rw [← Lm_filter 10, ← List.range_eq_range', show 2 ^ 10 = B + 1 + (1023 - B) by omega, List.range_add, List.filter_append]
  have e : (List.map (fun x => B + 1 + x) (List.range (1023 - B))).filter (fun s => decide (s &&& B = s)) = [] := by
    apply List.filter_eq_nil_iff.mpr
    intro s hs z
    obtain ⟨j, -, rfl⟩ := List.mem_map.mp hs
    have := sub_le (of_decide_eq_true z)
    omega
  rw [e, List.append_nil]
theorem Lm_cons {B : Nat} (hB : B < 1024) : Lm B 10 = 0 :: (List.range' 1 B).filter (fun s => decide (s &&& B = s)) := by
  rw [Lm_range hB, List.range'_succ, List.filter_cons_of_pos (by rw [Nat.zero_and]; rfl)]
theorem Lm_in {B ny : Nat} (h10 : ny ≤ 10) (hB : B < 2 ^ ny) {s : Nat} (hs : s ∈ Lm B 10) : s < 2 ^ ny ∧ s &&& B = s := by
  have B10 : B < 1024 := Nat.lt_of_lt_of_le hB (show 2 ^ ny ≤ 2 ^ 10 from Nat.pow_le_pow_right (by decide) h10)
  rw [Lm_range B10, List.mem_filter] at hs
  have h := of_decide_eq_true hs.2
  exact ⟨Nat.lt_of_le_of_lt (sub_le h) hB, h⟩
theorem m_sub {s B : Nat} (hs : s < 1024) (hB : B < 1024) : (Int32.ofNat s &&& (Int32.ofNat B ^^^ -1) = 0) ↔ s &&& B = s := by
  rw [sub_iff, ← Int32.toBitVec_inj, Int32.toBitVec_and, Int32.toBitVec_xor]
  have e : ∀ n : Nat, (Int32.ofNat n).toBitVec = BitVec.ofNat 32 n := fun n => rfl
  have em : (-1 : Int32).toBitVec = BitVec.allOnes 32 := by decide
  have e0 : (0 : Int32).toBitVec = 0#32 := rfl
  rw [e, e, em, e0]
  constructor
  · intro h j hj
    have j10 : j < 32 := by
      by_cases q : j < 32
      · exact q
      · rw [Nat.testBit_lt_two_pow (Nat.lt_of_lt_of_le hs (show 2 ^ 10 ≤ 2 ^ j from Nat.pow_le_pow_right (by decide) (by omega)))] at hj
        exact absurd hj (by decide)
    have := congrArg (fun x => BitVec.getLsbD x j) h
    simp only [BitVec.getLsbD_and, BitVec.getLsbD_xor, BitVec.getLsbD_ofNat, BitVec.getLsbD_allOnes, BitVec.getLsbD_zero, Nat.zero_testBit, hj, j10, decide_true, Bool.true_and, Bool.xor_true] at this
    cases q : B.testBit j with
    | true => rfl
    | false => rw [q] at this; exact absurd this (by decide)
  · intro h
    apply BitVec.eq_of_getLsbD_eq
    intro j hj
    simp only [BitVec.getLsbD_and, BitVec.getLsbD_xor, BitVec.getLsbD_ofNat, BitVec.getLsbD_allOnes, BitVec.getLsbD_zero, Nat.zero_testBit, hj, decide_true, Bool.true_and, Bool.xor_true]
    cases q : s.testBit j with
    | false => rfl
    | true => rw [h j q]; rfl
