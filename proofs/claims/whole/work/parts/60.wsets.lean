/-! FITS, BEST: all cells weighed -/
section WSETS
variable {X : XX} {d : Nat} {sz sl : Nat} {sh : Nat → Nat × Nat} {R : Nat → Nat → Option Nat} {I I0 : Nat → Nat → Int32} {J J0 : Nat → Nat → Int64} {W : WW} {ns nl ny : Nat} {T : Nat → List LN} {Y : Nat → Nat → Nat}
/-- is anything measured? -/
def anm (W : WW) : Nat → Nat → Bool → Bool
  | 0, _, b => b
  | n + 1, k, b => anm W n (k + 1) (if W 15 k = 0 then b else true)
theorem anm_t : ∀ n k : Nat, anm W n k true = true
  | 0, _ => rfl
  | n + 1, k => by
    rw [anm, show (if W 15 k = 0 then true else true) = true by split <;> rfl]
    exact anm_t n (k + 1)
theorem GS.m15 (G : GS W ns sh R I) {j : Nat} (hj : j < 8 * ns) : W 15 j ≤ 99999 ∧ I 42 j = Int32.ofNat (W 15 j) := by
  have := G.2.2.2.2.2.2.2.2.1 (j / 8) (j % 8) (by omega) (by omega)
  rw [show 8 * (j / 8) + j % 8 = j by omega] at this
  exact ⟨this.2.2.2.2.1, this.2.2.1⟩
theorem s_wsN (hS : SF sh R) (G : GS W ns sh R I) {l k : Nat} {b : Int32} {m : Bool} (hk : k < 8 * ns) : exe X (d + 2) 87 32 [.ref 0, .ref l, .int b, .int (okn m), .int (Int32.ofNat (k / 8)), .ref (W 0 (k / 8)), .int (Int32.ofNat (k % 8 + 1))] [] (sz, sl, sh, R, I, J) = if k + 1 = 8 * ns then some (some (.int (okn m)), (sz, sl, sh, R, I, J)) else exe X (d + 2) 87 32 [.ref 0, .ref l, .int b, .int (okn m), .int (Int32.ofNat ((k + 1) / 8)), .ref (W 0 ((k + 1) / 8)), .int (Int32.ofNat ((k + 1) % 8))] [] (sz, sl, sh, R, I, J) := by
  have h40 := G.1
  have okm : okn m = 0 ∨ okn m = 1 := by cases m <;> decide
  by_cases h8 : k % 8 = 7
  · rw [t87_32 rfl, if_pos (by rw [h8]; decide), n_suc, t87_12 hS, G.n1]
    by_cases q : k + 1 = 8 * ns
    · rw [if_pos q, if_pos (by rw [n_le (by omega) (by omega)]; omega), if_pos okm]
    · have hi : (k + 1) / 8 < ns := by omega
      have e : k / 8 + 1 = (k + 1) / 8 := by omega
      rw [if_neg q, if_neg (by rw [n_le (by omega) (by omega)]; omega), e, s_stepAt hS G hi, ob_s]
      show exe X (d + 2) 87 27 _ [.ref _] _ = _
      rw [t87_27 rfl, show (k + 1) % 8 = 0 by omega]
      rfl
  · rw [if_neg (by omega), show (k + 1) / 8 = k / 8 by omega, show (k + 1) % 8 = k % 8 + 1 by omega]
theorem s_wsL (hS : SF sh R) (G : GS W ns sh R I0) (L : GL T W nl sh R I0) (V : GY Y W ny sh R I0) {l B : Nat} (hl : l < nl) (hB : B < 2 ^ ny) (h256 : (Lm B 10).length ≤ 256) : ∀ (n k : Nat) (m : Bool) (I : Nat → Nat → Int32) (J : Nat → Nat → Int64), k + n = 8 * ns → k < 8 * ns → Sc W I0 I → (m = true → I 11 3 = Int32.ofNat (Lm B 10).length) → aL (Lm B 10) (fun s => ofS W (T l) Y s k) (J 13) → aL (Lm B 10) (fun s => ofM W (T l) Y s k) (J 14) → (∀ a i, a ≠ 12 → a ≠ 13 → a ≠ 14 → J a i = J0 a i) → ∃ I' J', exe X (d + 6) 87 32 [.ref 0, .ref (W 3 l), .int (Int32.ofNat B), .int (okn m), .int (Int32.ofNat (k / 8)), .ref (W 0 (k / 8)), .int (Int32.ofNat (k % 8))] [] (sz, sl, sh, R, I, J) = some (some (.int (okn (anm W n k m))), (sz, sl, sh, R, I', J')) ∧ Sc W I0 I' ∧ (anm W n k m = true → I' 11 3 = Int32.ofNat (Lm B 10).length) ∧ aL (Lm B 10) (fun s => ofS W (T l) Y s (8 * ns)) (J' 13) ∧ aL (Lm B 10) (fun s => ofM W (T l) Y s (8 * ns)) (J' 14) ∧ (∀ a i, a ≠ 12 → a ≠ 13 → a ≠ 14 → J' a i = J0 a i)
  | 0, k, m, I, J, h, hk, hs, h3, h13, h14, hf => by omega
  | n + 1, k, m, I, J, h, hk, hs, h3, h13, h14, hf => by
    have h40 := G.1
    have G1 := hs.S G
    have h2 := (G.2.2.2.1 (k / 8) (by omega)).2.1
    have mb := (G.m15 hk).1
    have ms := s_measure (X := X) (d := d + 5) (sz := sz) (sl := sl) (J := J) G1 (show k / 8 < ns by omega) (show k % 8 < 8 by omega)
    rw [show 8 * (k / 8) + k % 8 = k by omega] at ms
    have first : exe X (d + 6) 87 32 [.ref 0, .ref (W 3 l), .int (Int32.ofNat B), .int (okn m), .int (Int32.ofNat (k / 8)), .ref (W 0 (k / 8)), .int (Int32.ofNat (k % 8))] [] (sz, sl, sh, R, I, J) = exe X (d + 6) 87 51 [.ref 0, .ref (W 3 l), .int (Int32.ofNat B), .int (okn m), .int (Int32.ofNat (k / 8)), .ref (W 0 (k / 8)), .int (Int32.ofNat (k % 8))] [.int (Int32.ofNat (W 15 k))] (sz, sl, sh, R, I, J) := by
      rw [t87_32 rfl, if_neg (by rw [k_8, n_le (by decide) (by omega)]; omega), nn_ref, rf_ref, if_pos h2, ms, ob_s]
      rfl
    rw [first, t87_51 hS rfl, anm]
    by_cases h0 : W 15 k = 0
    · have e13 : ∀ s, ofS W (T l) Y s (k + 1) = ofS W (T l) Y s k := fun s => by
        unfold ofS
        rw [sumf_last, Nat.zero_add, show ofk W (T l) Y s k = 0 from if_pos h0, Nat.add_zero]
      have e14 : ∀ s, ofM W (T l) Y s (k + 1) = ofM W (T l) Y s k := fun s => by
        rw [ofM, show ofk W (T l) Y s k = 0 from if_pos h0, Nat.max_eq_left (Nat.zero_le _)]
      rw [if_pos (by rw [k_0, n_le (by omega) (by decide)]; omega), if_pos h0, n_suc, s_wsN hS G1 hk]
      by_cases q : k + 1 = 8 * ns
      · obtain rfl : n = 0 := by omega
        refine ⟨I, J, if_pos q, hs, h3, fun i s e => ?_, fun i s e => ?_, hf⟩
        · show _ = Int64.ofNat (ofS W (T l) Y s (8 * ns))
          rw [← q, e13]
          exact h13 i s e
        · show _ = Int64.ofNat (ofM W (T l) Y s (8 * ns))
          rw [← q, e14]
          exact h14 i s e
      · rw [if_neg q]
        exact s_wsL hS G L V hl hB h256 n (k + 1) m I J (by omega) (by omega) hs h3 (fun i s e => by
          show _ = Int64.ofNat (ofS W (T l) Y s (k + 1))
          rw [e13]
          exact h13 i s e) (fun i s e => by
          show _ = Int64.ofNat (ofM W (T l) Y s (k + 1))
          rw [e14]
          exact h14 i s e) hf
    · obtain ⟨I1, J1, a1, a2, a3, a4, a5, a6⟩ := s_weighCell (X := X) (d := d) (sz := sz) (sl := sl) (J := J) hS G1 (hs.L L) (hs.Y V) hl hk hB h256 h0 h13 h14
      have G2 := a2.S G1
      rw [if_neg (by rw [k_0, n_le (by omega) (by decide)]; omega), if_neg h0, a1, ob_s]
      show ∃ I' J', exe X (d + 6) 87 64 _ [] _ = _ ∧ _
      rw [t87_64 rfl, n_suc]
      have wN := s_wsN (X := X) (d := d + 4) (sz := sz) (sl := sl) (J := J1) (l := W 3 l) (b := Int32.ofNat B) (m := true) hS G2 hk
      rw [show okn true = 1 from rfl] at wN
      rw [wN]
      by_cases q : k + 1 = 8 * ns
      · obtain rfl : n = 0 := by omega
        refine ⟨I1, J1, if_pos q, hs.trans a2, fun _ => a3, fun i s e => ?_, fun i s e => ?_, fun a i x y z => (a6 a i x y z).trans (hf a i x y z)⟩
        · rw [← q]; exact a4 i s e
        · rw [← q]; exact a5 i s e
      · rw [if_neg q]
        exact s_wsL hS G L V hl hB h256 n (k + 1) true I1 J1 (by omega) (by omega) (hs.trans a2) (fun _ => a3) a4 a5 (fun a i x y z => (a6 a i x y z).trans (hf a i x y z))
theorem s_weighSets (hS : SF sh R) (G : GS W ns sh R I) (L : GL T W nl sh R I) (V : GY Y W ny sh R I) {l B : Nat} (hl : l < nl) (hB : B < 2 ^ ny) (h256 : (Lm B 10).length ≤ 256) : ∃ I' J', ev X (d + 7) 87 [.ref 0, .ref (W 3 l), .int (Int32.ofNat B)] (sz, sl, sh, R, I, J) = some (some (.int (okn (anm W (8 * ns) 0 false))), (sz, sl, sh, R, I', J')) ∧ Sc W I I' ∧ (anm W (8 * ns) 0 false = true → I' 11 3 = Int32.ofNat (Lm B 10).length) ∧ aL (Lm B 10) (fun s => ofS W (T l) Y s (8 * ns)) (J' 13) ∧ aL (Lm B 10) (fun s => ofM W (T l) Y s (8 * ns)) (J' 14) ∧ (∀ a i, a ≠ 12 → a ≠ 13 → a ≠ 14 → J' a i = J a i) := by
  have h40 := G.1
  obtain ⟨J1, a1, a2, a3⟩ := s_begin (X := X) (d := d + 5) (sz := sz) (sl := sl) (sh := sh) (R := R) (I := I) (J := J) hS
  have sc1 : Sc W I (u2 I 11 3 1) := fun a i hc => u2_pa (fun z => hc (by rw [z]; rfl))
  have G1 := sc1.S G
  have len : ∀ i s, (Lm B 10)[i]? = some s → i < 256 := fun i s e => by
    obtain ⟨z, -⟩ := List.getElem?_eq_some_iff.mp e
    omega
  have first : ev X (d + 7) 87 [.ref 0, .ref (W 3 l), .int (Int32.ofNat B)] (sz, sl, sh, R, I, J) = exe X (d + 6) 87 12 [.ref 0, .ref (W 3 l), .int (Int32.ofNat B), .int 0, .int 0, dm, dm] [] (sz, sl, sh, R, u2 I 11 3 1, J1) := by
    rw [n87, t87_0 hS, a1, ob_s]
    show exe X (d + 6) 87 9 _ [] _ = _
    rw [t87_9]
  rw [first, t87_12 hS, G1.n1]
  by_cases h0 : ns = 0
  · subst h0
    refine ⟨u2 I 11 3 1, J1, ?_, sc1, fun z => absurd (show false = true from z) (by decide), fun i s e => (a2 i (len i s e)).1, fun i s e => (a2 i (len i s e)).2, fun a i _ x y => a3 a i x y⟩
    rfl
  · obtain ⟨I2, J2, b1, b2, b3, b4, b5, b6⟩ := s_wsL (X := X) (d := d) (sz := sz) (sl := sl) (J0 := J) hS G L V hl hB h256 (8 * ns) 0 false (u2 I 11 3 1) J1 (by omega) (by omega) sc1 (fun z => absurd z (by decide)) (fun i s e => (a2 i (len i s e)).1) (fun i s e => (a2 i (len i s e)).2) (fun a i _ x y => a3 a i x y)
    refine ⟨I2, J2, ?_, b2, b3, b4, b5, b6⟩
    rw [← b1, if_neg (by rw [k_0, n_le (by omega) (by decide)]; omega), k_0, s_stepAt hS G1 (by omega), ob_s]
    show exe X (d + 6) 87 27 _ [.ref _] _ = _
    rw [t87_27 rfl]
    rfl
end WSETS
