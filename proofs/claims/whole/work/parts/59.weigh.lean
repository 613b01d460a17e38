/-! FITS, BEST: the cells weighed -/
section WEIGH
variable {X : XX} {d : Nat} {sz sl : Nat} {sh : Nat → Nat × Nat} {R : Nat → Nat → Option Nat} {I I0 : Nat → Nat → Int32} {J J0 : Nat → Nat → Int64} {W : WW} {ns nl ny : Nat} {T : Nat → List LN} {Y : Nat → Nat → Nat}
/-- what a set wears of the cell k -/
def wmk (W : WW) (T : List LN) (Y : Nat → Nat → Nat) (k s n : Nat) : Nat := wsm (fun t => wo W T Y (k / 8) (k % 8) t) s n
/-- how far off a set is at the cell k; 0 where nothing is measured -/
def ofk (W : WW) (T : List LN) (Y : Nat → Nat → Nat) (s k : Nat) : Nat := if W 15 k = 0 then 0 else (wmk W T Y k s 10 - W 15 k) + (W 15 k - wmk W T Y k s 10)
/-- the sums of the first cells, and the most -/
def ofS (W : WW) (T : List LN) (Y : Nat → Nat → Nat) (s : Nat) (k : Nat) : Nat := sumf (ofk W T Y s) 0 k
def ofM (W : WW) (T : List LN) (Y : Nat → Nat → Nat) (s : Nat) : Nat → Nat
  | 0 => 0
  | k + 1 => max (ofM W T Y s k) (ofk W T Y s k)
theorem wmk_ny {Tl : List LN} {k s m : Nat} (h : s < 2 ^ ny) (hm : ny ≤ m) : wmk W Tl Y k s m = wmk W Tl Y k s ny := by
  have := wsm_up (g := fun t => wo W Tl Y (k / 8) (k % 8) t) h (m - ny)
  rw [show ny + (m - ny) = m by omega] at this
  exact this
theorem wmk_le (V : GY Y W ny sh R I) {Tl : List LN} {k s : Nat} (h : s < 2 ^ ny) {m : Nat} (hm : ny ≤ m) : wmk W Tl Y k s m ≤ 300000000000 := by
  have h10 := V.1
  rw [wmk_ny h hm]
  have := wsm_le (g := fun t => wo W Tl Y (k / 8) (k % 8) t) (s := s) (n := ny) (C := 30000000000) (fun t ht => wo_lt V ht)
  have : ny * 30000000000 ≤ 10 * 30000000000 := Nat.mul_le_mul_right _ h10
  unfold wmk
  omega
theorem ofk_le (V : GY Y W ny sh R I) {Tl : List LN} {k s : Nat} (h : s < 2 ^ ny) (hk : W 15 k ≤ 99999) : ofk W Tl Y s k ≤ 300000000000 := by
  have := wmk_le V (Tl := Tl) (k := k) h V.1
  unfold ofk
  split <;> omega
theorem ofM_le (V : GY Y W ny sh R I) {Tl : List LN} {s : Nat} (h : s < 2 ^ ny) : ∀ k, (∀ j, j < k → W 15 j ≤ 99999) → ofM W Tl Y s k ≤ 300000000000
  | 0, _ => Nat.zero_le _
  | k + 1, hk => Nat.max_le.mpr ⟨ofM_le V h k (fun j hj => hk j (by omega)), ofk_le V h (hk k (by omega))⟩
/-- the masks as an array has them -/
def aL (L : List Nat) (f : Nat → Nat) (j : Nat → Int64) : Prop := ∀ i s, L[i]? = some s → j i = Int64.ofNat (f s)
theorem s_wcell (hS : SF sh R) (G : GS W ns sh R I0) (L : GL T W nl sh R I0) (V : GY Y W ny sh R I0) {l k B : Nat} (hl : l < nl) (hk : k < 8 * ns) (hB : B < 2 ^ ny) (h256 : (Lm B 10).length ≤ 256) : ∀ (n t : Nat) (I : Nat → Nat → Int32) (J : Nat → Nat → Int64), t + n = 10 → Sc W I0 I → I 11 3 = Int32.ofNat (Lm B t).length → aL (Lm B t) (fun s => wmk W (T l) Y k s t) (J 12) → (∀ a i, a ≠ 12 → J a i = J0 a i) → ∃ I' J', exe X (d + 5) 89 10 [.ref 0, .ref (W 3 l), .ref (W 0 (k / 8)), .int (Int32.ofNat (k % 8)), .int (Int32.ofNat B), .int (Int32.ofNat t), dm] [] (sz, sl, sh, R, I, J) = exe X (d + 5) 89 10 [.ref 0, .ref (W 3 l), .ref (W 0 (k / 8)), .int (Int32.ofNat (k % 8)), .int (Int32.ofNat B), .int (Int32.ofNat 10), dm] [] (sz, sl, sh, R, I', J') ∧ Sc W I0 I' ∧ I' 11 3 = Int32.ofNat (Lm B 10).length ∧ aL (Lm B 10) (fun s => wmk W (T l) Y k s 10) (J' 12) ∧ (∀ a i, a ≠ 12 → J' a i = J0 a i)
  | 0, t, I, J, h, hs, h3, hj, hf => by
    obtain rfl : t = 10 := h
    exact ⟨I, J, rfl, hs, h3, hj, hf⟩
  | n + 1, t, I, J, h, hs, h3, hj, hf => by
    have h10 := V.1
    have B10 : B < 1024 := Nat.lt_of_lt_of_le hB (show 2 ^ ny ≤ 2 ^ 10 from Nat.pow_le_pow_right (by decide) h10)
    have V1 := hs.Y V
    rw [t89_10 hS, if_neg (by rw [k_10, n_le (by decide) (by omega)]; omega), if_pos (by rw [n_inb (by omega)]; omega), n_cl (by omega)]
    by_cases hb : B.testBit t = true
    · have ht : t < ny := by
        by_cases q : t < ny
        · exact q
        · rw [Nat.testBit_lt_two_pow (Nat.lt_of_lt_of_le hB (Nat.pow_le_pow_right (by decide) (by omega)))] at hb
          exact absurd hb (by decide)
      have hV := V1.2.2.2.1 t ht
      have hlen : (Lm B (t + 1)).length = 2 * (Lm B t).length := by rw [Lm, if_pos hb, List.length_append, List.length_map]; omega
      have hm : 2 * (Lm B t).length ≤ 256 := by
        rw [← hlen]
        have := Lm_up (B := B) n (t + 1)
        rw [show t + 1 + n = 10 by omega] at this
        omega
      obtain ⟨I1, a1, a2⟩ := s_wornOff2 (X := X) (d := d + 1) (sz := sz) (sl := sl) (J := J) (hs.S G) (hs.L L) V1 hl (show k / 8 < ns by omega) (Nat.mod_lt k (by decide)) ht
      have h31 : I1 11 3 = Int32.ofNat (Lm B t).length := by rw [a2.2 11 3 (by decide) (by decide) (by decide)]; exact h3
      obtain ⟨J1, b1, b2, b3⟩ := s_addStory (X := X) (d := d + 4) (sz := sz) (sl := sl) (sh := sh) (R := R) (J := J) (v := wo W (T l) Y (k / 8) (k % 8) t) hS hm h31
      have sc1 : Sc W I0 (u2 I1 11 3 (Int32.ofNat ((Lm B t).length * 2))) := fun a i hc => by
        rw [u2_pa (fun z => hc (by rw [z]; rfl))]
        exact hs.trans a2.1 a i hc
      obtain ⟨I2, J2, c1, c2, c3, c4, c5⟩ := s_wcell hS G L V hl hk hB h256 n (t + 1) (u2 I1 11 3 (Int32.ofNat ((Lm B t).length * 2))) J1 (by omega) sc1 (by rw [u2_at0, hlen, Nat.mul_comm]) (fun i s hi => by
        rw [Lm, if_pos hb] at hi
        by_cases q : i < (Lm B t).length
        · rw [List.getElem?_append_left q] at hi
          rw [(b2 i q).2, hj i s hi]
          congr 1
          exact (wsm_old (Lm_lt t s (List.mem_of_getElem? hi))).symm
        · rw [List.getElem?_append_right (by omega), List.getElem?_map] at hi
          cases e : (Lm B t)[i - (Lm B t).length]? with
          | none => rw [e] at hi; exact absurd hi (by intro z; cases z)
          | some u =>
            rw [e] at hi
            obtain rfl : u + 2 ^ t = s := Option.some.inj hi
            have q2 : i - (Lm B t).length < (Lm B t).length := by
              obtain ⟨z, -⟩ := List.getElem?_eq_some_iff.mp e
              exact z
            have := (b2 _ q2).1
            rw [show (Lm B t).length + (i - (Lm B t).length) = i by omega] at this
            rw [this, hj _ u e, l_add]
            congr 1
            exact (wsm_new (Lm_lt t u (List.mem_of_getElem? e))).symm) (fun a i ha => (b3 a i ha).trans (hf a i ha))
      refine ⟨I2, J2, ?_, c2, c3, c4, c5⟩
      rw [hV.1, rfv_s, nn_ref, if_neg (fun z => z ((b_bit t (by omega) B B10).mpr hb)), rf_ref, if_pos hV.2.1, a1, ob_s]
      show exe X (d + 5) 89 57 _ [.long _, .ref 11] _ = _
      rw [t89_57 rfl, rf_ref, if_pos (zS11 hS), b1, ob_s]
      show exe X (d + 5) 89 60 _ [] _ = _
      rw [t89_60, n_suc]
      exact c1
    · have hLm : Lm B (t + 1) = Lm B t := by rw [Lm, if_neg hb]
      obtain ⟨I2, J2, c1, c2, c3, c4, c5⟩ := s_wcell hS G L V hl hk hB h256 n (t + 1) I J (by omega) hs (by rw [hLm]; exact h3) (fun i s hi => by
        rw [hLm] at hi
        rw [hj i s hi]
        congr 1
        exact (wsm_old (Lm_lt t s (List.mem_of_getElem? hi))).symm) hf
      refine ⟨I2, J2, ?_, c2, c3, c4, c5⟩
      rw [← c1]
      have e60 : exe X (d + 5) 89 60 [.ref 0, .ref (W 3 l), .ref (W 0 (k / 8)), .int (Int32.ofNat (k % 8)), .int (Int32.ofNat B), .int (Int32.ofNat t), dm] [] (sz, sl, sh, R, I, J) = exe X (d + 5) 89 10 [.ref 0, .ref (W 3 l), .ref (W 0 (k / 8)), .int (Int32.ofNat (k % 8)), .int (Int32.ofNat B), .int (Int32.ofNat (t + 1)), dm] [] (sz, sl, sh, R, I, J) := by
        rw [t89_60, n_suc]
      by_cases ht : t < ny
      · have hV := V1.2.2.2.1 t ht
        rw [hV.1, rfv_s, nn_ref, if_pos (fun z => hb ((b_bit t (by omega) B B10).mp z))]
        exact e60
      · rw [V1.2.2.2.2.1 t (by omega) (by omega), rfv_n, nn_null]
        exact e60
theorem s_weighCell (hS : SF sh R) (G : GS W ns sh R I) (L : GL T W nl sh R I) (V : GY Y W ny sh R I) {l k B : Nat} (hl : l < nl) (hk : k < 8 * ns) (hB : B < 2 ^ ny) (h256 : (Lm B 10).length ≤ 256) (h0 : ¬ W 15 k = 0) (hs13 : aL (Lm B 10) (fun s => ofS W (T l) Y s k) (J 13)) (hs14 : aL (Lm B 10) (fun s => ofM W (T l) Y s k) (J 14)) : ∃ I' J', ev X (d + 6) 89 [.ref 0, .ref (W 3 l), .ref (W 0 (k / 8)), .int (Int32.ofNat (k % 8)), .int (Int32.ofNat B)] (sz, sl, sh, R, I, J) = some (none, (sz, sl, sh, R, I', J')) ∧ Sc W I I' ∧ I' 11 3 = Int32.ofNat (Lm B 10).length ∧ aL (Lm B 10) (fun s => ofS W (T l) Y s (k + 1)) (J' 13) ∧ aL (Lm B 10) (fun s => ofM W (T l) Y s (k + 1)) (J' 14) ∧ (∀ a i, a ≠ 12 → a ≠ 13 → a ≠ 14 → J' a i = J a i) := by
  have h10 := V.1
  have hB10 : ∀ s, s ∈ Lm B 10 → s < 2 ^ ny := fun s hs => by
    have e : Lm B 10 = Lm B ny := by
      have : ∀ n, Lm B (ny + n) = Lm B ny := by
        intro n
        induction n with
        | zero => rfl
        | succ n ih => rw [show ny + (n + 1) = ny + n + 1 by omega, Lm, if_neg (by rw [Nat.testBit_lt_two_pow (Nat.lt_of_lt_of_le hB (Nat.pow_le_pow_right (by decide) (by omega)))]; decide), ih]
      have q := this (10 - ny)
      rw [show ny + (10 - ny) = 10 by omega] at q
      exact q
    rw [e] at hs
    exact Lm_lt ny s hs
  have hm15 : ∀ j, j < 8 * ns → W 15 j ≤ 99999 := fun j hj => by
    have := (G.2.2.2.2.2.2.2.2.1 (j / 8) (j % 8) (by omega) (by omega)).2.2.2.2.1
    rw [show 8 * (j / 8) + j % 8 = j by omega] at this
    exact this
  have sc0 : Sc W I (u2 I 11 3 1) := fun a i hc => u2_pa (fun z => hc (by rw [z]; rfl))
  obtain ⟨I1, J1, a1, a2, a3, a4, a5⟩ := s_wcell (X := X) (d := d) (sz := sz) (sl := sl) (J0 := J) hS G L V hl hk hB h256 10 0 (u2 I 11 3 1) (u2 J 12 0 0) rfl sc0 (by rw [u2_at0]; rfl) (fun i s hi => by
    have : i = 0 := by
      obtain ⟨z, -⟩ := List.getElem?_eq_some_iff.mp hi
      have : (Lm B 0).length = 1 := rfl
      omega
    subst this
    rw [u2_at0]
    rfl) (fun a i ha => u2_pa ha)
  have hgs : ∀ i, i < (Lm B 10).length → ∃ s, (Lm B 10)[i]? = some s ∧ s ∈ Lm B 10 := fun i hi => ⟨_, List.getElem?_eq_getElem hi, List.getElem_mem hi⟩
  obtain ⟨J2, b1, b2, b3⟩ := s_endCell (X := X) (d := d + 4) (sz := sz) (sl := sl) (sh := sh) (R := R) (I := I1) (J := J1) (n0 := (Lm B 10).length) (m := W 15 k) (w := fun i => wmk W (T l) Y k ((Lm B 10)[i]?.getD 0) 10) (a13 := fun i => ofS W (T l) Y ((Lm B 10)[i]?.getD 0) k) (a14 := fun i => ofM W (T l) Y ((Lm B 10)[i]?.getD 0) k) hS h256 (hm15 k hk) a3 (fun i hi => by
    obtain ⟨s, e, hs⟩ := hgs i hi
    simp only [e, Option.getD_some]
    refine ⟨a4 i s e, ?_, ?_, wmk_le V (hB10 s hs) h10, ofM_le V (hB10 s hs) k (fun j hj => hm15 j (by omega))⟩
    · rw [a5 13 i (by decide)]; exact hs13 i s e
    · rw [a5 14 i (by decide)]; exact hs14 i s e)
  refine ⟨I1, J2, ?_, a2, a3, fun i s e => ?_, fun i s e => ?_, fun a i h1 h2 h3 => (b3 a i h2 h3).trans (a5 a i h1)⟩
  · have G1 := a2.S G
    have h2 := (G.2.2.2.1 (k / 8) (by omega)).2.1
    have ms := s_measure (X := X) (d := d + 4) (sz := sz) (sl := sl) (J := J1) G1 (show k / 8 < ns by omega) (show k % 8 < 8 by omega)
    rw [show 8 * (k / 8) + k % 8 = k by omega] at ms
    have bg : ev X (d + 5) 90 [.ref 11] (sz, sl, sh, R, I, J) = some (none, (sz, sl, sh, R, u2 I 11 3 1, u2 J 12 0 0)) := by
      rw [n90, t90_0 hS]
    rw [n89, t89_0 hS, bg, ob_s]
    show exe X (d + 5) 89 7 _ [] _ = _
    rw [t89_7]
    rw [k_0, a1, t89_10 hS, if_pos (by decide), if_pos h2, ms, ob_s]
    show exe X (d + 5) 89 75 _ [.int _, .ref 11] _ = _
    rw [t89_75 rfl, rf_ref, if_pos (zS11 hS), b1, ob_s]
    show exe X (d + 5) 89 78 _ [] _ = _
    rw [t89_78]
  · obtain ⟨z, -⟩ := List.getElem?_eq_some_iff.mp e
    have := (b2 i z).1
    simp only [e, Option.getD_some] at this
    have e2 : ofS W (T l) Y s (k + 1) = ofS W (T l) Y s k + ofk W (T l) Y s k := by unfold ofS; rw [sumf_last, Nat.zero_add]
    show _ = Int64.ofNat (ofS W (T l) Y s (k + 1))
    rw [this, e2]
    unfold ofk
    rw [if_neg h0]
  · obtain ⟨z, -⟩ := List.getElem?_eq_some_iff.mp e
    have := (b2 i z).2
    simp only [e, Option.getD_some] at this
    show _ = Int64.ofNat (max (ofM W (T l) Y s k) (ofk W (T l) Y s k))
    rw [this]
    unfold ofk
    rw [if_neg h0]
end WEIGH
