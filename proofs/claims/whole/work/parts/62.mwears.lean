/-! FITS, BEST: the reference's side -/
section MW
variable {X : XX} {d : Nat} {sz sl : Nat} {sh : Nat → Nat × Nat} {R : Nat → Nat → Option Nat} {I I0 : Nat → Nat → Int32} {J J0 : Nat → Nat → Int64} {W : WW} {ns nl ny : Nat} {T : Nat → List LN} {Y : Nat → Nat → Nat}
theorem s_isMe (hS : SF sh R) (G : GS W ns sh R I) : ∀ (n k : Nat), k + n = 8 * ns → exe X d 205 2 [.ref 37, .int (Int32.ofNat k)] [] (sz, sl, sh, R, I, J) = some (some (.int (okn (anm W n k false))), (sz, sl, sh, R, I, J))
  | 0, k, h => by
    have h40 := G.1
    rw [t205_2 hS, G.n2, k_8, n_mul, if_pos (by rw [n_le (by omega) (by omega)]; omega)]
    rfl
  | n + 1, k, h => by
    have h40 := G.1
    have hk := G.m15 (j := k) (by omega)
    rw [t205_2 hS, G.n2, k_8, n_mul, if_neg (by rw [n_le (by omega) (by omega)]; omega), if_pos (by rw [n_inb (by omega)]; omega), n_cl (by omega), hk.2, anm]
    by_cases q : W 15 k = 0
    · rw [if_pos (by rw [k_0, n_le (by omega) (by decide)]; omega), if_pos q, n_suc]
      exact s_isMe hS G n (k + 1) (by omega)
    · rw [if_neg (by rw [k_0, n_le (by omega) (by decide)]; omega), if_neg q, anm_t]
      rfl
theorem s_isMeasured (hS : SF sh R) (G : GS W ns sh R I) : ev X (d + 1) 205 [.ref 37] (sz, sl, sh, R, I, J) = some (some (.int (okn (anm W (8 * ns) 0 false))), (sz, sl, sh, R, I, J)) := by
  rw [n205, t205_0]
  exact s_isMe hS G (8 * ns) 0 (Nat.zero_add _)
/-- what one story wears of the cell k -/
def g1 (W : WW) (T : List LN) (Y : Nat → Nat → Nat) (k t : Nat) : Nat := wo W T Y (k / 8) (k % 8) t
theorem s_wrI (hS : SF sh R) (G : GS W ns sh R I0) (L : GL T W nl sh R I0) (V : GY Y W ny sh R I0) {l B t : Nat} (hl : l < nl) (hB : B < 1024) (ht : t < ny) : ∀ (n k : Nat) (I : Nat → Nat → Int32) (J : Nat → Nat → Int64), k + n = 8 * ns → Sc W I0 I → ∃ I' J', exe X (d + 6) 206 13 [.ref 37, .int (Int32.ofNat l), .int (Int32.ofNat B), .int (Int32.ofNat t), .int (Int32.ofNat k)] [] (sz, sl, sh, R, I, J) = exe X (d + 6) 206 2 [.ref 37, .int (Int32.ofNat l), .int (Int32.ofNat B), .int (Int32.ofNat (t + 1)), dm] [] (sz, sl, sh, R, I', J') ∧ Sc W I0 I' ∧ (∀ j, k ≤ j → j < 8 * ns → B.testBit t = true → ¬ W 15 j = 0 → J' 69 (320 * t + j) = Int64.ofNat (g1 W (T l) Y j t)) ∧ (∀ a i, ¬ (a = 69 ∧ 320 * t + k ≤ i) → J' a i = J a i)
  | 0, k, I, J, h, hs => by
    have h40 := G.1
    refine ⟨I, J, ?_, hs, fun j h1 h2 => by omega, fun _ _ _ => rfl⟩
    rw [t206_13 hS, (hs.S G).n2, k_8, n_mul, if_pos (by rw [n_le (by omega) (by omega)]; omega), n_suc]
  | n + 1, k, I, J, h, hs => by
    have h40 := G.1
    have h10 := V.1
    have G1 := hs.S G
    have hk := G1.m15 (j := k) (by omega)
    have ib : inb (Int32.ofNat (320 * t + k)) 3200 := by rw [n_inb (by omega)]; omega
    have key : ∃ I1 v, exe X (d + 6) 206 13 [.ref 37, .int (Int32.ofNat l), .int (Int32.ofNat B), .int (Int32.ofNat t), .int (Int32.ofNat k)] [] (sz, sl, sh, R, I, J) = exe X (d + 6) 206 13 [.ref 37, .int (Int32.ofNat l), .int (Int32.ofNat B), .int (Int32.ofNat t), .int (Int32.ofNat (k + 1))] [] (sz, sl, sh, R, I1, u2 J 69 (320 * t + k) v) ∧ Sc W I0 I1 ∧ (B.testBit t = true → ¬ W 15 k = 0 → v = Int64.ofNat (g1 W (T l) Y k t)) := by
      rw [t206_13 hS, G1.n2, k_8, n_mul, if_neg (by rw [n_le (by omega) (by omega)]; omega), k_320, n_mul, n_add]
      by_cases hb : B.testBit t = true
      · rw [if_neg (fun z => z ((b_bit t (by omega) B hB).mpr hb)), if_pos (by rw [n_inb (by omega)]; omega), n_cl (by omega), hk.2]
        by_cases q : W 15 k = 0
        · refine ⟨I, 0, ?_, hs, fun _ z => absurd q z⟩
          rw [if_pos (by rw [k_0, n_le (by omega) (by decide)]; omega), if_pos ib, n_cl (by omega), n_suc]
        · obtain ⟨I1, a1, a2⟩ := s_wornBy (X := X) (d := d) (sz := sz) (sl := sl) (J := J) hS G1 (hs.L L) (hs.Y V) hl (show k / 8 < ns by omega) (show k % 8 < 8 by omega) ht
          refine ⟨I1, Int64.ofNat (g1 W (T l) Y k t), ?_, hs.trans a2, fun _ _ => rfl⟩
          rw [if_neg (by rw [k_0, n_le (by omega) (by decide)]; omega), n_div (by omega) (by decide), n_rem', a1, ob_s]
          show exe X (d + 6) 206 72 _ [.long _, .int _, .ref 69] _ = _
          rw [t206_72 rfl, rf_ref, zS69 hS, if_pos ⟨rfl, ib⟩, n_cl (by omega), n_suc]
          rfl
      · refine ⟨I, 0, ?_, hs, fun z => absurd z hb⟩
        rw [if_pos (fun z => hb ((b_bit t (by omega) B hB).mp z)), if_pos ib, n_cl (by omega), n_suc]
    obtain ⟨I1, v, a1, a2, a3⟩ := key
    obtain ⟨I2, J2, b1, b2, b3, b4⟩ := s_wrI hS G L V hl hB ht n (k + 1) I1 (u2 J 69 (320 * t + k) v) (by omega) a2
    refine ⟨I2, J2, a1.trans b1, b2, fun j h1 h2 hb hm => ?_, fun a i hn => ?_⟩
    · by_cases e : j = k
      · subst e
        rw [b4 69 (320 * t + j) (by omega), u2_at0]
        exact a3 hb hm
      · exact b3 j (by omega) h2 hb hm
    · rw [b4 a i (by omega)]
      by_cases e : a = 69
      · rw [e, u2_pj (by omega)]
      · rw [u2_pa e]
theorem s_wrO (hS : SF sh R) (G : GS W ns sh R I0) (L : GL T W nl sh R I0) (V : GY Y W ny sh R I0) {l B : Nat} (hl : l < nl) (hB : B < 1024) : ∀ (n t : Nat) (I : Nat → Nat → Int32) (J : Nat → Nat → Int64), t + n = ny → Sc W I0 I → ∃ I' J', exe X (d + 6) 206 2 [.ref 37, .int (Int32.ofNat l), .int (Int32.ofNat B), .int (Int32.ofNat t), dm] [] (sz, sl, sh, R, I, J) = some (none, (sz, sl, sh, R, I', J')) ∧ Sc W I0 I' ∧ (∀ u j, t ≤ u → u < ny → j < 8 * ns → B.testBit u = true → ¬ W 15 j = 0 → J' 69 (320 * u + j) = Int64.ofNat (g1 W (T l) Y j u)) ∧ (∀ a i, ¬ (a = 69 ∧ 320 * t ≤ i) → J' a i = J a i)
  | 0, t, I, J, h, hs => by
    have h10 := V.1
    refine ⟨I, J, ?_, hs, fun u j h1 h2 => by omega, fun _ _ _ => rfl⟩
    rw [t206_2 hS, (hs.Y V).2.2.1, if_pos (by rw [n_le (by omega) (by omega)]; omega)]
  | n + 1, t, I, J, h, hs => by
    have h40 := G.1
    have h10 := V.1
    obtain ⟨I1, J1, a1, a2, a3, a4⟩ := s_wrI (X := X) (d := d) (sz := sz) (sl := sl) hS G L V hl hB (show t < ny by omega) (8 * ns) 0 I J (by omega) hs
    obtain ⟨I2, J2, b1, b2, b3, b4⟩ := s_wrO hS G L V hl hB n (t + 1) I1 J1 (by omega) a2
    refine ⟨I2, J2, ?_, b2, fun u j h1 h2 h3 hb hm => ?_, fun a i hn => ?_⟩
    · rw [t206_2 hS, (hs.Y V).2.2.1, if_neg (by rw [n_le (by omega) (by omega)]; omega), k_0, a1]
      exact b1
    · by_cases e : u = t
      · subst e
        rw [b4 69 (320 * u + j) (by omega)]
        exact a3 j (Nat.zero_le j) h3 hb hm
      · exact b3 u j (by omega) h2 h3 hb hm
    · rw [b4 a i (by omega), a4 a i (by omega)]
theorem s_wears (hS : SF sh R) (G : GS W ns sh R I) (L : GL T W nl sh R I) (V : GY Y W ny sh R I) {l B : Nat} (hl : l < nl) (hB : B < 1024) : ∃ I' J', ev X (d + 7) 206 [.ref 37, .int (Int32.ofNat l), .int (Int32.ofNat B)] (sz, sl, sh, R, I, J) = some (none, (sz, sl, sh, R, I', J')) ∧ Sc W I I' ∧ (∀ u j, u < ny → j < 8 * ns → B.testBit u = true → ¬ W 15 j = 0 → J' 69 (320 * u + j) = Int64.ofNat (g1 W (T l) Y j u)) ∧ (∀ a i, a ≠ 69 → J' a i = J a i) := by
  obtain ⟨I1, J1, a1, a2, a3, a4⟩ := s_wrO (X := X) (d := d) (sz := sz) (sl := sl) hS G L V hl hB ny 0 I J (Nat.zero_add _) Sc.refl
  refine ⟨I1, J1, ?_, a2, fun u j => a3 u j (Nat.zero_le u), fun a i h => a4 a i (fun z => h z.1)⟩
  rw [n206, t206_0]
  exact a1
/-- J 69 holds what each story of B wears -/
def h69 (W : WW) (T : List LN) (Y : Nat → Nat → Nat) (ns ny B : Nat) (J : Nat → Nat → Int64) : Prop := ∀ u j, u < ny → j < 8 * ns → B.testBit u = true → ¬ W 15 j = 0 → J 69 (320 * u + j) = Int64.ofNat (g1 W T Y j u)
theorem s_offL (hS : SF sh R) (G : GS W ns sh R I) (V : GY Y W ny sh R I) {Tl : List LN} {s k B : Nat} (hsub : s &&& B = s) (hs : s < 2 ^ ny) (hk : k < 8 * ns) (h0 : ¬ W 15 k = 0) (h69 : h69 W Tl Y ns ny B J) : ∀ (n t acc : Nat), t + n = ny → acc + sumf (fun t => if s.testBit t then g1 W Tl Y k t else 0) t n ≤ 300000000000 → exe X (d + 1) 208 5 [.ref 37, .int (Int32.ofNat s), .int (Int32.ofNat k), .long (Int64.ofNat acc), dm, .int (Int32.ofNat t)] [] (sz, sl, sh, R, I, J) = some (some (.long (Int64.ofNat ((acc + sumf (fun t => if s.testBit t then g1 W Tl Y k t else 0) t n - W 15 k) + (W 15 k - (acc + sumf (fun t => if s.testBit t then g1 W Tl Y k t else 0) t n))))), (sz, sl, sh, R, I, J))
  | 0, t, acc, h, hb => by
    have h40 := G.1
    have h10 := V.1
    have m := G.m15 hk
    rw [sumf_z, Nat.add_zero] at hb
    rw [t208_5 hS, V.2.2.1, if_pos (by rw [n_le (by omega) (by omega)]; omega), if_pos (by rw [n_inb (by omega)]; omega), n_cl (by omega), m.2, n_64 (by omega), s_size, l_abM (by omega) (by omega), ob_s, sumf_z, Nat.add_zero acc]
    show exe X (d + 1) 208 62 _ [.long _] _ = _
    rw [t208_62]
  | n + 1, t, acc, h, hb => by
    have h40 := G.1
    have h10 := V.1
    have s10 : s < 1024 := Nat.lt_of_lt_of_le hs (show 2 ^ ny ≤ 2 ^ 10 from Nat.pow_le_pow_right (by decide) h10)
    rw [sumf_s, ← Nat.add_assoc] at hb
    rw [t208_5 hS, V.2.2.1, if_neg (by rw [n_le (by omega) (by omega)]; omega), sumf_s, ← Nat.add_assoc, n_suc]
    by_cases q : s.testBit t = true
    · rw [if_pos q] at hb
      have j := h69 t k (by omega) hk (sub_iff.mp hsub t q) h0
      rw [if_neg (fun z => z ((b_bit t (by omega) s s10).mpr q)), k_320, n_mul, n_add, if_pos (by rw [n_inb (by omega)]; omega), n_cl (by omega), j, l_add, if_pos q]
      exact s_offL hS G V hsub hs hk h0 h69 n (t + 1) _ (by omega) hb
    · rw [if_neg q, Nat.add_zero acc] at hb
      rw [if_pos (fun z => q ((b_bit t (by omega) s s10).mp z)), Int64.add_zero, if_neg q, Nat.add_zero acc]
      exact s_offL hS G V hsub hs hk h0 h69 n (t + 1) acc (by omega) hb
theorem s_offAt (hS : SF sh R) (G : GS W ns sh R I) (V : GY Y W ny sh R I) {Tl : List LN} {s k B : Nat} (hsub : s &&& B = s) (hs : s < 2 ^ ny) (hk : k < 8 * ns) (h0 : ¬ W 15 k = 0) (h : h69 W Tl Y ns ny B J) : ev X (d + 2) 208 [.ref 37, .int (Int32.ofNat s), .int (Int32.ofNat k)] (sz, sl, sh, R, I, J) = some (some (.long (Int64.ofNat (ofk W Tl Y s k))), (sz, sl, sh, R, I, J)) := by
  have e := wmk_le V (Tl := Tl) (k := k) hs (Nat.le_refl ny)
  have e2 := wmk_ny (W := W) (Y := Y) (Tl := Tl) (k := k) hs V.1
  have e3 : wmk W Tl Y k s ny = 0 + sumf (fun t => if s.testBit t then g1 W Tl Y k t else 0) 0 ny := (Nat.zero_add _).symm
  rw [n208, t208_0, kl_0, k_0, s_offL hS G V hsub hs hk h0 h ny 0 0 (Nat.zero_add _) (by rw [← e3]; exact e), ← e3]
  unfold ofk
  rw [if_neg h0, e2]
/-- do all measured cells fit? -/
def fby (f : Nat → Nat) (lim : Nat) : Nat → Nat → Bool
  | 0, _ => true
  | n + 1, k => if f k ≤ lim then fby f lim n (k + 1) else false
theorem fby_M {W : WW} {Tl : List LN} {Y : Nat → Nat → Nat} {s lim : Nat} : ∀ n k : Nat, (ofM W Tl Y s k ≤ lim ∧ fby (ofk W Tl Y s) lim n k = true) ↔ ofM W Tl Y s (k + n) ≤ lim
  | 0, k => ⟨fun h => h.1, fun h => ⟨h, rfl⟩⟩
  | n + 1, k => by
    rw [show k + (n + 1) = k + 1 + n by omega, ← fby_M n (k + 1), fby, ofM]
    constructor
    · rintro ⟨h1, h2⟩
      by_cases q : ofk W Tl Y s k ≤ lim
      · rw [if_pos q] at h2
        exact ⟨Nat.max_le.mpr ⟨h1, q⟩, h2⟩
      · rw [if_neg q] at h2
        exact absurd h2 (by decide)
    · rintro ⟨h1, h2⟩
      have := Nat.max_le.mp h1
      rw [if_pos this.2]
      exact ⟨this.1, h2⟩
theorem fby_d {W : WW} {Tl : List LN} {Y : Nat → Nat → Nat} {s lim n : Nat} : fby (ofk W Tl Y s) lim n 0 = decide (ofM W Tl Y s n ≤ lim) := by
  have h := fby_M (W := W) (Tl := Tl) (Y := Y) (s := s) (lim := lim) n 0
  rw [Nat.zero_add] at h
  cases q : fby (ofk W Tl Y s) lim n 0 with
  | true => exact (decide_eq_true (h.mp ⟨Nat.zero_le _, q⟩)).symm
  | false => exact (decide_eq_false (fun z => by rw [(h.mpr z).2] at q; exact absurd q (by decide))).symm
theorem s_fbL (hS : SF sh R) (G : GS W ns sh R I) (V : GY Y W ny sh R I) {Tl : List LN} {s B lim : Nat} (hsub : s &&& B = s) (hs : s < 2 ^ ny) (hl : lim ≤ 99999) (h : h69 W Tl Y ns ny B J) : ∀ (n k : Nat), k + n = 8 * ns → exe X (d + 2) 207 2 [.ref 37, .int (Int32.ofNat s), .int (Int32.ofNat lim), .int (Int32.ofNat k)] [] (sz, sl, sh, R, I, J) = some (some (.int (okn (fby (ofk W Tl Y s) lim n k))), (sz, sl, sh, R, I, J))
  | 0, k, e => by
    have h40 := G.1
    rw [t207_2 hS, G.n2, k_8, n_mul, if_pos (by rw [n_le (by omega) (by omega)]; omega)]
    rfl
  | n + 1, k, e => by
    have h40 := G.1
    have m := G.m15 (j := k) (by omega)
    have ol := ofk_le V (Tl := Tl) (k := k) hs m.1
    rw [t207_2 hS, G.n2, k_8, n_mul, if_neg (by rw [n_le (by omega) (by omega)]; omega), if_pos (by rw [n_inb (by omega)]; omega), n_cl (by omega), m.2, n_suc, fby]
    by_cases q : W 15 k = 0
    · rw [if_pos (by rw [k_0, n_le (by omega) (by decide)]; omega), if_pos (by rw [show ofk W Tl Y s k = 0 from if_pos q]; omega)]
      exact s_fbL hS G V hsub hs hl h n (k + 1) (by omega)
    · rw [if_neg (by rw [k_0, n_le (by omega) (by decide)]; omega), s_offAt hS G V hsub hs (by omega) q h, ob_s]
      show exe X (d + 2) 207 28 _ [.long _] _ = _
      rw [t207_28, n_64 (by omega), n_suc]
      by_cases q2 : ofk W Tl Y s k ≤ lim
      · rw [if_pos (by rw [c_le, l_le (by omega) (by omega)]; exact q2), if_pos q2]
        exact s_fbL hS G V hsub hs hl h n (k + 1) (by omega)
      · rw [if_neg (by rw [c_le, l_le (by omega) (by omega)]; exact q2), if_neg q2]
        rfl
theorem s_fitsBy (hS : SF sh R) (G : GS W ns sh R I) (V : GY Y W ny sh R I) {Tl : List LN} {s B lim : Nat} (hsub : s &&& B = s) (hs : s < 2 ^ ny) (hl : lim ≤ 99999) (h : h69 W Tl Y ns ny B J) : ev X (d + 3) 207 [.ref 37, .int (Int32.ofNat s), .int (Int32.ofNat lim)] (sz, sl, sh, R, I, J) = some (some (.int (okn (decide (ofM W Tl Y s (8 * ns) ≤ lim)))), (sz, sl, sh, R, I, J)) := by
  rw [← fby_d, n207, t207_0]
  exact s_fbL hS G V hsub hs hl h (8 * ns) 0 (Nat.zero_add _)
end MW
