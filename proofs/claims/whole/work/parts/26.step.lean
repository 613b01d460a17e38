/-! step, story, feed -/
theorem ur_a {α : Type} {f : Nat → α} {k : Nat} {g : α} : ur f k g k = g := if_pos rfl
theorem ur_n {α : Type} {f : Nat → α} {k a : Nat} {g : α} (h : a ≠ k) : ur f k g a = f a := if_neg h
/-- room, and what isn't made yet -/
def GZ (W : WW) (sz sl ns nl ny : Nat) : Prop := 71 ≤ sz ∧ (∀ a, sz ≤ a → W 8 a = 9999) ∧ sz ≤ 71 + 3 * ns + 4 * nl + ny ∧ sl ≤ 20000 + 24 * ns + 1000 * nl + 7 * ny
theorem GZ.lt {W : WW} {sz sl ns nl ny : Nat} (Z : GZ W sz sl ns nl ny) {a : Nat} (h : W 8 a < 3000) : a < sz := by
  by_cases h2 : a < sz
  · exact h2
  · have := Z.2.1 a (by omega); omega
section STEP
variable {X : XX} {d : Nat} {sz sl : Nat} {sh : Nat → Nat × Nat} {R : Nat → Nat → Option Nat} {I : Nat → Nat → Int32} {J : Nat → Nat → Int64} {W : WW} {ns : Nat}
theorem orf_rfv {v : Option Nat} {f : Option Nat → Option Rs} : orf (rfv v) f = f v := by cases v <;> rfl
theorem s_init (hl : sh sl = sh sl) {l0 : Nat} (h0 : sh l0 = (15, 0)) (hlt : l0 < sz) {uo : Option Nat} {h w y r : Int32} : ev X (d + 1) 13 [.ref l0, rfv uo, .int h, .int w, .int y, .int r] (sz, sl, sh, R, I, J) = some (none, (sz + 1 + 1, sl + 8 + 8, ur (ur sh sz (0, 8)) (sz + 1) (0, 8), u2 (u2 (ur (u2 (ur R sz (fun _ => none)) l0 6 (some sz)) (sz + 1) (fun _ => none)) l0 7 (some (sz + 1))) l0 0 uo, u2 (u2 (u2 (u2 (ur (ur I sz (fun _ => 0)) (sz + 1) (fun _ => 0)) l0 2 h) l0 1 w) l0 3 y) l0 4 r, ur (ur J sz (fun _ => 0)) (sz + 1) (fun _ => 0))) := by
  have h1 : ur sh sz (0, 8) l0 = (15, 0) := by rw [ur_n (by omega)]; exact h0
  have h2 : ur (ur sh sz (0, 8)) (sz + 1) (0, 8) l0 = (15, 0) := by rw [ur_n (by omega)]; exact h1
  rw [n13 (isB_rfv _), t13_0 h0 (isB_rfv _), t13_9 h1 (isB_rfv _) rfl rfl, rf_ref, orf_ref, if_pos h1, t13_12 h1 (isB_rfv _), t13_17 h2 (isB_rfv _) rfl rfl, rf_ref, orf_ref, if_pos h2, t13_20 h2 (isB_rfv _), orf_rfv, t13_25 h2]
/-- one more step stands -/
theorem GS.snoc (G : GS W ns sh R I) (hn : ns < 40) {W' : WW} {sh' : Nat → Nat × Nat} {R' : Nat → Nat → Option Nat} {I' : Nat → Nat → Int32}
    (hW : ∀ r i, (r ≤ 2 ∨ 10 ≤ r ∧ r ≤ 14) → i < ns → W' r i = W r i) (h15 : ∀ k, k < 8 * ns → W' 15 k = W 15 k ∧ W' 16 k = W 16 k) (h8 : ∀ a, W 8 a < 3000 → W' 8 a = W 8 a)
    (hs : ∀ a, W 8 a < 3000 → sh' a = sh a) (hR1 : ∀ i, i < ns → R' 1 i = R 1 i) (hR : ∀ a k, 71 ≤ a → W 8 a < 3000 → R' a k = R a k) (hId : ∀ a k, 71 ≤ a → W 8 a < 3000 → I' a k = I a k)
    (hIs : ∀ a k, (a = 38 ∨ a = 39 ∨ a = 40 ∨ a = 41) → k ≠ ns → I' a k = I a k) (hI4 : ∀ a k, (a = 42 ∨ a = 43 ∨ a = 44) → I' a k = I a k)
    (e1 : I' 0 1 = Int32.ofNat (ns + 1)) (e2 : I' 37 0 = Int32.ofNat (ns + 1))
    (a1 : R' 1 ns = some (W' 0 ns) ∧ sh' (W' 0 ns) = (15, 0) ∧ R' (W' 0 ns) 0 = (if ns = 0 then none else some (W 0 (ns - 1))) ∧ R' (W' 0 ns) 6 = some (W' 1 ns) ∧ R' (W' 0 ns) 7 = some (W' 2 ns) ∧ sh' (W' 1 ns) = (0, 8) ∧ sh' (W' 2 ns) = (0, 8))
    (a2 : mk W' (W' 0 ns) (10 * ns) ∧ mk W' (W' 1 ns) (10 * ns + 1) ∧ mk W' (W' 2 ns) (10 * ns + 2))
    (a3 : I' (W' 0 ns) 1 = Int32.ofNat (W' 11 ns) ∧ I' (W' 0 ns) 2 = Int32.ofNat (W' 10 ns) ∧ I' (W' 0 ns) 3 = Int32.ofNat (W' 12 ns) ∧ I' (W' 0 ns) 4 = Int32.ofNat (W' 13 ns) ∧ I' (W' 0 ns) 5 = 0)
    (a4 : I' 38 ns = Int32.ofNat (W' 10 ns) ∧ I' 39 ns = Int32.ofNat (W' 11 ns) ∧ I' 40 ns = Int32.ofNat (W' 12 ns) ∧ I' 41 ns = Int32.ofNat (W' 13 ns))
    (a5 : (1 ≤ W' 10 ns ∧ W' 10 ns ≤ 9) ∧ W' 11 ns ≤ 1 ∧ W' 12 ns ≤ 2000 ∧ (1 ≤ W' 13 ns ∧ W' 13 ns ≤ 99) ∧ W' 14 ns = 0)
    (a6 : ∀ c, c < 8 → I' (W' 1 ns) c = 0 ∧ I' (W' 2 ns) c = 0 ∧ W' 15 (8 * ns + c) = 0 ∧ W' 16 (8 * ns + c) = 0) : GS W' (ns + 1) sh' R' I' := by
  have G' := G
  obtain ⟨h40, -, -, g1, g2, g3, g4, g5, g6, g7, g8⟩ := G
  have m0 : ∀ i, i < ns → 71 ≤ W 0 i ∧ W 8 (W 0 i) < 3000 := fun i hi => ⟨(g2 i hi).1.1, by rw [(g2 i hi).1.2]; omega⟩
  have m1 : ∀ i, i < ns → (71 ≤ W 1 i ∧ W 8 (W 1 i) < 3000) ∧ (71 ≤ W 2 i ∧ W 8 (W 2 i) < 3000) := fun i hi => by
    rcases (g2 i hi).2 with z | z
    · exact ⟨⟨z.1.1, by rw [z.1.2]; omega⟩, z.2.1, by rw [z.2.2]; omega⟩
    · exact ⟨⟨z.1.1, by rw [z.1.2]; omega⟩, z.2.1, by rw [z.2.2]; omega⟩
  have mk' : ∀ a m, m < 1000 → mk W a m → mk W' a m := fun a m hm z => ⟨z.1, by rw [h8 a (by rw [z.2]; omega)]; exact z.2⟩
  have w : ∀ r i, (r ≤ 2 ∨ 10 ≤ r ∧ r ≤ 14) → i < ns → W' r i = W r i := hW
  refine ⟨by omega, e1, e2, fun i hi => ?_, fun i hi => ?_, fun i hi => ?_, fun i hi => ?_, fun i hi => ?_, fun i c hi hc => ?_, fun k h1 h2 => ?_, fun i h1 h2 => ?_⟩
  · by_cases e : i = ns
    · subst e
      by_cases h0 : i = 0
      · rw [if_pos h0] at a1 ⊢; exact a1
      · rw [if_neg h0] at a1 ⊢; rw [w 0 (i - 1) (Or.inl (by decide)) (by omega)]; exact a1
    · have hi' : i < ns := by omega
      have q := g1 i hi'
      have p0 := m0 i hi'
      have p1 := m1 i hi'
      rw [w 0 i (Or.inl (by decide)) hi', w 1 i (Or.inl (by decide)) hi', w 2 i (Or.inl (by decide)) hi', hR1 i hi', hs _ p0.2, hR _ _ p0.1 p0.2, hR _ _ p0.1 p0.2, hR _ _ p0.1 p0.2, hs _ p1.1.2, hs _ p1.2.2]
      by_cases h0 : i = 0
      · rw [if_pos h0] at q ⊢; exact q
      · rw [if_neg h0] at q ⊢; rw [w 0 (i - 1) (Or.inl (by decide)) (by omega)]; exact q
  · by_cases e : i = ns
    · subst e; exact ⟨a2.1, Or.inl a2.2⟩
    · have hi' : i < ns := by omega
      have q := g2 i hi'
      rw [w 0 i (Or.inl (by decide)) hi', w 1 i (Or.inl (by decide)) hi', w 2 i (Or.inl (by decide)) hi']
      exact ⟨mk' _ _ (by omega) q.1, q.2.elim (fun z => Or.inl ⟨mk' _ _ (by omega) z.1, mk' _ _ (by omega) z.2⟩) (fun z => Or.inr ⟨mk' _ _ (by omega) z.1, mk' _ _ (by omega) z.2⟩)⟩
  · by_cases e : i = ns
    · subst e; rw [a5.2.2.2.2]; exact a3
    · have hi' : i < ns := by omega
      have p0 := m0 i hi'
      rw [w 0 i (Or.inl (by decide)) hi', w 10 i (Or.inr (by decide)) hi', w 11 i (Or.inr (by decide)) hi', w 12 i (Or.inr (by decide)) hi', w 13 i (Or.inr (by decide)) hi', w 14 i (Or.inr (by decide)) hi', hId _ _ p0.1 p0.2, hId _ _ p0.1 p0.2, hId _ _ p0.1 p0.2, hId _ _ p0.1 p0.2, hId _ _ p0.1 p0.2]
      exact g3 i hi'
  · by_cases e : i = ns
    · subst e
      refine ⟨a4.1, a4.2.1, a4.2.2.1, a4.2.2.2, ?_⟩
      rw [hI4 44 _ (Or.inr (Or.inr rfl)), a5.2.2.2.2]; exact g8 _ (Nat.le_refl _) hn
    · have hi' : i < ns := by omega
      rw [w 10 i (Or.inr (by decide)) hi', w 11 i (Or.inr (by decide)) hi', w 12 i (Or.inr (by decide)) hi', w 13 i (Or.inr (by decide)) hi', w 14 i (Or.inr (by decide)) hi', hIs 38 i (by decide) e, hIs 39 i (by decide) e, hIs 40 i (by decide) e, hIs 41 i (by decide) e, hI4 44 i (by decide)]
      exact g4 i hi'
  · by_cases e : i = ns
    · subst e; exact ⟨a5.1, a5.2.1, a5.2.2.1, a5.2.2.2.1, by omega⟩
    · have hi' : i < ns := by omega
      rw [w 10 i (Or.inr (by decide)) hi', w 11 i (Or.inr (by decide)) hi', w 12 i (Or.inr (by decide)) hi', w 13 i (Or.inr (by decide)) hi', w 14 i (Or.inr (by decide)) hi']
      exact g5 i hi'
  · by_cases e : i = ns
    · subst e
      have q := a6 c hc
      have z := g7 (8 * i + c) (by omega) (by omega)
      rw [hI4 42 _ (by decide), hI4 43 _ (by decide), q.1, q.2.1, q.2.2.1, q.2.2.2, z.1, z.2]
      exact ⟨rfl, rfl, rfl, rfl, by omega, by omega, fun _ => rfl⟩
    · have hi' : i < ns := by omega
      have p1 := m1 i hi'
      have p15 := h15 (8 * i + c) (by omega)
      rw [w 1 i (Or.inl (by decide)) hi', w 2 i (Or.inl (by decide)) hi', w 14 i (Or.inr (by decide)) hi', p15.1, p15.2, hId _ _ p1.1.1 p1.1.2, hId _ _ p1.2.1 p1.2.2, hI4 42 _ (by decide), hI4 43 _ (by decide)]
      exact g6 i c hi' hc
  · rw [hI4 42 _ (by decide), hI4 43 _ (by decide)]; exact g7 k (by omega) h2
  · rw [hI4 44 _ (by decide)]; exact g8 i (by omega) h2
/-- told, with one more step -/
def Wn (W : WW) (sz ns h w y r : Nat) : WW := fun q k => if k = ns ∧ (q = 0 ∨ q = 1 ∨ q = 2) then sz + q else if q = 8 ∧ sz ≤ k ∧ k < sz + 3 then 10 * ns + (k - sz) else if q = 10 ∧ k = ns then h else if q = 11 ∧ k = ns then w else if q = 12 ∧ k = ns then y else if q = 13 ∧ k = ns then r else if q = 14 ∧ k = ns then 0 else if (q = 15 ∨ q = 16) ∧ 8 * ns ≤ k ∧ k < 8 * ns + 8 then 0 else W q k
theorem o_step (hS : SF sh R) (G : GS W ns sh R I) {nl ny : Nat} (Z : GZ W sz sl ns nl ny) {v y z : Int32} : ∃ x sz' sl' sh' R1 I1 J1 I2 W' ns', ev X (d + 4) 9 [.ref 0, .int v, .int y, .int z] (sz, sl, sh, R, I, J) = some (some (.int x), (sz', sl', sh', R1, I1, J1)) ∧ ev X (d + 4) 147 [.ref 37, .int v, .int y, .int z] (sz', sl', sh', R1, I1, J1) = some (some (.int x), (sz', sl', sh', R1, I2, J1)) ∧ (∀ r k, ¬ rwS r → r ≠ 8 → W' r k = W r k) ∧ (∀ a, W 8 a < 3000 → W' 8 a = W 8 a) ∧ GS W' ns' sh' R1 I2 ∧ GZ W' sz' sl' ns' nl ny ∧ ns ≤ ns' ∧ (∀ a, a < sz → sh' a = sh a) ∧ (∀ a k, a < sz → cI W a k ≠ 1 → I2 a k = I a k) ∧ (∀ a k, a < sz → cR W a ≠ 1 → R1 a k = R a k) ∧ (∀ a k, a < sz → J1 a k = J a k) := by
  have h40 := G.1
  have same : ∀ x, ev X (d + 4) 9 [.ref 0, .int v, .int y, .int z] (sz, sl, sh, R, I, J) = some (some (.int x), (sz, sl, sh, R, I, J)) → ev X (d + 4) 147 [.ref 37, .int v, .int y, .int z] (sz, sl, sh, R, I, J) = some (some (.int x), (sz, sl, sh, R, I, J)) → ∃ x sz' sl' sh' R1 I1 J1 I2 W' ns', ev X (d + 4) 9 [.ref 0, .int v, .int y, .int z] (sz, sl, sh, R, I, J) = some (some (.int x), (sz', sl', sh', R1, I1, J1)) ∧ ev X (d + 4) 147 [.ref 37, .int v, .int y, .int z] (sz', sl', sh', R1, I1, J1) = some (some (.int x), (sz', sl', sh', R1, I2, J1)) ∧ (∀ r k, ¬ rwS r → r ≠ 8 → W' r k = W r k) ∧ (∀ a, W 8 a < 3000 → W' 8 a = W 8 a) ∧ GS W' ns' sh' R1 I2 ∧ GZ W' sz' sl' ns' nl ny ∧ ns ≤ ns' ∧ (∀ a, a < sz → sh' a = sh a) ∧ (∀ a k, a < sz → cI W a k ≠ 1 → I2 a k = I a k) ∧ (∀ a k, a < sz → cR W a ≠ 1 → R1 a k = R a k) ∧ (∀ a k, a < sz → J1 a k = J a k) :=
    fun x a b => ⟨x, sz, sl, sh, R, I, J, I, W, ns, a, b, fun _ _ _ _ => rfl, fun _ _ => rfl, G, Z, Nat.le_refl _, fun _ _ => rfl, fun _ _ _ _ => rfl, fun _ _ _ _ => rfl, fun _ _ _ => rfl⟩
  by_cases hv : v < 0
  · refine same (-1) ?_ ?_
    · simp (disch := first | omega | exact ib_r | exact ib_n | exact isB_rfv _ | assumption) only [n9, t9_0, hv, ↓reduceIte, eq_self, and_self, and_true, true_and, not_true_eq_false, not_false_eq_true, ob_s, tl_s, tl_n, rf_ref, orf_ref, orf_null, nn_ref, nn_null, rfv_s, rfv_n, if_true, if_false, bi_01, bi_e0, bi_e1, or_t, Classical.not_not]
    · simp (disch := first | omega | exact ib_r | exact ib_n | exact isB_rfv _ | assumption) only [n147, t147_0, hv, ↓reduceIte, eq_self, and_self, and_true, true_and, not_true_eq_false, not_false_eq_true, ob_s, tl_s, tl_n, rf_ref, orf_ref, orf_null, nn_ref, nn_null, rfv_s, rfv_n, if_true, if_false, bi_01, bi_e0, bi_e1, or_t, Classical.not_not]
  obtain ⟨u, hu, rfl⟩ := n_of (Int32.not_lt.mp hv)
  have ed : Int32.ofNat u / 10 = Int32.ofNat (u / 10) := by rw [k_10, n_div hu (by decide)]
  have er : Int32.ofNat u - Int32.ofNat (u / 10) * 10 = Int32.ofNat (u % 10) := by rw [k_10, n_rem']
  by_cases h1 : 1 ≤ Int32.ofNat (u / 10) ∧ Int32.ofNat (u / 10) ≤ 9
  rotate_left
  · refine same (-1) ?_ ?_
    · simp (disch := first | omega | exact ib_r | exact ib_n | exact isB_rfv _ | assumption) only [n9, t9_0, t9_24, hv, ed, er, s_within, h1, ↓reduceIte, eq_self, and_self, and_true, true_and, not_true_eq_false, not_false_eq_true, ob_s, tl_s, tl_n, rf_ref, orf_ref, orf_null, nn_ref, nn_null, rfv_s, rfv_n, if_true, if_false, bi_01, bi_e0, bi_e1, or_t, Classical.not_not]
    · simp (disch := first | omega | exact ib_r | exact ib_n | exact isB_rfv _ | assumption) only [n147, t147_0, t147_14, hv, ed, er, s_in, h1, ↓reduceIte, eq_self, and_self, and_true, true_and, not_true_eq_false, not_false_eq_true, ob_s, tl_s, tl_n, rf_ref, orf_ref, orf_null, nn_ref, nn_null, rfv_s, rfv_n, if_true, if_false, bi_01, bi_e0, bi_e1, or_t, Classical.not_not]
  by_cases h2 : (1 : Int32) < Int32.ofNat (u % 10)
  · refine same (-1) ?_ ?_
    · simp (disch := first | omega | exact ib_r | exact ib_n | exact isB_rfv _ | assumption) only [n9, t9_0, t9_24, hv, ed, er, s_within, h1, h2, ↓reduceIte, eq_self, and_self, and_true, true_and, not_true_eq_false, not_false_eq_true, ob_s, tl_s, tl_n, rf_ref, orf_ref, orf_null, nn_ref, nn_null, rfv_s, rfv_n, if_true, if_false, bi_01, bi_e0, bi_e1, or_t, Classical.not_not]
    · simp (disch := first | omega | exact ib_r | exact ib_n | exact isB_rfv _ | assumption) only [n147, t147_0, t147_14, hv, ed, er, s_in, h1, h2, ↓reduceIte, eq_self, and_self, and_true, true_and, not_true_eq_false, not_false_eq_true, ob_s, tl_s, tl_n, rf_ref, orf_ref, orf_null, nn_ref, nn_null, rfv_s, rfv_n, if_true, if_false, bi_01, bi_e0, bi_e1, or_t, Classical.not_not]
  by_cases h3 : 0 ≤ y ∧ y ≤ 2000
  rotate_left
  · refine same (-1) ?_ ?_
    · simp (disch := first | omega | exact ib_r | exact ib_n | exact isB_rfv _ | assumption) only [n9, t9_0, t9_24, t9_37, hv, ed, er, s_within, s_isYear, h1, h2, h3, ↓reduceIte, eq_self, and_self, and_true, true_and, not_true_eq_false, not_false_eq_true, ob_s, tl_s, tl_n, rf_ref, orf_ref, orf_null, nn_ref, nn_null, rfv_s, rfv_n, if_true, if_false, bi_01, bi_e0, bi_e1, or_t, Classical.not_not]
    · simp (disch := first | omega | exact ib_r | exact ib_n | exact isB_rfv _ | assumption) only [n147, t147_0, t147_14, t147_33, hv, ed, er, s_in, h1, h2, h3, ↓reduceIte, eq_self, and_self, and_true, true_and, not_true_eq_false, not_false_eq_true, ob_s, tl_s, tl_n, rf_ref, orf_ref, orf_null, nn_ref, nn_null, rfv_s, rfv_n, if_true, if_false, bi_01, bi_e0, bi_e1, or_t, Classical.not_not]
  by_cases h4 : 1 ≤ z ∧ z ≤ 99
  rotate_left
  · refine same (-1) ?_ ?_
    · simp (disch := first | omega | exact ib_r | exact ib_n | exact isB_rfv _ | assumption) only [n9, t9_0, t9_24, t9_37, t9_47 hS, hv, ed, er, s_within, s_isYear, h1, h2, h3, h4, ↓reduceIte, eq_self, and_self, and_true, true_and, not_true_eq_false, not_false_eq_true, ob_s, tl_s, tl_n, rf_ref, orf_ref, orf_null, nn_ref, nn_null, rfv_s, rfv_n, if_true, if_false, bi_01, bi_e0, bi_e1, or_t, Classical.not_not]
    · simp (disch := first | omega | exact ib_r | exact ib_n | exact isB_rfv _ | assumption) only [n147, t147_0, t147_14, t147_33, t147_43 hS, hv, ed, er, s_in, h1, h2, h3, h4, ↓reduceIte, eq_self, and_self, and_true, true_and, not_true_eq_false, not_false_eq_true, ob_s, tl_s, tl_n, rf_ref, orf_ref, orf_null, nn_ref, nn_null, rfv_s, rfv_n, if_true, if_false, bi_01, bi_e0, bi_e1, or_t, Classical.not_not]
  by_cases hn : ns < 40
  rotate_left
  · obtain rfl : ns = 40 := by omega
    have z1 : ¬ Int32.ofNat 40 < 40 := by decide
    have z2 : Int32.ofNat 40 = 40 := rfl
    refine same (-3) ?_ ?_
    · simp (disch := first | omega | exact ib_r | exact ib_n | exact isB_rfv _ | assumption) only [n9, t9_0, t9_24, t9_37, t9_47 hS, hv, ed, er, s_within, s_isYear, h1, h2, h3, h4, G.n1, z1, ↓reduceIte, eq_self, and_self, and_true, true_and, not_true_eq_false, not_false_eq_true, ob_s, tl_s, tl_n, rf_ref, orf_ref, orf_null, nn_ref, nn_null, rfv_s, rfv_n, if_true, if_false, bi_01, bi_e0, bi_e1, or_t, Classical.not_not]
    · simp (disch := first | omega | exact ib_r | exact ib_n | exact isB_rfv _ | assumption) only [n147, t147_0, t147_14, t147_33, t147_43 hS, hv, ed, er, s_in, h1, h2, h3, h4, G.n2, z2, ↓reduceIte, eq_self, and_self, and_true, true_and, not_true_eq_false, not_false_eq_true, ob_s, tl_s, tl_n, rf_ref, orf_ref, orf_null, nn_ref, nn_null, rfv_s, rfv_n, if_true, if_false, bi_01, bi_e0, bi_e1, or_t, Classical.not_not]
  obtain ⟨Y, -, hY, rfl⟩ := n_in (a := 0) (b := 2000) (by decide) h3.1 h3.2 (by decide)
  obtain ⟨q, hq1, hq2, rfl⟩ := n_in (a := 1) (b := 99) (by decide) h4.1 h4.2 (by decide)
  have hh : 1 ≤ u / 10 ∧ u / 10 ≤ 9 := by
    have a := h1.1
    have b := h1.2
    rw [k_1, n_le (by decide) (by omega)] at a
    rw [k_9, n_le (by omega) (by decide)] at b
    exact ⟨a, b⟩
  have hw : u % 10 ≤ 1 := by
    have a := h2
    rw [k_1, n_lt (by decide) (by omega)] at a
    omega
  have h71 := Z.1
  have hS1 : SF (ur sh sz (15, 0)) (ur R sz (fun _ => none)) := hS.fr (W := W) (fun a ha => ur_n (by omega)) (fun a k hc => by
    rw [ur_n]
    intro e; subst e
    rw [cR_hi h71, Z.2.1 a (Nat.le_refl a)] at hc
    exact absurd hc (by decide))
  have hmk : ∀ a, W 8 a < 3000 → a < sz := fun a h => Z.lt h
  have dc1 : ∀ a, dyc (W 8 a) = 1 → a < sz := fun a h => hmk a (by unfold dyc at h; split at h; omega; split at h; split at h <;> omega; split at h <;> omega)
  have cne : ∀ a k, cI W a k = 1 → a ≠ sz := fun a k h e => by
    subst e
    rw [cI_hi h71, Z.2.1 a (Nat.le_refl a)] at h
    exact absurd h (by decide)
  have cne' : ∀ a, cR W a = 1 → a ≠ sz := fun a h e => by
    subst e
    rw [cR_hi h71, Z.2.1 a (Nat.le_refl a)] at h
    exact absurd h (by decide)
  have G1 : GS W ns (ur sh sz (15, 0)) (ur R sz (fun _ => none)) (ur I sz (fun _ => 0)) := G.fr (fun _ _ _ => rfl) (fun _ _ => rfl) (fun a h => ur_n (by have := hmk a h; omega)) (fun a k h => by rw [ur_n (cne' a h)]) (fun a k h => by rw [ur_n (cne a k h)])
  have uo : ∃ uo : Option Nat, uo = (if ns = 0 then none else some (W 0 (ns - 1))) ∧ ev X (d + 3) 12 [.ref 0, .int (Int32.ofNat ns - 1)] (sz + 1, sl + 8, ur sh sz (15, 0), ur R sz (fun _ => none), ur I sz (fun _ => 0), ur J sz (fun _ => 0)) = some (some (rfv uo), (sz + 1, sl + 8, ur sh sz (15, 0), ur R sz (fun _ => none), ur I sz (fun _ => 0), ur J sz (fun _ => 0))) := by
    by_cases h0 : ns = 0
    · refine ⟨none, by rw [if_pos h0], ?_⟩
      exact s_stepAt_no hS1 G1 (fun z => by obtain ⟨j, hj, _⟩ := z; omega)
    · refine ⟨some (W 0 (ns - 1)), by rw [if_neg h0], ?_⟩
      have e : Int32.ofNat ns - 1 = Int32.ofNat (ns - 1) := by rw [k_1, n_sub (by omega)]
      rw [e]
      exact s_stepAt hS1 G1 (by omega)
  obtain ⟨uo, euo, hst⟩ := uo
  have ini := s_init (X := X) (d := d + 2) (sz := sz + 1) (sl := sl + 8) (sh := ur sh sz (15, 0)) (R := ur R sz (fun _ => none)) (I := ur I sz (fun _ => 0)) (J := ur J sz (fun _ => 0)) (l0 := sz) (uo := uo) (h := Int32.ofNat (u / 10)) (w := Int32.ofNat (u % 10)) (y := Int32.ofNat Y) (r := Int32.ofNat q) rfl (by rw [ur_a]) (by omega)
  have i01 : (ur I sz (fun _ => (0 : Int32))) 0 1 = Int32.ofNat ns := by rw [ur_n (by omega)]; exact G.n1
  have X1 : ev X (d + 4) 9 [.ref 0, .int (Int32.ofNat u), .int (Int32.ofNat Y), .int (Int32.ofNat q)] (sz, sl, sh, R, I, J) = exe X (d + 3) 9 78 [.ref 0, dm, .int (Int32.ofNat Y), .int (Int32.ofNat q), .int (Int32.ofNat (u / 10)), .int (Int32.ofNat (u % 10))] [.ref sz, .int (Int32.ofNat ns), .ref 1] (sz + 1, sl + 8, (ur sh sz (15, 0)), (ur R sz (fun _ => none)), (ur I sz (fun _ => (0 : Int32))), (ur J sz (fun _ => 0))) := by
    have z1 : Int32.ofNat ns < 40 := by rw [k_40, n_lt (by omega) (by decide)]; exact hn
    simp (disch := first | omega | exact ib_r | exact ib_n | exact isB_rfv _ | assumption) only [n9, t9_0, t9_24, t9_37, t9_47 hS, hv, ed, er, s_within, s_isYear, h1, h2, h3, h4, G.n1, z1, ↓reduceIte, eq_self, and_self, and_true, true_and, not_true_eq_false, not_false_eq_true, ob_s, tl_s, tl_n, rf_ref, orf_ref, orf_null, nn_ref, nn_null, rfv_s, rfv_n, if_true, if_false, bi_01, bi_e0, bi_e1, or_t, Classical.not_not]
  have sh1 : (ur (ur (ur sh sz (15, 0)) (sz + 1) (0, 8)) (sz + 1 + 1) (0, 8)) 1 = (3, 40) := by rw [ur_n (by omega), ur_n (by omega), ur_n (by omega)]; exact zS1 hS
  have shz : (ur (ur (ur sh sz (15, 0)) (sz + 1) (0, 8)) (sz + 1 + 1) (0, 8)) sz = (15, 0) := by rw [ur_n (by omega), ur_n (by omega), ur_a]
  have R4n : ∀ a k, a < sz → ¬ (a = 1 ∧ k = ns) → (u2 (u2 (u2 (ur (u2 (ur (ur R sz (fun _ => none)) (sz + 1) (fun _ => none)) sz 6 (some (sz + 1))) (sz + 1 + 1) (fun _ => none)) sz 7 (some (sz + 1 + 1))) sz 0 uo) 1 ns (some sz)) a k = R a k := fun a k ha hk => by
    show (if a = 1 ∧ k = ns then _ else (u2 (u2 (ur (u2 (ur (ur R sz (fun _ => none)) (sz + 1) (fun _ => none)) sz 6 (some (sz + 1))) (sz + 1 + 1) (fun _ => none)) sz 7 (some (sz + 1 + 1))) sz 0 uo) a k) = R a k
    rw [if_neg hk, u2_pa (by omega), u2_pa (by omega), ur_n (by omega), u2_pa (by omega), ur_n (by omega), ur_n (by omega)]
  have hS4 : SF (ur (ur (ur sh sz (15, 0)) (sz + 1) (0, 8)) (sz + 1 + 1) (0, 8)) (u2 (u2 (u2 (ur (u2 (ur (ur R sz (fun _ => none)) (sz + 1) (fun _ => none)) sz 6 (some (sz + 1))) (sz + 1 + 1) (fun _ => none)) sz 7 (some (sz + 1 + 1))) sz 0 uo) 1 ns (some sz)) := hS.fr (W := W) (fun a ha => by rw [ur_n (by omega), ur_n (by omega), ur_n (by omega)]) (fun a k hc => by
    have hlt : a < 71 := by
      by_cases h : a < 71
      · exact h
      · exfalso
        rw [cR_hi (by omega)] at hc
        unfold dyc at hc
        split at hc
        · omega
        · split at hc
          · split at hc <;> omega
          · split at hc <;> omega
    exact R4n a k (by omega) (fun z => by rw [z.1] at hc; exact absurd hc (by show ¬ (1 : Nat) = 10; decide)))
  have I3n : ∀ a k, a < sz → (u2 (u2 (u2 (u2 (ur (ur (ur I sz (fun _ => (0 : Int32))) (sz + 1) (fun _ => (0 : Int32))) (sz + 1 + 1) (fun _ => (0 : Int32))) sz 2 (Int32.ofNat (u / 10))) sz 1 (Int32.ofNat (u % 10))) sz 3 (Int32.ofNat Y)) sz 4 (Int32.ofNat q)) a k = I a k := fun a k ha => by rw [u2_pa (by omega), u2_pa (by omega), u2_pa (by omega), u2_pa (by omega), ur_n (by omega), ur_n (by omega), ur_n (by omega)]
  have I301 : (u2 (u2 (u2 (u2 (ur (ur (ur I sz (fun _ => (0 : Int32))) (sz + 1) (fun _ => (0 : Int32))) (sz + 1 + 1) (fun _ => (0 : Int32))) sz 2 (Int32.ofNat (u / 10))) sz 1 (Int32.ofNat (u % 10))) sz 3 (Int32.ofNat Y)) sz 4 (Int32.ofNat q)) 0 1 = Int32.ofNat ns := by rw [I3n 0 1 (by omega)]; exact G.n1
  have cond : ((3 ≤ ((ur (ur (ur sh sz (15, 0)) (sz + 1) (0, 8)) (sz + 1 + 1) (0, 8)) 1).1 ∧ ((ur (ur (ur sh sz (15, 0)) (sz + 1) (0, 8)) (sz + 1 + 1) (0, 8)) 1).1 < 7) ∧ inb (Int32.ofNat ns) ((ur (ur (ur sh sz (15, 0)) (sz + 1) (0, 8)) (sz + 1 + 1) (0, 8)) 1).2) ∧ (ur (ur (ur sh sz (15, 0)) (sz + 1) (0, 8)) (sz + 1 + 1) (0, 8)) sz = (tcl ((ur (ur (ur sh sz (15, 0)) (sz + 1) (0, 8)) (sz + 1 + 1) (0, 8)) 1).1 + 7, 0) := by
    rw [sh1, shz]
    exact ⟨⟨⟨by decide, by decide⟩, by rw [n_inb (by omega)]; exact hn⟩, rfl⟩
  have I4n : ∀ a k, a < sz → ¬ (a = 0 ∧ k = 1) → (u2 (u2 (u2 (u2 (u2 (ur (ur (ur I sz (fun _ => (0 : Int32))) (sz + 1) (fun _ => (0 : Int32))) (sz + 1 + 1) (fun _ => (0 : Int32))) sz 2 (Int32.ofNat (u / 10))) sz 1 (Int32.ofNat (u % 10))) sz 3 (Int32.ofNat Y)) sz 4 (Int32.ofNat q)) 0 1 (Int32.ofNat (ns + 1))) a k = I a k := fun a k ha hk => by
    show (if a = 0 ∧ k = 1 then _ else (u2 (u2 (u2 (u2 (ur (ur (ur I sz (fun _ => (0 : Int32))) (sz + 1) (fun _ => (0 : Int32))) (sz + 1 + 1) (fun _ => (0 : Int32))) sz 2 (Int32.ofNat (u / 10))) sz 1 (Int32.ofNat (u % 10))) sz 3 (Int32.ofNat Y)) sz 4 (Int32.ofNat q)) a k) = I a k
    rw [if_neg hk, I3n a k ha]
  have i370 : (u2 (u2 (u2 (u2 (u2 (ur (ur (ur I sz (fun _ => (0 : Int32))) (sz + 1) (fun _ => (0 : Int32))) (sz + 1 + 1) (fun _ => (0 : Int32))) sz 2 (Int32.ofNat (u / 10))) sz 1 (Int32.ofNat (u % 10))) sz 3 (Int32.ofNat Y)) sz 4 (Int32.ofNat q)) 0 1 (Int32.ofNat (ns + 1))) 37 0 = Int32.ofNat ns := by rw [I4n 37 0 (by omega) (by omega)]; exact G.n2
  have I5n : ∀ a k, a < sz → ¬ (a = 0 ∧ k = 1) → ¬ (a = 37 ∧ k = 0) → ¬ ((a = 38 ∨ a = 39 ∨ a = 40 ∨ a = 41) ∧ k = ns) → (u2 (u2 (u2 (u2 (u2 (u2 (u2 (u2 (u2 (u2 (ur (ur (ur I sz (fun _ => (0 : Int32))) (sz + 1) (fun _ => (0 : Int32))) (sz + 1 + 1) (fun _ => (0 : Int32))) sz 2 (Int32.ofNat (u / 10))) sz 1 (Int32.ofNat (u % 10))) sz 3 (Int32.ofNat Y)) sz 4 (Int32.ofNat q)) 0 1 (Int32.ofNat (ns + 1))) 38 ns (Int32.ofNat (u / 10))) 39 ns (Int32.ofNat (u % 10))) 40 ns (Int32.ofNat Y)) 41 ns (Int32.ofNat q)) 37 0 (Int32.ofNat (ns + 1))) a k = I a k := fun a k ha n1 n2 n3 => by
    show (if a = 37 ∧ k = 0 then _ else if a = 41 ∧ k = ns then _ else if a = 40 ∧ k = ns then _ else if a = 39 ∧ k = ns then _ else if a = 38 ∧ k = ns then _ else (u2 (u2 (u2 (u2 (u2 (ur (ur (ur I sz (fun _ => (0 : Int32))) (sz + 1) (fun _ => (0 : Int32))) (sz + 1 + 1) (fun _ => (0 : Int32))) sz 2 (Int32.ofNat (u / 10))) sz 1 (Int32.ofNat (u % 10))) sz 3 (Int32.ofNat Y)) sz 4 (Int32.ofNat q)) 0 1 (Int32.ofNat (ns + 1))) a k) = I a k
    rw [if_neg n2, if_neg (fun z => n3 ⟨by omega, z.2⟩), if_neg (fun z => n3 ⟨by omega, z.2⟩), if_neg (fun z => n3 ⟨by omega, z.2⟩), if_neg (fun z => n3 ⟨by omega, z.2⟩), I4n a k ha n1]
  have I5h : ∀ a k, 71 ≤ a → (u2 (u2 (u2 (u2 (u2 (u2 (u2 (u2 (u2 (u2 (ur (ur (ur I sz (fun _ => (0 : Int32))) (sz + 1) (fun _ => (0 : Int32))) (sz + 1 + 1) (fun _ => (0 : Int32))) sz 2 (Int32.ofNat (u / 10))) sz 1 (Int32.ofNat (u % 10))) sz 3 (Int32.ofNat Y)) sz 4 (Int32.ofNat q)) 0 1 (Int32.ofNat (ns + 1))) 38 ns (Int32.ofNat (u / 10))) 39 ns (Int32.ofNat (u % 10))) 40 ns (Int32.ofNat Y)) 41 ns (Int32.ofNat q)) 37 0 (Int32.ofNat (ns + 1))) a k = (u2 (u2 (u2 (u2 (ur (ur (ur I sz (fun _ => (0 : Int32))) (sz + 1) (fun _ => (0 : Int32))) (sz + 1 + 1) (fun _ => (0 : Int32))) sz 2 (Int32.ofNat (u / 10))) sz 1 (Int32.ofNat (u % 10))) sz 3 (Int32.ofNat Y)) sz 4 (Int32.ofNat q)) a k := fun a k ha => by rw [u2_pa (by omega), u2_pa (by omega), u2_pa (by omega), u2_pa (by omega), u2_pa (by omega), u2_pa (by omega)]
  have I3z : ∀ k, (u2 (u2 (u2 (u2 (ur (ur (ur I sz (fun _ => (0 : Int32))) (sz + 1) (fun _ => (0 : Int32))) (sz + 1 + 1) (fun _ => (0 : Int32))) sz 2 (Int32.ofNat (u / 10))) sz 1 (Int32.ofNat (u % 10))) sz 3 (Int32.ofNat Y)) sz 4 (Int32.ofNat q)) (sz + 1) k = 0 ∧ (u2 (u2 (u2 (u2 (ur (ur (ur I sz (fun _ => (0 : Int32))) (sz + 1) (fun _ => (0 : Int32))) (sz + 1 + 1) (fun _ => (0 : Int32))) sz 2 (Int32.ofNat (u / 10))) sz 1 (Int32.ofNat (u % 10))) sz 3 (Int32.ofNat Y)) sz 4 (Int32.ofNat q)) (sz + 2) k = 0 := fun k => by
    rw [u2_pa (by omega), u2_pa (by omega), u2_pa (by omega), u2_pa (by omega), u2_pa (by omega), u2_pa (by omega), u2_pa (by omega), u2_pa (by omega)]
    exact ⟨by rw [ur_n (by omega), ur_a], by rw [ur_a]⟩
  -- what is told
  have w0 : Wn W sz ns (u / 10) (u % 10) Y q 0 ns = sz := by unfold Wn; rw [if_pos ⟨rfl, Or.inl rfl⟩, Nat.add_zero]
  have w1 : Wn W sz ns (u / 10) (u % 10) Y q 1 ns = sz + 1 := by unfold Wn; rw [if_pos ⟨rfl, Or.inr (Or.inl rfl)⟩]
  have w2 : Wn W sz ns (u / 10) (u % 10) Y q 2 ns = sz + 2 := by unfold Wn; rw [if_pos ⟨rfl, Or.inr (Or.inr rfl)⟩]
  have w8 : ∀ j, j < 3 → Wn W sz ns (u / 10) (u % 10) Y q 8 (sz + j) = 10 * ns + j := fun j hj => by unfold Wn; rw [if_neg (by omega), if_pos ⟨rfl, by omega, by omega⟩, Nat.add_sub_cancel_left]
  have w8' : ∀ a, a < sz ∨ sz + 3 ≤ a → Wn W sz ns (u / 10) (u % 10) Y q 8 a = W 8 a := fun a ha => by unfold Wn; rw [if_neg (by omega), if_neg (by omega), if_neg (by omega), if_neg (by omega), if_neg (by omega), if_neg (by omega), if_neg (by omega), if_neg (by omega)]
  have w10 : Wn W sz ns (u / 10) (u % 10) Y q 10 ns = u / 10 := by unfold Wn; rw [if_neg (by omega), if_neg (by omega), if_pos ⟨rfl, rfl⟩]
  have w11 : Wn W sz ns (u / 10) (u % 10) Y q 11 ns = u % 10 := by unfold Wn; rw [if_neg (by omega), if_neg (by omega), if_neg (by omega), if_pos ⟨rfl, rfl⟩]
  have w12 : Wn W sz ns (u / 10) (u % 10) Y q 12 ns = Y := by unfold Wn; rw [if_neg (by omega), if_neg (by omega), if_neg (by omega), if_neg (by omega), if_pos ⟨rfl, rfl⟩]
  have w13 : Wn W sz ns (u / 10) (u % 10) Y q 13 ns = q := by unfold Wn; rw [if_neg (by omega), if_neg (by omega), if_neg (by omega), if_neg (by omega), if_neg (by omega), if_pos ⟨rfl, rfl⟩]
  have w14 : Wn W sz ns (u / 10) (u % 10) Y q 14 ns = 0 := by unfold Wn; rw [if_neg (by omega), if_neg (by omega), if_neg (by omega), if_neg (by omega), if_neg (by omega), if_neg (by omega), if_pos ⟨rfl, rfl⟩]
  have w15 : ∀ r c, (r = 15 ∨ r = 16) → c < 8 → Wn W sz ns (u / 10) (u % 10) Y q r (8 * ns + c) = 0 := fun r c hr hc => by unfold Wn; rw [if_neg (by omega), if_neg (by omega), if_neg (by omega), if_neg (by omega), if_neg (by omega), if_neg (by omega), if_neg (by omega), if_pos ⟨hr, by omega, by omega⟩]
  have wlt : ∀ r i, (r ≤ 2 ∨ 10 ≤ r ∧ r ≤ 14) → i < ns → Wn W sz ns (u / 10) (u % 10) Y q r i = W r i := fun r i hr hi => by unfold Wn; rw [if_neg (by omega), if_neg (by omega), if_neg (by omega), if_neg (by omega), if_neg (by omega), if_neg (by omega), if_neg (by omega), if_neg (by omega)]
  have wlt' : ∀ r k, (r = 15 ∨ r = 16) → k < 8 * ns → Wn W sz ns (u / 10) (u % 10) Y q r k = W r k := fun r k hr hi => by unfold Wn; rw [if_neg (by omega), if_neg (by omega), if_neg (by omega), if_neg (by omega), if_neg (by omega), if_neg (by omega), if_neg (by omega), if_neg (by omega)]
  have wn : ∀ r k, ¬ rwS r → r ≠ 8 → Wn W sz ns (u / 10) (u % 10) Y q r k = W r k := fun r k hr h8 => by unfold rwS at hr; unfold Wn; rw [if_neg (by omega), if_neg (by omega), if_neg (by omega), if_neg (by omega), if_neg (by omega), if_neg (by omega), if_neg (by omega), if_neg (by omega)]
  refine ⟨Int32.ofNat ns, sz + 1 + 1 + 1, sl + 8 + 8 + 8, (ur (ur (ur sh sz (15, 0)) (sz + 1) (0, 8)) (sz + 1 + 1) (0, 8)), (u2 (u2 (u2 (ur (u2 (ur (ur R sz (fun _ => none)) (sz + 1) (fun _ => none)) sz 6 (some (sz + 1))) (sz + 1 + 1) (fun _ => none)) sz 7 (some (sz + 1 + 1))) sz 0 uo) 1 ns (some sz)), (u2 (u2 (u2 (u2 (u2 (ur (ur (ur I sz (fun _ => (0 : Int32))) (sz + 1) (fun _ => (0 : Int32))) (sz + 1 + 1) (fun _ => (0 : Int32))) sz 2 (Int32.ofNat (u / 10))) sz 1 (Int32.ofNat (u % 10))) sz 3 (Int32.ofNat Y)) sz 4 (Int32.ofNat q)) 0 1 (Int32.ofNat (ns + 1))), (ur (ur (ur J sz (fun _ => 0)) (sz + 1) (fun _ => 0)) (sz + 1 + 1) (fun _ => 0)), (u2 (u2 (u2 (u2 (u2 (u2 (u2 (u2 (u2 (u2 (ur (ur (ur I sz (fun _ => (0 : Int32))) (sz + 1) (fun _ => (0 : Int32))) (sz + 1 + 1) (fun _ => (0 : Int32))) sz 2 (Int32.ofNat (u / 10))) sz 1 (Int32.ofNat (u % 10))) sz 3 (Int32.ofNat Y)) sz 4 (Int32.ofNat q)) 0 1 (Int32.ofNat (ns + 1))) 38 ns (Int32.ofNat (u / 10))) 39 ns (Int32.ofNat (u % 10))) 40 ns (Int32.ofNat Y)) 41 ns (Int32.ofNat q)) 37 0 (Int32.ofNat (ns + 1))), Wn W sz ns (u / 10) (u % 10) Y q, ns + 1, ?_, ?_, wn, fun a ha => w8' a (Or.inl (hmk a ha)), ?_, ⟨by omega, fun a ha => ?_, by have := Z.2.2.1; omega, by have := Z.2.2.2; omega⟩, by omega, fun a ha => ?_, fun a k ha hc => ?_, fun a k ha hc => ?_, fun a k ha => ?_⟩
  · rw [X1, t9_78 hS1 rfl rfl, i01, hst, ob_s]
    show exe X (d + 3) 9 89 _ [rfv uo, .ref sz, .ref sz, .int (Int32.ofNat ns), .ref 1] _ = _
    rw [t9_89 (isB_rfv _) rfl rfl rfl, rf_ref, if_pos ur_a, ini, ob_s]
    show exe X (d + 3) 9 98 _ [.ref sz, .int (Int32.ofNat ns), .ref 1] _ = _
    rw [t9_98 rfl rfl, rf_ref, rf_ref, if_pos cond, n_cl (by omega), t9_99 hS4, I301, n_suc]
  · have z1 : ¬ Int32.ofNat ns = 40 := by rw [k_40, n_eq (by omega) (by decide)]; omega
    have z2 : Int32.ofNat (ns + 1) - 1 = Int32.ofNat ns := by rw [k_1, n_sub (by omega), Nat.add_sub_cancel]
    simp (disch := first | omega | exact ib_r | exact ib_n | exact isB_rfv _ | assumption) only [n147, t147_0, t147_14, t147_33, t147_43 hS4, hv, ed, er, s_in, h1, h2, h3, h4, i370, z1, n_inb, n_cl, hn, n_suc, z2, ↓reduceIte, eq_self, and_self, and_true, true_and, not_true_eq_false, not_false_eq_true, ob_s, tl_s, tl_n, rf_ref, orf_ref, orf_null, nn_ref, nn_null, rfv_s, rfv_n, if_true, if_false, bi_01, bi_e0, bi_e1, or_t, Classical.not_not]
  · refine G.snoc hn wlt (fun k hk => ⟨wlt' 15 k (Or.inl rfl) hk, wlt' 16 k (Or.inr rfl) hk⟩) (fun a ha => w8' a (Or.inl (hmk a ha))) (fun a ha => ?_) (fun i hi => ?_) (fun a k h1 h2 => ?_) (fun a k h1 h2 => ?_) (fun a k h1 h2 => ?_) (fun a k h1 => ?_) ?_ ?_ ?_ ?_ ?_ ?_ ?_ ?_
    · have := hmk a ha; rw [ur_n (by omega), ur_n (by omega), ur_n (by omega)]
    · exact R4n 1 i (by omega) (by omega)
    · exact R4n a k (hmk a h2) (by omega)
    · have := hmk a h2; exact I5n a k this (by omega) (by omega) (by omega)
    · exact I5n a k (by omega) (by omega) (by omega) (by omega)
    · exact I5n a k (by omega) (by omega) (by omega) (by omega)
    · rw [u2_pa (by decide), u2_pa (by decide), u2_pa (by decide), u2_pa (by decide), u2_pa (by decide), u2_at0]
    · rw [u2_at0]
    · rw [w0, w1, w2, ← euo]
      refine ⟨u2_at0, shz, ?_, ?_, ?_, ?_, ?_⟩
      · rw [u2_pa (by omega), u2_at0]
      · rw [u2_pa (by omega), u2_pj (by decide), u2_pj (by decide), ur_n (by omega), u2_at0]
      · rw [u2_pa (by omega), u2_pj (by decide), u2_at0]
      · rw [ur_n (by omega), ur_a]
      · rw [ur_a]
    · rw [w0, w1, w2]
      refine ⟨⟨by omega, ?_⟩, ⟨by omega, w8 1 (by decide)⟩, ⟨by omega, w8 2 (by decide)⟩⟩
      exact w8 0 (by decide)
    · rw [w0, w10, w11, w12, w13, I5h _ _ h71, I5h _ _ h71, I5h _ _ h71, I5h _ _ h71, I5h _ _ h71]
      refine ⟨?_, ?_, ?_, u2_at0, ?_⟩
      · rw [u2_pj (by decide), u2_pj (by decide), u2_at0]
      · rw [u2_pj (by decide), u2_pj (by decide), u2_pj (by decide), u2_at0]
      · rw [u2_pj (by decide), u2_at0]
      · rw [u2_pj (by decide), u2_pj (by decide), u2_pj (by decide), u2_pj (by decide), ur_n (by omega), ur_n (by omega), ur_a]
    · rw [w10, w11, w12, w13]
      refine ⟨?_, ?_, ?_, ?_⟩
      · rw [u2_pa (by decide), u2_pa (by decide), u2_pa (by decide), u2_pa (by decide), u2_at0]
      · rw [u2_pa (by decide), u2_pa (by decide), u2_pa (by decide), u2_at0]
      · rw [u2_pa (by decide), u2_pa (by decide), u2_at0]
      · rw [u2_pa (by decide), u2_at0]
    · rw [w10, w11, w12, w13, w14]; exact ⟨hh, hw, hY, ⟨hq1, hq2⟩, rfl⟩
    · intro c hc
      rw [w1, w2, I5h _ _ (by omega), I5h _ _ (by omega)]
      exact ⟨(I3z c).1, (I3z c).2, w15 15 c (Or.inl rfl) hc, w15 16 c (Or.inr rfl) hc⟩
  · rw [w8' a (Or.inr (by omega))]; exact Z.2.1 a (by omega)
  · rw [ur_n (by omega), ur_n (by omega), ur_n (by omega)]
  · have na : ∀ b j, cI W b j = 1 → ¬ (a = b ∧ k = j) := fun b j hb z => hc (by rw [z.1, z.2]; exact hb)
    exact I5n a k ha (na 0 1 rfl) (na 37 0 rfl) (fun z => by
      rcases z.1 with e | e | e | e
      · exact na 38 k rfl ⟨e, rfl⟩
      · exact na 39 k rfl ⟨e, rfl⟩
      · exact na 40 k rfl ⟨e, rfl⟩
      · exact na 41 k rfl ⟨e, rfl⟩)
  · exact R4n a k ha (fun z => hc (by rw [z.1]; rfl))
  · rw [ur_n (by omega), ur_n (by omega), ur_n (by omega)]
end STEP
