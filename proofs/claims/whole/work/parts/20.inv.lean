/-! COLOURS: the group that a cell belongs to: 0 scratch, 1 steps, 2 days, 3 bodies, 4 the trace, 5 changes, 6 shelves, 7 the tape, 8 laws, 9 stories, 10 constant, 11 unmade.
 Marks (W 8): a step 10 i + 0, 1, 2; a law 1000 + 10 l + 0 (object), 1 (code), 2 (stack), 3 (names); a story 2000 + i; 9999: unmade -/
def cL : List Nat := [50, 10, 51, 7, 0, 10, 10, 0, 0, 0, 0, 0, 0, 0, 0, 52, 2, 5, 5, 5, 5, 53, 3, 4, 10, 6, 6, 6, 6, 6, 6, 6, 6, 6, 6, 6, 6, 54, 1, 1, 1, 1, 1, 1, 1, 7, 8, 8, 9, 9, 9, 9, 9, 9, 9, 2, 5, 5, 5, 3, 4, 6, 6, 6, 6, 0, 0, 0, 0, 0, 0]
def cF : List (List Nat) := [[10, 1, 10, 10, 8, 10, 9], [10, 10, 0, 7, 0], [10, 2], [10, 10, 0, 3, 4], [1, 10, 10, 10, 10, 10, 10, 10, 10, 7, 10, 10, 8, 9, 10, 10, 10, 10, 10, 10, 10, 2, 10, 10, 10, 10, 5, 5, 3, 10, 4, 10, 10, 10, 10, 10, 0, 0, 0, 0, 10, 10, 0, 0, 0, 10, 10, 10, 0, 10]]
def dyc (m : Nat) : Nat := if m < 1000 then 1 else if m < 2000 then (if m % 10 < 2 then 8 else 0) else if m < 3000 then 9 else 11
def cs (a k : Nat) : Nat := if cL.getD a 10 < 50 then cL.getD a 10 else (cF.getD (cL.getD a 10 - 50) []).getD k 10
def cI (W : WW) (a k : Nat) : Nat := if a < 71 then cs a k else dyc (W 8 a)
def cJ (a : Nat) : Nat := if 25 ≤ a ∧ a ≤ 36 ∨ a = 64 then 6 else 0
def cR (W : WW) (a : Nat) : Nat := if a < 71 then (if a = 1 then 1 else if a = 5 then 8 else if a = 6 then 9 else 10) else dyc (W 8 a)
/-- the cells of a colour, and scratch -/
def CC (W : WW) (c a k : Nat) : Prop := cI W a k = c ∨ cI W a k = 0
/-- what has a colour stands as it stood -/
def sameI (W : WW) (c : Nat) (I I' : Nat → Nat → Int32) : Prop := ∀ a k, cI W a k = c → I' a k = I a k
theorem eqO.same {W : WW} {c g : Nat} {I I' : Nat → Nat → Int32} (h : eqO (CC W c) I I') (hg : g ≠ c) (h0 : g ≠ 0) : sameI W g I I' := fun a k e => h a k (fun z => z.elim (fun q => hg (e.symm.trans q)) (fun q => h0 (e.symm.trans q)))
theorem eqO.mono {α : Type} {C D : Nat → Nat → Prop} {f g : Nat → Nat → α} (h : eqO C f g) (hm : ∀ a k, C a k → D a k) : eqO D f g := fun a k hn => h a k (fun z => hn (hm a k z))
theorem eqO.trans {α : Type} {C : Nat → Nat → Prop} {f g h : Nat → Nat → α} (h1 : eqO C f g) (h2 : eqO C g h) : eqO C f h := fun a k hn => (h2 a k hn).trans (h1 a k hn)
theorem sameI.refl {W : WW} {c : Nat} {I : Nat → Nat → Int32} : sameI W c I I := fun _ _ _ => rfl
theorem cI_lo {W : WW} {a k : Nat} (h : a < 71) : cI W a k = cs a k := if_pos h
theorem cI_hi {W : WW} {a k : Nat} (h : 71 ≤ a) : cI W a k = dyc (W 8 a) := if_neg (Nat.not_lt.mpr h)
theorem cR_hi {W : WW} {a : Nat} (h : 71 ≤ a) : cR W a = dyc (W 8 a) := if_neg (Nat.not_lt.mpr h)
theorem mk.cI {W : WW} {a m k : Nat} (h : mk W a m) : cI W a k = dyc m := by rw [cI_hi h.1, h.2]
theorem mk.cR {W : WW} {a m : Nat} (h : mk W a m) : cR W a = dyc m := by rw [cR_hi h.1, h.2]
theorem dyc1 {m : Nat} (h : m < 1000) : dyc m = 1 := if_pos h
theorem dyc8 {l : Nat} (h : l < 100) : dyc (1000 + 10 * l) = 8 := by unfold dyc; rw [if_neg (by omega), if_pos (by omega), if_pos (by omega)]
theorem dyc8' {l : Nat} (h : l < 100) : dyc (1000 + 10 * l + 1) = 8 := by unfold dyc; rw [if_neg (by omega), if_pos (by omega), if_pos (by omega)]
theorem dyc0 {l : Nat} (h : l < 100) : dyc (1000 + 10 * l + 2) = 0 := by unfold dyc; rw [if_neg (by omega), if_pos (by omega), if_neg (by omega)]
theorem dyc0' {l : Nat} (h : l < 100) : dyc (1000 + 10 * l + 3) = 0 := by unfold dyc; rw [if_neg (by omega), if_pos (by omega), if_neg (by omega)]
theorem dyc9 {l : Nat} (h : l < 1000) : dyc (2000 + l) = 9 := by unfold dyc; rw [if_neg (by omega), if_neg (by omega), if_pos (by omega)]
/-! the groups' frames -/
section FRAME
variable {sh sh' : Nat → Nat × Nat} {R R' : Nat → Nat → Option Nat} {I I' : Nat → Nat → Int32} {W W' : WW}
theorem SF.fr (hs : ∀ a, a < 71 → sh' a = sh a) (hR : ∀ a k, cR W a = 10 → R' a k = R a k) (S : SF sh R) : SF sh' R' := by
  refine ⟨fun a ha => (hs a ha).trans (S.1 a ha), fun q hq => (hR _ _ ?_).trans (S.2 q hq)⟩
  have : ∀ q ∈ rfT, q.1 < 71 ∧ q.1 ≠ 1 ∧ q.1 ≠ 5 ∧ q.1 ≠ 6 := by decide
  have z := this q hq
  unfold cR
  rw [if_pos z.1, if_neg z.2.1, if_neg z.2.2.1, if_neg z.2.2.2]
theorem GD.fr {D : Nat → Nat} {nd : Nat} (h : sameI W 2 I I') (G : GD D nd I) : GD D nd I' :=
  ⟨G.1, (h 15 1 rfl).trans G.2.1, (h 37 21 rfl).trans G.2.2.1, fun k hk => ⟨(h 16 k rfl).trans (G.2.2.2 k hk).1, (h 55 k rfl).trans (G.2.2.2 k hk).2.1, (G.2.2.2 k hk).2.2⟩⟩
theorem GB.fr {D : Nat → Nat} {nd : Nat} (h : sameI W 3 I I') (G : GB D nd I) : GB D nd I' :=
  ⟨G.1, (h 21 3 rfl).trans G.2.1, (h 37 28 rfl).trans G.2.2.1, fun k hk => ⟨(h 22 k rfl).trans (G.2.2.2 k hk).1, (h 59 k rfl).trans (G.2.2.2 k hk).2.1, (G.2.2.2 k hk).2.2⟩⟩
theorem GR.fr {rn : Nat} (h : sameI W 4 I I') (G : GR rn I) : GR rn I' :=
  ⟨G.1, (h 21 4 rfl).trans G.2.1, (h 37 30 rfl).trans G.2.2.1, fun k hk => (h 23 k rfl).trans ((G.2.2.2 k hk).trans (h 60 k rfl).symm)⟩
/-- the rows of W that tell steps -/
def rwS (r : Nat) : Prop := r ≤ 2 ∨ 10 ≤ r ∧ r ≤ 16
theorem GS.fr {ns : Nat} (hW : ∀ r k, rwS r → W' r k = W r k) (h8 : ∀ a, W 8 a < 3000 → W' 8 a = W 8 a) (hs : ∀ a, W 8 a < 3000 → sh' a = sh a) (hR : ∀ a k, cR W a = 1 → R' a k = R a k) (h : sameI W 1 I I') (G : GS W ns sh R I) : GS W' ns sh' R' I' := by
  obtain ⟨h40, e1, e2, g1, g2, g3, g4, g5, g6, g7, g8⟩ := G
  have w0 : W' 0 = W 0 := funext fun k => hW 0 k (Or.inl (by decide))
  have w1 : W' 1 = W 1 := funext fun k => hW 1 k (Or.inl (by decide))
  have w2 : W' 2 = W 2 := funext fun k => hW 2 k (Or.inl (by decide))
  have w10 : W' 10 = W 10 := funext fun k => hW 10 k (Or.inr (by decide))
  have w11 : W' 11 = W 11 := funext fun k => hW 11 k (Or.inr (by decide))
  have w12 : W' 12 = W 12 := funext fun k => hW 12 k (Or.inr (by decide))
  have w13 : W' 13 = W 13 := funext fun k => hW 13 k (Or.inr (by decide))
  have w14 : W' 14 = W 14 := funext fun k => hW 14 k (Or.inr (by decide))
  have w15 : W' 15 = W 15 := funext fun k => hW 15 k (Or.inr (by decide))
  have w16 : W' 16 = W 16 := funext fun k => hW 16 k (Or.inr (by decide))
  have m1 : ∀ a m, m < 1000 → mk W a m → mk W' a m := fun a m hm z => ⟨z.1, by rw [h8 a (by rw [z.2]; omega)]; exact z.2⟩
  have c0 : ∀ i k, i < ns → cI W (W 0 i) k = 1 := fun i k hi => by rw [(g2 i hi).1.cI, dyc1 (by omega)]
  have c1 : ∀ i k, i < ns → cI W (W 1 i) k = 1 ∧ cI W (W 2 i) k = 1 := fun i k hi => by
    rcases (g2 i hi).2 with z | z
    · exact ⟨by rw [z.1.cI, dyc1 (by omega)], by rw [z.2.cI, dyc1 (by omega)]⟩
    · exact ⟨by rw [z.1.cI, dyc1 (by omega)], by rw [z.2.cI, dyc1 (by omega)]⟩
  have d0 : ∀ i, i < ns → cR W (W 0 i) = 1 := fun i hi => by rw [(g2 i hi).1.cR, dyc1 (by omega)]
  have s0 : ∀ i, i < ns → sh' (W 0 i) = sh (W 0 i) := fun i hi => hs _ (by rw [(g2 i hi).1.2]; omega)
  have s1 : ∀ i, i < ns → sh' (W 1 i) = sh (W 1 i) ∧ sh' (W 2 i) = sh (W 2 i) := fun i hi => by
    rcases (g2 i hi).2 with z | z
    · exact ⟨hs _ (by rw [z.1.2]; omega), hs _ (by rw [z.2.2]; omega)⟩
    · exact ⟨hs _ (by rw [z.1.2]; omega), hs _ (by rw [z.2.2]; omega)⟩
  unfold GS
  rw [w0, w1, w2, w10, w11, w12, w13, w14, w15, w16]
  refine ⟨h40, (h 0 1 rfl).trans e1, (h 37 0 rfl).trans e2, fun i hi => ?_, fun i hi => ?_, fun i hi => ?_, fun i hi => ?_, g5, fun i c hi hc => ?_, fun k h1 h2 => ?_, fun i h1 h2 => (h 44 i rfl).trans (g8 i h1 h2)⟩
  · have q := g1 i hi
    exact ⟨(hR 1 i rfl).trans q.1, (s0 i hi).trans q.2.1, (hR _ _ (d0 i hi)).trans q.2.2.1, (hR _ _ (d0 i hi)).trans q.2.2.2.1, (hR _ _ (d0 i hi)).trans q.2.2.2.2.1, (s1 i hi).1.trans q.2.2.2.2.2.1, (s1 i hi).2.trans q.2.2.2.2.2.2⟩
  · have q := g2 i hi
    exact ⟨m1 _ _ (by omega) q.1, q.2.elim (fun z => Or.inl ⟨m1 _ _ (by omega) z.1, m1 _ _ (by omega) z.2⟩) (fun z => Or.inr ⟨m1 _ _ (by omega) z.1, m1 _ _ (by omega) z.2⟩)⟩
  · have q := g3 i hi
    exact ⟨(h _ _ (c0 i _ hi)).trans q.1, (h _ _ (c0 i _ hi)).trans q.2.1, (h _ _ (c0 i _ hi)).trans q.2.2.1, (h _ _ (c0 i _ hi)).trans q.2.2.2.1, (h _ _ (c0 i _ hi)).trans q.2.2.2.2⟩
  · have q := g4 i hi
    exact ⟨(h 38 i rfl).trans q.1, (h 39 i rfl).trans q.2.1, (h 40 i rfl).trans q.2.2.1, (h 41 i rfl).trans q.2.2.2.1, (h 44 i rfl).trans q.2.2.2.2⟩
  · have q := g6 i c hi hc
    exact ⟨(h _ _ (c1 i _ hi).1).trans q.1, (h _ _ (c1 i _ hi).2).trans q.2.1, (h 42 _ rfl).trans q.2.2.1, (h 43 _ rfl).trans q.2.2.2.1, q.2.2.2.2⟩
  · exact ⟨(h 42 k rfl).trans (g7 k h1 h2).1, (h 43 k rfl).trans (g7 k h1 h2).2⟩
end FRAME
/-! A PART OF A STEP BECOMES v -/
/-- a part (ten times the step, and 0 .. 7 a cell, 8 hard, 9 rise), what it may be -/
def okv (ns p v : Nat) : Prop := p / 10 < ns ∧ (p % 10 < 8 → v ≤ 99999) ∧ (p % 10 = 8 → 1 ≤ v ∧ v ≤ 9) ∧ (p % 10 = 9 → 1 ≤ v ∧ v ≤ 99)
def pr_ (p : Nat) : Nat := if p % 10 < 8 then 15 else if p % 10 = 8 then 10 else 13
def pk_ (p : Nat) : Nat := if p % 10 < 8 then 8 * (p / 10) + p % 10 else p / 10
def pa_ (p : Nat) : Nat := if p % 10 < 8 then 42 else if p % 10 = 8 then 38 else 41
def xa_ (W : WW) (p : Nat) : Nat := if p % 10 < 8 then W 1 (p / 10) else W 0 (p / 10)
def xk_ (p : Nat) : Nat := if p % 10 < 8 then p % 10 else if p % 10 = 8 then 2 else 4
/-- what it is -/
def old (W : WW) (p : Nat) : Nat := W (pr_ p) (pk_ p)
theorem okv_old {sh : Nat → Nat × Nat} {R : Nat → Nat → Option Nat} {I : Nat → Nat → Int32} {W : WW} {ns p : Nat} (G : GS W ns sh R I) (h : p / 10 < ns) : okv ns p (old W p) := by
  have g5 := G.2.2.2.2.2.2.2.1 (p / 10) h
  refine ⟨h, fun q => ?_, fun q => ?_, fun q => ?_⟩
  · unfold old pr_ pk_
    rw [if_pos q, if_pos q]
    exact (G.2.2.2.2.2.2.2.2.1 (p / 10) (p % 10) h q).2.2.2.2.1
  · unfold old pr_ pk_
    rw [if_neg (show ¬ p % 10 < 8 by omega), if_neg (show ¬ p % 10 < 8 by omega), if_pos q]
    exact g5.1
  · unfold old pr_ pk_
    rw [if_neg (show ¬ p % 10 < 8 by omega), if_neg (show ¬ p % 10 < 8 by omega), if_neg (show ¬ p % 10 = 8 by omega)]
    exact g5.2.2.2.1
theorem okv.lt {ns p v : Nat} (h : okv ns p v) : v < 2147483648 := by
  obtain ⟨h1, h2, h3, h4⟩ := h
  by_cases c : p % 10 < 8
  · have := h2 c; omega
  · by_cases c8 : p % 10 = 8
    · have := h3 c8; omega
    · have := h4 (by omega); omega
section BECOME
variable {X : XX} {d : Nat} {sz sl : Nat} {sh : Nat → Nat × Nat} {R : Nat → Nat → Option Nat} {I : Nat → Nat → Int32} {J : Nat → Nat → Int64} {W : WW} {ns : Nat}
theorem s_becomeS (G : GS W ns sh R I) {p : Nat} (hp : p / 10 < ns) {v : Int32} : ev X (d + 1) 21 [.ref (W 0 (p / 10)), .int (Int32.ofNat (p % 10)), .int v] (sz, sl, sh, R, I, J) = some (some (.int (Int32.ofNat (old W p))), (sz, sl, sh, R, u2 I (xa_ W p) (xk_ p) v, J)) := by
  have h := G.2.2.2.1 _ hp
  have h40 := G.1
  have hI := G.2.2.2.2.2.1 _ hp
  have hlt : p % 10 < 10 := by omega
  unfold old pr_ pk_ xa_ xk_
  rw [n21, t21_0 h.2.1]
  by_cases c : p % 10 < 8
  · have hm := G.2.2.2.2.2.2.2.2.1 _ _ hp c
    have e1 : ¬ p % 10 = 8 := by omega
    have e2 : ¬ p % 10 = 9 := by omega
    have e3 : ¬ Int32.ofNat (p % 10) < 0 := Int32.not_lt.mpr (n_ge (by omega))
    have e4 : ¬ 8 ≤ p % 10 := by omega
    have e5 : (0 : Nat) < 7 := by decide
    simp (disch := first | omega | exact ib_r | exact ib_n | exact isB_rfv _ | assumption) only [h.2.2.2.1, h.2.2.2.2.2.1, e3, ↓reduceIte, eq_self, and_self, and_true, true_and, not_true_eq_false, not_false_eq_true, ob_s, tl_s, tl_n, rf_ref, orf_ref, orf_null, nn_ref, nn_null, rfv_s, rfv_n, if_true, if_false, bi_01, bi_e0, bi_e1, or_t, Classical.not_not, e5]
    simp (disch := first | omega | exact ib_r | exact ib_n | exact isB_rfv _ | assumption) only [k_0, k_1, k_2, k_3, k_4, k_5, k_6, k_7, k_8, k_9, k_10, k_11, k_12, k_13, k_14, k_15, k_16, k_17, k_18, k_19, k_20, k_21, k_22, k_24, k_30, k_32, k_33, k_37, k_38, k_39, k_40, k_41, k_42, k_43, k_45, k_47, k_48, k_50, k_57, k_59, k_60, k_61, k_62, k_63, k_70, k_79, k_80, k_81, k_99, k_100, k_120, k_124, k_130, k_200, k_241, k_255, k_256, k_320, k_360, k_799, k_800, k_1000, k_2000, k_3200, k_7999, k_9999, k_10000, k_12345, k_20000, k_20045, k_20059, k_20061, k_20063, k_99999, k_100000, k_999999, k_252645135, k_858993459, k_1103515245, k_1431655765, k_2000000000, n_cl, n_lt, n_le, n_eq, n_rem, n_rem', n_add, n_mul, n_sub, n_div, n_inb, n_64, e1, e2, e4, c, hm.1, ↓reduceIte, eq_self, and_self, and_true, true_and, not_true_eq_false, not_false_eq_true, ob_s, tl_s, tl_n, rf_ref, orf_ref, orf_null, nn_ref, nn_null, rfv_s, rfv_n, if_true, if_false, bi_01, bi_e0, bi_e1, or_t, Classical.not_not]
  · by_cases c8 : p % 10 = 8
    · simp (disch := first | omega | exact ib_r | exact ib_n | exact isB_rfv _ | assumption) only [k_8, k_9, n_eq, c8, ↓reduceIte, eq_self, and_self, and_true, true_and, not_true_eq_false, not_false_eq_true, ob_s, tl_s, tl_n, rf_ref, orf_ref, orf_null, nn_ref, nn_null, rfv_s, rfv_n, if_true, if_false, bi_01, bi_e0, bi_e1, or_t, Classical.not_not, hI.2.1, Nat.lt_irrefl]
    · have c9 : p % 10 = 9 := by omega
      have f1 : ¬ (9 : Nat) = 8 := by decide
      have f2 : ¬ (9 : Nat) < 8 := by decide
      simp (disch := first | omega | exact ib_r | exact ib_n | exact isB_rfv _ | assumption) only [k_8, k_9, n_eq, c9, f1, f2, ↓reduceIte, eq_self, and_self, and_true, true_and, not_true_eq_false, not_false_eq_true, ob_s, tl_s, tl_n, rf_ref, orf_ref, orf_null, nn_ref, nn_null, rfv_s, rfv_n, if_true, if_false, bi_01, bi_e0, bi_e1, or_t, Classical.not_not, hI.2.2.2.1]
theorem s_become (hS : SF sh R) (G : GS W ns sh R I) {p : Nat} (hp : p / 10 < ns) {v : Int32} : ev X (d + 3) 20 [.ref 0, .int (Int32.ofNat p), .int v] (sz, sl, sh, R, I, J) = some (some (.int (Int32.ofNat (old W p))), (sz, sl, sh, R, u2 I (xa_ W p) (xk_ p) v, J)) := by
  have h40 := G.1
  have h := G.2.2.2.1 _ hp
  simp (disch := first | omega | exact ib_r | exact ib_n | exact isB_rfv _ | assumption) only [n20, t20_0 hS, t20_8, t20_26, k_10, n_div, n_rem', s_stepAt hS G hp, ↓reduceIte, eq_self, and_self, and_true, true_and, not_true_eq_false, not_false_eq_true, ob_s, tl_s, tl_n, rf_ref, orf_ref, orf_null, nn_ref, nn_null, rfv_s, rfv_n, if_true, if_false, bi_01, bi_e0, bi_e1, or_t, Classical.not_not, h.2.1, s_becomeS G hp]
theorem s_held (hS : SF sh R) {p : Nat} (hp : p / 10 < 40) : ev X (d + 1) 156 [.ref 37, .int (Int32.ofNat p)] (sz, sl, sh, R, I, J) = some (some (.int (I (pa_ p) (pk_ p))), (sz, sl, sh, R, I, J)) := by
  have hlt : p % 10 < 10 := by omega
  unfold pa_ pk_
  rw [n156, t156_0 hS]
  by_cases c : p % 10 < 8
  · have e4 : ¬ 8 ≤ p % 10 := by omega
    have e5 : 8 * (p / 10) + p % 10 < 320 := by omega
    simp (disch := first | omega | exact ib_r | exact ib_n | exact isB_rfv _ | assumption) only [k_8, k_10, n_div, n_rem', n_le, e4, c, ↓reduceIte, eq_self, and_self, and_true, true_and, not_true_eq_false, not_false_eq_true, ob_s, tl_s, tl_n, rf_ref, orf_ref, orf_null, nn_ref, nn_null, rfv_s, rfv_n, if_true, if_false, bi_01, bi_e0, bi_e1, or_t, Classical.not_not]
    simp (disch := first | omega | exact ib_r | exact ib_n | exact isB_rfv _ | assumption) only [n_mul, n_add, n_inb, n_cl, e5, ↓reduceIte, eq_self, and_self, and_true, true_and, not_true_eq_false, not_false_eq_true, ob_s, tl_s, tl_n, rf_ref, orf_ref, orf_null, nn_ref, nn_null, rfv_s, rfv_n, if_true, if_false, bi_01, bi_e0, bi_e1, or_t, Classical.not_not]
  · have e4 : 8 ≤ p % 10 := by omega
    by_cases c8 : p % 10 = 8
    · simp (disch := first | omega | exact ib_r | exact ib_n | exact isB_rfv _ | assumption) only [k_8, k_10, n_div, n_rem', n_le, n_eq, n_inb, n_cl, hp, c8, ↓reduceIte, eq_self, and_self, and_true, true_and, not_true_eq_false, not_false_eq_true, ob_s, tl_s, tl_n, rf_ref, orf_ref, orf_null, nn_ref, nn_null, rfv_s, rfv_n, if_true, if_false, bi_01, bi_e0, bi_e1, or_t, Classical.not_not, Nat.le_refl, Nat.lt_irrefl]
    · simp (disch := first | omega | exact ib_r | exact ib_n | exact isB_rfv _ | assumption) only [k_8, k_10, n_div, n_rem', n_le, n_eq, n_inb, n_cl, hp, e4, c, c8, ↓reduceIte, eq_self, and_self, and_true, true_and, not_true_eq_false, not_false_eq_true, ob_s, tl_s, tl_n, rf_ref, orf_ref, orf_null, nn_ref, nn_null, rfv_s, rfv_n, if_true, if_false, bi_01, bi_e0, bi_e1, or_t, Classical.not_not]
/-- what the reference's cell, and the step's, holds -/
theorem GS.mold (G : GS W ns sh R I) {p : Nat} (hp : p / 10 < ns) : I (pa_ p) (pk_ p) = Int32.ofNat (old W p) ∧ I (xa_ W p) (xk_ p) = Int32.ofNat (old W p) := by
  have hI := G.2.2.2.2.2.2.1 _ hp
  have hx := G.2.2.2.2.2.1 _ hp
  unfold old pa_ pk_ pr_ xa_ xk_
  by_cases c : p % 10 < 8
  · have hm := G.2.2.2.2.2.2.2.2.1 _ _ hp c
    simp only [c, if_true]
    exact ⟨hm.2.2.1, hm.1⟩
  · by_cases c8 : p % 10 = 8
    · simp only [c8, Nat.lt_irrefl, if_false, if_true]
      exact ⟨hI.1, hx.2.1⟩
    · simp only [c, c8, if_false]
      exact ⟨hI.2.2.2.1, hx.2.2.2.1⟩
theorem s_holds (hS : SF sh R) {p : Nat} (hp : p / 10 < 40) {v : Int32} : ev X (d + 1) 157 [.ref 37, .int (Int32.ofNat p), .int v] (sz, sl, sh, R, I, J) = some (none, (sz, sl, sh, R, u2 I (pa_ p) (pk_ p) v, J)) := by
  have hlt : p % 10 < 10 := by omega
  unfold pa_ pk_
  rw [n157, t157_0 hS]
  by_cases c : p % 10 < 8
  · have e4 : ¬ 8 ≤ p % 10 := by omega
    have e5 : 8 * (p / 10) + p % 10 < 320 := by omega
    simp (disch := first | omega | exact ib_r | exact ib_n | exact isB_rfv _ | assumption) only [k_8, k_10, n_div, n_rem', n_le, e4, c, ↓reduceIte, eq_self, and_self, and_true, true_and, not_true_eq_false, not_false_eq_true, ob_s, tl_s, tl_n, rf_ref, orf_ref, orf_null, nn_ref, nn_null, rfv_s, rfv_n, if_true, if_false, bi_01, bi_e0, bi_e1, or_t, Classical.not_not]
    simp (disch := first | omega | exact ib_r | exact ib_n | exact isB_rfv _ | assumption) only [n_mul, n_add, n_inb, n_cl, e5, ↓reduceIte, eq_self, and_self, and_true, true_and, not_true_eq_false, not_false_eq_true, ob_s, tl_s, tl_n, rf_ref, orf_ref, orf_null, nn_ref, nn_null, rfv_s, rfv_n, if_true, if_false, bi_01, bi_e0, bi_e1, or_t, Classical.not_not]
  · have e4 : 8 ≤ p % 10 := by omega
    by_cases c8 : p % 10 = 8
    · simp (disch := first | omega | exact ib_r | exact ib_n | exact isB_rfv _ | assumption) only [k_8, k_10, n_div, n_rem', n_le, n_eq, n_inb, n_cl, hp, c8, ↓reduceIte, eq_self, and_self, and_true, true_and, not_true_eq_false, not_false_eq_true, ob_s, tl_s, tl_n, rf_ref, orf_ref, orf_null, nn_ref, nn_null, rfv_s, rfv_n, if_true, if_false, bi_01, bi_e0, bi_e1, or_t, Classical.not_not, Nat.le_refl, Nat.lt_irrefl]
    · simp (disch := first | omega | exact ib_r | exact ib_n | exact isB_rfv _ | assumption) only [k_8, k_10, n_div, n_rem', n_le, n_eq, n_inb, n_cl, hp, e4, c, c8, ↓reduceIte, eq_self, and_self, and_true, true_and, not_true_eq_false, not_false_eq_true, ob_s, tl_s, tl_n, rf_ref, orf_ref, orf_null, nn_ref, nn_null, rfv_s, rfv_n, if_true, if_false, bi_01, bi_e0, bi_e1, or_t, Classical.not_not]
/-- a step's cells have one place each -/
theorem GS.ne (G : GS W ns sh R I) {i j : Nat} (hi : i < ns) (hj : j < ns) : (W 0 i = W 0 j → i = j) ∧ (W 1 i = W 1 j → i = j) ∧ (W 2 i = W 2 j → i = j) ∧ W 0 i ≠ W 1 j ∧ W 0 i ≠ W 2 j ∧ W 1 i ≠ W 2 j ∧ 71 ≤ W 0 i ∧ 71 ≤ W 1 i ∧ 71 ≤ W 2 i := by
  have q := G.2.2.2.2.1
  have a0 := (q i hi).1
  have b0 := (q j hj).1
  have r : ∀ a b : Nat, a = b → W 8 a = W 8 b := fun a b e => by rw [e]
  refine ⟨fun e => ?_, fun e => ?_, fun e => ?_, fun e => ?_, fun e => ?_, fun e => ?_, a0.1, ?_, ?_⟩
  · have := r _ _ e; rw [a0.2, b0.2] at this; omega
  · have := r _ _ e
    rcases (q i hi).2 with z | z <;> rcases (q j hj).2 with y | y <;> rw [z.1.2, y.1.2] at this <;> omega
  · have := r _ _ e
    rcases (q i hi).2 with z | z <;> rcases (q j hj).2 with y | y <;> rw [z.2.2, y.2.2] at this <;> omega
  · have := r _ _ e
    rcases (q j hj).2 with y | y <;> rw [a0.2, y.1.2] at this <;> omega
  · have := r _ _ e
    rcases (q j hj).2 with y | y <;> rw [a0.2, y.2.2] at this <;> omega
  · have := r _ _ e
    have hij : i = j := by rcases (q i hi).2 with z | z <;> rcases (q j hj).2 with y | y <;> rw [z.1.2, y.2.2] at this <;> omega
    subst hij
    rcases (q i hi).2 with z | z <;> rw [z.1.2, z.2.2] at this <;> omega
  · rcases (q i hi).2 with z | z <;> exact z.1.1
  · rcases (q i hi).2 with z | z <;> exact z.2.1
/-- told anew -/
theorem GS.become (G : GS W ns sh R I) {p v : Nat} (hv : okv ns p v) {I' : Nat → Nat → Int32} (hx : I' (xa_ W p) (xk_ p) = Int32.ofNat v) (hm : I' (pa_ p) (pk_ p) = Int32.ofNat v)
    (h : ∀ a k, cI W a k = 1 → ¬ (a = xa_ W p ∧ k = xk_ p) → ¬ (a = pa_ p ∧ k = pk_ p) → I' a k = I a k) : GS (u2 W (pr_ p) (pk_ p) v) ns sh R I' := by
  have G' := G
  obtain ⟨h40, e1, e2, g1, g2, g3, g4, g5, g6, g7, g8⟩ := G
  obtain ⟨hp, v1, v2, v3⟩ := hv
  have n0 := fun i (hi : i < ns) => G'.ne hi hp
  have n1 := fun i (hi : i < ns) => G'.ne hp hi
  have hlt : p % 10 < 10 := by omega
  have c0 : ∀ i k, i < ns → cI W (W 0 i) k = 1 := fun i k hi => by rw [(g2 i hi).1.cI, dyc1 (by omega)]
  have c1 : ∀ i k, i < ns → cI W (W 1 i) k = 1 ∧ cI W (W 2 i) k = 1 := fun i k hi => by
    rcases (g2 i hi).2 with z | z
    · exact ⟨by rw [z.1.cI, dyc1 (by omega)], by rw [z.2.cI, dyc1 (by omega)]⟩
    · exact ⟨by rw [z.1.cI, dyc1 (by omega)], by rw [z.2.cI, dyc1 (by omega)]⟩
  have xhi : 71 ≤ xa_ W p := by unfold xa_; split; exact (n1 _ hp).2.2.2.2.2.2.2.1; exact (n1 _ hp).2.2.2.2.2.2.1
  have plo : pa_ p = 42 ∨ pa_ p = 38 ∨ pa_ p = 41 := by unfold pa_; split; exact Or.inl rfl; split; exact Or.inr (Or.inl rfl); exact Or.inr (Or.inr rfl)
  -- static cells that aren't written
  have st : ∀ a k, a < 71 → cI W a k = 1 → ¬ (a = pa_ p ∧ k = pk_ p) → I' a k = I a k := fun a k ha hc hn => h a k hc (fun z => by omega) hn
  have dy : ∀ a k, 71 ≤ a → cI W a k = 1 → ¬ (a = xa_ W p ∧ k = xk_ p) → I' a k = I a k := fun a k ha hc hn => h a k hc hn (fun z => by rcases plo with q | q | q <;> omega)
  have w : ∀ r k, r ≠ pr_ p → u2 W (pr_ p) (pk_ p) v r k = W r k := fun r k hr => u2_pa hr
  have prs : pr_ p = 15 ∨ pr_ p = 10 ∨ pr_ p = 13 := by unfold pr_; split; exact Or.inl rfl; split; exact Or.inr (Or.inl rfl); exact Or.inr (Or.inr rfl)
  have ww : ∀ r, r ≠ 15 → r ≠ 10 → r ≠ 13 → u2 W (pr_ p) (pk_ p) v r = W r := fun r a b c => funext fun k => w r k (by rcases prs with q | q | q <;> rw [q] <;> assumption)
  unfold GS
  rw [ww 0 (by decide) (by decide) (by decide), ww 1 (by decide) (by decide) (by decide), ww 2 (by decide) (by decide) (by decide), ww 11 (by decide) (by decide) (by decide), ww 12 (by decide) (by decide) (by decide), ww 14 (by decide) (by decide) (by decide), ww 16 (by decide) (by decide) (by decide)]
  have mk' : ∀ a m, mk W a m → mk (u2 W (pr_ p) (pk_ p) v) a m := fun a m z => ⟨z.1, by rw [w 8 a (by rcases prs with q | q | q <;> rw [q] <;> decide)]; exact z.2⟩
  refine ⟨h40, (st 0 1 (by decide) rfl (by rcases plo with q | q | q <;> rw [q] <;> omega)).trans e1, (st 37 0 (by decide) rfl (by rcases plo with q | q | q <;> rw [q] <;> omega)).trans e2, g1, fun i hi => ⟨mk' _ _ (g2 i hi).1, (g2 i hi).2.elim (fun z => Or.inl ⟨mk' _ _ z.1, mk' _ _ z.2⟩) (fun z => Or.inr ⟨mk' _ _ z.1, mk' _ _ z.2⟩)⟩, fun i hi => ?_, fun i hi => ?_, fun i hi => ?_, fun i c hi hc => ?_, fun k h1 h2 => ?_, fun i h1 h2 => ?_⟩
  · have q := g3 i hi
    have nn := n0 i hi
    by_cases c : p % 10 < 8
    · have ex : xa_ W p = W 1 (p / 10) := if_pos c
      have er : pr_ p = 15 := if_pos c
      have f : ∀ k, I' (W 0 i) k = I (W 0 i) k := fun k => dy _ _ nn.2.2.2.2.2.2.1 (c0 i k hi) (fun z => nn.2.2.2.1 (by rw [z.1, ex]))
      rw [f, f, f, f, f, er, u2_pa (by decide), u2_pa (by decide)]
      exact q
    · have ex : xa_ W p = W 0 (p / 10) := if_neg c
      by_cases c8 : p % 10 = 8
      · have ek : xk_ p = 2 := by unfold xk_; rw [if_neg c, if_pos c8]
        have er : pr_ p = 10 := by unfold pr_; rw [if_neg c, if_pos c8]
        have epk : pk_ p = p / 10 := if_neg c
        have f : ∀ k, k ≠ 2 → I' (W 0 i) k = I (W 0 i) k := fun k hk => dy _ _ nn.2.2.2.2.2.2.1 (c0 i k hi) (fun z => hk (by rw [z.2, ek]))
        rw [f 1 (by decide), f 3 (by decide), f 4 (by decide), f 5 (by decide), er, epk, u2_pa (show 13 ≠ 10 by decide)]
        refine ⟨q.1, ?_, q.2.2⟩
        by_cases e : i = p / 10
        · subst e; rw [u2_at0]; rw [ex, ek] at hx; exact hx
        · rw [u2_pj e, dy _ _ nn.2.2.2.2.2.2.1 (c0 i 2 hi) (fun z => e (nn.1 (by rw [z.1, ex])))]; exact q.2.1
      · have ek : xk_ p = 4 := by unfold xk_; rw [if_neg c, if_neg c8]
        have er : pr_ p = 13 := by unfold pr_; rw [if_neg c, if_neg c8]
        have epk : pk_ p = p / 10 := if_neg c
        have f : ∀ k, k ≠ 4 → I' (W 0 i) k = I (W 0 i) k := fun k hk => dy _ _ nn.2.2.2.2.2.2.1 (c0 i k hi) (fun z => hk (by rw [z.2, ek]))
        rw [f 1 (by decide), f 3 (by decide), f 2 (by decide), f 5 (by decide), er, epk, u2_pa (show 10 ≠ 13 by decide)]
        refine ⟨q.1, q.2.1, q.2.2.1, ?_, q.2.2.2.2⟩
        by_cases e : i = p / 10
        · subst e; rw [u2_at0]; rw [ex, ek] at hx; exact hx
        · rw [u2_pj e, dy _ _ nn.2.2.2.2.2.2.1 (c0 i 4 hi) (fun z => e (nn.1 (by rw [z.1, ex])))]; exact q.2.2.2.1
  · have q := g4 i hi
    have f : ∀ a, a < 71 → a ≠ pa_ p → cI W a i = 1 → I' a i = I a i := fun a ha hn hc => st a i ha hc (fun z => hn z.1)
    by_cases c : p % 10 < 8
    · have ex : pa_ p = 42 := if_pos c
      have er : pr_ p = 15 := if_pos c
      rw [f 38 (by decide) (by rw [ex]; decide) rfl, f 39 (by decide) (by rw [ex]; decide) rfl, f 40 (by decide) (by rw [ex]; decide) rfl, f 41 (by decide) (by rw [ex]; decide) rfl, f 44 (by decide) (by rw [ex]; decide) rfl, er, u2_pa (by decide), u2_pa (by decide)]
      exact q
    · by_cases c8 : p % 10 = 8
      · have ex : pa_ p = 38 := by unfold pa_; rw [if_neg c, if_pos c8]
        have er : pr_ p = 10 := by unfold pr_; rw [if_neg c, if_pos c8]
        have epk : pk_ p = p / 10 := if_neg c
        rw [f 39 (by decide) (by rw [ex]; decide) rfl, f 40 (by decide) (by rw [ex]; decide) rfl, f 41 (by decide) (by rw [ex]; decide) rfl, f 44 (by decide) (by rw [ex]; decide) rfl, er, epk, u2_pa (show 13 ≠ 10 by decide)]
        refine ⟨?_, q.2⟩
        by_cases e : i = p / 10
        · subst e; rw [u2_at0]; rw [ex, epk] at hm; exact hm
        · rw [u2_pj e, st 38 i (by decide) rfl (fun z => e (by rw [z.2, epk]))]; exact q.1
      · have ex : pa_ p = 41 := by unfold pa_; rw [if_neg c, if_neg c8]
        have er : pr_ p = 13 := by unfold pr_; rw [if_neg c, if_neg c8]
        have epk : pk_ p = p / 10 := if_neg c
        rw [f 38 (by decide) (by rw [ex]; decide) rfl, f 39 (by decide) (by rw [ex]; decide) rfl, f 40 (by decide) (by rw [ex]; decide) rfl, f 44 (by decide) (by rw [ex]; decide) rfl, er, epk, u2_pa (show 10 ≠ 13 by decide)]
        refine ⟨q.1, q.2.1, q.2.2.1, ?_, q.2.2.2.2⟩
        by_cases e : i = p / 10
        · subst e; rw [u2_at0]; rw [ex, epk] at hm; exact hm
        · rw [u2_pj e, st 41 i (by decide) rfl (fun z => e (by rw [z.2, epk]))]; exact q.2.2.2.1
  · have q := g5 i hi
    by_cases c : p % 10 < 8
    · have er : pr_ p = 15 := if_pos c
      rw [er, u2_pa (by decide), u2_pa (by decide)]; exact q
    · have epk : pk_ p = p / 10 := if_neg c
      by_cases c8 : p % 10 = 8
      · have er : pr_ p = 10 := by unfold pr_; rw [if_neg c, if_pos c8]
        rw [er, epk, u2_pa (show 13 ≠ 10 by decide)]
        by_cases e : i = p / 10
        · subst e; rw [u2_at0]; exact ⟨v2 c8, q.2⟩
        · rw [u2_pj e]; exact q
      · have er : pr_ p = 13 := by unfold pr_; rw [if_neg c, if_neg c8]
        rw [er, epk, u2_pa (show 10 ≠ 13 by decide)]
        by_cases e : i = p / 10
        · subst e; rw [u2_at0]; exact ⟨q.1, q.2.1, q.2.2.1, v3 (by omega), q.2.2.2.2⟩
        · rw [u2_pj e]; exact q
  · have q := g6 i c hi hc
    have nn := n0 i hi
    have nm := n1 i hi
    by_cases c_ : p % 10 < 8
    · have ex : xa_ W p = W 1 (p / 10) := if_pos c_
      have ek : xk_ p = p % 10 := if_pos c_
      have er : pr_ p = 15 := if_pos c_
      have epa : pa_ p = 42 := if_pos c_
      have epk : pk_ p = 8 * (p / 10) + p % 10 := if_pos c_
      rw [dy (W 2 i) c nn.2.2.2.2.2.2.2.2 (c1 i c hi).2 (fun z => nm.2.2.2.2.2.1 (by rw [z.1, ex])), st 43 _ (by decide) rfl (fun z => by rw [epa] at z; omega), er, epk]
      by_cases e : i = p / 10 ∧ c = p % 10
      · obtain ⟨e', e''⟩ := e
        subst e' e''
        rw [u2_at0]
        rw [ex, ek] at hx
        rw [epa, epk] at hm
        exact ⟨hx, q.2.1, hm, q.2.2.2.1, v1 c_, q.2.2.2.2.2⟩
      · have e3 : 8 * i + c ≠ 8 * (p / 10) + p % 10 := by omega
        rw [u2_pj e3, dy (W 1 i) c nn.2.2.2.2.2.2.2.1 (c1 i c hi).1 (fun z => e ⟨nn.2.1 (by rw [z.1, ex]), by rw [z.2, ek]⟩), st 42 _ (by decide) rfl (fun z => e3 (by rw [z.2, epk]))]
        exact q
    · have ex : xa_ W p = W 0 (p / 10) := if_neg c_
      have er : pr_ p ≠ 15 := by unfold pr_; rw [if_neg c_]; split <;> decide
      have epa : pa_ p = 38 ∨ pa_ p = 41 := by unfold pa_; rw [if_neg c_]; split; exact Or.inl rfl; exact Or.inr rfl
      rw [w 15 _ er.symm, dy (W 1 i) c nn.2.2.2.2.2.2.2.1 (c1 i c hi).1 (fun z => nm.2.2.2.1 (by rw [z.1, ex])), dy (W 2 i) c nn.2.2.2.2.2.2.2.2 (c1 i c hi).2 (fun z => nm.2.2.2.2.1 (by rw [z.1, ex])), st 42 _ (by decide) rfl (fun z => by omega), st 43 _ (by decide) rfl (fun z => by omega)]
      exact q
  · rw [st 42 k (by decide) rfl (fun z => ?_), st 43 k (by decide) rfl (fun z => by omega)]
    · exact g7 k h1 h2
    · have h3 := z.2
      unfold pk_ at h3
      have h4 := z.1
      unfold pa_ at h4
      by_cases c : p % 10 < 8
      · rw [if_pos c] at h3; omega
      · rw [if_neg c] at h4; split at h4 <;> omega
  · rw [st 44 i (by decide) rfl (fun z => by omega)]
    exact g8 i h1 h2
end BECOME
