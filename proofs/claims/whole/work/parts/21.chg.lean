/-! CHANGES -/
def GC (P A B : Nat → Nat) (ns nd nl : Nat) (I : Nat → Nat → Int32) : Prop :=
  nd ≤ nl ∧ nl ≤ 40 ∧ I 17 3 = Int32.ofNat nd ∧ I 37 27 = Int32.ofNat nd ∧ I 17 4 = Int32.ofNat nl ∧ I 37 26 = Int32.ofNat nl ∧
  ∀ k, k < nl → (I 18 k = Int32.ofNat (P k) ∧ I 19 k = Int32.ofNat (A k) ∧ I 20 k = Int32.ofNat (B k)) ∧ (I 56 k = Int32.ofNat (P k) ∧ I 57 k = Int32.ofNat (A k) ∧ I 58 k = Int32.ofNat (B k)) ∧ okv ns (P k) (A k) ∧ okv ns (P k) (B k)
theorem GC.fr {W : WW} {P A B : Nat → Nat} {ns nd nl : Nat} {I I' : Nat → Nat → Int32} (h : sameI W 5 I I') (G : GC P A B ns nd nl I) : GC P A B ns nd nl I' := by
  obtain ⟨h1, h2, e1, e2, e3, e4, hk⟩ := G
  refine ⟨h1, h2, (h 17 3 rfl).trans e1, (h 37 27 rfl).trans e2, (h 17 4 rfl).trans e3, (h 37 26 rfl).trans e4, fun k hk' => ?_⟩
  have q := hk k hk'
  exact ⟨⟨(h 18 k rfl).trans q.1.1, (h 19 k rfl).trans q.1.2.1, (h 20 k rfl).trans q.1.2.2⟩, ⟨(h 56 k rfl).trans q.2.1.1, (h 57 k rfl).trans q.2.1.2.1, (h 58 k rfl).trans q.2.1.2.2⟩, q.2.2⟩
theorem GC.more {P A B : Nat → Nat} {ns ns' nd nl : Nat} {I : Nat → Nat → Int32} (hn : ns ≤ ns') (G : GC P A B ns nd nl I) : GC P A B ns' nd nl I :=
  ⟨G.1, G.2.1, G.2.2.1, G.2.2.2.1, G.2.2.2.2.1, G.2.2.2.2.2.1, fun k hk => ⟨(G.2.2.2.2.2.2 k hk).1, (G.2.2.2.2.2.2 k hk).2.1, ⟨Nat.lt_of_lt_of_le (G.2.2.2.2.2.2 k hk).2.2.1.1 hn, (G.2.2.2.2.2.2 k hk).2.2.1.2⟩, ⟨Nat.lt_of_lt_of_le (G.2.2.2.2.2.2 k hk).2.2.2.1 hn, (G.2.2.2.2.2.2 k hk).2.2.2.2⟩⟩⟩
/-- how many stand once one more came; the row then -/
def nxn (nd : Nat) : Nat := if nd < 40 then nd + 1 else 40
def nxt {α : Type} (f : Nat → α) (nd : Nat) (p : α) (k : Nat) : α := if nd < 40 then (if k = nd then p else f k) else (if k = 39 then p else f (k + 1))
/-- the reference's rows, shifted up to place c -/
def shf_ (I : Nat → Nat → Int32) (c : Nat) : Nat → Nat → Int32 := fun a k => if (a = 56 ∨ a = 57 ∨ a = 58) ∧ k < c - 1 then I a (k + 1) else I a k
theorem shf_s {I : Nat → Nat → Int32} {c : Nat} (hc : 1 ≤ c) : u2 (u2 (u2 (shf_ I c) 56 (c - 1) (I 56 c)) 57 (c - 1) (I 57 c)) 58 (c - 1) (I 58 c) = shf_ I (c + 1) := by
  funext a k
  have hc' : c - 1 + 1 = c := by omega
  show (if a = 58 ∧ k = c - 1 then I 58 c else if a = 57 ∧ k = c - 1 then I 57 c else if a = 56 ∧ k = c - 1 then I 56 c else shf_ I c a k) = shf_ I (c + 1) a k
  by_cases h8 : a = 58 ∧ k = c - 1
  · obtain ⟨rfl, rfl⟩ := h8
    rw [if_pos ⟨rfl, rfl⟩]
    unfold shf_
    rw [if_pos ⟨Or.inr (Or.inr rfl), by omega⟩, hc']
  rw [if_neg h8]
  by_cases h7 : a = 57 ∧ k = c - 1
  · obtain ⟨rfl, rfl⟩ := h7
    rw [if_pos ⟨rfl, rfl⟩]
    unfold shf_
    rw [if_pos ⟨Or.inr (Or.inl rfl), by omega⟩, hc']
  rw [if_neg h7]
  by_cases h6 : a = 56 ∧ k = c - 1
  · obtain ⟨rfl, rfl⟩ := h6
    rw [if_pos ⟨rfl, rfl⟩]
    unfold shf_
    rw [if_pos ⟨Or.inl rfl, by omega⟩, hc']
  rw [if_neg h6]
  unfold shf_
  by_cases h : (a = 56 ∨ a = 57 ∨ a = 58) ∧ k < c - 1
  · rw [if_pos h, if_pos ⟨h.1, by omega⟩]
  · rw [if_neg h, if_neg (fun z => h ⟨z.1, by omega⟩)]
theorem shf_1 {I : Nat → Nat → Int32} : shf_ I 1 = I := by
  funext a k
  unfold shf_
  rw [if_neg (fun z => absurd z.2 (by omega))]
section CHG
variable {X : XX} {d : Nat} {sz sl : Nat} {sh : Nat → Nat × Nat} {R : Nat → Nat → Option Nat} {I : Nat → Nat → Int32} {J : Nat → Nat → Int64} {W : WW} {ns : Nat}
theorem s_add (hS : SF sh R) {nd : Nat} (h40 : nd ≤ 40) (e1 : I 17 3 = Int32.ofNat nd) {p a b : Int32} : ∃ I1, ev X (d + 2) 22 [.ref 17, .int p, .int a, .int b] (sz, sl, sh, R, I, J) = some (none, (sz, sl, sh, R, I1, J)) ∧ I1 17 3 = Int32.ofNat (nxn nd) ∧ I1 17 4 = Int32.ofNat (nxn nd) ∧ (∀ k, k < nxn nd → I1 18 k = nxt (I 18) nd p k ∧ I1 19 k = nxt (I 19) nd a k ∧ I1 20 k = nxt (I 20) nd b k) ∧ (∀ c k, c ≠ 17 → c ≠ 18 → c ≠ 19 → c ≠ 20 → I1 c k = I c k) := by
  by_cases hn : nd < 40
  · have z0 : ¬ Int32.ofNat nd < 0 := Int32.not_lt.mpr (n_ge (by omega))
    refine ⟨u2 (u2 (u2 (u2 (u2 I 18 nd p) 19 nd a) 20 nd b) 17 3 (Int32.ofNat (nd + 1))) 17 4 (Int32.ofNat (nd + 1)), ?_, ?_, ?_, fun k hk => ?_, fun c k h1 h2 h3 h4 => ?_⟩
    · simp (disch := first | omega | exact ib_r | exact ib_n | exact isB_rfv _ | assumption) only [n22, t22_0 hS, t22_13 hS, e1, z0, ↓reduceIte, eq_self, and_self, and_true, true_and, not_true_eq_false, not_false_eq_true, ob_s, tl_s, tl_n, rf_ref, orf_ref, orf_null, nn_ref, nn_null, rfv_s, rfv_n, if_true, if_false, bi_01, bi_e0, bi_e1, or_t, Classical.not_not]
      simp (disch := first | omega | exact ib_r | exact ib_n | exact isB_rfv _ | assumption) only [k_40, n_lt, n_inb, n_cl, n_suc, hn, ↓reduceIte, eq_self, and_self, and_true, true_and, not_true_eq_false, not_false_eq_true, ob_s, tl_s, tl_n, rf_ref, orf_ref, orf_null, nn_ref, nn_null, rfv_s, rfv_n, if_true, if_false, bi_01, bi_e0, bi_e1, or_t, Classical.not_not]
    · unfold nxn; rw [if_pos hn, u2_pj (by decide), u2_at0]
    · unfold nxn; rw [if_pos hn, u2_at0]
    · unfold nxt; rw [if_pos hn, if_pos hn, if_pos hn]
      refine ⟨?_, ?_, ?_⟩
      · rw [u2_pa (by decide), u2_pa (by decide), u2_pa (by decide), u2_pa (by decide)]
        by_cases e : k = nd
        · rw [e, u2_at0, if_pos rfl]
        · rw [u2_pj e, if_neg e]
      · rw [u2_pa (by decide), u2_pa (by decide), u2_pa (by decide)]
        by_cases e : k = nd
        · rw [e, u2_at0, if_pos rfl]
        · rw [u2_pj e, if_neg e, u2_pa (by decide)]
      · rw [u2_pa (by decide), u2_pa (by decide)]
        by_cases e : k = nd
        · rw [e, u2_at0, if_pos rfl]
        · rw [u2_pj e, if_neg e, u2_pa (by decide), u2_pa (by decide)]
    · rw [u2_pa h1, u2_pa h1, u2_pa h4, u2_pa h3, u2_pa h2]
  · obtain rfl : nd = 40 := by omega
    have z0 : ¬ (39 : Int32) < 0 := by decide
    have z1 : ¬ Int32.ofNat 40 < 40 := by decide
    have z2 : (39 : Int32) < 40 := by decide
    have z3 : inb 39 40 := by decide
    have z4 : (39 : Int32).toNatClampNeg = 39 := by decide
    have z5 : (39 : Int32) + 1 = Int32.ofNat 40 := rfl
    have y1 : ((¬ ((1) : Int32) < 0 ∧ ¬ ((0) : Int32) < 0 ∧ ¬ ((39) : Int32) < 0) ∧ 1 + 39 ≤ 40 ∧ 0 + 39 ≤ 40) := by decide
    have nn : nxn 40 = 40 := rfl
    refine ⟨u2 (u2 (u2 (u2 (u2 (u2 (ur (ur (ur I 18 (va_cpy (I 18) (I 18) 1 0 39)) 19 (va_cpy (I 19) (I 19) 1 0 39)) 20 (va_cpy (I 20) (I 20) 1 0 39)) 17 3 39) 18 39 p) 19 39 a) 20 39 b) 17 3 (Int32.ofNat 40)) 17 4 (Int32.ofNat 40), ?_, ?_, ?_, fun k hk => ?_, fun c k h1 h2 h3 h4 => ?_⟩
    · rw [n22, t22_0 hS, e1, if_neg z1, n23, t23_0 hS, zS18 hS, if_pos y1, if_pos ⟨rfl, rfl⟩, t23_15 hS, zS19 hS, if_pos y1, if_pos ⟨rfl, rfl⟩, t23_30 hS, zS20 hS, if_pos y1, if_pos ⟨rfl, rfl⟩, t23_45 hS, ob_s]
      show exe X (d + 1) 22 13 _ [] _ = _
      rw [t22_13 hS, u2_at0, if_neg z0, if_pos z2, if_pos z3, if_pos z3, if_pos z3, z4, z5]
      rfl
    · rw [u2_pj (by decide), u2_at0, nn]
    · rw [u2_at0, nn]
    · rw [nn] at hk
      have e1 : ¬ (40 : Nat) < 40 := by decide
      unfold nxt; rw [if_neg e1, if_neg e1, if_neg e1]
      refine ⟨?_, ?_, ?_⟩
      · rw [u2_pa (by decide), u2_pa (by decide), u2_pa (by decide), u2_pa (by decide)]
        by_cases e : k = 39
        · rw [e, u2_at0, if_pos rfl]
        · rw [u2_pj e, if_neg e, u2_pa (by decide)]
          show va_cpy (I 18) (I 18) 1 0 39 k = _
          unfold va_cpy
          rw [if_pos ⟨by omega, by omega⟩]
          congr 1; omega
      · rw [u2_pa (by decide), u2_pa (by decide), u2_pa (by decide)]
        by_cases e : k = 39
        · rw [e, u2_at0, if_pos rfl]
        · rw [u2_pj e, if_neg e, u2_pa (by decide), u2_pa (by decide)]
          show va_cpy (I 19) (I 19) 1 0 39 k = _
          unfold va_cpy
          rw [if_pos ⟨by omega, by omega⟩]
          congr 1; omega
      · rw [u2_pa (by decide), u2_pa (by decide)]
        by_cases e : k = 39
        · rw [e, u2_at0, if_pos rfl]
        · rw [u2_pj e, if_neg e, u2_pa (by decide), u2_pa (by decide), u2_pa (by decide)]
          show va_cpy (I 20) (I 20) 1 0 39 k = _
          unfold va_cpy
          rw [if_pos ⟨by omega, by omega⟩]
          congr 1; omega
    · rw [u2_pa h1, u2_pa h1, u2_pa h4, u2_pa h3, u2_pa h2, u2_pa h1]
      unfold ur
      rw [if_neg h4, if_neg h3, if_neg h2]
theorem s_shf (hS : SF sh R) {p v w : Int32} : ∀ n c : Nat, c + n = 40 → 1 ≤ c → exe X d 155 25 [.ref 37, .int p, .int v, .int w, .int (Int32.ofNat c)] [] (sz, sl, sh, R, shf_ I c, J) = exe X d 155 96 [.ref 37, .int p, .int v, .int w, dm] [] (sz, sl, sh, R, u2 (shf_ I 40) 37 27 (I 37 27 - 1), J)
  | 0, c, h, h1 => by
    obtain rfl : c = 40 := by omega
    rw [t155_25 hS, if_pos (by decide)]
    congr 5
  | n + 1, c, h, h1 => by
    have e1 : ¬ 40 ≤ c := by omega
    have e2 : c < 40 := by omega
    have e3 : c - 1 < 40 := by omega
    have ec : Int32.ofNat c - 1 = Int32.ofNat (c - 1) := by rw [k_1, n_sub (by omega)]
    have f6 : shf_ I c 56 c = I 56 c := by unfold shf_; rw [if_neg (by omega)]
    have f7 : shf_ I c 57 c = I 57 c := by unfold shf_; rw [if_neg (by omega)]
    have f8 : shf_ I c 58 c = I 58 c := by unfold shf_; rw [if_neg (by omega)]
    have ih := s_shf (p := p) (v := v) (w := w) hS n (c + 1) (by omega) (by omega)
    rw [t155_25 hS]
    simp (disch := first | omega | exact ib_r | exact ib_n | exact isB_rfv _ | assumption) only [k_40, ec, n_le, n_inb, n_cl, n_suc, e1, e2, e3, ↓reduceIte, eq_self, and_self, and_true, true_and, not_true_eq_false, not_false_eq_true, ob_s, tl_s, tl_n, rf_ref, orf_ref, orf_null, nn_ref, nn_null, rfv_s, rfv_n, if_true, if_false, bi_01, bi_e0, bi_e1, or_t, Classical.not_not]
    rw [u2_pa (show (57 : Nat) ≠ 56 by decide), u2_pa (show (58 : Nat) ≠ 57 by decide), u2_pa (show (58 : Nat) ≠ 56 by decide), f6, f7, f8, shf_s h1]
    exact ih
theorem pa_ne {p : Nat} : pa_ p = 42 ∨ pa_ p = 38 ∨ pa_ p = 41 := by unfold pa_; split; exact Or.inl rfl; split; exact Or.inr (Or.inl rfl); exact Or.inr (Or.inr rfl)
theorem s_chg (hS : SF sh R) {nd : Nat} (h40 : nd ≤ 40) (e1 : I 37 27 = Int32.ofNat nd) {p o v : Nat} (hp : p / 10 < 40) (ho : I (pa_ p) (pk_ p) = Int32.ofNat o) (ho' : o < 2147483648) (hv : v < 2147483648) (hne : o ≠ v) : ∃ I2, ev X (d + 2) 155 [.ref 37, .int (Int32.ofNat p), .int (Int32.ofNat v)] (sz, sl, sh, R, I, J) = some (some (.int (Int32.ofNat o)), (sz, sl, sh, R, I2, J)) ∧ I2 37 27 = Int32.ofNat (nxn nd) ∧ I2 37 26 = Int32.ofNat (nxn nd) ∧ (∀ k, k < nxn nd → I2 56 k = nxt (I 56) nd (Int32.ofNat p) k ∧ I2 57 k = nxt (I 57) nd (Int32.ofNat o) k ∧ I2 58 k = nxt (I 58) nd (Int32.ofNat v) k) ∧ I2 (pa_ p) (pk_ p) = Int32.ofNat v ∧ (∀ c k, ¬ (c = 37 ∧ (k = 26 ∨ k = 27)) → c ≠ 56 → c ≠ 57 → c ≠ 58 → ¬ (c = pa_ p ∧ k = pk_ p) → I2 c k = I c k) := by
  have z0 : ¬ Int32.ofNat o = Int32.ofNat v := by rw [n_eq ho' hv]; exact hne
  have pn : ∀ c, c ≠ 42 → c ≠ 38 → c ≠ 41 → c ≠ pa_ p := fun c a b e z => by rcases pa_ne (p := p) with q | q | q <;> omega
  -- from the place where the change is written
  have fin : ∀ (I0 : Nat → Nat → Int32) (n0 : Nat), n0 < 40 → I0 37 27 = Int32.ofNat n0 → exe X (d + 1) 155 96 [.ref 37, .int (Int32.ofNat p), .int (Int32.ofNat v), .int (Int32.ofNat o), dm] [] (sz, sl, sh, R, I0, J) = some (some (.int (Int32.ofNat o)), (sz, sl, sh, R, u2 (u2 (u2 (u2 (u2 (u2 I0 56 n0 (Int32.ofNat p)) 57 n0 (Int32.ofNat o)) 58 n0 (Int32.ofNat v)) 37 27 (Int32.ofNat (n0 + 1))) 37 26 (Int32.ofNat (n0 + 1))) (pa_ p) (pk_ p) (Int32.ofNat v), J)) := by
    intro I0 n0 hn e
    rw [t155_96 hS]
    simp (disch := first | omega | exact ib_r | exact ib_n | exact isB_rfv _ | assumption) only [e, n_inb, n_cl, n_suc, hn, ↓reduceIte, eq_self, and_self, and_true, true_and, not_true_eq_false, not_false_eq_true, ob_s, tl_s, tl_n, rf_ref, orf_ref, orf_null, nn_ref, nn_null, rfv_s, rfv_n, if_true, if_false, bi_01, bi_e0, bi_e1, or_t, Classical.not_not, s_holds hS hp, t155_150]
  by_cases hn : nd < 40
  · have z1 : ¬ Int32.ofNat nd = 40 := by rw [k_40, n_eq (by omega) (by omega)]; omega
    refine ⟨u2 (u2 (u2 (u2 (u2 (u2 I 56 nd (Int32.ofNat p)) 57 nd (Int32.ofNat o)) 58 nd (Int32.ofNat v)) 37 27 (Int32.ofNat (nd + 1))) 37 26 (Int32.ofNat (nd + 1))) (pa_ p) (pk_ p) (Int32.ofNat v), ?_, ?_, ?_, fun k hk => ?_, u2_at0, fun c k h1 h2 h3 h4 h5 => ?_⟩
    · rw [n155, t155_0 hS, s_held hS hp, ho, ob_s]
      show exe X (d + 1) 155 5 _ [.int _] _ = _
      rw [t155_5 hS, if_pos z0, e1, if_pos z1]
      exact fin I nd hn e1
    · rw [u2_pa (pn 37 (by decide) (by decide) (by decide)), u2_pj (by decide), u2_at0, nxn, if_pos hn]
    · rw [u2_pa (pn 37 (by decide) (by decide) (by decide)), u2_at0, nxn, if_pos hn]
    · unfold nxt; rw [if_pos hn, if_pos hn, if_pos hn]
      refine ⟨?_, ?_, ?_⟩
      · rw [u2_pa (pn 56 (by decide) (by decide) (by decide)), u2_pa (by decide), u2_pa (by decide), u2_pa (by decide), u2_pa (by decide)]
        by_cases e : k = nd
        · rw [e, u2_at0, if_pos rfl]
        · rw [u2_pj e, if_neg e]
      · rw [u2_pa (pn 57 (by decide) (by decide) (by decide)), u2_pa (by decide), u2_pa (by decide), u2_pa (by decide)]
        by_cases e : k = nd
        · rw [e, u2_at0, if_pos rfl]
        · rw [u2_pj e, if_neg e, u2_pa (by decide)]
      · rw [u2_pa (pn 58 (by decide) (by decide) (by decide)), u2_pa (by decide), u2_pa (by decide)]
        by_cases e : k = nd
        · rw [e, u2_at0, if_pos rfl]
        · rw [u2_pj e, if_neg e, u2_pa (by decide), u2_pa (by decide)]
    · have q6 : u2 (u2 (u2 (u2 (u2 (u2 I 56 nd (Int32.ofNat p)) 57 nd (Int32.ofNat o)) 58 nd (Int32.ofNat v)) 37 27 (Int32.ofNat (nd + 1))) 37 26 (Int32.ofNat (nd + 1))) (pa_ p) (pk_ p) (Int32.ofNat v) c k = u2 (u2 (u2 (u2 (u2 I 56 nd (Int32.ofNat p)) 57 nd (Int32.ofNat o)) 58 nd (Int32.ofNat v)) 37 27 (Int32.ofNat (nd + 1))) 37 26 (Int32.ofNat (nd + 1)) c k := if_neg h5
      rw [q6]
      have q5 : u2 (u2 (u2 (u2 (u2 I 56 nd (Int32.ofNat p)) 57 nd (Int32.ofNat o)) 58 nd (Int32.ofNat v)) 37 27 (Int32.ofNat (nd + 1))) 37 26 (Int32.ofNat (nd + 1)) c k = u2 (u2 (u2 (u2 I 56 nd (Int32.ofNat p)) 57 nd (Int32.ofNat o)) 58 nd (Int32.ofNat v)) 37 27 (Int32.ofNat (nd + 1)) c k := if_neg (fun z => h1 ⟨z.1, Or.inl z.2⟩)
      rw [q5]
      have q4 : u2 (u2 (u2 (u2 I 56 nd (Int32.ofNat p)) 57 nd (Int32.ofNat o)) 58 nd (Int32.ofNat v)) 37 27 (Int32.ofNat (nd + 1)) c k = u2 (u2 (u2 I 56 nd (Int32.ofNat p)) 57 nd (Int32.ofNat o)) 58 nd (Int32.ofNat v) c k := if_neg (fun z => h1 ⟨z.1, Or.inr z.2⟩)
      rw [q4, u2_pa h4, u2_pa h3, u2_pa h2]
  · obtain rfl : nd = 40 := by omega
    have z1 : ¬ ¬ Int32.ofNat 40 = 40 := fun z => z rfl
    have nn : nxn 40 = 40 := rfl
    have e2 : I 37 27 - 1 = Int32.ofNat 39 := by rw [e1]; rfl
    have sh6 : ∀ a k, k < 39 → (a = 56 ∨ a = 57 ∨ a = 58) → shf_ I 40 a k = I a (k + 1) := fun a k hk ha => if_pos ⟨ha, by omega⟩
    have shn : ∀ a k, a ≠ 56 → a ≠ 57 → a ≠ 58 → shf_ I 40 a k = I a k := fun a k h1 h2 h3 => if_neg (fun z => by omega)
    refine ⟨u2 (u2 (u2 (u2 (u2 (u2 (u2 (shf_ I 40) 37 27 (Int32.ofNat 39)) 56 39 (Int32.ofNat p)) 57 39 (Int32.ofNat o)) 58 39 (Int32.ofNat v)) 37 27 (Int32.ofNat (39 + 1))) 37 26 (Int32.ofNat (39 + 1))) (pa_ p) (pk_ p) (Int32.ofNat v), ?_, ?_, ?_, fun k hk => ?_, u2_at0, fun c k h1 h2 h3 h4 h5 => ?_⟩
    · rw [n155, t155_0 hS, s_held hS hp, ho, ob_s]
      show exe X (d + 1) 155 5 _ [.int _] _ = _
      rw [t155_5 hS, if_pos z0, e1, if_neg z1]
      have q := s_shf (X := X) (d := d + 1) (sz := sz) (sl := sl) (J := J) (I := I) (p := Int32.ofNat p) (v := Int32.ofNat v) (w := Int32.ofNat o) hS 39 1 rfl (by omega)
      rw [shf_1, e2] at q
      exact q.trans (fin _ 39 (by omega) u2_at0)
    · rw [u2_pa (pn 37 (by decide) (by decide) (by decide)), u2_pj (by decide), u2_at0, nn]
    · rw [u2_pa (pn 37 (by decide) (by decide) (by decide)), u2_at0, nn]
    · rw [nn] at hk
      have e1 : ¬ (40 : Nat) < 40 := by decide
      unfold nxt; rw [if_neg e1, if_neg e1, if_neg e1]
      refine ⟨?_, ?_, ?_⟩
      · rw [u2_pa (pn 56 (by decide) (by decide) (by decide)), u2_pa (by decide), u2_pa (by decide), u2_pa (by decide), u2_pa (by decide)]
        by_cases e : k = 39
        · rw [e, u2_at0, if_pos rfl]
        · rw [u2_pj e, if_neg e, u2_pa (by decide), sh6 _ _ (by omega) (Or.inl rfl)]
      · rw [u2_pa (pn 57 (by decide) (by decide) (by decide)), u2_pa (by decide), u2_pa (by decide), u2_pa (by decide)]
        by_cases e : k = 39
        · rw [e, u2_at0, if_pos rfl]
        · rw [u2_pj e, if_neg e, u2_pa (by decide), u2_pa (by decide), sh6 _ _ (by omega) (Or.inr (Or.inl rfl))]
      · rw [u2_pa (pn 58 (by decide) (by decide) (by decide)), u2_pa (by decide), u2_pa (by decide)]
        by_cases e : k = 39
        · rw [e, u2_at0, if_pos rfl]
        · rw [u2_pj e, if_neg e, u2_pa (by decide), u2_pa (by decide), u2_pa (by decide), sh6 _ _ (by omega) (Or.inr (Or.inr rfl))]
    · unfold u2
      rw [if_neg h5, if_neg (fun z => h1 ⟨z.1, Or.inl z.2⟩), if_neg (fun z => h1 ⟨z.1, Or.inr z.2⟩), if_neg (fun z => h4 z.1), if_neg (fun z => h3 z.1), if_neg (fun z => h2 z.1), if_neg (fun z => h1 ⟨z.1, Or.inr z.2⟩)]
      exact shn c k h2 h3 h4
/-- steps and changes -/
def C15 (W : WW) (a k : Nat) : Prop := cI W a k = 1 ∨ cI W a k = 5
theorem nxt_n {f : Nat → Int32} {P : Nat → Nat} {nd nl p k : Nat} (h1 : nd ≤ nl) (h2 : nl ≤ 40) (hf : ∀ k, k < nl → f k = Int32.ofNat (P k)) (hk : k < nxn nd) : nxt f nd (Int32.ofNat p) k = Int32.ofNat (nxt P nd p k) := by
  unfold nxn at hk
  unfold nxt
  by_cases hn : nd < 40
  · rw [if_pos hn] at hk ⊢
    rw [if_pos hn]
    by_cases e : k = nd
    · rw [if_pos e, if_pos e]
    · rw [if_neg e, if_neg e, hf k (by omega)]
  · rw [if_neg hn] at hk ⊢
    rw [if_neg hn]
    by_cases e : k = 39
    · rw [if_pos e, if_pos e]
    · rw [if_neg e, if_neg e, hf (k + 1) (by omega)]
theorem xa_c (G : GS W ns sh R I) {p : Nat} (hp : p / 10 < ns) : cI W (xa_ W p) (xk_ p) = 1 ∧ 71 ≤ xa_ W p := by
  have g2 := G.2.2.2.2.1 _ hp
  have h40 := G.1
  unfold xa_
  by_cases c : p % 10 < 8
  · rw [if_pos c]
    rcases g2.2 with z | z
    · exact ⟨by rw [z.1.cI, dyc1 (by omega)], z.1.1⟩
    · exact ⟨by rw [z.1.cI, dyc1 (by omega)], z.1.1⟩
  · rw [if_neg c]
    exact ⟨by rw [g2.1.cI, dyc1 (by omega)], g2.1.1⟩
theorem pa_c {p : Nat} : cI W (pa_ p) (pk_ p) = 1 := by rcases pa_ne (p := p) with q | q | q <;> rw [q] <;> rfl
theorem u2_same {α : Type} {f : Nat → Nat → α} {a k : Nat} {x : α} (h : f a k = x) : u2 f a k x = f := by
  funext b j
  show (if b = a ∧ j = k then x else f b j) = f b j
  by_cases e : b = a ∧ j = k
  · rw [if_pos e, e.1, e.2, h]
  · rw [if_neg e]
theorem o_tell (hS : SF sh R) (G : GS W ns sh R I) {P A B : Nat → Nat} {nd nl : Nat} (C : GC P A B ns nd nl I) {p v : Nat} (hv : okv ns p v) : ∃ x I1 I2, ev X (d + 4) 19 [.ref 0, .int (Int32.ofNat p), .int (Int32.ofNat v)] (sz, sl, sh, R, I, J) = some (some (.int x), (sz, sl, sh, R, I1, J)) ∧ ev X (d + 4) 155 [.ref 37, .int (Int32.ofNat p), .int (Int32.ofNat v)] (sz, sl, sh, R, I1, J) = some (some (.int x), (sz, sl, sh, R, I2, J)) ∧ GS (u2 W (pr_ p) (pk_ p) v) ns sh R I2 ∧ (∃ P' A' B' nd' nl', GC P' A' B' ns nd' nl' I2) ∧ eqO (C15 W) I I2 ∧ ∀ a k, 37 ≤ a → a < 71 → I1 a k = I a k := by
  have hp := hv.1
  have h40 := G.1
  have ml := G.mold hp
  have ov := okv_old G hp
  have xc := xa_c G hp
  have bx := s_become (X := X) (d := d) (sz := sz) (sl := sl) (J := J) (v := Int32.ofNat v) hS G hp
  have ovl := ov.lt
  have hvl := hv.lt
  by_cases he : old W p = v
  · have e1 : u2 I (xa_ W p) (xk_ p) (Int32.ofNat v) = I := u2_same (by rw [ml.2, he])
    rw [e1] at bx
    refine ⟨Int32.ofNat (old W p), I, I, ?_, ?_, G.become hv (by rw [ml.2, he]) (by rw [ml.1, he]) (fun _ _ _ _ _ => rfl), ⟨P, A, B, nd, nl, C⟩, eqO.refl, fun _ _ _ _ => rfl⟩
    · simp (disch := first | omega | exact ib_r | exact ib_n | exact isB_rfv _ | assumption) only [n19, t19_0 hS, bx, ↓reduceIte, eq_self, and_self, and_true, true_and, not_true_eq_false, not_false_eq_true, ob_s, tl_s, tl_n, rf_ref, orf_ref, orf_null, nn_ref, nn_null, rfv_s, rfv_n, if_true, if_false, bi_01, bi_e0, bi_e1, or_t, Classical.not_not, t19_6 hS, he, t19_22]
    · simp (disch := first | omega | exact ib_r | exact ib_n | exact isB_rfv _ | assumption) only [n155, t155_0 hS, s_held hS (show p / 10 < 40 by omega), ml.1, ↓reduceIte, eq_self, and_self, and_true, true_and, not_true_eq_false, not_false_eq_true, ob_s, tl_s, tl_n, rf_ref, orf_ref, orf_null, nn_ref, nn_null, rfv_s, rfv_n, if_true, if_false, bi_01, bi_e0, bi_e1, or_t, Classical.not_not, t155_5 hS, he]
  · have hne : ¬ Int32.ofNat (old W p) = Int32.ofNat v := by rw [n_eq ovl hvl]; exact he
    have C' := C
    obtain ⟨h1, h2, e1, e2, e3, e4, hk⟩ := C
    have xn : ∀ a k, a < 71 → u2 I (xa_ W p) (xk_ p) (Int32.ofNat v) a k = I a k := fun a k ha => u2_pa (by omega)
    obtain ⟨I1, a1, a2, a3, a4, a5⟩ := s_add (X := X) (d := d + 1) (sz := sz) (sl := sl) (J := J) (I := u2 I (xa_ W p) (xk_ p) (Int32.ofNat v)) (p := Int32.ofNat p) (a := Int32.ofNat (old W p)) (b := Int32.ofNat v) hS (show nd ≤ 40 by omega) (by rw [xn _ _ (by decide)]; exact e1)
    have pan := pa_ne (p := p)
    obtain ⟨I2, b1, b2, b3, b4, b5, b6⟩ := s_chg (X := X) (d := d + 2) (sz := sz) (sl := sl) (J := J) (I := I1) (p := p) (o := old W p) (v := v) hS (show nd ≤ 40 by omega) (by rw [a5 _ _ (by decide) (by decide) (by decide) (by decide), xn _ _ (by decide)]; exact e2) (show p / 10 < 40 by omega) (by rw [a5 _ _ (by omega) (by omega) (by omega) (by omega), xn _ _ (by omega)]; exact ml.1) ovl hvl he
    have q : ∀ a k, a < 71 → a ≠ 17 → a ≠ 18 → a ≠ 19 → a ≠ 20 → I1 a k = I a k := fun a k ha n1 n2 n3 n4 => by rw [a5 _ _ n1 n2 n3 n4, xn _ _ ha]
    have r56 : ∀ k, I1 56 k = I 56 k := fun k => q _ _ (by decide) (by decide) (by decide) (by decide) (by decide)
    have r57 : ∀ k, I1 57 k = I 57 k := fun k => q _ _ (by decide) (by decide) (by decide) (by decide) (by decide)
    have r58 : ∀ k, I1 58 k = I 58 k := fun k => q _ _ (by decide) (by decide) (by decide) (by decide) (by decide)
    have r18 : ∀ a k, (a = 17 ∨ a = 18 ∨ a = 19 ∨ a = 20) → I2 a k = I1 a k := fun a k ha => b6 _ _ (by omega) (by omega) (by omega) (by omega) (by omega)
    refine ⟨Int32.ofNat (old W p), I1, I2, ?_, b1, G.become hv ?_ b5 (fun a k hc n1 n2 => ?_), ⟨nxt P nd p, nxt A nd (old W p), nxt B nd v, nxn nd, nxn nd, Nat.le_refl _, ?_, ?_, b2, ?_, b3, fun k hk' => ?_⟩, fun a k hn => ?_, fun a k h1 h2 => q a k h2 (by omega) (by omega) (by omega) (by omega)⟩
    · simp (disch := first | omega | exact ib_r | exact ib_n | exact isB_rfv _ | assumption) only [n19, t19_0 hS, bx, ↓reduceIte, eq_self, and_self, and_true, true_and, not_true_eq_false, not_false_eq_true, ob_s, tl_s, tl_n, rf_ref, orf_ref, orf_null, nn_ref, nn_null, rfv_s, rfv_n, if_true, if_false, bi_01, bi_e0, bi_e1, or_t, Classical.not_not, t19_6 hS, hne, a1, t19_22]
    · rw [b6 _ _ (by omega) (by omega) (by omega) (by omega) (by omega), a5 _ _ (by omega) (by omega) (by omega) (by omega), u2_at0]
    · have hn : ∀ b, cI W b k ≠ 1 → a ≠ b := fun b hb e => hb (by rw [← e]; exact hc)
      rw [b6 _ _ (fun z => by obtain ⟨rfl, z2⟩ := z; rcases z2 with rfl | rfl <;> exact absurd hc (by show ¬ (5 : Nat) = 1; decide)) (hn 56 (fun z => absurd z (by show (5 : Nat) ≠ 1; decide))) (hn 57 (fun z => absurd z (by show (5 : Nat) ≠ 1; decide))) (hn 58 (fun z => absurd z (by show (5 : Nat) ≠ 1; decide))) n2, a5 _ _ (hn 17 (fun z => absurd z (by show (5 : Nat) ≠ 1; decide))) (hn 18 (fun z => absurd z (by show (5 : Nat) ≠ 1; decide))) (hn 19 (fun z => absurd z (by show (5 : Nat) ≠ 1; decide))) (hn 20 (fun z => absurd z (by show (5 : Nat) ≠ 1; decide)))]
      exact if_neg n1
    · unfold nxn; split <;> omega
    · rw [r18 _ _ (Or.inl rfl), a2]
    · rw [r18 _ _ (Or.inl rfl), a3]
    · have c4 := b4 k hk'
      have d4 := a4 k hk'
      have f18 : (u2 I (xa_ W p) (xk_ p) (Int32.ofNat v)) 18 = I 18 := funext fun k => xn _ _ (by decide)
      have f19 : (u2 I (xa_ W p) (xk_ p) (Int32.ofNat v)) 19 = I 19 := funext fun k => xn _ _ (by decide)
      have f20 : (u2 I (xa_ W p) (xk_ p) (Int32.ofNat v)) 20 = I 20 := funext fun k => xn _ _ (by decide)
      rw [f18, f19, f20] at d4
      rw [funext r56, funext r57, funext r58] at c4
      refine ⟨⟨?_, ?_, ?_⟩, ⟨?_, ?_, ?_⟩, ?_, ?_⟩
      · rw [r18 _ _ (Or.inr (Or.inl rfl)), d4.1]; exact nxt_n h1 h2 (fun k hk' => (hk k hk').1.1) hk'
      · rw [r18 _ _ (Or.inr (Or.inr (Or.inl rfl))), d4.2.1]; exact nxt_n h1 h2 (fun k hk' => (hk k hk').1.2.1) hk'
      · rw [r18 _ _ (Or.inr (Or.inr (Or.inr rfl))), d4.2.2]; exact nxt_n h1 h2 (fun k hk' => (hk k hk').1.2.2) hk'
      · rw [c4.1]; exact nxt_n h1 h2 (fun k hk' => (hk k hk').2.1.1) hk'
      · rw [c4.2.1]; exact nxt_n h1 h2 (fun k hk' => (hk k hk').2.1.2.1) hk'
      · rw [c4.2.2]; exact nxt_n h1 h2 (fun k hk' => (hk k hk').2.1.2.2) hk'
      · unfold nxn at hk'; unfold nxt
        by_cases hn : nd < 40
        · rw [if_pos hn] at hk'
          rw [if_pos hn, if_pos hn]
          by_cases e : k = nd
          · rw [if_pos e, if_pos e]; exact ov
          · rw [if_neg e, if_neg e]; exact (hk k (by omega)).2.2.1
        · rw [if_neg hn] at hk'
          rw [if_neg hn, if_neg hn]
          by_cases e : k = 39
          · rw [if_pos e, if_pos e]; exact ov
          · rw [if_neg e, if_neg e]; exact (hk (k + 1) (by omega)).2.2.1
      · unfold nxn at hk'; unfold nxt
        by_cases hn : nd < 40
        · rw [if_pos hn] at hk'
          rw [if_pos hn, if_pos hn]
          by_cases e : k = nd
          · rw [if_pos e, if_pos e]; exact hv
          · rw [if_neg e, if_neg e]; exact (hk k (by omega)).2.2.2
        · rw [if_neg hn] at hk'
          rw [if_neg hn, if_neg hn]
          by_cases e : k = 39
          · rw [if_pos e, if_pos e]; exact hv
          · rw [if_neg e, if_neg e]; exact (hk (k + 1) (by omega)).2.2.2
    · have hn5 : ∀ b, cI W b k = 5 → a ≠ b := fun b hb e => hn (Or.inr (by rw [e]; exact hb))
      rw [b6 _ _ (fun z => by obtain ⟨rfl, z2⟩ := z; rcases z2 with rfl | rfl <;> exact hn (Or.inr rfl)) (hn5 56 rfl) (hn5 57 rfl) (hn5 58 rfl) (fun z => hn (Or.inl (by rw [z.1, z.2]; exact pa_c))), a5 _ _ (hn5 17 rfl) (hn5 18 rfl) (hn5 19 rfl) (hn5 20 rfl)]
      exact if_neg (fun z => hn (Or.inl (by rw [z.1, z.2]; exact xc.1)))
end CHG
