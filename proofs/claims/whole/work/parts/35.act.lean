/-! ACT -/
/-- the class's and the reference's trace, one body more -/
def nX (I : Nat → Nat → Int32) (b : Nat) : Nat → Nat → Int32 := if 24 ≤ (I 21 4).toNatClampNeg then u2 I 21 4 (I 21 4 + 1) else u2 (u2 I 23 (I 21 4).toNatClampNeg (Int32.ofNat b)) 21 4 (I 21 4 + 1)
def nM (I : Nat → Nat → Int32) (b : Nat) : Nat → Nat → Int32 := if 24 ≤ (I 37 30).toNatClampNeg then u2 I 37 30 (I 37 30 + 1) else u2 (u2 I 60 (I 37 30).toNatClampNeg (Int32.ofNat b)) 37 30 (I 37 30 + 1)
def nXs : List Nat → (Nat → Nat → Int32) → (Nat → Nat → Int32) | [], I => I | b :: r, I => nXs r (nX I b)
def nMs : List Nat → (Nat → Nat → Int32) → (Nat → Nat → Int32) | [], I => I | b :: r, I => nMs r (nM I b)
theorem nXs_app : ∀ (a b : List Nat) (I : Nat → Nat → Int32), nXs (a ++ b) I = nXs b (nXs a I)
  | [], _, _ => rfl
  | c :: r, b, I => nXs_app r b (nX I c)
theorem nMs_app : ∀ (a b : List Nat) (I : Nat → Nat → Int32), nMs (a ++ b) I = nMs b (nMs a I)
  | [], _, _ => rfl
  | c :: r, b, I => nMs_app r b (nM I c)
/-- who acts -/
def HX (a nb K r : Nat) (I : Nat → Nat → Int32) : Prop := a < nb ∧ nb ≤ 50 ∧ K ≤ 7 ∧ r ≤ 1000 ∧ I 21 2 = Int32.ofNat a ∧ I 21 3 = Int32.ofNat nb ∧ I 22 a = Int32.ofNat K ∧ I 21 4 = Int32.ofNat r
def HM (a nb K r : Nat) (I : Nat → Nat → Int32) : Prop := a < nb ∧ nb ≤ 50 ∧ K ≤ 7 ∧ r ≤ 1000 ∧ I 37 48 = Int32.ofNat a ∧ I 59 a = Int32.ofNat K ∧ I 37 30 = Int32.ofNat r
theorem nX_n {I : Nat → Nat → Int32} {b a k : Nat} (h1 : a ≠ 23) (h2 : ¬ (a = 21 ∧ k = 4)) : nX I b a k = I a k := by
  unfold nX
  split
  · exact if_neg h2
  · exact (if_neg h2).trans (u2_pa h1)
theorem nM_n {I : Nat → Nat → Int32} {b a k : Nat} (h1 : a ≠ 60) (h2 : ¬ (a = 37 ∧ k = 30)) : nM I b a k = I a k := by
  unfold nM
  split
  · exact if_neg h2
  · exact (if_neg h2).trans (u2_pa h1)
theorem nX_4 {I : Nat → Nat → Int32} {b : Nat} : nX I b 21 4 = I 21 4 + 1 := by unfold nX; split <;> exact u2_at0
theorem nM_4 {I : Nat → Nat → Int32} {b : Nat} : nM I b 37 30 = I 37 30 + 1 := by unfold nM; split <;> exact u2_at0
theorem HX.nX {a nb K r b : Nat} {I : Nat → Nat → Int32} (hr : r + 1 ≤ 1000) (H : HX a nb K r I) : HX a nb K (r + 1) (nX I b) :=
  ⟨H.1, H.2.1, H.2.2.1, hr, by rw [nX_n (by decide) (by decide)]; exact H.2.2.2.2.1, by rw [nX_n (by decide) (by decide)]; exact H.2.2.2.2.2.1, by rw [nX_n (by decide) (by omega)]; exact H.2.2.2.2.2.2.1, by rw [nX_4, H.2.2.2.2.2.2.2, n_suc]⟩
theorem HM.nM {a nb K r b : Nat} {I : Nat → Nat → Int32} (hr : r + 1 ≤ 1000) (H : HM a nb K r I) : HM a nb K (r + 1) (nM I b) :=
  ⟨H.1, H.2.1, H.2.2.1, hr, by rw [nM_n (by decide) (by decide)]; exact H.2.2.2.2.1, by rw [nM_n (by decide) (by omega)]; exact H.2.2.2.2.2.1, by rw [nM_4, H.2.2.2.2.2.2, n_suc]⟩
theorem HX.nXs {a nb K : Nat} : ∀ (l : List Nat) {r : Nat} {I : Nat → Nat → Int32}, r + l.length ≤ 1000 → HX a nb K r I → HX a nb K (r + l.length) (nXs l I)
  | [], _, _, _, H => H
  | b :: l, r, I, hr, H => by
    rw [List.length_cons] at hr
    have := HX.nXs l (r := r + 1) (by omega) (H.nX (b := b) (by omega))
    rw [List.length_cons, show r + (l.length + 1) = r + 1 + l.length from by omega]
    exact this
theorem HM.nMs {a nb K : Nat} : ∀ (l : List Nat) {r : Nat} {I : Nat → Nat → Int32}, r + l.length ≤ 1000 → HM a nb K r I → HM a nb K (r + l.length) (nMs l I)
  | [], _, _, _, H => H
  | b :: l, r, I, hr, H => by
    rw [List.length_cons] at hr
    have := HM.nMs l (r := r + 1) (by omega) (H.nM (b := b) (by omega))
    rw [List.length_cons, show r + (l.length + 1) = r + 1 + l.length from by omega]
    exact this
/-! what the acts come to, and the bodies that run -/
def lieV (n : Int32) (k : Nat) (x : Int32) : Int32 := if k = 1 then x + n + 3 else if k = 3 then x + 1 + n + 3 else if k = 7 then (x + n) * 3 else x + n
def lieL (k : Nat) : List Nat := if k = 1 then [20, 1] else if k = 3 then [41, 20, 1] else if k = 7 then [80, 1] else [1]
def couV (n : Int32) (K k : Nat) (x : Int32) : Int32 := if k = 3 then (x ^^^ n) * 2 else if k = 5 then (x ^^^ n) - lieV n K 2 else x ^^^ n
def couL (K k : Nat) : List Nat := if k = 3 then [40, 11] else if k = 5 then 60 :: 11 :: lieL K else [11]
def weaV (n : Int32) (K k : Nat) (x : Int32) : Int32 := if k = 2 ∨ k = 4 then -(lieV n K x * 2) else if k = 6 ∨ k = 7 then lieV n K x * 2 + couV n K K 2 else lieV n K x * 2
def weaL (K k : Nat) : List Nat := if k = 2 ∨ k = 4 then 30 :: 10 :: lieL K else if k = 6 ∨ k = 7 then 70 :: 10 :: (lieL K ++ couL K K) else 10 :: lieL K
def telV (n : Int32) (K k : Nat) (x : Int32) : Int32 := if k = 4 then (weaV n K K x - couV n K K 1) ^^^ 5 else if k = 7 then weaV n K K x - couV n K K 1 - 1 else weaV n K K x - couV n K K 1
def telL (K k : Nat) : List Nat := if k = 4 then 50 :: 2 :: (weaL K K ++ couL K K) else if k = 7 then 81 :: 2 :: (weaL K K ++ couL K K) else 2 :: (weaL K K ++ couL K K)
theorem lieL_le {k : Nat} : (lieL k).length ≤ 3 := by unfold lieL; split; decide; split; decide; split <;> decide
theorem couL_le {K k : Nat} : (couL K k).length ≤ 5 := by
  have := @lieL_le K
  unfold couL; split; exact (by decide : 2 ≤ 5); split
  · simp only [List.length_cons]; omega
  · exact (by decide : 1 ≤ 5)
theorem weaL_le {K k : Nat} : (weaL K k).length ≤ 10 := by
  have := @lieL_le K
  have := @couL_le K K
  unfold weaL; split
  · simp only [List.length_cons]; omega
  · split
    · simp only [List.length_cons, List.length_append]; omega
    · simp only [List.length_cons]; omega
theorem telL_le {K k : Nat} : (telL K k).length ≤ 17 := by
  have := @weaL_le K K
  have := @couL_le K K
  unfold telL; split
  · simp only [List.length_cons, List.length_append]; omega
  · split
    · simp only [List.length_cons, List.length_append]; omega
    · simp only [List.length_cons, List.length_append]; omega
section ACTX
variable {X : XX} {d : Nat} {sz sl : Nat} {sh : Nat → Nat × Nat} {R : Nat → Nat → Option Nat} {J : Nat → Nat → Int64} {a nb K : Nat}
theorem s_note (hS : SF sh R) {I : Nat → Nat → Int32} {r b : Nat} (H : HX a nb K r I) : ev X (d + 1) 124 [.ref 21, .int (Int32.ofNat b)] (sz, sl, sh, R, I, J) = some (none, (sz, sl, sh, R, nX I b, J)) := by
  have hr := H.2.2.2.1
  have e := H.2.2.2.2.2.2.2
  have e0 : ¬ Int32.ofNat r < 0 := Int32.not_lt.mpr (n_ge (by omega))
  rw [n124, t124_0 hS, e, if_neg e0]
  unfold nX
  by_cases h : 24 ≤ r
  · rw [if_pos (by rw [k_24, n_le (by decide) (by omega)]; exact h), if_pos (by rw [e, n_cl (by omega)]; exact h), e]
  · rw [if_neg (by rw [k_24, n_le (by decide) (by omega)]; exact h), if_pos (by rw [n_inb (by omega)]; omega), if_neg (by rw [e, n_cl (by omega)]; exact h), e]
/-- the acts' bodies: a kind without one hands on -/
theorem f_fwd {I : Nat → Nat → Int32} {k act n k' : Nat} {x op : Int32} (hk : k ≤ 7) (ha : act ≤ 3) (hn : n < 8) (h0 : tab2.getD (4 * k + act) 0 = 0) (h1 : tab1.getD k 0 = Int32.ofNat k') (hS : SF sh R) : exe X (d + 1) 123 15 [.ref 21, dm, .int (Int32.ofNat act), .int x, .int op, .int (Int32.ofNat k), .int (Int32.ofNat n), dm, dm] [] (sz, sl, sh, R, I, J) = exe X (d + 1) 123 15 [.ref 21, dm, .int (Int32.ofNat act), .int x, .int op, .int (Int32.ofNat k'), .int (Int32.ofNat (n + 1)), dm, dm] [] (sz, sl, sh, R, I, J) := by
  have e0 : ¬ 8 ≤ n := by omega
  have e1 : ¬ Int32.ofNat k < 0 := Int32.not_lt.mpr (n_ge (by omega))
  have e2 : ¬ Int32.ofNat (4 * k + act) < 0 := Int32.not_lt.mpr (n_ge (by omega))
  have e3 : ¬ (32 : Nat) ≤ 4 * k + act := by omega
  have e4 : 4 * k + act < 32 := by omega
  have e5 : (2 : Nat) < 3 := by decide
  have t2 : tn X 2 = 32 := rfl
  have tv2 : tv X 2 (4 * k + act) = 0 := h0
  rw [t123_15]
  simp (disch := first | omega | exact ib_r | exact ib_n | exact isB_rfv _ | assumption) only [k_8, k_4, n_le, n_mul, n_add, n_inb, n_cl, e0, e1, e2, e3, e4, e5, t2, tv2, ↓reduceIte, eq_self, and_self, and_true, true_and, not_true_eq_false, not_false_eq_true, ob_s, tl_s, tl_n, rf_ref, orf_ref, orf_null, nn_ref, nn_null, rfv_s, rfv_n, if_true, if_false, bi_01, bi_e0, bi_e1, or_t, Classical.not_not, t123_59 hS, s_aboveX hk, h1, t123_94, n_suc]
theorem f_run {I : Nat → Nat → Int32} {k act n b r : Nat} {x op v : Int32} {h' : HP} (hk : k ≤ 7) (ha : act ≤ 3) (hn : n < 8) (hb : 0 < b) (hb' : b < 100) (h0 : tab2.getD (4 * k + act) 0 = Int32.ofNat b) (hS : SF sh R) (H : HX a nb K r I) (hrun : ev X (d + 1) 126 [.ref 21, .int (Int32.ofNat b), .int (tab1.getD k 0), .int x, .int (op + 1)] (sz, sl, sh, R, nX I b, J) = some (some (.int v), h')) : exe X (d + 1) 123 15 [.ref 21, dm, .int (Int32.ofNat act), .int x, .int op, .int (Int32.ofNat k), .int (Int32.ofNat n), dm, dm] [] (sz, sl, sh, R, I, J) = some (some (.int v), h') := by
  have e0 : ¬ 8 ≤ n := by omega
  have e1 : ¬ Int32.ofNat k < 0 := Int32.not_lt.mpr (n_ge (by omega))
  have e2 : ¬ Int32.ofNat (4 * k + act) < 0 := Int32.not_lt.mpr (n_ge (by omega))
  have e3 : ¬ (32 : Nat) ≤ 4 * k + act := by omega
  have e4 : 4 * k + act < 32 := by omega
  have e5 : (2 : Nat) < 3 := by decide
  have e6 : ¬ Int32.ofNat b = 0 := by rw [k_0, n_eq (by omega) (by decide)]; omega
  have t2 : tn X 2 = 32 := rfl
  have tv2 : tv X 2 (4 * k + act) = Int32.ofNat b := h0
  rw [t123_15]
  simp (disch := first | omega | exact ib_r | exact ib_n | exact isB_rfv _ | assumption) only [k_8, k_4, n_le, n_mul, n_add, n_inb, n_cl, e0, e1, e2, e3, e4, e5, e6, t2, tv2, ↓reduceIte, eq_self, and_self, and_true, true_and, not_true_eq_false, not_false_eq_true, ob_s, tl_s, tl_n, rf_ref, orf_ref, orf_null, nn_ref, nn_null, rfv_s, rfv_n, if_true, if_false, bi_01, bi_e0, bi_e1, or_t, Classical.not_not, t123_59 hS, s_note hS H, t123_72, s_aboveX hk, t123_80, zS21 hS, hrun]
  obtain ⟨q1, q2, q3, q4, q5, q6⟩ := h'
  exact t123_88
theorem f_ent {h : HP} {k act o : Nat} {x : Int32} (ho : o ≤ 40) : ev X (d + 2) 123 [.ref 21, .int (Int32.ofNat k), .int (Int32.ofNat act), .int x, .int (Int32.ofNat o)] h = exe X (d + 1) 123 15 [.ref 21, dm, .int (Int32.ofNat act), .int x, .int (Int32.ofNat o), .int (Int32.ofNat k), .int (Int32.ofNat 0), dm, dm] [] h := by
  obtain ⟨q1, q2, q3, q4, q5, q6⟩ := h
  rw [n123, t123_0, if_pos (by rw [k_40, n_le (by omega) (by decide)]; exact ho)]
  rfl
theorem s_kindOf (hS : SF sh R) {I : Nat → Nat → Int32} {r : Nat} (H : HX a nb K r I) : ev X (d + 1) 121 [.ref 21, .int (Int32.ofNat a)] (sz, sl, sh, R, I, J) = some (some (.int (Int32.ofNat K)), (sz, sl, sh, R, I, J)) := by
  obtain ⟨h1, h2, h3, h4, e1, e2, e3, e4⟩ := H
  have f1 : ¬ Int32.ofNat a < 0 := Int32.not_lt.mpr (n_ge (by omega))
  have f2 : ¬ nb ≤ a := by omega
  have f3 : ¬ 50 ≤ a := by omega
  have f4 : a < 50 := by omega
  simp (disch := first | omega | exact ib_r | exact ib_n | exact isB_rfv _ | assumption) only [n121, t121_0 hS, f1, e2, k_50, n_le, n_inb, n_cl, f2, f3, f4, e3, ↓reduceIte, eq_self, and_self, and_true, true_and, not_true_eq_false, not_false_eq_true, ob_s, tl_s, tl_n, rf_ref, orf_ref, orf_null, nn_ref, nn_null, rfv_s, rfv_n, if_true, if_false, bi_01, bi_e0, bi_e1, or_t, Classical.not_not]
theorem s_own (hS : SF sh R) {I : Nat → Nat → Int32} {r act o : Nat} {x v : Int32} {h' : HP} (ho : o ≤ 40) (H : HX a nb K r I) (hf : exe X (d + 1) 123 15 [.ref 21, dm, .int (Int32.ofNat act), .int x, .int (Int32.ofNat o), .int (Int32.ofNat K), .int (Int32.ofNat 0), dm, dm] [] (sz, sl, sh, R, I, J) = some (some (.int v), h')) : ev X (d + 3) 122 [.ref 21, .int (Int32.ofNat act), .int x, .int (Int32.ofNat o)] (sz, sl, sh, R, I, J) = some (some (.int v), h') := by
  rw [n122, t122_0 hS, H.2.2.2.2.1, s_kindOf hS H, ob_s]
  show exe X (d + 2) 122 9 _ [.int _, .ref 21] _ = _
  rw [t122_9 rfl, rf_ref, if_pos (zS21 hS), f_ent ho, hf, ob_s]
  obtain ⟨q1, q2, q3, q4, q5, q6⟩ := h'
  exact t122_15
theorem c_lie0 (hS : SF sh R) {I : Nat → Nat → Int32} {r n : Nat} {x op : Int32} (H : HX a nb K r I) (hr : r + 3 ≤ 1000) (hn : n < 8) : exe X (d + 1) 123 15 [.ref 21, dm, .int (Int32.ofNat 0), .int x, .int op, .int (Int32.ofNat 0), .int (Int32.ofNat n), dm, dm] [] (sz, sl, sh, R, I, J) = some (some (.int (x + Int32.ofNat a)), (sz, sl, sh, R, nX I 1, J)) := by
  refine f_run (b := 1) (by omega) (by omega) hn (by decide) (by decide) rfl hS H ?_
  rw [n126, t126_0 hS, if_pos (by decide), (H.nX (b := 1) (by omega)).2.2.2.2.1]
theorem c_lie (hS : SF sh R) {I : Nat → Nat → Int32} {r n k o : Nat} {x : Int32} (H : HX a nb K r I) (hr : r + 6 ≤ 1000) (hk : k ≤ 7) (hn : n ≤ 2) (ho : o ≤ 30) : exe X (d + 5) 123 15 [.ref 21, dm, .int (Int32.ofNat 0), .int x, .int (Int32.ofNat o), .int (Int32.ofNat k), .int (Int32.ofNat n), dm, dm] [] (sz, sl, sh, R, I, J) = some (some (.int (lieV (Int32.ofNat a) k x)), (sz, sl, sh, R, nXs (lieL k) I, J)) := by
  have one : ∀ (e : Nat) (I : Nat → Nat → Int32) (r o : Nat) (x : Int32), HX a nb K r I → r + 4 ≤ 1000 → o ≤ 35 → exe X (e + 3) 123 15 [.ref 21, dm, .int (Int32.ofNat 0), .int x, .int (Int32.ofNat o), .int (Int32.ofNat 1), .int (Int32.ofNat 0), dm, dm] [] (sz, sl, sh, R, I, J) = some (some (.int (x + Int32.ofNat a + 3)), (sz, sl, sh, R, nX (nX I 20) 1, J)) := by
    intro e I r o x H hr ho
    refine f_run (b := 20) (by omega) (by omega) (by omega) (by decide) (by decide) rfl hS H ?_
    have H1 := H.nX (b := 20) (by omega)
    rw [n126, t126_0 hS, if_neg (by decide), if_neg (by decide), if_neg (by decide), if_neg (by decide), if_pos (by decide), n_suc, show tab1.getD 1 0 = Int32.ofNat 0 from rfl, k_0, f_ent (by omega), c_lie0 hS H1 (by omega) (by omega), ob_s]
    exact t126_168
  have H' := H
  rcases (show k = 0 ∨ k = 1 ∨ k = 2 ∨ k = 3 ∨ k = 4 ∨ k = 5 ∨ k = 6 ∨ k = 7 by omega) with rfl | rfl | rfl | rfl | rfl | rfl | rfl | rfl
  · exact c_lie0 hS H (by omega) (by omega)
  · refine f_run (b := 20) (by omega) (by omega) (by omega) (by decide) (by decide) rfl hS H ?_
    have H1 := H.nX (b := 20) (by omega)
    rw [n126, t126_0 hS, if_neg (by decide), if_neg (by decide), if_neg (by decide), if_neg (by decide), if_pos (by decide), n_suc, show tab1.getD 1 0 = Int32.ofNat 0 from rfl, k_0, f_ent (by omega), c_lie0 hS H1 (by omega) (by omega), ob_s]
    exact t126_168
  · rw [f_fwd (k' := 0) (by omega) (by omega) (by omega) rfl rfl hS]
    exact c_lie0 hS H (by omega) (by omega)
  · refine f_run (b := 41) (by omega) (by omega) (by omega) (by decide) (by decide) rfl hS H ?_
    have H1 := H.nX (b := 41) (by omega)
    rw [n126, t126_0 hS, if_neg (by decide), if_neg (by decide), if_neg (by decide), if_neg (by decide), if_neg (by decide), if_neg (by decide), if_neg (by decide), if_pos (by decide), n_suc, show tab1.getD 3 0 = Int32.ofNat 1 from rfl, k_0, f_ent (by omega), one _ _ _ _ _ H1 (by omega) (by omega), ob_s]
    exact t126_205
  · rw [f_fwd (k' := 2) (by omega) (by omega) (by omega) rfl rfl hS, f_fwd (k' := 0) (by omega) (by omega) (by omega) rfl rfl hS]
    exact c_lie0 hS H (by omega) (by omega)
  · rw [f_fwd (k' := 0) (by omega) (by omega) (by omega) rfl rfl hS]
    exact c_lie0 hS H (by omega) (by omega)
  · rw [f_fwd (k' := 0) (by omega) (by omega) (by omega) rfl rfl hS]
    exact c_lie0 hS H (by omega) (by omega)
  · refine f_run (b := 80) (by omega) (by omega) (by omega) (by decide) (by decide) rfl hS H ?_
    have H1 := H.nX (b := 80) (by omega)
    rw [n126, t126_0 hS, if_neg (by decide), if_neg (by decide), if_neg (by decide), if_neg (by decide), if_neg (by decide), if_neg (by decide), if_neg (by decide), if_neg (by decide), if_neg (by decide), if_neg (by decide), if_neg (by decide), if_pos (by decide), n_suc, show tab1.getD 7 0 = Int32.ofNat 6 from rfl, k_0, f_ent (by omega), f_fwd (k' := 0) (by omega) (by omega) (by omega) rfl rfl hS, c_lie0 hS H1 (by omega) (by omega), ob_s]
    exact t126_265
theorem c_cou0 (hS : SF sh R) {I : Nat → Nat → Int32} {r n : Nat} {x op : Int32} (H : HX a nb K r I) (hr : r + 3 ≤ 1000) (hn : n < 8) : exe X (d + 1) 123 15 [.ref 21, dm, .int (Int32.ofNat 2), .int x, .int op, .int (Int32.ofNat 0), .int (Int32.ofNat n), dm, dm] [] (sz, sl, sh, R, I, J) = some (some (.int (x ^^^ Int32.ofNat a)), (sz, sl, sh, R, nX I 11, J)) := by
  refine f_run (b := 11) (by omega) (by omega) hn (by decide) (by decide) rfl hS H ?_
  rw [n126, t126_0 hS, if_neg (by decide), if_neg (by decide), if_neg (by decide), if_pos (by decide), (H.nX (b := 11) (by omega)).2.2.2.2.1]
theorem c_cou (hS : SF sh R) {I : Nat → Nat → Int32} {r n k o : Nat} {x : Int32} (H : HX a nb K r I) (hr : r + 20 ≤ 1000) (hk : k ≤ 7) (hn : n ≤ 2) (ho : o ≤ 25) : exe X (d + 8) 123 15 [.ref 21, dm, .int (Int32.ofNat 2), .int x, .int (Int32.ofNat o), .int (Int32.ofNat k), .int (Int32.ofNat n), dm, dm] [] (sz, sl, sh, R, I, J) = some (some (.int (couV (Int32.ofNat a) K k x)), (sz, sl, sh, R, nXs (couL K k) I, J)) := by
  rcases (show k = 0 ∨ k = 1 ∨ k = 2 ∨ k = 3 ∨ k = 4 ∨ k = 5 ∨ k = 6 ∨ k = 7 by omega) with rfl | rfl | rfl | rfl | rfl | rfl | rfl | rfl
  · exact c_cou0 hS H (by omega) (by omega)
  · rw [f_fwd (k' := 0) (by omega) (by omega) (by omega) rfl rfl hS]
    exact c_cou0 hS H (by omega) (by omega)
  · rw [f_fwd (k' := 0) (by omega) (by omega) (by omega) rfl rfl hS]
    exact c_cou0 hS H (by omega) (by omega)
  · refine f_run (b := 40) (by omega) (by omega) (by omega) (by decide) (by decide) rfl hS H ?_
    have H1 := H.nX (b := 40) (by omega)
    rw [n126, t126_0 hS, if_neg (by decide), if_neg (by decide), if_neg (by decide), if_neg (by decide), if_neg (by decide), if_neg (by decide), if_pos (by decide), n_suc, show tab1.getD 3 0 = Int32.ofNat 1 from rfl, k_2, f_ent (by omega), f_fwd (k' := 0) (by omega) (by omega) (by omega) rfl rfl hS, c_cou0 hS H1 (by omega) (by omega), ob_s]
    exact t126_191
  · rw [f_fwd (k' := 2) (by omega) (by omega) (by omega) rfl rfl hS, f_fwd (k' := 0) (by omega) (by omega) (by omega) rfl rfl hS]
    exact c_cou0 hS H (by omega) (by omega)
  · refine f_run (b := 60) (by omega) (by omega) (by omega) (by decide) (by decide) rfl hS H ?_
    have H1 := H.nX (b := 60) (by omega)
    have H2 := H1.nX (b := 11) (by omega)
    rw [n126, t126_0 hS, if_neg (by decide), if_neg (by decide), if_neg (by decide), if_neg (by decide), if_neg (by decide), if_neg (by decide), if_neg (by decide), if_neg (by decide), if_neg (by decide), if_pos (by decide), n_suc, show tab1.getD 5 0 = Int32.ofNat 0 from rfl, k_2, f_ent (by omega), c_cou0 hS H1 (by omega) (by omega), ob_s]
    show exe X (d + 7) 126 227 _ [.int _] _ = _
    rw [t126_227 hS, k_0, k_2, s_own hS (by omega) H2 (c_lie hS H2 (by omega) H.2.2.1 (by omega) (by omega)), ob_s]
    exact t126_235
  · rw [f_fwd (k' := 0) (by omega) (by omega) (by omega) rfl rfl hS]
    exact c_cou0 hS H (by omega) (by omega)
  · rw [f_fwd (k' := 6) (by omega) (by omega) (by omega) rfl rfl hS, f_fwd (k' := 0) (by omega) (by omega) (by omega) rfl rfl hS]
    exact c_cou0 hS H (by omega) (by omega)
theorem c_wea0 (hS : SF sh R) {I : Nat → Nat → Int32} {r n o : Nat} {x : Int32} (H : HX a nb K r I) (hr : r + 20 ≤ 1000) (hn : n < 8) (ho : o ≤ 25) : exe X (d + 8) 123 15 [.ref 21, dm, .int (Int32.ofNat 1), .int x, .int (Int32.ofNat o), .int (Int32.ofNat 0), .int (Int32.ofNat n), dm, dm] [] (sz, sl, sh, R, I, J) = some (some (.int (lieV (Int32.ofNat a) K x * 2)), (sz, sl, sh, R, nXs (lieL K) (nX I 10), J)) := by
  refine f_run (b := 10) (by omega) (by omega) hn (by decide) (by decide) rfl hS H ?_
  have H1 := H.nX (b := 10) (by omega)
  rw [n126, t126_0 hS, if_neg (by decide), if_neg (by decide), if_pos (by decide), n_suc, k_0, s_own hS (by omega) H1 (c_lie hS H1 (by omega) H.2.2.1 (by omega) (by omega)), ob_s]
  exact t126_149
theorem c_wea (hS : SF sh R) {I : Nat → Nat → Int32} {r n k o : Nat} {x : Int32} (H : HX a nb K r I) (hr : r + 40 ≤ 1000) (hk : k ≤ 7) (hn : n ≤ 2) (ho : o ≤ 20) : exe X (d + 11) 123 15 [.ref 21, dm, .int (Int32.ofNat 1), .int x, .int (Int32.ofNat o), .int (Int32.ofNat k), .int (Int32.ofNat n), dm, dm] [] (sz, sl, sh, R, I, J) = some (some (.int (weaV (Int32.ofNat a) K k x)), (sz, sl, sh, R, nXs (weaL K k) I, J)) := by
  have two : ∀ n, n < 8 → exe X (d + 11) 123 15 [.ref 21, dm, .int (Int32.ofNat 1), .int x, .int (Int32.ofNat o), .int (Int32.ofNat 2), .int (Int32.ofNat n), dm, dm] [] (sz, sl, sh, R, I, J) = some (some (.int (-(lieV (Int32.ofNat a) K x * 2))), (sz, sl, sh, R, nXs (lieL K) (nX (nX I 30) 10), J)) := by
    intro n hn
    refine f_run (b := 30) (by omega) (by omega) hn (by decide) (by decide) rfl hS H ?_
    have H1 := H.nX (b := 30) (by omega)
    rw [n126, t126_0 hS, if_neg (by decide), if_neg (by decide), if_neg (by decide), if_neg (by decide), if_neg (by decide), if_pos (by decide), n_suc, show tab1.getD 2 0 = Int32.ofNat 0 from rfl, k_1, f_ent (by omega), c_wea0 hS H1 (by omega) (by omega) (by omega), ob_s]
    exact t126_180
  have six : ∀ n, n < 8 → exe X (d + 11) 123 15 [.ref 21, dm, .int (Int32.ofNat 1), .int x, .int (Int32.ofNat o), .int (Int32.ofNat 6), .int (Int32.ofNat n), dm, dm] [] (sz, sl, sh, R, I, J) = some (some (.int (lieV (Int32.ofNat a) K x * 2 + couV (Int32.ofNat a) K K 2)), (sz, sl, sh, R, nXs (couL K K) (nXs (lieL K) (nX (nX I 70) 10)), J)) := by
    intro n hn
    have ll := @lieL_le K
    refine f_run (b := 70) (by omega) (by omega) hn (by decide) (by decide) rfl hS H ?_
    have H1 := H.nX (b := 70) (by omega)
    have H2 := HX.nXs (lieL K) (by omega) (H1.nX (b := 10) (by omega))
    rw [n126, t126_0 hS, if_neg (by decide), if_neg (by decide), if_neg (by decide), if_neg (by decide), if_neg (by decide), if_neg (by decide), if_neg (by decide), if_neg (by decide), if_neg (by decide), if_neg (by decide), if_pos (by decide), n_suc, show tab1.getD 6 0 = Int32.ofNat 0 from rfl, k_1, f_ent (by omega), c_wea0 hS H1 (by omega) (by omega) (by omega), ob_s]
    show exe X (d + 10) 126 246 _ [.int _] _ = _
    rw [t126_246 hS, k_2, s_own hS (by omega) H2 (c_cou hS H2 (by omega) H.2.2.1 (by omega) (by omega)), ob_s]
    exact t126_254
  rcases (show k = 0 ∨ k = 1 ∨ k = 2 ∨ k = 3 ∨ k = 4 ∨ k = 5 ∨ k = 6 ∨ k = 7 by omega) with rfl | rfl | rfl | rfl | rfl | rfl | rfl | rfl
  · exact c_wea0 hS H (by omega) (by omega) (by omega)
  · rw [f_fwd (k' := 0) (by omega) (by omega) (by omega) rfl rfl hS]
    exact c_wea0 hS H (by omega) (by omega) (by omega)
  · exact two n (by omega)
  · rw [f_fwd (k' := 1) (by omega) (by omega) (by omega) rfl rfl hS, f_fwd (k' := 0) (by omega) (by omega) (by omega) rfl rfl hS]
    exact c_wea0 hS H (by omega) (by omega) (by omega)
  · rw [f_fwd (k' := 2) (by omega) (by omega) (by omega) rfl rfl hS]
    exact two (n + 1) (by omega)
  · rw [f_fwd (k' := 0) (by omega) (by omega) (by omega) rfl rfl hS]
    exact c_wea0 hS H (by omega) (by omega) (by omega)
  · rw [six n (by omega)]
    show _ = some (some (Value.int _), (sz, sl, sh, R, nXs (70 :: 10 :: (lieL K ++ couL K K)) I, J))
    rw [nXs, nXs, nXs_app]
    rfl
  · rw [f_fwd (k' := 6) (by omega) (by omega) (by omega) rfl rfl hS, six (n + 1) (by omega)]
    show _ = some (some (Value.int _), (sz, sl, sh, R, nXs (70 :: 10 :: (lieL K ++ couL K K)) I, J))
    rw [nXs, nXs, nXs_app]
    rfl
theorem c_tel0 (hS : SF sh R) {I : Nat → Nat → Int32} {r n o : Nat} {x : Int32} (H : HX a nb K r I) (hr : r + 60 ≤ 1000) (hn : n < 8) (ho : o ≤ 15) : exe X (d + 14) 123 15 [.ref 21, dm, .int (Int32.ofNat 3), .int x, .int (Int32.ofNat o), .int (Int32.ofNat 0), .int (Int32.ofNat n), dm, dm] [] (sz, sl, sh, R, I, J) = some (some (.int (weaV (Int32.ofNat a) K K x - couV (Int32.ofNat a) K K 1)), (sz, sl, sh, R, nXs (couL K K) (nXs (weaL K K) (nX I 2)), J)) := by
  have wl := @weaL_le K K
  refine f_run (b := 2) (by omega) (by omega) hn (by decide) (by decide) rfl hS H ?_
  have H1 := H.nX (b := 2) (by omega)
  have H2 := HX.nXs (weaL K K) (by omega) H1
  rw [n126, t126_0 hS, if_neg (by decide), if_pos (by decide), n_suc, k_1, s_own hS (by omega) H1 (c_wea hS H1 (by omega) H.2.2.1 (by omega) (by omega)), ob_s]
  show exe X (d + 13) 126 131 _ [.int _] _ = _
  rw [t126_131 hS, k_2, s_own hS (by omega) H2 (c_cou hS H2 (by omega) H.2.2.1 (by omega) (by omega)), ob_s]
  exact t126_139
theorem c_tel (hS : SF sh R) {I : Nat → Nat → Int32} {r n k o : Nat} {x : Int32} (H : HX a nb K r I) (hr : r + 80 ≤ 1000) (hk : k ≤ 7) (hn : n ≤ 2) (ho : o ≤ 10) : exe X (d + 16) 123 15 [.ref 21, dm, .int (Int32.ofNat 3), .int x, .int (Int32.ofNat o), .int (Int32.ofNat k), .int (Int32.ofNat n), dm, dm] [] (sz, sl, sh, R, I, J) = some (some (.int (telV (Int32.ofNat a) K k x)), (sz, sl, sh, R, nXs (telL K k) I, J)) := by
  have zero : ∀ n, n < 8 → exe X (d + 16) 123 15 [.ref 21, dm, .int (Int32.ofNat 3), .int x, .int (Int32.ofNat o), .int (Int32.ofNat 0), .int (Int32.ofNat n), dm, dm] [] (sz, sl, sh, R, I, J) = some (some (.int (weaV (Int32.ofNat a) K K x - couV (Int32.ofNat a) K K 1)), (sz, sl, sh, R, nXs (2 :: (weaL K K ++ couL K K)) I, J)) := by
    intro n hn
    rw [c_tel0 hS H (by omega) hn (by omega), nXs, nXs_app]
  rcases (show k = 0 ∨ k = 1 ∨ k = 2 ∨ k = 3 ∨ k = 4 ∨ k = 5 ∨ k = 6 ∨ k = 7 by omega) with rfl | rfl | rfl | rfl | rfl | rfl | rfl | rfl
  · exact zero n (by omega)
  · rw [f_fwd (k' := 0) (by omega) (by omega) (by omega) rfl rfl hS]
    exact zero _ (by omega)
  · rw [f_fwd (k' := 0) (by omega) (by omega) (by omega) rfl rfl hS]
    exact zero _ (by omega)
  · rw [f_fwd (k' := 1) (by omega) (by omega) (by omega) rfl rfl hS, f_fwd (k' := 0) (by omega) (by omega) (by omega) rfl rfl hS]
    exact zero _ (by omega)
  · refine f_run (b := 50) (by omega) (by omega) (by omega) (by decide) (by decide) rfl hS H ?_
    have H1 := H.nX (b := 50) (by omega)
    rw [n126, t126_0 hS, if_neg (by decide), if_neg (by decide), if_neg (by decide), if_neg (by decide), if_neg (by decide), if_neg (by decide), if_neg (by decide), if_neg (by decide), if_pos (by decide), n_suc, show tab1.getD 4 0 = Int32.ofNat 2 from rfl, k_3, f_ent (by omega), f_fwd (k' := 0) (by omega) (by omega) (by omega) rfl rfl hS, c_tel0 hS H1 (by omega) (by omega) (by omega), ob_s]
    show exe X (d + 15) 126 215 _ [.int _] _ = some (some (.int _), (sz, sl, sh, R, nXs (50 :: 2 :: (weaL K K ++ couL K K)) I, J))
    rw [t126_215, nXs, nXs, nXs_app]
    rfl
  · rw [f_fwd (k' := 0) (by omega) (by omega) (by omega) rfl rfl hS]
    exact zero _ (by omega)
  · rw [f_fwd (k' := 0) (by omega) (by omega) (by omega) rfl rfl hS]
    exact zero _ (by omega)
  · refine f_run (b := 81) (by omega) (by omega) (by omega) (by decide) (by decide) rfl hS H ?_
    have H1 := H.nX (b := 81) (by omega)
    rw [n126, t126_0 hS, if_neg (by decide), if_neg (by decide), if_neg (by decide), if_neg (by decide), if_neg (by decide), if_neg (by decide), if_neg (by decide), if_neg (by decide), if_neg (by decide), if_neg (by decide), if_neg (by decide), if_neg (by decide), if_pos (by decide), n_suc, show tab1.getD 7 0 = Int32.ofNat 6 from rfl, k_3, f_ent (by omega), f_fwd (k' := 0) (by omega) (by omega) (by omega) rfl rfl hS, c_tel0 hS H1 (by omega) (by omega) (by omega), ob_s]
    show exe X (d + 15) 126 277 _ [.int _] _ = some (some (.int _), (sz, sl, sh, R, nXs (81 :: 2 :: (weaL K K ++ couL K K)) I, J))
    rw [t126_277, nXs, nXs, nXs_app]
    rfl
end ACTX
section ACTM
variable {X : XX} {d : Nat} {sz sl : Nat} {sh : Nat → Nat × Nat} {R : Nat → Nat → Option Nat} {J : Nat → Nat → Int64} {a nb K : Nat}
theorem s_runs (hS : SF sh R) {I : Nat → Nat → Int32} {r b : Nat} (H : HM a nb K r I) : ev X (d + 1) 220 [.ref 37, .int (Int32.ofNat b)] (sz, sl, sh, R, I, J) = some (none, (sz, sl, sh, R, nM I b, J)) := by
  have hr := H.2.2.2.1
  have e := H.2.2.2.2.2.2
  rw [n220, t220_0 hS, e]
  unfold nM
  by_cases h : 24 ≤ r
  · rw [if_pos (by rw [k_24, n_le (by decide) (by omega)]; exact h), if_pos (by rw [e, n_cl (by omega)]; exact h), e]
  · rw [if_neg (by rw [k_24, n_le (by decide) (by omega)]; exact h), if_pos (by rw [n_inb (by omega)]; omega), if_neg (by rw [e, n_cl (by omega)]; exact h), e]
theorem m_lie0 (hS : SF sh R) {I : Nat → Nat → Int32} {r : Nat} {x : Int32} (H : HM a nb K r I) (hr : r + 3 ≤ 1000) : ev X (d + 2) 219 [.ref 37, .int (Int32.ofNat 0), .int x] (sz, sl, sh, R, I, J) = some (some (.int (x + Int32.ofNat a)), (sz, sl, sh, R, nM I 1, J)) := by
  rw [n219, t219_0 hS, if_pos (by decide), if_pos (by decide), if_pos (by decide), if_pos (by decide), k_1, s_runs hS H, ob_s]
  show exe X (d + 1) 219 89 _ [] _ = _
  rw [t219_89 hS, (H.nM (b := 1) (by omega)).2.2.2.2.1]
theorem m_liesF (hS : SF sh R) {I : Nat → Nat → Int32} {k k' : Nat} {x v : Int32} {h' : HP} (hk : k = 2 ∨ k = 4 ∨ k = 5 ∨ k = 6) (h1 : tab1.getD k 0 = Int32.ofNat k') (hr : ev X (d + 1) 219 [.ref 37, .int (Int32.ofNat k'), .int x] (sz, sl, sh, R, I, J) = some (some (.int v), h')) : ev X (d + 2) 219 [.ref 37, .int (Int32.ofNat k), .int x] (sz, sl, sh, R, I, J) = some (some (.int v), h') := by
  have c1 : ¬ Int32.ofNat k = 1 := by rcases hk with rfl | rfl | rfl | rfl <;> decide
  have c3 : ¬ Int32.ofNat k = 3 := by rcases hk with rfl | rfl | rfl | rfl <;> decide
  have c7 : ¬ Int32.ofNat k = 7 := by rcases hk with rfl | rfl | rfl | rfl <;> decide
  have c0 : ¬ Int32.ofNat k ≤ 0 := by rcases hk with rfl | rfl | rfl | rfl <;> decide
  rw [n219, t219_0 hS, if_pos c1, if_pos c3, if_pos c7, if_neg c0, s_aboveM (by omega), h1, ob_s]
  show exe X (d + 1) 219 79 _ [.int _, .ref 37] _ = _
  rw [t219_79 rfl, rf_ref, if_pos (zS37 hS), hr, ob_s]
  obtain ⟨q1, q2, q3, q4, q5, q6⟩ := h'
  exact t219_83
theorem m_lie (hS : SF sh R) {I : Nat → Nat → Int32} {r k : Nat} {x : Int32} (H : HM a nb K r I) (hr : r + 6 ≤ 1000) (hk : k ≤ 7) : ev X (d + 4) 219 [.ref 37, .int (Int32.ofNat k), .int x] (sz, sl, sh, R, I, J) = some (some (.int (lieV (Int32.ofNat a) k x)), (sz, sl, sh, R, nMs (lieL k) I, J)) := by
  have one : ∀ (e : Nat) (I : Nat → Nat → Int32) (r : Nat) (x : Int32), HM a nb K r I → r + 4 ≤ 1000 → ev X (e + 3) 219 [.ref 37, .int (Int32.ofNat 1), .int x] (sz, sl, sh, R, I, J) = some (some (.int (x + Int32.ofNat a + 3)), (sz, sl, sh, R, nM (nM I 20) 1, J)) := by
    intro e I r x H hr
    have H1 := H.nM (b := 20) (by omega)
    rw [n219, t219_0 hS, if_neg (by decide), k_20, s_runs hS H, ob_s]
    show exe X (e + 2) 219 11 _ [] _ = _
    rw [t219_11, s_aboveM (by omega), show tab1.getD 1 0 = Int32.ofNat 0 from rfl, ob_s]
    show exe X (e + 2) 219 16 _ [.int _, .ref 37] _ = _
    rw [t219_16 rfl, rf_ref, if_pos (zS37 hS), m_lie0 hS H1 (by omega), ob_s]
    exact t219_20
  rcases (show k = 0 ∨ k = 1 ∨ k = 2 ∨ k = 3 ∨ k = 4 ∨ k = 5 ∨ k = 6 ∨ k = 7 by omega) with rfl | rfl | rfl | rfl | rfl | rfl | rfl | rfl
  · exact m_lie0 hS H (by omega)
  · exact one _ _ _ _ H (by omega)
  · exact m_liesF hS (Or.inl rfl) rfl (m_lie0 hS H (by omega))
  · have H1 := H.nM (b := 41) (by omega)
    rw [n219, t219_0 hS, if_pos (by decide), if_neg (by decide), k_41, s_runs hS H, ob_s]
    show exe X (d + 3) 219 34 _ [] _ = _
    rw [t219_34, s_aboveM (by omega), show tab1.getD 3 0 = Int32.ofNat 1 from rfl, ob_s]
    show exe X (d + 3) 219 39 _ [.int _, .ref 37] _ = _
    rw [t219_39 rfl, rf_ref, if_pos (zS37 hS), one _ _ _ _ H1 (by omega), ob_s]
    exact t219_45
  · exact m_liesF hS (Or.inr (Or.inl rfl)) rfl (m_liesF hS (Or.inl rfl) rfl (m_lie0 hS H (by omega)))
  · exact m_liesF hS (Or.inr (Or.inr (Or.inl rfl))) rfl (m_lie0 hS H (by omega))
  · exact m_liesF hS (Or.inr (Or.inr (Or.inr rfl))) rfl (m_lie0 hS H (by omega))
  · have H1 := H.nM (b := 80) (by omega)
    rw [n219, t219_0 hS, if_pos (by decide), if_pos (by decide), if_neg (by decide), k_80, s_runs hS H, ob_s]
    show exe X (d + 3) 219 58 _ [] _ = _
    rw [t219_58, s_aboveM (by omega), show tab1.getD 7 0 = Int32.ofNat 6 from rfl, ob_s]
    show exe X (d + 3) 219 63 _ [.int _, .ref 37] _ = _
    rw [t219_63 rfl, rf_ref, if_pos (zS37 hS), m_liesF hS (Or.inr (Or.inr (Or.inr rfl))) rfl (m_lie0 hS H1 (by omega)), ob_s]
    exact t219_67
theorem m_cou0 (hS : SF sh R) {I : Nat → Nat → Int32} {r : Nat} {x : Int32} (H : HM a nb K r I) (hr : r + 3 ≤ 1000) : ev X (d + 2) 223 [.ref 37, .int (Int32.ofNat 0), .int x] (sz, sl, sh, R, I, J) = some (some (.int (x ^^^ Int32.ofNat a)), (sz, sl, sh, R, nM I 11, J)) := by
  rw [n223, t223_0 hS, if_pos (by decide), if_pos (by decide), if_pos (by decide), k_11, s_runs hS H, ob_s]
  show exe X (d + 1) 223 81 _ [] _ = _
  rw [t223_81 hS, (H.nM (b := 11) (by omega)).2.2.2.2.1]
theorem m_couF (hS : SF sh R) {I : Nat → Nat → Int32} {k k' : Nat} {x v : Int32} {h' : HP} (hk : k = 1 ∨ k = 2 ∨ k = 4 ∨ k = 6 ∨ k = 7) (h1 : tab1.getD k 0 = Int32.ofNat k') (hr : ev X (d + 1) 223 [.ref 37, .int (Int32.ofNat k'), .int x] (sz, sl, sh, R, I, J) = some (some (.int v), h')) : ev X (d + 2) 223 [.ref 37, .int (Int32.ofNat k), .int x] (sz, sl, sh, R, I, J) = some (some (.int v), h') := by
  have c3 : ¬ Int32.ofNat k = 3 := by rcases hk with rfl | rfl | rfl | rfl | rfl <;> decide
  have c5 : ¬ Int32.ofNat k = 5 := by rcases hk with rfl | rfl | rfl | rfl | rfl <;> decide
  have c0 : ¬ Int32.ofNat k ≤ 0 := by rcases hk with rfl | rfl | rfl | rfl | rfl <;> decide
  rw [n223, t223_0 hS, if_pos c3, if_pos c5, if_neg c0, s_aboveM (by omega), h1, ob_s]
  show exe X (d + 1) 223 70 _ [.int _, .ref 37] _ = _
  rw [t223_70 rfl, rf_ref, if_pos (zS37 hS), hr, ob_s]
  obtain ⟨q1, q2, q3, q4, q5, q6⟩ := h'
  exact t223_74
theorem m_cou (hS : SF sh R) {I : Nat → Nat → Int32} {r k : Nat} {x : Int32} (H : HM a nb K r I) (hr : r + 20 ≤ 1000) (hk : k ≤ 7) : ev X (d + 5) 223 [.ref 37, .int (Int32.ofNat k), .int x] (sz, sl, sh, R, I, J) = some (some (.int (couV (Int32.ofNat a) K k x)), (sz, sl, sh, R, nMs (couL K k) I, J)) := by
  have h50 : inb (Int32.ofNat a) 50 := by have := H.1; have := H.2.1; rw [n_inb (by omega)]; omega
  have ha : a < 2147483648 := by have := H.1; have := H.2.1; omega
  rcases (show k = 0 ∨ k = 1 ∨ k = 2 ∨ k = 3 ∨ k = 4 ∨ k = 5 ∨ k = 6 ∨ k = 7 by omega) with rfl | rfl | rfl | rfl | rfl | rfl | rfl | rfl
  · exact m_cou0 hS H (by omega)
  · exact m_couF hS (by decide) rfl (m_cou0 hS H (by omega))
  · exact m_couF hS (by decide) rfl (m_cou0 hS H (by omega))
  · have H1 := H.nM (b := 40) (by omega)
    rw [n223, t223_0 hS, if_neg (by decide), k_40, s_runs hS H, ob_s]
    show exe X (d + 4) 223 11 _ [] _ = _
    rw [t223_11, s_aboveM (by omega), show tab1.getD 3 0 = Int32.ofNat 1 from rfl, ob_s]
    show exe X (d + 4) 223 16 _ [.int _, .ref 37] _ = _
    rw [t223_16 rfl, rf_ref, if_pos (zS37 hS), m_couF hS (by decide) rfl (m_cou0 hS H1 (by omega)), ob_s]
    exact t223_20
  · exact m_couF hS (by decide) rfl (m_couF hS (by decide) rfl (m_cou0 hS H (by omega)))
  · have H1 := H.nM (b := 60) (by omega)
    have H2 := H1.nM (b := 11) (by omega)
    rw [n223, t223_0 hS, if_pos (by decide), if_neg (by decide), k_60, s_runs hS H, ob_s]
    show exe X (d + 4) 223 34 _ [] _ = _
    rw [t223_34, s_aboveM (by omega), show tab1.getD 5 0 = Int32.ofNat 0 from rfl, ob_s]
    show exe X (d + 4) 223 39 _ [.int _, .ref 37] _ = _
    rw [t223_39 rfl, rf_ref, if_pos (zS37 hS), m_cou0 hS H1 (by omega), ob_s]
    show exe X (d + 4) 223 43 _ [.int _] _ = _
    rw [t223_43 hS, H2.2.2.2.2.1, if_pos h50, n_cl ha, H2.2.2.2.2.2.1, m_lie hS H2 (by omega) H.2.2.1, ob_s]
    exact t223_59
  · exact m_couF hS (by decide) rfl (m_cou0 hS H (by omega))
  · exact m_couF hS (by decide) rfl (m_couF hS (by decide) rfl (m_cou0 hS H (by omega)))
theorem m_wea0 (hS : SF sh R) {I : Nat → Nat → Int32} {r : Nat} {x : Int32} (H : HM a nb K r I) (hr : r + 20 ≤ 1000) : ev X (d + 5) 222 [.ref 37, .int (Int32.ofNat 0), .int x] (sz, sl, sh, R, I, J) = some (some (.int (lieV (Int32.ofNat a) K x * 2)), (sz, sl, sh, R, nMs (lieL K) (nM I 10), J)) := by
  have h50 : inb (Int32.ofNat a) 50 := by have := H.1; have := H.2.1; rw [n_inb (by omega)]; omega
  have ha : a < 2147483648 := by have := H.1; have := H.2.1; omega
  have H1 := H.nM (b := 10) (by omega)
  rw [n222, t222_0 hS, if_pos (by decide), if_pos (by decide), if_pos (by decide), k_10, s_runs hS H, ob_s]
  show exe X (d + 4) 222 81 _ [] _ = _
  rw [t222_81 hS, H1.2.2.2.2.1, if_pos h50, n_cl ha, H1.2.2.2.2.2.1, m_lie hS H1 (by omega) H.2.2.1, ob_s]
  exact t222_95
theorem m_weaF (hS : SF sh R) {I : Nat → Nat → Int32} {k k' : Nat} {x v : Int32} {h' : HP} (hk : k = 1 ∨ k = 3 ∨ k = 4 ∨ k = 5 ∨ k = 7) (h1 : tab1.getD k 0 = Int32.ofNat k') (hr : ev X (d + 1) 222 [.ref 37, .int (Int32.ofNat k'), .int x] (sz, sl, sh, R, I, J) = some (some (.int v), h')) : ev X (d + 2) 222 [.ref 37, .int (Int32.ofNat k), .int x] (sz, sl, sh, R, I, J) = some (some (.int v), h') := by
  have c3 : ¬ Int32.ofNat k = 2 := by rcases hk with rfl | rfl | rfl | rfl | rfl <;> decide
  have c5 : ¬ Int32.ofNat k = 6 := by rcases hk with rfl | rfl | rfl | rfl | rfl <;> decide
  have c0 : ¬ Int32.ofNat k ≤ 0 := by rcases hk with rfl | rfl | rfl | rfl | rfl <;> decide
  rw [n222, t222_0 hS, if_pos c3, if_pos c5, if_neg c0, s_aboveM (by omega), h1, ob_s]
  show exe X (d + 1) 222 70 _ [.int _, .ref 37] _ = _
  rw [t222_70 rfl, rf_ref, if_pos (zS37 hS), hr, ob_s]
  obtain ⟨q1, q2, q3, q4, q5, q6⟩ := h'
  exact t222_74
theorem m_wea (hS : SF sh R) {I : Nat → Nat → Int32} {r k : Nat} {x : Int32} (H : HM a nb K r I) (hr : r + 40 ≤ 1000) (hk : k ≤ 7) : ev X (d + 7) 222 [.ref 37, .int (Int32.ofNat k), .int x] (sz, sl, sh, R, I, J) = some (some (.int (weaV (Int32.ofNat a) K k x)), (sz, sl, sh, R, nMs (weaL K k) I, J)) := by
  have h50 : inb (Int32.ofNat a) 50 := by have := H.1; have := H.2.1; rw [n_inb (by omega)]; omega
  have ha : a < 2147483648 := by have := H.1; have := H.2.1; omega
  have two : ∀ e : Nat, ev X (e + 6) 222 [.ref 37, .int (Int32.ofNat 2), .int x] (sz, sl, sh, R, I, J) = some (some (.int (-(lieV (Int32.ofNat a) K x * 2))), (sz, sl, sh, R, nMs (lieL K) (nM (nM I 30) 10), J)) := by
    intro e
    have H1 := H.nM (b := 30) (by omega)
    rw [n222, t222_0 hS, if_neg (by decide), k_30, s_runs hS H, ob_s]
    show exe X (e + 5) 222 11 _ [] _ = _
    rw [t222_11, s_aboveM (by omega), show tab1.getD 2 0 = Int32.ofNat 0 from rfl, ob_s]
    show exe X (e + 5) 222 16 _ [.int _, .ref 37] _ = _
    rw [t222_16 rfl, rf_ref, if_pos (zS37 hS), m_wea0 hS H1 (by omega), ob_s]
    exact t222_20
  have six : ∀ e : Nat, ev X (e + 6) 222 [.ref 37, .int (Int32.ofNat 6), .int x] (sz, sl, sh, R, I, J) = some (some (.int (lieV (Int32.ofNat a) K x * 2 + couV (Int32.ofNat a) K K 2)), (sz, sl, sh, R, nMs (70 :: 10 :: (lieL K ++ couL K K)) I, J)) := by
    intro e
    have ll := @lieL_le K
    have H1 := H.nM (b := 70) (by omega)
    have H2 := HM.nMs (lieL K) (by omega) (H1.nM (b := 10) (by omega))
    rw [n222, t222_0 hS, if_pos (by decide), if_neg (by decide), k_70, s_runs hS H, ob_s]
    show exe X (e + 5) 222 34 _ [] _ = _
    rw [t222_34, s_aboveM (by omega), show tab1.getD 6 0 = Int32.ofNat 0 from rfl, ob_s]
    show exe X (e + 5) 222 39 _ [.int _, .ref 37] _ = _
    rw [t222_39 rfl, rf_ref, if_pos (zS37 hS), m_wea0 hS H1 (by omega), ob_s]
    show exe X (e + 5) 222 43 _ [.int _] _ = _
    rw [t222_43 hS, H2.2.2.2.2.1, if_pos h50, n_cl ha, H2.2.2.2.2.2.1, m_cou hS H2 (by omega) H.2.2.1, ob_s]
    show exe X (e + 5) 222 59 _ [.int _, .int _] _ = _
    rw [t222_59, nMs, nMs, nMs_app]
  rcases (show k = 0 ∨ k = 1 ∨ k = 2 ∨ k = 3 ∨ k = 4 ∨ k = 5 ∨ k = 6 ∨ k = 7 by omega) with rfl | rfl | rfl | rfl | rfl | rfl | rfl | rfl
  · exact m_wea0 hS H (by omega)
  · exact m_weaF hS (by decide) rfl (m_wea0 hS H (by omega))
  · exact two _
  · exact m_weaF hS (by decide) rfl (m_weaF hS (by decide) rfl (m_wea0 hS H (by omega)))
  · exact m_weaF hS (by decide) rfl (two _)
  · exact m_weaF hS (by decide) rfl (m_wea0 hS H (by omega))
  · exact six _
  · exact m_weaF hS (by decide) rfl (six _)
theorem m_tel0 (hS : SF sh R) {I : Nat → Nat → Int32} {r : Nat} {x : Int32} (H : HM a nb K r I) (hr : r + 60 ≤ 1000) : ev X (d + 8) 224 [.ref 37, .int (Int32.ofNat 0), .int x] (sz, sl, sh, R, I, J) = some (some (.int (weaV (Int32.ofNat a) K K x - couV (Int32.ofNat a) K K 1)), (sz, sl, sh, R, nMs (2 :: (weaL K K ++ couL K K)) I, J)) := by
  have h50 : inb (Int32.ofNat a) 50 := by have := H.1; have := H.2.1; rw [n_inb (by omega)]; omega
  have ha : a < 2147483648 := by have := H.1; have := H.2.1; omega
  have wl := @weaL_le K K
  have H1 := H.nM (b := 2) (by omega)
  have H2 := HM.nMs (weaL K K) (by omega) H1
  rw [n224, t224_0 hS, if_pos (by decide), if_pos (by decide), if_pos (by decide), k_2, s_runs hS H, ob_s]
  show exe X (d + 7) 224 66 _ [] _ = _
  rw [t224_66 hS, H1.2.2.2.2.1, if_pos h50, n_cl ha, H1.2.2.2.2.2.1, m_wea hS H1 (by omega) H.2.2.1, ob_s]
  show exe X (d + 7) 224 80 _ [.int _] _ = _
  rw [t224_80 hS, H2.2.2.2.2.1, if_pos h50, n_cl ha, H2.2.2.2.2.2.1, m_cou hS H2 (by omega) H.2.2.1, ob_s]
  show exe X (d + 7) 224 96 _ [.int _, .int _] _ = _
  rw [t224_96, nMs, nMs_app]
theorem m_telF (hS : SF sh R) {I : Nat → Nat → Int32} {k k' : Nat} {x v : Int32} {h' : HP} (hk : k = 1 ∨ k = 2 ∨ k = 3 ∨ k = 5 ∨ k = 6) (h1 : tab1.getD k 0 = Int32.ofNat k') (hr : ev X (d + 1) 224 [.ref 37, .int (Int32.ofNat k'), .int x] (sz, sl, sh, R, I, J) = some (some (.int v), h')) : ev X (d + 2) 224 [.ref 37, .int (Int32.ofNat k), .int x] (sz, sl, sh, R, I, J) = some (some (.int v), h') := by
  have c3 : ¬ Int32.ofNat k = 4 := by rcases hk with rfl | rfl | rfl | rfl | rfl <;> decide
  have c5 : ¬ Int32.ofNat k = 7 := by rcases hk with rfl | rfl | rfl | rfl | rfl <;> decide
  have c0 : ¬ Int32.ofNat k ≤ 0 := by rcases hk with rfl | rfl | rfl | rfl | rfl <;> decide
  rw [n224, t224_0 hS, if_pos c3, if_pos c5, if_neg c0, s_aboveM (by omega), h1, ob_s]
  show exe X (d + 1) 224 56 _ [.int _, .ref 37] _ = _
  rw [t224_56 rfl, rf_ref, if_pos (zS37 hS), hr, ob_s]
  obtain ⟨q1, q2, q3, q4, q5, q6⟩ := h'
  exact t224_60
theorem m_tel (hS : SF sh R) {I : Nat → Nat → Int32} {r k : Nat} {x : Int32} (H : HM a nb K r I) (hr : r + 80 ≤ 1000) (hk : k ≤ 7) : ev X (d + 10) 224 [.ref 37, .int (Int32.ofNat k), .int x] (sz, sl, sh, R, I, J) = some (some (.int (telV (Int32.ofNat a) K k x)), (sz, sl, sh, R, nMs (telL K k) I, J)) := by
  rcases (show k = 0 ∨ k = 1 ∨ k = 2 ∨ k = 3 ∨ k = 4 ∨ k = 5 ∨ k = 6 ∨ k = 7 by omega) with rfl | rfl | rfl | rfl | rfl | rfl | rfl | rfl
  · exact m_tel0 hS H (by omega)
  · exact m_telF hS (by decide) rfl (m_tel0 hS H (by omega))
  · exact m_telF hS (by decide) rfl (m_tel0 hS H (by omega))
  · exact m_telF hS (by decide) rfl (m_telF hS (by decide) rfl (m_tel0 hS H (by omega)))
  · have H1 := H.nM (b := 50) (by omega)
    rw [n224, t224_0 hS, if_neg (by decide), k_50, s_runs hS H, ob_s]
    show exe X (d + 9) 224 11 _ [] _ = _
    rw [t224_11, s_aboveM (by omega), show tab1.getD 4 0 = Int32.ofNat 2 from rfl, ob_s]
    show exe X (d + 9) 224 16 _ [.int _, .ref 37] _ = _
    rw [t224_16 rfl, rf_ref, if_pos (zS37 hS), m_telF hS (by decide) rfl (m_tel0 hS H1 (by omega)), ob_s]
    exact t224_20
  · exact m_telF hS (by decide) rfl (m_tel0 hS H (by omega))
  · exact m_telF hS (by decide) rfl (m_tel0 hS H (by omega))
  · have H1 := H.nM (b := 81) (by omega)
    rw [n224, t224_0 hS, if_pos (by decide), if_neg (by decide), k_81, s_runs hS H, ob_s]
    show exe X (d + 9) 224 35 _ [] _ = _
    rw [t224_35, s_aboveM (by omega), show tab1.getD 7 0 = Int32.ofNat 6 from rfl, ob_s]
    show exe X (d + 9) 224 40 _ [.int _, .ref 37] _ = _
    rw [t224_40 rfl, rf_ref, if_pos (zS37 hS), m_telF hS (by decide) rfl (m_tel0 hS H1 (by omega)), ob_s]
    exact t224_44
end ACTM
