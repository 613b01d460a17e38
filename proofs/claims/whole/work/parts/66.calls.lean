/-! WHAT HOLDS BETWEEN TWO CALLS, all groups; each call keeps it and both answer alike -/
def TO (sz sl : Nat) (sh : Nat → Nat × Nat) (R : Nat → Nat → Option Nat) (I : Nat → Nat → Int32) (J : Nat → Nat → Int64) : Prop :=
  ∃ (W : WW) (ns nl ny : Nat) (D : Nat → Nat) (nd : Nat) (B : Nat → Nat) (nb rn : Nat) (P A C : Nat → Nat) (cd cl : Nat) (T : Nat → Nat) (nt : Nat) (Tl : Nat → List LN) (Y : Nat → Nat → Nat),
  SF sh R ∧ GZ W sz sl ns nl ny ∧ GS W ns sh R I ∧ GD D nd I ∧ GB B nb I ∧ GR rn I ∧ GC P A C ns cd cl I ∧ GH B nb I J ∧ GT T nt I ∧ GL Tl W nl sh R I ∧ GY Y W ny sh R I
/-- both answer alike, and what held holds -/
def AI (X : XX) (y z : Nat) (as : List Value) (sz sl : Nat) (sh : Nat → Nat × Nat) (R : Nat → Nat → Option Nat) (I : Nat → Nat → Int32) (J : Nat → Nat → Int64) : Prop :=
  ∃ (x : Int32) (sz2 sl2 : Nat) (sh2 : Nat → Nat × Nat) (R2 : Nat → Nat → Option Nat) (I1 : Nat → Nat → Int32) (J1 : Nat → Nat → Int64) (I2 : Nat → Nat → Int32) (J2 : Nat → Nat → Int64), ev X 200 y (.ref 0 :: as) (sz, sl, sh, R, I, J) = some (some (.int x), (sz2, sl2, sh2, R2, I1, J1)) ∧ ev X 200 z (.ref 37 :: as) (sz2, sl2, sh2, R2, I1, J1) = some (some (.int x), (sz2, sl2, sh2, R2, I2, J2)) ∧ TO sz2 sl2 sh2 R2 I2 J2
def AJ (X : XX) (y z : Nat) (as : List Value) (sz sl : Nat) (sh : Nat → Nat × Nat) (R : Nat → Nat → Option Nat) (I : Nat → Nat → Int32) (J : Nat → Nat → Int64) : Prop :=
  ∃ (x : Int64) (sz2 sl2 : Nat) (sh2 : Nat → Nat × Nat) (R2 : Nat → Nat → Option Nat) (I1 : Nat → Nat → Int32) (J1 : Nat → Nat → Int64) (I2 : Nat → Nat → Int32) (J2 : Nat → Nat → Int64), ev X 200 y (.ref 0 :: as) (sz, sl, sh, R, I, J) = some (some (.long x), (sz2, sl2, sh2, R2, I1, J1)) ∧ ev X 200 z (.ref 37 :: as) (sz2, sl2, sh2, R2, I1, J1) = some (some (.long x), (sz2, sl2, sh2, R2, I2, J2)) ∧ TO sz2 sl2 sh2 R2 I2 J2
section CALLS
variable {X : XX} {sz sl : Nat} {sh : Nat → Nat × Nat} {R : Nat → Nat → Option Nat} {I : Nat → Nat → Int32} {J : Nat → Nat → Int64}
theorem cI_out {W : WW} {sz sl ns nl ny : Nat} (Z : GZ W sz sl ns nl ny) {a k g : Nat} (h : cI W a k = g) (h11 : g ≠ 11) : a < sz := by
  by_cases q : a < sz
  · exact q
  · have h71 := Z.1
    rw [cI_hi (by omega), Z.2.1 a (by omega)] at h
    exact absurd h.symm h11
theorem cR_out {W : WW} {sz sl ns nl ny : Nat} (Z : GZ W sz sl ns nl ny) {a g : Nat} (h : cR W a = g) (h11 : g ≠ 11) : a < sz := by
  by_cases q : a < sz
  · exact q
  · have h71 := Z.1
    rw [cR_hi (by omega), Z.2.1 a (by omega)] at h
    exact absurd h.symm h11
theorem cJ_lo {a : Nat} (h : cJ a = 6) : a < 71 := by
  by_cases q : a < 71
  · exact q
  · unfold cJ at h
    rw [if_neg (by omega)] at h
    exact absurd h (by decide)
/-- only the colour c has changed (and scratch) -/
theorem C15.q {W : WW} {I I2 : Nat → Nat → Int32} (e : eqO (C15 W) I I2) : ∀ g, g ≠ 0 → g ≠ 1 → g ≠ 5 → sameI W g I I2 := fun g _ h1 h5 a k h => e a k (fun z => z.elim (fun q => h1 (h.symm.trans q)) (fun q => h5 (h.symm.trans q)))
theorem ro {y z : Nat} {as : List Value} {x : Int32} (h : TO sz sl sh R I J) (e1 : ev X 200 y (.ref 0 :: as) (sz, sl, sh, R, I, J) = some (some (.int x), (sz, sl, sh, R, I, J))) (e2 : ev X 200 z (.ref 37 :: as) (sz, sl, sh, R, I, J) = some (some (.int x), (sz, sl, sh, R, I, J))) : AI X y z as sz sl sh R I J := ⟨x, _, _, _, _, _, _, _, _, e1, e2, h⟩
theorem a_of (h : TO sz sl sh R I J) {a0 : Int32} {a1 : Int32} : AI X 14 149 [.int a0, .int a1] sz sl sh R I J := by
  have h0 := h
  obtain ⟨W, ns, nl, ny, D, nd, B, nb, rn, P, A, C, cd, cl, T, nt, Tl, Y, hS, gZ, gS, gD, gB, gR, gC, gH, gT, gL, gY⟩ := h
  obtain ⟨x, a1, a2⟩ := o_of (X := X) (d := 196) (sz := sz) (sl := sl) hS gS (v := a0) (w := a1)
  exact ro h0 a1 a2
theorem a_older (h : TO sz sl sh R I J) {a0 : Int32} : AI X 37 163 [.int a0] sz sl sh R I J := by
  have h0 := h
  obtain ⟨W, ns, nl, ny, D, nd, B, nb, rn, P, A, C, cd, cl, T, nt, Tl, Y, hS, gZ, gS, gD, gB, gR, gC, gH, gT, gL, gY⟩ := h
  obtain ⟨x, a1, a2⟩ := o_older (X := X) (d := 196) (sz := sz) (sl := sl) hS gS (v := a0)
  exact ro h0 a1 a2
theorem a_rail (h : TO sz sl sh R I J) {a0 : Int32} {a1 : Int32} {a2 : Int32} : AI X 75 197 [.int a0, .int a1, .int a2] sz sl sh R I J := by
  have h0 := h
  obtain ⟨W, ns, nl, ny, D, nd, B, nb, rn, P, A, C, cd, cl, T, nt, Tl, Y, hS, gZ, gS, gD, gB, gR, gC, gH, gT, gL, gY⟩ := h
  obtain ⟨x, a1, a2⟩ := o_rail (X := X) (d := 196) (sz := sz) (sl := sl) hS gS (v := a0) (t := a1) (w := a2)
  exact ro h0 a1 a2
theorem a_walk (h : TO sz sl sh R I J) {a0 : Int32} {a1 : Int32} : AI X 109 214 [.int a0, .int a1] sz sl sh R I J := by
  have h0 := h
  obtain ⟨W, ns, nl, ny, D, nd, B, nb, rn, P, A, C, cd, cl, T, nt, Tl, Y, hS, gZ, gS, gD, gB, gR, gC, gH, gT, gL, gY⟩ := h
  obtain ⟨x, a1, a2⟩ := o_walk (X := X) (d := 196) (sz := sz) (sl := sl) hS gD (v := a0) (z := a1)
  exact ro h0 a1 a2
theorem a_gate (h : TO sz sl sh R I J) {a0 : Int32} : AI X 105 213 [.int a0] sz sl sh R I J := by
  have h0 := h
  obtain ⟨W, ns, nl, ny, D, nd, B, nb, rn, P, A, C, cd, cl, T, nt, Tl, Y, hS, gZ, gS, gD, gB, gR, gC, gH, gT, gL, gY⟩ := h
  obtain ⟨x, a1, a2⟩ := o_gate (X := X) (d := 196) (sz := sz) (sl := sl) hS gD (v := a0)
  exact ro h0 a1 a2
theorem a_trace (h : TO sz sl sh R I J) {a0 : Int32} : AI X 127 225 [.int a0] sz sl sh R I J := by
  have h0 := h
  obtain ⟨W, ns, nl, ny, D, nd, B, nb, rn, P, A, C, cd, cl, T, nt, Tl, Y, hS, gZ, gS, gD, gB, gR, gC, gH, gT, gL, gY⟩ := h
  obtain ⟨x, a1, a2⟩ := o_trace (X := X) (d := 196) (sz := sz) (sl := sl) hS gR (v := a0)
  exact ro h0 a1 a2
theorem a_shape (h : TO sz sl sh R I J) {a0 : Int32} {a1 : Int32} : AI X 71 193 [.int a0, .int a1] sz sl sh R I J := by
  have h0 := h
  obtain ⟨W, ns, nl, ny, D, nd, B, nb, rn, P, A, C, cd, cl, T, nt, Tl, Y, hS, gZ, gS, gD, gB, gR, gC, gH, gT, gL, gY⟩ := h
  obtain ⟨x, a1, a2⟩ := o_shape (X := X) (d := 196) (sz := sz) (sl := sl) hS gS (v := a0) (w := a1)
  exact ro h0 a1 a2
theorem a_taken (h : TO sz sl sh R I J) {a0 : Int32} {a1 : Int32} : AI X 143 233 [.int a0, .int a1] sz sl sh R I J := by
  have h0 := h
  obtain ⟨W, ns, nl, ny, D, nd, B, nb, rn, P, A, C, cd, cl, T, nt, Tl, Y, hS, gZ, gS, gD, gB, gR, gC, gH, gT, gL, gY⟩ := h
  obtain ⟨x, a1, a2⟩ := o_taken (X := X) (d := 196) (sz := sz) (sl := sl) hS gB gH (v := a0) (w := a1)
  exact ro h0 a1 a2
theorem a_renewed (h : TO sz sl sh R I J) {a0 : Int32} {a1 : Int32} {a2 : Int32} : AI X 84 202 [.int a0, .int a1, .int a2] sz sl sh R I J := by
  have h0 := h
  obtain ⟨W, ns, nl, ny, D, nd, B, nb, rn, P, A, C, cd, cl, T, nt, Tl, Y, hS, gZ, gS, gD, gB, gR, gC, gH, gT, gL, gY⟩ := h
  obtain ⟨x, a1, a2⟩ := o_renewed (X := X) (d := 194) (sz := sz) (sl := sl) hS gS (v := a0) (w := a1) (z := a2)
  exact ro h0 a1 a2
theorem a_element (h : TO sz sl sh R I J) {a0 a1 : Int32} : AJ X 140 231 [.int a0, .int a1] sz sl sh R I J := by
  have h0 := h
  obtain ⟨W, ns, nl, ny, D, nd, B, nb, rn, P, A, C, cd, cl, T, nt, Tl, Y, hS, gZ, gS, gD, gB, gR, gC, gH, gT, gL, gY⟩ := h
  obtain ⟨x, e1, e2⟩ := o_element (X := X) (d := 196) (sz := sz) (sl := sl) hS gB.1 gH (v := a0) (w := a1)
  exact ⟨x, _, _, _, _, _, _, _, _, e1, e2, h0⟩
theorem a_count (h : TO sz sl sh R I J) {a0 : Int32} : AI X 145 235 [.int a0] sz sl sh R I J := by
  have h0 := h
  obtain ⟨W, ns, nl, ny, D, nd, B, nb, rn, P, A, C, cd, cl, T, nt, Tl, Y, hS, gZ, gS, gD, gB, gR, gC, gH, gT, gL, gY⟩ := h
  obtain ⟨x, a1, a2⟩ := o_count (X := X) (d := 196) (sz := sz) (sl := sl) (J := J) hS (gS.n1.trans gS.n2.symm) (gL.2.1.trans gL.2.2.1.symm) (gY.2.1.trans gY.2.2.1.symm) (gT.2.1.trans gT.2.2.1.symm) (gD.2.1.trans gD.2.2.1.symm) (gC.2.2.1.trans gC.2.2.2.1.symm) (gB.2.1.trans gB.2.2.1.symm) (gR.2.1.trans gR.2.2.1.symm) (v := a0)
  exact ro h0 a1 a2
theorem a_day (h : TO sz sl sh R I J) {a0 : Int32} : AI X 103 212 [.int a0] sz sl sh R I J := by
  have h0 := h
  obtain ⟨W, ns, nl, ny, D, nd, B, nb, rn, P, A, C, cd, cl, T, nt, Tl, Y, hS, gZ, gS, gD, gB, gR, gC, gH, gT, gL, gY⟩ := h
  obtain ⟨x, I1, I2, a1, a2, ⟨D', nd', b⟩, e'⟩ := o_day (X := X) (d := 196) (sz := sz) (sl := sl) hS gD (v := a0)
  have e : eqO (CC W 2) I I2 := e'.mono (fun a k z => cD_C z)
  have q : ∀ g, g ≠ 0 → g ≠ 2 → sameI W g I I2 := fun g g0 gc => e.same gc g0
  have hJ : ∀ a k, cJ a = 6 → J a k = J a k := fun _ _ _ => rfl
  exact ⟨x, _, _, _, _, _, _, _, _, a1, a2, W, ns, nl, ny, D', nd', B, nb, rn, P, A, C, cd, cl, T, nt, Tl, Y, hS, gZ, (gS.fr (fun _ _ _ => rfl) (fun _ _ => rfl) (fun _ _ => rfl) (fun _ _ _ => rfl) (q 1 (by decide) (by decide))), b, (gB.fr (q 3 (by decide) (by decide))), (gR.fr (q 4 (by decide) (by decide))), (gC.fr (q 5 (by decide) (by decide))), (gH.fr (q 6 (by decide) (by decide)) hJ), (gT.fr (q 7 (by decide) (by decide))), (gL.fr (fun _ _ _ _ => rfl) (fun _ _ => rfl) (fun _ _ => rfl) (fun _ _ _ => rfl) (q 8 (by decide) (by decide))), (gY.fr (fun _ => rfl) (fun _ _ => rfl) (fun _ _ => rfl) (fun _ _ _ => rfl) (q 9 (by decide) (by decide)) (fun _ _ => trivial))⟩
theorem a_body (h : TO sz sl sh R I J) {a0 : Int32} : AI X 116 217 [.int a0] sz sl sh R I J := by
  have h0 := h
  obtain ⟨W, ns, nl, ny, D, nd, B, nb, rn, P, A, C, cd, cl, T, nt, Tl, Y, hS, gZ, gS, gD, gB, gR, gC, gH, gT, gL, gY⟩ := h
  obtain ⟨x, I1, I2, a1, a2, ⟨B', nb', b, bn, bB⟩, e'⟩ := o_body2 (X := X) (d := 196) (sz := sz) (sl := sl) hS gB (v := a0)
  have e : eqO (CC W 3) I I2 := e'.mono (fun a k z => cB_C z)
  have q : ∀ g, g ≠ 0 → g ≠ 3 → sameI W g I I2 := fun g g0 gc => e.same gc g0
  have hJ : ∀ a k, cJ a = 6 → J a k = J a k := fun _ _ _ => rfl
  exact ⟨x, _, _, _, _, _, _, _, _, a1, a2, W, ns, nl, ny, D, nd, B', nb', rn, P, A, C, cd, cl, T, nt, Tl, Y, hS, gZ, (gS.fr (fun _ _ _ => rfl) (fun _ _ => rfl) (fun _ _ => rfl) (fun _ _ _ => rfl) (q 1 (by decide) (by decide))), (gD.fr (q 2 (by decide) (by decide))), b, (gR.fr (q 4 (by decide) (by decide))), (gC.fr (q 5 (by decide) (by decide))), (gH.fr (q 6 (by decide) (by decide)) hJ).more bn bB, (gT.fr (q 7 (by decide) (by decide))), (gL.fr (fun _ _ _ _ => rfl) (fun _ _ => rfl) (fun _ _ => rfl) (fun _ _ _ => rfl) (q 8 (by decide) (by decide))), (gY.fr (fun _ => rfl) (fun _ _ => rfl) (fun _ _ => rfl) (fun _ _ _ => rfl) (q 9 (by decide) (by decide)) (fun _ _ => trivial))⟩
theorem a_feed (h : TO sz sl sh R I J) {a0 : Int32} {a1 : Int32} : AI X 39 164 [.int a0, .int a1] sz sl sh R I J := by
  have h0 := h
  obtain ⟨W, ns, nl, ny, D, nd, B, nb, rn, P, A, C, cd, cl, T, nt, Tl, Y, hS, gZ, gS, gD, gB, gR, gC, gH, gT, gL, gY⟩ := h
  obtain ⟨x, I1, I2, a1, a2, ⟨T', nt', b⟩, e⟩ := o_feed (X := X) (d := 196) (sz := sz) (sl := sl) hS gT (v := a0) (w := a1)
  have q : ∀ g, g ≠ 0 → g ≠ 7 → sameI W g I I2 := fun g g0 gc => e.same gc g0
  have hJ : ∀ a k, cJ a = 6 → J a k = J a k := fun _ _ _ => rfl
  exact ⟨x, _, _, _, _, _, _, _, _, a1, a2, W, ns, nl, ny, D, nd, B, nb, rn, P, A, C, cd, cl, T', nt', Tl, Y, hS, gZ, (gS.fr (fun _ _ _ => rfl) (fun _ _ => rfl) (fun _ _ => rfl) (fun _ _ _ => rfl) (q 1 (by decide) (by decide))), (gD.fr (q 2 (by decide) (by decide))), (gB.fr (q 3 (by decide) (by decide))), (gR.fr (q 4 (by decide) (by decide))), (gC.fr (q 5 (by decide) (by decide))), (gH.fr (q 6 (by decide) (by decide)) hJ), b, (gL.fr (fun _ _ _ _ => rfl) (fun _ _ => rfl) (fun _ _ => rfl) (fun _ _ _ => rfl) (q 8 (by decide) (by decide))), (gY.fr (fun _ => rfl) (fun _ _ => rfl) (fun _ _ => rfl) (fun _ _ _ => rfl) (q 9 (by decide) (by decide)) (fun _ _ => trivial))⟩
theorem a_act (h : TO sz sl sh R I J) {a0 : Int32} {a1 : Int32} {a2 : Int32} : AI X 119 218 [.int a0, .int a1, .int a2] sz sl sh R I J := by
  have h0 := h
  obtain ⟨W, ns, nl, ny, D, nd, B, nb, rn, P, A, C, cd, cl, T, nt, Tl, Y, hS, gZ, gS, gD, gB, gR, gC, gH, gT, gL, gY⟩ := h
  obtain ⟨x, I1, I2, a1, a2, ⟨rn', b⟩, e⟩ := o_act (X := X) (d := 180) (sz := sz) (sl := sl) hS gB gR (v := a0) (w := a1) (x := a2)
  have q : ∀ g, g ≠ 0 → g ≠ 4 → sameI W g I I2 := fun g g0 gc => e.same gc g0
  have hJ : ∀ a k, cJ a = 6 → J a k = J a k := fun _ _ _ => rfl
  exact ⟨x, _, _, _, _, _, _, _, _, a1, a2, W, ns, nl, ny, D, nd, B, nb, rn', P, A, C, cd, cl, T, nt, Tl, Y, hS, gZ, (gS.fr (fun _ _ _ => rfl) (fun _ _ => rfl) (fun _ _ => rfl) (fun _ _ _ => rfl) (q 1 (by decide) (by decide))), (gD.fr (q 2 (by decide) (by decide))), (gB.fr (q 3 (by decide) (by decide))), b, (gC.fr (q 5 (by decide) (by decide))), (gH.fr (q 6 (by decide) (by decide)) hJ), (gT.fr (q 7 (by decide) (by decide))), (gL.fr (fun _ _ _ _ => rfl) (fun _ _ => rfl) (fun _ _ => rfl) (fun _ _ _ => rfl) (q 8 (by decide) (by decide))), (gY.fr (fun _ => rfl) (fun _ _ => rfl) (fun _ _ => rfl) (fun _ _ _ => rfl) (q 9 (by decide) (by decide)) (fun _ _ => trivial))⟩
theorem a_keep (h : TO sz sl sh R I J) {a0 : Int32} {a1 : Int32} : AI X 130 226 [.int a0, .int a1] sz sl sh R I J := by
  have h0 := h
  obtain ⟨W, ns, nl, ny, D, nd, B, nb, rn, P, A, C, cd, cl, T, nt, Tl, Y, hS, gZ, gS, gD, gB, gR, gC, gH, gT, gL, gY⟩ := h
  obtain ⟨x, I1, I2, a1, a2, b, e⟩ := o_keep (X := X) (d := 196) (sz := sz) (sl := sl) hS gB gH (v := a0) (w := a1)
  have q : ∀ g, g ≠ 0 → g ≠ 6 → sameI W g I I2 := fun g g0 gc => e.same gc g0
  have hJ : ∀ a k, cJ a = 6 → J a k = J a k := fun _ _ _ => rfl
  exact ⟨x, _, _, _, _, _, _, _, _, a1, a2, W, ns, nl, ny, D, nd, B, nb, rn, P, A, C, cd, cl, T, nt, Tl, Y, hS, gZ, (gS.fr (fun _ _ _ => rfl) (fun _ _ => rfl) (fun _ _ => rfl) (fun _ _ _ => rfl) (q 1 (by decide) (by decide))), (gD.fr (q 2 (by decide) (by decide))), (gB.fr (q 3 (by decide) (by decide))), (gR.fr (q 4 (by decide) (by decide))), (gC.fr (q 5 (by decide) (by decide))), b, (gT.fr (q 7 (by decide) (by decide))), (gL.fr (fun _ _ _ _ => rfl) (fun _ _ => rfl) (fun _ _ => rfl) (fun _ _ _ => rfl) (q 8 (by decide) (by decide))), (gY.fr (fun _ => rfl) (fun _ _ => rfl) (fun _ _ => rfl) (fun _ _ _ => rfl) (q 9 (by decide) (by decide)) (fun _ _ => trivial))⟩
theorem a_row (h : TO sz sl sh R I J) {a0 : Int32} {a1 : Int32} {a2 : Int32} : AI X 133 227 [.int a0, .int a1, .int a2] sz sl sh R I J := by
  have h0 := h
  obtain ⟨W, ns, nl, ny, D, nd, B, nb, rn, P, A, C, cd, cl, T, nt, Tl, Y, hS, gZ, gS, gD, gB, gR, gC, gH, gT, gL, gY⟩ := h
  obtain ⟨x, I1, J1, I2, J2, a1, a2, b, e⟩ := o_row (X := X) (d := 196) (sz := sz) (sl := sl) hS gH (v := a0) (w := a1) (z := a2)
  have q : ∀ g, g ≠ 0 → g ≠ 6 → sameI W g I I2 := fun g g0 gc => e.same gc g0
  exact ⟨x, _, _, _, _, _, _, _, _, a1, a2, W, ns, nl, ny, D, nd, B, nb, rn, P, A, C, cd, cl, T, nt, Tl, Y, hS, gZ, (gS.fr (fun _ _ _ => rfl) (fun _ _ => rfl) (fun _ _ => rfl) (fun _ _ _ => rfl) (q 1 (by decide) (by decide))), (gD.fr (q 2 (by decide) (by decide))), (gB.fr (q 3 (by decide) (by decide))), (gR.fr (q 4 (by decide) (by decide))), (gC.fr (q 5 (by decide) (by decide))), b, (gT.fr (q 7 (by decide) (by decide))), (gL.fr (fun _ _ _ _ => rfl) (fun _ _ => rfl) (fun _ _ => rfl) (fun _ _ _ => rfl) (q 8 (by decide) (by decide))), (gY.fr (fun _ => rfl) (fun _ _ => rfl) (fun _ _ => rfl) (fun _ _ _ => rfl) (q 9 (by decide) (by decide)) (fun _ _ => trivial))⟩
theorem a_put (h : TO sz sl sh R I J) {a0 : Int32} {a1 : Int32} {a2 : Int64} : AI X 136 228 [.int a0, .int a1, .long a2] sz sl sh R I J := by
  have h0 := h
  obtain ⟨W, ns, nl, ny, D, nd, B, nb, rn, P, A, C, cd, cl, T, nt, Tl, Y, hS, gZ, gS, gD, gB, gR, gC, gH, gT, gL, gY⟩ := h
  obtain ⟨x, J1, J2, a1, a2, b⟩ := o_put (X := X) (d := 196) (sz := sz) (sl := sl) hS gB.1 gH (v := a0) (w := a1) (z := a2)
  exact ⟨x, _, _, _, _, _, _, _, _, a1, a2, W, ns, nl, ny, D, nd, B, nb, rn, P, A, C, cd, cl, T, nt, Tl, Y, hS, gZ, gS, gD, gB, gR, gC, b, gT, gL, gY⟩
theorem a_shift (h : TO sz sl sh R I J) {a0 : Int32} {a1 : Int32} {a2 : Int32} {a3 : Int32} {a4 : Int32} : AI X 141 232 [.int a0, .int a1, .int a2, .int a3, .int a4] sz sl sh R I J := by
  have h0 := h
  obtain ⟨W, ns, nl, ny, D, nd, B, nb, rn, P, A, C, cd, cl, T, nt, Tl, Y, hS, gZ, gS, gD, gB, gR, gC, gH, gT, gL, gY⟩ := h
  obtain ⟨x, J1, J2, a1, a2, b⟩ := o_shift (X := X) (d := 196) (sz := sz) (sl := sl) hS gB.1 gH (v := a0) (w := a1) (v2 := a2) (w2 := a3) (z := a4)
  exact ⟨x, _, _, _, _, _, _, _, _, a1, a2, W, ns, nl, ny, D, nd, B, nb, rn, P, A, C, cd, cl, T, nt, Tl, Y, hS, gZ, gS, gD, gB, gR, gC, b, gT, gL, gY⟩
theorem a_takes (h : TO sz sl sh R I J) {a0 : Int32} {a1 : Int32} {a2 : Int32} : AI X 56 178 [.int a0, .int a1, .int a2] sz sl sh R I J := by
  have h0 := h
  obtain ⟨W, ns, nl, ny, D, nd, B, nb, rn, P, A, C, cd, cl, T, nt, Tl, Y, hS, gZ, gS, gD, gB, gR, gC, gH, gT, gL, gY⟩ := h
  obtain ⟨x, I1, I2, a1, a2, e⟩ := o_takes (X := X) (d := 194) (sz := sz) (sl := sl) hS gS gL (v := a0) (w := a1) (z := a2)
  have q : ∀ g, g ≠ 0 → sameI W g I I2 := fun g g0 => e.I g0
  have hJ : ∀ a k, cJ a = 6 → J a k = J a k := fun _ _ _ => rfl
  exact ⟨x, _, _, _, _, _, _, _, _, a1, a2, W, ns, nl, ny, D, nd, B, nb, rn, P, A, C, cd, cl, T, nt, Tl, Y, hS, gZ, (gS.fr (fun _ _ _ => rfl) (fun _ _ => rfl) (fun _ _ => rfl) (fun _ _ _ => rfl) (q 1 (by decide))), (gD.fr (q 2 (by decide))), (gB.fr (q 3 (by decide))), (gR.fr (q 4 (by decide))), (gC.fr (q 5 (by decide))), (gH.fr (q 6 (by decide)) hJ), (gT.fr (q 7 (by decide))), (gL.fr (fun _ _ _ _ => rfl) (fun _ _ => rfl) (fun _ _ => rfl) (fun _ _ _ => rfl) (q 8 (by decide))), (gY.fr (fun _ => rfl) (fun _ _ => rfl) (fun _ _ => rfl) (fun _ _ _ => rfl) (q 9 (by decide)) (fun _ _ => trivial))⟩
theorem a_slipped (h : TO sz sl sh R I J) {a0 : Int32} {a1 : Int32} {a2 : Int32} : AI X 101 211 [.int a0, .int a1, .int a2] sz sl sh R I J := by
  have h0 := h
  obtain ⟨W, ns, nl, ny, D, nd, B, nb, rn, P, A, C, cd, cl, T, nt, Tl, Y, hS, gZ, gS, gD, gB, gR, gC, gH, gT, gL, gY⟩ := h
  obtain ⟨x, I1, I2, a1, a2, e⟩ := o_slipped (X := X) (d := 194) (sz := sz) (sl := sl) hS gS gL (v := a0) (w := a1) (z := a2)
  have q : ∀ g, g ≠ 0 → sameI W g I I2 := fun g g0 => e.I g0
  have hJ : ∀ a k, cJ a = 6 → J a k = J a k := fun _ _ _ => rfl
  exact ⟨x, _, _, _, _, _, _, _, _, a1, a2, W, ns, nl, ny, D, nd, B, nb, rn, P, A, C, cd, cl, T, nt, Tl, Y, hS, gZ, (gS.fr (fun _ _ _ => rfl) (fun _ _ => rfl) (fun _ _ => rfl) (fun _ _ _ => rfl) (q 1 (by decide))), (gD.fr (q 2 (by decide))), (gB.fr (q 3 (by decide))), (gR.fr (q 4 (by decide))), (gC.fr (q 5 (by decide))), (gH.fr (q 6 (by decide)) hJ), (gT.fr (q 7 (by decide))), (gL.fr (fun _ _ _ _ => rfl) (fun _ _ => rfl) (fun _ _ => rfl) (fun _ _ _ => rfl) (q 8 (by decide))), (gY.fr (fun _ => rfl) (fun _ _ => rfl) (fun _ _ => rfl) (fun _ _ _ => rfl) (q 9 (by decide)) (fun _ _ => trivial))⟩
theorem a_feet (h : TO sz sl sh R I J) {a0 : Int32} {a1 : Int32} {a2 : Int32} {a3 : Int32} : AI X 77 198 [.int a0, .int a1, .int a2, .int a3] sz sl sh R I J := by
  have h0 := h
  obtain ⟨W, ns, nl, ny, D, nd, B, nb, rn, P, A, C, cd, cl, T, nt, Tl, Y, hS, gZ, gS, gD, gB, gR, gC, gH, gT, gL, gY⟩ := h
  obtain ⟨x, I1, I2, a1, a2, e⟩ := o_feet (X := X) (d := 194) (sz := sz) (sl := sl) hS gS gL (v := a0) (w := a1) (z := a2) (u := a3)
  have q : ∀ g, g ≠ 0 → sameI W g I I2 := fun g g0 => e.I g0
  have hJ : ∀ a k, cJ a = 6 → J a k = J a k := fun _ _ _ => rfl
  exact ⟨x, _, _, _, _, _, _, _, _, a1, a2, W, ns, nl, ny, D, nd, B, nb, rn, P, A, C, cd, cl, T, nt, Tl, Y, hS, gZ, (gS.fr (fun _ _ _ => rfl) (fun _ _ => rfl) (fun _ _ => rfl) (fun _ _ _ => rfl) (q 1 (by decide))), (gD.fr (q 2 (by decide))), (gB.fr (q 3 (by decide))), (gR.fr (q 4 (by decide))), (gC.fr (q 5 (by decide))), (gH.fr (q 6 (by decide)) hJ), (gT.fr (q 7 (by decide))), (gL.fr (fun _ _ _ _ => rfl) (fun _ _ => rfl) (fun _ _ => rfl) (fun _ _ _ => rfl) (q 8 (by decide))), (gY.fr (fun _ => rfl) (fun _ _ => rfl) (fun _ _ => rfl) (fun _ _ _ => rfl) (q 9 (by decide)) (fun _ _ => trivial))⟩
theorem a_worn (h : TO sz sl sh R I J) {a0 : Int32} {a1 : Int32} {a2 : Int32} : AI X 64 186 [.int a0, .int a1, .int a2] sz sl sh R I J := by
  have h0 := h
  obtain ⟨W, ns, nl, ny, D, nd, B, nb, rn, P, A, C, cd, cl, T, nt, Tl, Y, hS, gZ, gS, gD, gB, gR, gC, gH, gT, gL, gY⟩ := h
  obtain ⟨x, I1, I2, a1, a2, e⟩ := o_worn (X := X) (d := 192) (sz := sz) (sl := sl) hS gS gL gY (v := a0) (w := a1) (z := a2)
  have q : ∀ g, g ≠ 0 → sameI W g I I2 := fun g g0 => e.I g0
  have hJ : ∀ a k, cJ a = 6 → J a k = J a k := fun _ _ _ => rfl
  exact ⟨x, _, _, _, _, _, _, _, _, a1, a2, W, ns, nl, ny, D, nd, B, nb, rn, P, A, C, cd, cl, T, nt, Tl, Y, hS, gZ, (gS.fr (fun _ _ _ => rfl) (fun _ _ => rfl) (fun _ _ => rfl) (fun _ _ _ => rfl) (q 1 (by decide))), (gD.fr (q 2 (by decide))), (gB.fr (q 3 (by decide))), (gR.fr (q 4 (by decide))), (gC.fr (q 5 (by decide))), (gH.fr (q 6 (by decide)) hJ), (gT.fr (q 7 (by decide))), (gL.fr (fun _ _ _ _ => rfl) (fun _ _ => rfl) (fun _ _ => rfl) (fun _ _ _ => rfl) (q 8 (by decide))), (gY.fr (fun _ => rfl) (fun _ _ => rfl) (fun _ _ => rfl) (fun _ _ _ => rfl) (q 9 (by decide)) (fun _ _ => trivial))⟩
theorem a_led (h : TO sz sl sh R I J) {a0 : Int32} {a1 : Int32} : AI X 69 191 [.int a0, .int a1] sz sl sh R I J := by
  have h0 := h
  obtain ⟨W, ns, nl, ny, D, nd, B, nb, rn, P, A, C, cd, cl, T, nt, Tl, Y, hS, gZ, gS, gD, gB, gR, gC, gH, gT, gL, gY⟩ := h
  obtain ⟨x, I1, I2, a1, a2, e⟩ := o_led (X := X) (d := 192) (sz := sz) (sl := sl) hS gS gL gY (v := a0) (w := a1)
  have q : ∀ g, g ≠ 0 → sameI W g I I2 := fun g g0 => e.I g0
  have hJ : ∀ a k, cJ a = 6 → J a k = J a k := fun _ _ _ => rfl
  exact ⟨x, _, _, _, _, _, _, _, _, a1, a2, W, ns, nl, ny, D, nd, B, nb, rn, P, A, C, cd, cl, T, nt, Tl, Y, hS, gZ, (gS.fr (fun _ _ _ => rfl) (fun _ _ => rfl) (fun _ _ => rfl) (fun _ _ _ => rfl) (q 1 (by decide))), (gD.fr (q 2 (by decide))), (gB.fr (q 3 (by decide))), (gR.fr (q 4 (by decide))), (gC.fr (q 5 (by decide))), (gH.fr (q 6 (by decide)) hJ), (gT.fr (q 7 (by decide))), (gL.fr (fun _ _ _ _ => rfl) (fun _ _ => rfl) (fun _ _ => rfl) (fun _ _ _ => rfl) (q 8 (by decide))), (gY.fr (fun _ => rfl) (fun _ _ => rfl) (fun _ _ => rfl) (fun _ _ _ => rfl) (q 9 (by decide)) (fun _ _ => trivial))⟩
theorem a_share (h : TO sz sl sh R I J) {a0 : Int32} {a1 : Int32} {a2 : Int32} : AI X 70 192 [.int a0, .int a1, .int a2] sz sl sh R I J := by
  have h0 := h
  obtain ⟨W, ns, nl, ny, D, nd, B, nb, rn, P, A, C, cd, cl, T, nt, Tl, Y, hS, gZ, gS, gD, gB, gR, gC, gH, gT, gL, gY⟩ := h
  obtain ⟨x, I1, I2, a1, a2, e⟩ := o_share (X := X) (d := 192) (sz := sz) (sl := sl) hS gS gL gY (v := a0) (w := a1) (z := a2)
  have q : ∀ g, g ≠ 0 → sameI W g I I2 := fun g g0 => e.I g0
  have hJ : ∀ a k, cJ a = 6 → J a k = J a k := fun _ _ _ => rfl
  exact ⟨x, _, _, _, _, _, _, _, _, a1, a2, W, ns, nl, ny, D, nd, B, nb, rn, P, A, C, cd, cl, T, nt, Tl, Y, hS, gZ, (gS.fr (fun _ _ _ => rfl) (fun _ _ => rfl) (fun _ _ => rfl) (fun _ _ _ => rfl) (q 1 (by decide))), (gD.fr (q 2 (by decide))), (gB.fr (q 3 (by decide))), (gR.fr (q 4 (by decide))), (gC.fr (q 5 (by decide))), (gH.fr (q 6 (by decide)) hJ), (gT.fr (q 7 (by decide))), (gL.fr (fun _ _ _ _ => rfl) (fun _ _ => rfl) (fun _ _ => rfl) (fun _ _ _ => rfl) (q 8 (by decide))), (gY.fr (fun _ => rfl) (fun _ _ => rfl) (fun _ _ => rfl) (fun _ _ _ => rfl) (q 9 (by decide)) (fun _ _ => trivial))⟩
theorem a_next (h : TO sz sl sh R I J) {a0 : Int32} {a1 : Int32} {a2 : Int32} : AI X 99 210 [.int a0, .int a1, .int a2] sz sl sh R I J := by
  have h0 := h
  obtain ⟨W, ns, nl, ny, D, nd, B, nb, rn, P, A, C, cd, cl, T, nt, Tl, Y, hS, gZ, gS, gD, gB, gR, gC, gH, gT, gL, gY⟩ := h
  obtain ⟨x, I1, I2, a1, a2, e⟩ := o_next (X := X) (d := 192) (sz := sz) (sl := sl) hS gS gL gY (v := a0) (a := a1) (b := a2)
  have q : ∀ g, g ≠ 0 → sameI W g I I2 := fun g g0 => e.I g0
  have hJ : ∀ a k, cJ a = 6 → J a k = J a k := fun _ _ _ => rfl
  exact ⟨x, _, _, _, _, _, _, _, _, a1, a2, W, ns, nl, ny, D, nd, B, nb, rn, P, A, C, cd, cl, T, nt, Tl, Y, hS, gZ, (gS.fr (fun _ _ _ => rfl) (fun _ _ => rfl) (fun _ _ => rfl) (fun _ _ _ => rfl) (q 1 (by decide))), (gD.fr (q 2 (by decide))), (gB.fr (q 3 (by decide))), (gR.fr (q 4 (by decide))), (gC.fr (q 5 (by decide))), (gH.fr (q 6 (by decide)) hJ), (gT.fr (q 7 (by decide))), (gL.fr (fun _ _ _ _ => rfl) (fun _ _ => rfl) (fun _ _ => rfl) (fun _ _ _ => rfl) (q 8 (by decide))), (gY.fr (fun _ => rfl) (fun _ _ => rfl) (fun _ _ => rfl) (fun _ _ _ => rfl) (q 9 (by decide)) (fun _ _ => trivial))⟩
theorem a_shares (h : TO sz sl sh R I J) {a0 : Int32} {a1 : Int32} {a2 : Int32} {a3 : Int32} : AI X 78 199 [.int a0, .int a1, .int a2, .int a3] sz sl sh R I J := by
  have h0 := h
  obtain ⟨W, ns, nl, ny, D, nd, B, nb, rn, P, A, C, cd, cl, T, nt, Tl, Y, hS, gZ, gS, gD, gB, gR, gC, gH, gT, gL, gY⟩ := h
  obtain ⟨x, I1, I2, J2, a1, a2, e, ej⟩ := o_shares (X := X) (d := 193) (sz := sz) (sl := sl) hS gS gL (v := a0) (w := a1) (z := a2) (u := a3)
  have q : ∀ g, g ≠ 0 → sameI W g I I2 := fun g g0 => e.I g0
  have hJ : ∀ a k, cJ a = 6 → J2 a k = J a k := fun a k z => ej a k (fun y => by rw [y.1] at z; exact absurd z (by decide))
  exact ⟨x, _, _, _, _, _, _, _, _, a1, a2, W, ns, nl, ny, D, nd, B, nb, rn, P, A, C, cd, cl, T, nt, Tl, Y, hS, gZ, (gS.fr (fun _ _ _ => rfl) (fun _ _ => rfl) (fun _ _ => rfl) (fun _ _ _ => rfl) (q 1 (by decide))), (gD.fr (q 2 (by decide))), (gB.fr (q 3 (by decide))), (gR.fr (q 4 (by decide))), (gC.fr (q 5 (by decide))), (gH.fr (q 6 (by decide)) hJ), (gT.fr (q 7 (by decide))), (gL.fr (fun _ _ _ _ => rfl) (fun _ _ => rfl) (fun _ _ => rfl) (fun _ _ _ => rfl) (q 8 (by decide))), (gY.fr (fun _ => rfl) (fun _ _ => rfl) (fun _ _ => rfl) (fun _ _ _ => rfl) (q 9 (by decide)) (fun _ _ => trivial))⟩
theorem a_other (h : TO sz sl sh R I J) {a0 : Int32} {a1 : Int32} : AI X 82 201 [.int a0, .int a1] sz sl sh R I J := by
  have h0 := h
  obtain ⟨W, ns, nl, ny, D, nd, B, nb, rn, P, A, C, cd, cl, T, nt, Tl, Y, hS, gZ, gS, gD, gB, gR, gC, gH, gT, gL, gY⟩ := h
  obtain ⟨x, I1, I2, J2, a1, a2, e, ej⟩ := o_other (X := X) (d := 193) (sz := sz) (sl := sl) hS gS gL (v := a0) (z := a1)
  have q : ∀ g, g ≠ 0 → sameI W g I I2 := fun g g0 => e.I g0
  have hJ : ∀ a k, cJ a = 6 → J2 a k = J a k := fun a k z => ej a k (fun y => by rw [y.1] at z; exact absurd z (by decide))
  exact ⟨x, _, _, _, _, _, _, _, _, a1, a2, W, ns, nl, ny, D, nd, B, nb, rn, P, A, C, cd, cl, T, nt, Tl, Y, hS, gZ, (gS.fr (fun _ _ _ => rfl) (fun _ _ => rfl) (fun _ _ => rfl) (fun _ _ _ => rfl) (q 1 (by decide))), (gD.fr (q 2 (by decide))), (gB.fr (q 3 (by decide))), (gR.fr (q 4 (by decide))), (gC.fr (q 5 (by decide))), (gH.fr (q 6 (by decide)) hJ), (gT.fr (q 7 (by decide))), (gL.fr (fun _ _ _ _ => rfl) (fun _ _ => rfl) (fun _ _ => rfl) (fun _ _ _ => rfl) (q 8 (by decide))), (gY.fr (fun _ => rfl) (fun _ _ => rfl) (fun _ _ => rfl) (fun _ _ _ => rfl) (q 9 (by decide)) (fun _ _ => trivial))⟩
theorem a_fits (h : TO sz sl sh R I J) {a0 : Int32} {a1 : Int32} {a2 : Int32} {a3 : Int32} : AI X 85 203 [.int a0, .int a1, .int a2, .int a3] sz sl sh R I J := by
  have h0 := h
  obtain ⟨W, ns, nl, ny, D, nd, B, nb, rn, P, A, C, cd, cl, T, nt, Tl, Y, hS, gZ, gS, gD, gB, gR, gC, gH, gT, gL, gY⟩ := h
  obtain ⟨x, I1, J1, I2, J2, a1, a2, e, ej⟩ := o_fits (X := X) (d := 192) (sz := sz) (sl := sl) hS gS gL gY (v := a0) (b := a1) (lim := a2) (u := a3)
  have q : ∀ g, g ≠ 0 → sameI W g I I2 := fun g g0 => e.I g0
  have hJ : ∀ a k, cJ a = 6 → J2 a k = J a k := fun a k z => ej a k (fun y => by rw [y] at z; exact absurd z (by decide)) (fun y => by rw [y] at z; exact absurd z (by decide)) (fun y => by rw [y] at z; exact absurd z (by decide)) (fun y => by rw [y] at z; exact absurd z (by decide))
  exact ⟨x, _, _, _, _, _, _, _, _, a1, a2, W, ns, nl, ny, D, nd, B, nb, rn, P, A, C, cd, cl, T, nt, Tl, Y, hS, gZ, (gS.fr (fun _ _ _ => rfl) (fun _ _ => rfl) (fun _ _ => rfl) (fun _ _ _ => rfl) (q 1 (by decide))), (gD.fr (q 2 (by decide))), (gB.fr (q 3 (by decide))), (gR.fr (q 4 (by decide))), (gC.fr (q 5 (by decide))), (gH.fr (q 6 (by decide)) hJ), (gT.fr (q 7 (by decide))), (gL.fr (fun _ _ _ _ => rfl) (fun _ _ => rfl) (fun _ _ => rfl) (fun _ _ _ => rfl) (q 8 (by decide))), (gY.fr (fun _ => rfl) (fun _ _ => rfl) (fun _ _ => rfl) (fun _ _ _ => rfl) (q 9 (by decide)) (fun _ _ => trivial))⟩
theorem a_best (h : TO sz sl sh R I J) {a0 : Int32} {a1 : Int32} {a2 : Int32} : AI X 96 209 [.int a0, .int a1, .int a2] sz sl sh R I J := by
  have h0 := h
  obtain ⟨W, ns, nl, ny, D, nd, B, nb, rn, P, A, C, cd, cl, T, nt, Tl, Y, hS, gZ, gS, gD, gB, gR, gC, gH, gT, gL, gY⟩ := h
  obtain ⟨x, I1, J1, I2, J2, a1, a2, e, ej⟩ := o_best (X := X) (d := 192) (sz := sz) (sl := sl) hS gS gL gY (v := a0) (b := a1) (u := a2)
  have q : ∀ g, g ≠ 0 → sameI W g I I2 := fun g g0 => e.I g0
  have hJ : ∀ a k, cJ a = 6 → J2 a k = J a k := fun a k z => ej a k (fun y => by rw [y] at z; exact absurd z (by decide)) (fun y => by rw [y] at z; exact absurd z (by decide)) (fun y => by rw [y] at z; exact absurd z (by decide)) (fun y => by rw [y] at z; exact absurd z (by decide))
  exact ⟨x, _, _, _, _, _, _, _, _, a1, a2, W, ns, nl, ny, D, nd, B, nb, rn, P, A, C, cd, cl, T, nt, Tl, Y, hS, gZ, (gS.fr (fun _ _ _ => rfl) (fun _ _ => rfl) (fun _ _ => rfl) (fun _ _ _ => rfl) (q 1 (by decide))), (gD.fr (q 2 (by decide))), (gB.fr (q 3 (by decide))), (gR.fr (q 4 (by decide))), (gC.fr (q 5 (by decide))), (gH.fr (q 6 (by decide)) hJ), (gT.fr (q 7 (by decide))), (gL.fr (fun _ _ _ _ => rfl) (fun _ _ => rfl) (fun _ _ => rfl) (fun _ _ _ => rfl) (q 8 (by decide))), (gY.fr (fun _ => rfl) (fun _ _ => rfl) (fun _ _ => rfl) (fun _ _ _ => rfl) (q 9 (by decide)) (fun _ _ => trivial))⟩
theorem a_depth (h : TO sz sl sh R I J) {a0 : Int32} {a1 : Int32} : AI X 17 153 [.int a0, .int a1] sz sl sh R I J := by
  have h0 := h
  obtain ⟨W, ns, nl, ny, D, nd, B, nb, rn, P, A, C, cd, cl, T, nt, Tl, Y, hS, gZ, gS, gD, gB, gR, gC, gH, gT, gL, gY⟩ := h
  obtain ⟨x, I1, I2, W', a1, a2, sw, b, ⟨P', A', C', cd', cl', b2⟩, e⟩ := o_depth (X := X) (d := 195) (sz := sz) (sl := sl) hS gS gC (v := a0) (w := a1)
  have q := C15.q e
  have hJ : ∀ a k, cJ a = 6 → J a k = J a k := fun _ _ _ => rfl
  exact ⟨x, _, _, _, _, _, _, _, _, a1, a2, W', ns, nl, ny, D, nd, B, nb, rn, P', A', C', cd', cl', T, nt, Tl, Y, hS, ⟨gZ.1, fun a ha => (sw 8 a (by omega)).trans (gZ.2.1 a ha), gZ.2.2⟩, b, (gD.fr (q 2 (by decide) (by decide) (by decide))), (gB.fr (q 3 (by decide) (by decide) (by decide))), (gR.fr (q 4 (by decide) (by decide) (by decide))), b2, (gH.fr (q 6 (by decide) (by decide) (by decide)) hJ), (gT.fr (q 7 (by decide) (by decide) (by decide))), (gL.fr (fun r k r1 r2 => sw r k (by omega)) (fun a _ => sw 8 a (by omega)) (fun _ _ => rfl) (fun _ _ _ => rfl) (q 8 (by decide) (by decide) (by decide))), (gY.fr (fun k => sw 7 k (by omega)) (fun a _ => sw 8 a (by omega)) (fun _ _ => rfl) (fun _ _ _ => rfl) (q 9 (by decide) (by decide) (by decide)) (fun _ _ => trivial))⟩
theorem a_mend (h : TO sz sl sh R I J) {a0 : Int32} {a1 : Int32} {a2 : Int32} : AI X 24 158 [.int a0, .int a1, .int a2] sz sl sh R I J := by
  have h0 := h
  obtain ⟨W, ns, nl, ny, D, nd, B, nb, rn, P, A, C, cd, cl, T, nt, Tl, Y, hS, gZ, gS, gD, gB, gR, gC, gH, gT, gL, gY⟩ := h
  obtain ⟨x, I1, I2, W', a1, a2, sw, b, ⟨P', A', C', cd', cl', b2⟩, e⟩ := o_mend (X := X) (d := 195) (sz := sz) (sl := sl) hS gS gC (v := a0) (q := a1) (w := a2)
  have q := C15.q e
  have hJ : ∀ a k, cJ a = 6 → J a k = J a k := fun _ _ _ => rfl
  exact ⟨x, _, _, _, _, _, _, _, _, a1, a2, W', ns, nl, ny, D, nd, B, nb, rn, P', A', C', cd', cl', T, nt, Tl, Y, hS, ⟨gZ.1, fun a ha => (sw 8 a (by omega)).trans (gZ.2.1 a ha), gZ.2.2⟩, b, (gD.fr (q 2 (by decide) (by decide) (by decide))), (gB.fr (q 3 (by decide) (by decide) (by decide))), (gR.fr (q 4 (by decide) (by decide) (by decide))), b2, (gH.fr (q 6 (by decide) (by decide) (by decide)) hJ), (gT.fr (q 7 (by decide) (by decide) (by decide))), (gL.fr (fun r k r1 r2 => sw r k (by omega)) (fun a _ => sw 8 a (by omega)) (fun _ _ => rfl) (fun _ _ _ => rfl) (q 8 (by decide) (by decide) (by decide))), (gY.fr (fun k => sw 7 k (by omega)) (fun a _ => sw 8 a (by omega)) (fun _ _ => rfl) (fun _ _ _ => rfl) (q 9 (by decide) (by decide) (by decide)) (fun _ _ => trivial))⟩
theorem a_undo (h : TO sz sl sh R I J)  : AI X 111 215 [] sz sl sh R I J := by
  have h0 := h
  obtain ⟨W, ns, nl, ny, D, nd, B, nb, rn, P, A, C, cd, cl, T, nt, Tl, Y, hS, gZ, gS, gD, gB, gR, gC, gH, gT, gL, gY⟩ := h
  obtain ⟨x, I1, I2, W', a1, a2, sw, b, ⟨P', A', C', cd', cl', b2⟩, e⟩ := o_undo (X := X) (d := 195) (sz := sz) (sl := sl) hS gS gC 
  have q := C15.q e
  have hJ : ∀ a k, cJ a = 6 → J a k = J a k := fun _ _ _ => rfl
  exact ⟨x, _, _, _, _, _, _, _, _, a1, a2, W', ns, nl, ny, D, nd, B, nb, rn, P', A', C', cd', cl', T, nt, Tl, Y, hS, ⟨gZ.1, fun a ha => (sw 8 a (by omega)).trans (gZ.2.1 a ha), gZ.2.2⟩, b, (gD.fr (q 2 (by decide) (by decide) (by decide))), (gB.fr (q 3 (by decide) (by decide) (by decide))), (gR.fr (q 4 (by decide) (by decide) (by decide))), b2, (gH.fr (q 6 (by decide) (by decide) (by decide)) hJ), (gT.fr (q 7 (by decide) (by decide) (by decide))), (gL.fr (fun r k r1 r2 => sw r k (by omega)) (fun a _ => sw 8 a (by omega)) (fun _ _ => rfl) (fun _ _ _ => rfl) (q 8 (by decide) (by decide) (by decide))), (gY.fr (fun k => sw 7 k (by omega)) (fun a _ => sw 8 a (by omega)) (fun _ _ => rfl) (fun _ _ _ => rfl) (q 9 (by decide) (by decide) (by decide)) (fun _ _ => trivial))⟩
theorem a_redo (h : TO sz sl sh R I J)  : AI X 114 216 [] sz sl sh R I J := by
  have h0 := h
  obtain ⟨W, ns, nl, ny, D, nd, B, nb, rn, P, A, C, cd, cl, T, nt, Tl, Y, hS, gZ, gS, gD, gB, gR, gC, gH, gT, gL, gY⟩ := h
  obtain ⟨x, I1, I2, W', a1, a2, sw, b, ⟨P', A', C', cd', cl', b2⟩, e⟩ := o_redo (X := X) (d := 195) (sz := sz) (sl := sl) hS gS gC 
  have q := C15.q e
  have hJ : ∀ a k, cJ a = 6 → J a k = J a k := fun _ _ _ => rfl
  exact ⟨x, _, _, _, _, _, _, _, _, a1, a2, W', ns, nl, ny, D, nd, B, nb, rn, P', A', C', cd', cl', T, nt, Tl, Y, hS, ⟨gZ.1, fun a ha => (sw 8 a (by omega)).trans (gZ.2.1 a ha), gZ.2.2⟩, b, (gD.fr (q 2 (by decide) (by decide) (by decide))), (gB.fr (q 3 (by decide) (by decide) (by decide))), (gR.fr (q 4 (by decide) (by decide) (by decide))), b2, (gH.fr (q 6 (by decide) (by decide) (by decide)) hJ), (gT.fr (q 7 (by decide) (by decide) (by decide))), (gL.fr (fun r k r1 r2 => sw r k (by omega)) (fun a _ => sw 8 a (by omega)) (fun _ _ => rfl) (fun _ _ _ => rfl) (q 8 (by decide) (by decide) (by decide))), (gY.fr (fun k => sw 7 k (by omega)) (fun a _ => sw 8 a (by omega)) (fun _ _ => rfl) (fun _ _ _ => rfl) (q 9 (by decide) (by decide) (by decide)) (fun _ _ => trivial))⟩
theorem a_depths (h : TO sz sl sh R I J) {a0 : Int32} {a1 : Int32} {a2 : Int32} {a3 : Int32} : AI X 25 159 [.int a0, .int a1, .int a2, .int a3] sz sl sh R I J := by
  have h0 := h
  obtain ⟨W, ns, nl, ny, D, nd, B, nb, rn, P, A, C, cd, cl, T, nt, Tl, Y, hS, gZ, gS, gD, gB, gR, gC, gH, gT, gL, gY⟩ := h
  obtain ⟨x, I1, I2, W', a1, a2, sw', b, e⟩ := o_depths (X := X) (d := 196) (sz := sz) (sl := sl) hS gS gB.1 gH (v := a0) (w := a1) (i := a2) (z := a3)
  have sw : ∀ r k, ¬ (r ≤ 2 ∨ 10 ≤ r ∧ r ≤ 16) → W' r k = W r k := sw'
  have q : ∀ g, g ≠ 0 → g ≠ 1 → sameI W g I I2 := fun g g0 gc => e.same gc g0
  have hJ : ∀ a k, cJ a = 6 → J a k = J a k := fun _ _ _ => rfl
  exact ⟨x, _, _, _, _, _, _, _, _, a1, a2, W', ns, nl, ny, D, nd, B, nb, rn, P, A, C, cd, cl, T, nt, Tl, Y, hS, ⟨gZ.1, fun a ha => (sw 8 a (by omega)).trans (gZ.2.1 a ha), gZ.2.2⟩, b, (gD.fr (q 2 (by decide) (by decide))), (gB.fr (q 3 (by decide) (by decide))), (gR.fr (q 4 (by decide) (by decide))), (gC.fr (q 5 (by decide) (by decide))), (gH.fr (q 6 (by decide) (by decide)) hJ), (gT.fr (q 7 (by decide) (by decide))), (gL.fr (fun r k r1 r2 => sw r k (by omega)) (fun a _ => sw 8 a (by omega)) (fun _ _ => rfl) (fun _ _ _ => rfl) (q 8 (by decide) (by decide))), (gY.fr (fun k => sw 7 k (by omega)) (fun a _ => sw 8 a (by omega)) (fun _ _ => rfl) (fun _ _ _ => rfl) (q 9 (by decide) (by decide)) (fun _ _ => trivial))⟩
theorem a_turn (h : TO sz sl sh R I J) {a0 : Int32} {a1 : Int32} : AI X 33 161 [.int a0, .int a1] sz sl sh R I J := by
  have h0 := h
  obtain ⟨W, ns, nl, ny, D, nd, B, nb, rn, P, A, C, cd, cl, T, nt, Tl, Y, hS, gZ, gS, gD, gB, gR, gC, gH, gT, gL, gY⟩ := h
  obtain ⟨x, R1, I1, I2, W', a1, a2, sw', b, e, er⟩ := o_turn (X := X) (d := 196) (sz := sz) (sl := sl) hS gS (v := a0) (y := a1)
  have sw : ∀ r k, ¬ (r ≤ 2 ∨ 10 ≤ r ∧ r ≤ 16) → W' r k = W r k := sw'
  have q : ∀ g, g ≠ 0 → g ≠ 1 → sameI W g I I2 := fun g g0 gc => e.same gc g0
  have hJ : ∀ a k, cJ a = 6 → J a k = J a k := fun _ _ _ => rfl
  exact ⟨x, _, _, _, _, _, _, _, _, a1, a2, W', ns, nl, ny, D, nd, B, nb, rn, P, A, C, cd, cl, T, nt, Tl, Y, hS.fr (fun _ _ => rfl) (fun a k z => er a k (by rw [z]; decide)), ⟨gZ.1, fun a ha => (sw 8 a (by omega)).trans (gZ.2.1 a ha), gZ.2.2⟩, b, (gD.fr (q 2 (by decide) (by decide))), (gB.fr (q 3 (by decide) (by decide))), (gR.fr (q 4 (by decide) (by decide))), (gC.fr (q 5 (by decide) (by decide))), (gH.fr (q 6 (by decide) (by decide)) hJ), (gT.fr (q 7 (by decide) (by decide))), (gL.fr (fun r k r1 r2 => sw r k (by omega)) (fun a _ => sw 8 a (by omega)) (fun _ _ => rfl) (fun a k z => er a k (by rw [z]; decide)) (q 8 (by decide) (by decide))), (gY.fr (fun k => sw 7 k (by omega)) (fun a _ => sw 8 a (by omega)) (fun _ _ => rfl) (fun a k z => er a k (by rw [z]; decide)) (q 9 (by decide) (by decide)) (fun _ _ => trivial))⟩
theorem a_step (h : TO sz sl sh R I J) {a0 : Int32} {a1 : Int32} {a2 : Int32} : AI X 9 147 [.int a0, .int a1, .int a2] sz sl sh R I J := by
  have h0 := h
  obtain ⟨W, ns, nl, ny, D, nd, B, nb, rn, P, A, C, cd, cl, T, nt, Tl, Y, hS, gZ, gS, gD, gB, gR, gC, gH, gT, gL, gY⟩ := h
  obtain ⟨x, sz', sl', sh', R1, I1, J1, I2, W', ns', a1, a2, sw, h8, b, b2, hn, es, ei, er, ej⟩ := o_step (X := X) (d := 196) (sz := sz) (sl := sl) hS gS gZ (v := a0) (y := a1) (z := a2)
  have q : ∀ g, g ≠ 11 → g ≠ 1 → sameI W g I I2 := fun g g11 g1 a k z => ei a k (cI_out gZ z g11) (by rw [z]; exact g1)
  have qr : ∀ g, g ≠ 11 → g ≠ 1 → ∀ a k, cR W a = g → R1 a k = R a k := fun g g11 g1 a k z => er a k (cR_out gZ z g11) (by rw [z]; exact g1)
  have hs : ∀ a, W 8 a < 3000 → sh' a = sh a := fun a z => es a (gZ.lt z)
  have hJ : ∀ a k, cJ a = 6 → J1 a k = J a k := fun a k z => ej a k (Nat.lt_of_lt_of_le (cJ_lo z) gZ.1)
  have hS' : SF sh' R1 := hS.fr (fun a ha => es a (Nat.lt_of_lt_of_le ha gZ.1)) (qr 10 (by decide) (by decide))
  exact ⟨x, _, _, _, _, _, _, _, _, a1, a2, W', ns', nl, ny, D, nd, B, nb, rn, P, A, C, cd, cl, T, nt, Tl, Y, hS', b2, b, (gD.fr (q 2 (by decide) (by decide))), (gB.fr (q 3 (by decide) (by decide))), (gR.fr (q 4 (by decide) (by decide))), (gC.fr (q 5 (by decide) (by decide))).more hn, (gH.fr (q 6 (by decide) (by decide)) hJ), (gT.fr (q 7 (by decide) (by decide))), (gL.fr (fun r k r1 r2 => sw r k (by unfold rwS; omega) (by omega)) h8 hs (qr 8 (by decide) (by decide)) (q 8 (by decide) (by decide))), (gY.fr (fun k => sw 7 k (by unfold rwS; decide) (by decide)) h8 hs (qr 9 (by decide) (by decide)) (q 9 (by decide) (by decide)) (fun _ _ => trivial))⟩
theorem a_story (h : TO sz sl sh R I J) {a0 : Int32} {a1 : Int32} {a2 : Int32} : AI X 62 185 [.int a0, .int a1, .int a2] sz sl sh R I J := by
  have h0 := h
  obtain ⟨W, ns, nl, ny, D, nd, B, nb, rn, P, A, C, cd, cl, T, nt, Tl, Y, hS, gZ, gS, gD, gB, gR, gC, gH, gT, gL, gY⟩ := h
  obtain ⟨x, sz', sl', sh', R1, I1, J1, I2, W', Y', ny', a1, a2, sw, h8, b, b2, es, ei, er, ej⟩ := o_story (X := X) (d := 196) (sz := sz) (sl := sl) hS gY gZ (v := a0) (w := a1) (z := a2)
  have q : ∀ g, g ≠ 11 → g ≠ 9 → sameI W g I I2 := fun g g11 g9 a k z => ei a k (cI_out gZ z g11) (by rw [z]; exact g9)
  have qr : ∀ g, g ≠ 11 → g ≠ 9 → ∀ a k, cR W a = g → R1 a k = R a k := fun g g11 g1 a k z => er a k (cR_out gZ z g11) (by rw [z]; exact g1)
  have hs : ∀ a, W 8 a < 3000 → sh' a = sh a := fun a z => es a (gZ.lt z)
  have hJ : ∀ a k, cJ a = 6 → J1 a k = J a k := fun a k z => ej a k (Nat.lt_of_lt_of_le (cJ_lo z) gZ.1)
  have hS' : SF sh' R1 := hS.fr (fun a ha => es a (Nat.lt_of_lt_of_le ha gZ.1)) (qr 10 (by decide) (by decide))
  exact ⟨x, _, _, _, _, _, _, _, _, a1, a2, W', ns, nl, ny', D, nd, B, nb, rn, P, A, C, cd, cl, T, nt, Tl, Y', hS', b2, (gS.fr (fun r k hr => sw r k (by unfold rwS at hr; omega) (by unfold rwS at hr; omega)) h8 hs (qr 1 (by decide) (by decide)) (q 1 (by decide) (by decide))), (gD.fr (q 2 (by decide) (by decide))), (gB.fr (q 3 (by decide) (by decide))), (gR.fr (q 4 (by decide) (by decide))), (gC.fr (q 5 (by decide) (by decide))), (gH.fr (q 6 (by decide) (by decide)) hJ), (gT.fr (q 7 (by decide) (by decide))), (gL.fr (fun r k r1 r2 => sw r k (by omega) (by omega)) h8 hs (qr 8 (by decide) (by decide)) (q 8 (by decide) (by decide))), b⟩
theorem a_law (h : TO sz sl sh R I J)  : AI X 41 165 [] sz sl sh R I J := by
  have h0 := h
  obtain ⟨W, ns, nl, ny, D, nd, B, nb, rn, P, A, C, cd, cl, T, nt, Tl, Y, hS, gZ, gS, gD, gB, gR, gC, gH, gT, gL, gY⟩ := h
  obtain ⟨x, sz', sl', sh', R1, I1, J1, I2, W', Tl', nl', a1, a2, sw, h8, b, b2, ⟨T', nt', b3⟩, es, ei, er, ej⟩ := o_law (X := X) (d := 140) (sz := sz) (sl := sl) hS gL gT gZ 
  have q : ∀ g, g ≠ 11 → g ≠ 0 → g ≠ 7 → g ≠ 8 → sameI W g I I2 := fun g g11 g0 g7 g8 a k z => ei a k (cI_out gZ z g11) (by rw [z]; exact g0) (by rw [z]; exact g7) (by rw [z]; exact g8)
  have qr : ∀ g, g ≠ 11 → g ≠ 8 → ∀ a k, cR W a = g → R1 a k = R a k := fun g g11 g1 a k z => er a k (cR_out gZ z g11) (by rw [z]; exact g1)
  have hs : ∀ a, W 8 a < 3000 → sh' a = sh a := fun a z => es a (gZ.lt z)
  have hJ : ∀ a k, cJ a = 6 → J1 a k = J a k := fun a k z => ej a k (Nat.lt_of_lt_of_le (cJ_lo z) gZ.1)
  have hS' : SF sh' R1 := hS.fr (fun a ha => es a (Nat.lt_of_lt_of_le ha gZ.1)) (qr 10 (by decide) (by decide))
  exact ⟨x, _, _, _, _, _, _, _, _, a1, a2, W', ns, nl', ny, D, nd, B, nb, rn, P, A, C, cd, cl, T', nt', Tl', Y, hS', b2, (gS.fr (fun r k hr => sw r k (by unfold rwS at hr; omega) (by unfold rwS at hr; omega)) h8 hs (qr 1 (by decide) (by decide)) (q 1 (by decide) (by decide) (by decide) (by decide))), (gD.fr (q 2 (by decide) (by decide) (by decide) (by decide))), (gB.fr (q 3 (by decide) (by decide) (by decide) (by decide))), (gR.fr (q 4 (by decide) (by decide) (by decide) (by decide))), (gC.fr (q 5 (by decide) (by decide) (by decide) (by decide))), (gH.fr (q 6 (by decide) (by decide) (by decide) (by decide)) hJ), b3, b, (gY.fr (fun k => sw 7 k (by omega) (by decide)) h8 hs (qr 9 (by decide) (by decide)) (q 9 (by decide) (by decide) (by decide) (by decide)) (fun _ _ => trivial))⟩
end CALLS
