/-! LAW: what stands in brackets, behind ! and behind - -/
section DEEPER
variable {X : XX} {T : Nat → Nat} {nt o N : Nat}
theorem ok_or {b : Bool} : okn b = 0 ∨ okn b = 1 := okn_or
theorem okn_z {b : Bool} : (okn b = 0) = (b = false) := by cases b <;> decide
theorem ob_of {a : Option Rs} {v : Rs} {f : Rs → Option Rs} (h : a = some v) : a.bind f = f v := by rw [h]; rfl
/-- the reference, from the sign on: what the inner reading gave -/
theorem m_end {e sz sl : Nat} {sh : Nat → Nat × Nat} {R : Nat → Nat → Option Nat} {I2 : Nat → Nat → Int32} {J : Nat → Nat → Int64} {l p k : Nat} {b : Bool} (hS : SF sh R) (h : tM T nt I2 l (o + 1) p k) (ho : o < 6) : exe X e 173 185 [.ref 37, dm, .int (okn b)] [] (sz, sl, sh, R, I2, J) = some (some (.int (okn b)), (sz, sl, sh, R, u2 I2 37 37 (Int32.ofNat o), J)) := by
  rw [t173_185 hS, if_pos okn_or, h.2.2.2.2.1, k_1, n_sub (by omega)]
  rfl
theorem p_not (hn : nt ≤ 120) (ho : o < 6) (hN : 3 ≤ N) (hc : ∀ p, p ≤ nt → PP T nt N (fun e H => ev X e 45 [.ref 2, .int (Int32.ofNat (o + 1))] H) (fun e H => ev X e 173 [.ref 37] H) (o + 1) p) {p : Nat} (hp : p < nt) (hq : T p = 33) : PP T nt (N + 2) (fun e H => ev X e 45 [.ref 2, .int (Int32.ofNat o)] H) (fun e H => ev X e 173 [.ref 37] H) o p := by
  have hd : ¬ (p < nt ∧ 48 ≤ T p ∧ T p ≤ 57) := by omega
  have hm : ¬ (p < nt ∧ nmi (T p) < 7) := fun z => by have := nmi_c z.2; omega
  have hb : p < nt ∧ (T p = 40 ∨ T p = 33 ∨ T p = 45) := ⟨hp, Or.inr (Or.inl hq)⟩
  have sv : sgv T nt p = 33 := sg_is hp hq
  obtain ⟨ok, p1, cx, cm, g1, g2, g3, g4, gx, gm, gs⟩ := hc (p + 1) (by omega)
  have hx : ∀ (e sz sl : Nat) (sh : Nat → Nat × Nat) (R : Nat → Nat → Option Nat) (I : Nat → Nat → Int32) (J : Nat → Nat → Int64) (k : Nat) (H' : HP), SF sh R → tX T nt I p k → (ev X (e + 1) 52 [.ref 2, .int (Int32.ofNat (o + 1))] (sz, sl, sh, R, u2 I 2 4 (Int32.ofNat (p + 1)), J) = some (some (.int (okn ok)), H')) → ev X (e + 2) 45 [.ref 2, .int (Int32.ofNat o)] (sz, sl, sh, R, I, J) = some (some (.int (okn ok)), H') := by
    intro e sz sl sh R I J k H' hS h run
    obtain ⟨sz', sl', sh', R', I', J'⟩ := H'
    rw [x_front hS h (by omega) hd hm, if_pos hb, t45_67 hS, if_pos (by rw [k_6, n_lt (by omega) (by decide)]; exact ho), if_pos sv, n_suc, h.2.2.2.1, n_suc, run, ob_s]
    show exe X (e + 1) 45 127 _ [.int _] _ = _
    rw [t45_127, if_pos okn_or]
  have hmm : ∀ (e sz sl : Nat) (sh : Nat → Nat × Nat) (R : Nat → Nat → Option Nat) (I I1 : Nat → Nat → Int32) (J : Nat → Nat → Int64) (l k : Nat), SF sh R → tM T nt I l o p k → ev X (e + 1) 173 [.ref 37] (sz, sl, sh, R, u2 (u2 I 37 37 (Int32.ofNat (o + 1))) 37 36 (Int32.ofNat (p + 1)), J) = some (some (.int (okn ok)), (sz, sl, sh, R, I1, J)) → ev X (e + 2) 173 [.ref 37] (sz, sl, sh, R, I, J) = exe X (e + 1) 173 158 [.ref 37, .int 33, .int (okn ok)] [] (sz, sl, sh, R, I1, J) := by
    intro e sz sl sh R I I1 J l k hS h run
    rw [m_front hS h (by omega) hd hm, if_pos hb, t173_66 hS, h.2.2.2.2.1, if_pos (by rw [k_6, n_eq (by omega) (by decide)]; omega), if_pos (by rw [sv]; decide), n_suc, h.2.2.2.1, n_suc, run, ob_s, sv]
    show exe X (e + 1) 173 114 _ [.int _] _ = _
    rw [t173_114 hS]
    by_cases z : okn ok = 0
    · rw [if_pos z]
    · rw [if_neg z, if_pos (by decide)]
  cases ok with
  | false =>
    refine ⟨false, p1, cx, cm, by omega, g2, by omega, by omega, ?_, ?_, fun z => Bool.noConfusion z⟩
    · intro e sz sl sh R I J k he hS h hk
      obtain ⟨e, rfl⟩ : ∃ m, e = m + 2 := ⟨e - 2, by omega⟩
      have t1 := eX.go (p' := p + 1) h
      obtain ⟨I', a1, a2⟩ := gx e sz sl sh R _ J k (by omega) hS (eX.t h t1) (by omega)
      refine ⟨I', hx e sz sl sh R I J k _ hS h ?_, t1.trans a2⟩
      rw [n52, t52_0 hS]
      refine (ob_of a1).trans ?_
      show exe X e 52 5 _ [.int _] _ = _
      rw [t52_5 hS, if_neg (fun z => z rfl)]
      rfl
    · intro e sz sl sh R I J l k hl he hS h hk
      obtain ⟨e, rfl⟩ : ∃ m, e = m + 2 := ⟨e - 2, by omega⟩
      obtain ⟨I', a1, a2⟩ := gm (e + 1) sz sl sh R _ J l k hl (by omega) hS h.up (by omega)
      refine ⟨_, ?_, a2.wrap⟩
      show ev X (e + 2) 173 _ _ = _
      rw [hmm e sz sl sh R I I' J l k hS h a1, t173_158 hS, if_pos okn_0]
      exact m_end hS (eM.t h.up a2) ho
  | true =>
    obtain ⟨v, hv⟩ := gs rfl
    refine ⟨true, p1, cx ++ ([0] ++ [20061]), cm ++ [13], by omega, g2, by rw [List.length_append]; show cx.length + 2 ≤ _; omega, by rw [List.length_append]; show cm.length + 1 ≤ _; omega, ?_, ?_, fun _ => ⟨_, hv.not⟩⟩
    · intro e sz sl sh R I J k he hS h hk
      obtain ⟨e, rfl⟩ : ∃ m, e = m + 3 := ⟨e - 3, by omega⟩
      have t1 := eX.go (p' := p + 1) h
      obtain ⟨I', a1, a2⟩ := gx (e + 1) sz sl sh R _ J k (by omega) hS (eX.t h t1) (by omega)
      have t2 := eX.t (eX.t h t1) a2
      have t3 := eX.one (c := 0) t2
      have t4 := eX.t t2 t3
      refine ⟨_, hx (e + 1) sz sl sh R I J k _ hS h ?_, t1.trans (a2.trans (t3.trans (eX.one (c := 20061) t4)))⟩
      rw [n52, t52_0 hS]
      refine (ob_of a1).trans ?_
      show exe X (e + 1) 52 5 _ [.int _] _ = _
      rw [t52_5 hS, if_pos (by decide), k_0, s_emit hS t2 (by show k + cx.length < 241; omega), ob_s]
      show exe X (e + 1) 52 15 _ [] _ = _
      rw [t52_15 hS, k_20061, s_emit hS t4 (by show k + cx.length + 1 < 241; omega), ob_s]
      show exe X (e + 1) 52 22 _ [] _ = _
      rw [t52_22]
      rfl
    · intro e sz sl sh R I J l k hl he hS h hk
      obtain ⟨e, rfl⟩ : ∃ m, e = m + 2 := ⟨e - 2, by omega⟩
      obtain ⟨I', a1, a2⟩ := gm (e + 1) sz sl sh R _ J l k hl (by omega) hS h.up (by omega)
      have t2 := eM.t h.up a2
      have t3 := eM.one (c := 13) t2
      refine ⟨_, ?_, (a2.trans t3).wrap⟩
      show ev X (e + 2) 173 _ _ = _
      rw [hmm e sz sl sh R I I' J l k hS h a1, t173_158 hS, if_neg (by decide), if_neg (by decide), if_neg (fun z => z rfl), show (13 : Int32) = Int32.ofNat 13 from rfl, s_emits hS t2 hl (by show k + cm.length < 200; omega), ob_s]
      exact m_end (b := true) hS (eM.t t2 t3) ho
theorem p_neg (hn : nt ≤ 120) (ho : o < 6) (hN : 3 ≤ N) (hc : ∀ p, p ≤ nt → PP T nt N (fun e H => ev X e 45 [.ref 2, .int (Int32.ofNat (o + 1))] H) (fun e H => ev X e 173 [.ref 37] H) (o + 1) p) {p : Nat} (hp : p < nt) (hq : T p = 45) : PP T nt (N + 2) (fun e H => ev X e 45 [.ref 2, .int (Int32.ofNat o)] H) (fun e H => ev X e 173 [.ref 37] H) o p := by
  have hd : ¬ (p < nt ∧ 48 ≤ T p ∧ T p ≤ 57) := by omega
  have hm : ¬ (p < nt ∧ nmi (T p) < 7) := fun z => by have := nmi_c z.2; omega
  have hb : p < nt ∧ (T p = 40 ∨ T p = 33 ∨ T p = 45) := ⟨hp, Or.inr (Or.inr hq)⟩
  have sv : sgv T nt p = 45 := sg_is hp hq
  obtain ⟨ok, p1, cx, cm, g1, g2, g3, g4, gx, gm, gs⟩ := hc (p + 1) (by omega)
  have hx : ∀ (e sz sl : Nat) (sh : Nat → Nat × Nat) (R : Nat → Nat → Option Nat) (I : Nat → Nat → Int32) (J : Nat → Nat → Int64) (k : Nat) (H' : HP), SF sh R → tX T nt I p k → (ev X (e + 1) 53 [.ref 2, .int (Int32.ofNat (o + 1))] (sz, sl, sh, R, u2 I 2 4 (Int32.ofNat (p + 1)), J) = some (some (.int (okn ok)), H')) → ev X (e + 2) 45 [.ref 2, .int (Int32.ofNat o)] (sz, sl, sh, R, I, J) = some (some (.int (okn ok)), H') := by
    intro e sz sl sh R I J k H' hS h run
    obtain ⟨sz', sl', sh', R', I', J'⟩ := H'
    rw [x_front hS h (by omega) hd hm, if_pos hb, t45_67 hS, if_pos (by rw [k_6, n_lt (by omega) (by decide)]; exact ho), if_neg (by rw [sv]; decide), if_neg (by rw [sv]; decide), n_suc, h.2.2.2.1, n_suc, run, ob_s]
    show exe X (e + 1) 45 135 _ [.int _] _ = _
    rw [t45_135, if_pos okn_or]
  have hmm : ∀ (e sz sl : Nat) (sh : Nat → Nat × Nat) (R : Nat → Nat → Option Nat) (I I1 : Nat → Nat → Int32) (J : Nat → Nat → Int64) (l k : Nat), SF sh R → tM T nt I l o p k → ev X (e + 1) 173 [.ref 37] (sz, sl, sh, R, u2 (u2 I 37 37 (Int32.ofNat (o + 1))) 37 36 (Int32.ofNat (p + 1)), J) = some (some (.int (okn ok)), (sz, sl, sh, R, I1, J)) → ev X (e + 2) 173 [.ref 37] (sz, sl, sh, R, I, J) = exe X (e + 1) 173 158 [.ref 37, .int 45, .int (okn ok)] [] (sz, sl, sh, R, I1, J) := by
    intro e sz sl sh R I I1 J l k hS h run
    rw [m_front hS h (by omega) hd hm, if_pos hb, t173_66 hS, h.2.2.2.2.1, if_pos (by rw [k_6, n_eq (by omega) (by decide)]; omega), if_pos (by rw [sv]; decide), n_suc, h.2.2.2.1, n_suc, run, ob_s, sv]
    show exe X (e + 1) 173 114 _ [.int _] _ = _
    rw [t173_114 hS]
    by_cases z : okn ok = 0
    · rw [if_pos z]
    · rw [if_neg z, if_pos (by decide)]
  cases ok with
  | false =>
    refine ⟨false, p1, [0] ++ cx, cm, by omega, g2, by rw [List.length_append]; show 1 + cx.length ≤ _; omega, by omega, ?_, ?_, fun z => Bool.noConfusion z⟩
    · intro e sz sl sh R I J k he hS h hk
      obtain ⟨e, rfl⟩ : ∃ m, e = m + 3 := ⟨e - 3, by omega⟩
      have t1 := eX.go (p' := p + 1) h
      have t2 := eX.one (c := 0) (eX.t h t1)
      obtain ⟨I', a1, a2⟩ := gx (e + 1) sz sl sh R _ J (k + 1) (by omega) hS (eX.t (eX.t h t1) t2) (by omega)
      refine ⟨I', hx (e + 1) sz sl sh R I J k _ hS h ?_, t1.trans (t2.trans a2)⟩
      rw [n53, t53_0 hS, k_0, s_emit hS (eX.t h t1) (by show k < 241; omega), ob_s]
      show exe X (e + 1) 53 5 _ [] _ = _
      rw [t53_5 hS]
      refine (ob_of a1).trans ?_
      show exe X (e + 1) 53 10 _ [.int _] _ = _
      rw [t53_10 hS, if_neg (fun z => z rfl)]
      rfl
    · intro e sz sl sh R I J l k hl he hS h hk
      obtain ⟨e, rfl⟩ : ∃ m, e = m + 2 := ⟨e - 2, by omega⟩
      obtain ⟨I', a1, a2⟩ := gm (e + 1) sz sl sh R _ J l k hl (by omega) hS h.up (by omega)
      refine ⟨_, ?_, a2.wrap⟩
      show ev X (e + 2) 173 _ _ = _
      rw [hmm e sz sl sh R I I' J l k hS h a1, t173_158 hS, if_pos okn_0]
      exact m_end hS (eM.t h.up a2) ho
  | true =>
    obtain ⟨v, hv⟩ := gs rfl
    refine ⟨true, p1, [0] ++ (cx ++ [20045]), cm ++ [19], by omega, g2, by rw [List.length_append, List.length_append]; show 1 + (cx.length + 1) ≤ _; omega, by rw [List.length_append]; show cm.length + 1 ≤ _; omega, ?_, ?_, fun _ => ⟨_, hv.neg⟩⟩
    · intro e sz sl sh R I J k he hS h hk
      obtain ⟨e, rfl⟩ : ∃ m, e = m + 3 := ⟨e - 3, by omega⟩
      have t1 := eX.go (p' := p + 1) h
      have t2 := eX.one (c := 0) (eX.t h t1)
      obtain ⟨I', a1, a2⟩ := gx (e + 1) sz sl sh R _ J (k + 1) (by omega) hS (eX.t (eX.t h t1) t2) (by omega)
      have t3 := eX.t (eX.t (eX.t h t1) t2) a2
      refine ⟨_, hx (e + 1) sz sl sh R I J k _ hS h ?_, t1.trans (t2.trans (a2.trans (eX.one (c := 20045) t3)))⟩
      rw [n53, t53_0 hS, k_0, s_emit hS (eX.t h t1) (by show k < 241; omega), ob_s]
      show exe X (e + 1) 53 5 _ [] _ = _
      rw [t53_5 hS]
      refine (ob_of a1).trans ?_
      show exe X (e + 1) 53 10 _ [.int _] _ = _
      rw [t53_10 hS, if_pos (by decide), k_20045, s_emit hS t3 (by show k + 1 + cx.length < 241; omega), ob_s]
      show exe X (e + 1) 53 22 _ [] _ = _
      rw [t53_22]
      rfl
    · intro e sz sl sh R I J l k hl he hS h hk
      obtain ⟨e, rfl⟩ : ∃ m, e = m + 2 := ⟨e - 2, by omega⟩
      obtain ⟨I', a1, a2⟩ := gm (e + 1) sz sl sh R _ J l k hl (by omega) hS h.up (by omega)
      have t2 := eM.t h.up a2
      have t3 := eM.one (c := 19) t2
      refine ⟨_, ?_, (a2.trans t3).wrap⟩
      show ev X (e + 2) 173 _ _ = _
      rw [hmm e sz sl sh R I I' J l k hS h a1, t173_158 hS, if_neg (by decide), if_neg (by decide), if_pos (by decide), k_19, s_emits hS t2 hl (by show k + cm.length < 200; omega), ob_s]
      exact m_end (b := true) hS (eM.t t2 t3) ho
theorem p_par (hn : nt ≤ 120) (h2 : ∀ j, j < nt → T j ≤ 255) (ho : o < 6) (hN : 3 ≤ N) (hc : ∀ p, p ≤ nt → PP T nt N (fun e H => ev X e 44 [.ref 2, .int (Int32.ofNat 0), .int (Int32.ofNat (o + 1))] H) (fun e H => ev X e 168 [.ref 37] H) (o + 1) p) {p : Nat} (hp : p < nt) (hq : T p = 40) : PP T nt (N + 2) (fun e H => ev X e 45 [.ref 2, .int (Int32.ofNat o)] H) (fun e H => ev X e 173 [.ref 37] H) o p := by
  have hd : ¬ (p < nt ∧ 48 ≤ T p ∧ T p ≤ 57) := by omega
  have hm : ¬ (p < nt ∧ nmi (T p) < 7) := fun z => by have := nmi_c z.2; omega
  have hb : p < nt ∧ (T p = 40 ∨ T p = 33 ∨ T p = 45) := ⟨hp, Or.inl hq⟩
  have sv : sgv T nt p = 40 := sg_is hp hq
  obtain ⟨ok, p1, cx, cm, g1, g2, g3, g4, gx, gm, gs⟩ := hc (p + 1) (by omega)
  have hx : ∀ (e sz sl : Nat) (sh : Nat → Nat × Nat) (R : Nat → Nat → Option Nat) (I : Nat → Nat → Int32) (J : Nat → Nat → Int64) (k : Nat) (b : Bool) (sz' sl' : Nat) (sh' : Nat → Nat × Nat) (R' : Nat → Nat → Option Nat) (I' : Nat → Nat → Int32) (J' : Nat → Nat → Int64), SF sh R → tX T nt I p k → (ev X (e + 1) 51 [.ref 2, .int (Int32.ofNat (o + 1))] (sz, sl, sh, R, u2 I 2 4 (Int32.ofNat (p + 1)), J) = some (some (.int (okn b)), (sz', sl', sh', R', I', J'))) → ev X (e + 2) 45 [.ref 2, .int (Int32.ofNat o)] (sz, sl, sh, R, I, J) = some (some (.int (okn b)), (sz', sl', sh', R', I', J')) := by
    intro e sz sl sh R I J k b sz' sl' sh' R' I' J' hS h run
    rw [x_front hS h (by omega) hd hm, if_pos hb, t45_67 hS, if_pos (by rw [k_6, n_lt (by omega) (by decide)]; exact ho), if_neg (by rw [sv]; decide), if_pos sv, n_suc, h.2.2.2.1, n_suc, run, ob_s]
    show exe X (e + 1) 45 119 _ [.int _] _ = _
    rw [t45_119, if_pos okn_or]
  have hmm : ∀ (e sz sl : Nat) (sh : Nat → Nat × Nat) (R : Nat → Nat → Option Nat) (I I1 : Nat → Nat → Int32) (J : Nat → Nat → Int64) (l k : Nat), SF sh R → tM T nt I l o p k → ev X (e + 1) 168 [.ref 37] (sz, sl, sh, R, u2 (u2 I 37 37 (Int32.ofNat (o + 1))) 37 36 (Int32.ofNat (p + 1)), J) = some (some (.int (okn ok)), (sz, sl, sh, R, I1, J)) → ev X (e + 2) 173 [.ref 37] (sz, sl, sh, R, I, J) = exe X (e + 1) 173 114 [.ref 37, .int 40, dm] [.int (okn ok)] (sz, sl, sh, R, I1, J) := by
    intro e sz sl sh R I I1 J l k hS h run
    rw [m_front hS h (by omega) hd hm, if_pos hb, t173_66 hS, h.2.2.2.2.1, if_pos (by rw [k_6, n_eq (by omega) (by decide)]; omega), if_neg (by rw [sv]; exact fun z => z rfl), n_suc, h.2.2.2.1, n_suc, run, ob_s, sv]
    show exe X (e + 1) 173 107 _ [.int _] _ = _
    rw [t173_107]
  cases ok with
  | false =>
    refine ⟨false, p1, cx, cm, by omega, g2, by omega, by omega, ?_, ?_, fun z => Bool.noConfusion z⟩
    · intro e sz sl sh R I J k he hS h hk
      obtain ⟨e, rfl⟩ : ∃ m, e = m + 2 := ⟨e - 2, by omega⟩
      have t1 := eX.go (p' := p + 1) h
      obtain ⟨I', a1, a2⟩ := gx e sz sl sh R _ J k (by omega) hS (eX.t h t1) (by omega)
      refine ⟨I', hx e sz sl sh R I J k false _ _ _ _ _ _ hS h ?_, t1.trans a2⟩
      rw [n51, t51_0 hS]
      refine (ob_of a1).trans ?_
      show exe X e 51 6 _ [.int _] _ = _
      rw [t51_6 hS, if_pos okn_0]
      rfl
    · intro e sz sl sh R I J l k hl he hS h hk
      obtain ⟨e, rfl⟩ : ∃ m, e = m + 2 := ⟨e - 2, by omega⟩
      obtain ⟨I', a1, a2⟩ := gm (e + 1) sz sl sh R _ J l k hl (by omega) hS h.up (by omega)
      refine ⟨_, ?_, a2.wrap⟩
      show ev X (e + 2) 173 _ _ = _
      rw [hmm e sz sl sh R I I' J l k hS h a1, t173_114 hS, if_pos okn_0, t173_158 hS, if_pos okn_0]
      exact m_end (b := false) hS (eM.t h.up a2) ho
  | true =>
    obtain ⟨v, hv⟩ := gs rfl
    by_cases q : p1 < nt ∧ T p1 = 41
    · have sv1 : sgv T nt p1 = 41 := sg_is q.1 q.2
      refine ⟨true, p1 + 1, cx, cm, by omega, by omega, by omega, by omega, ?_, ?_, fun _ => ⟨_, hv⟩⟩
      · intro e sz sl sh R I J k he hS h hk
        obtain ⟨e, rfl⟩ : ∃ m, e = m + 3 := ⟨e - 3, by omega⟩
        have t1 := eX.go (p' := p + 1) h
        obtain ⟨I', a1, a2⟩ := gx (e + 1) sz sl sh R _ J k (by omega) hS (eX.t h t1) (by omega)
        have t2 := eX.t (eX.t h t1) a2
        have tt := a2.trans (eX.go (p' := p1 + 1) t2)
        rw [List.append_nil] at tt
        refine ⟨_, hx (e + 1) sz sl sh R I J k true _ _ _ _ _ _ hS h ?_, t1.trans tt⟩
        rw [n51, t51_0 hS]
        refine (ob_of a1).trans ?_
        show exe X (e + 1) 51 6 _ [.int _] _ = _
        rw [t51_6 hS, if_neg (by decide), s_sign hS t2 g2, ob_s]
        show exe X (e + 1) 51 13 _ [.int _] _ = _
        rw [t51_13 hS, if_pos sv1, t2.2.2.2.1, n_suc]
        rfl
      · intro e sz sl sh R I J l k hl he hS h hk
        obtain ⟨e, rfl⟩ : ∃ m, e = m + 2 := ⟨e - 2, by omega⟩
        obtain ⟨I', a1, a2⟩ := gm (e + 1) sz sl sh R _ J l k hl (by omega) hS h.up (by omega)
        have t2 := eM.t h.up a2
        have t3 := eM.go (p' := p1 + 1) t2
        have tt := a2.trans t3
        rw [List.append_nil] at tt
        refine ⟨_, ?_, tt.wrap⟩
        show ev X (e + 2) 173 _ _ = _
        rw [hmm e sz sl sh R I I' J l k hS h a1, t173_114 hS, if_neg (by decide), if_neg (fun z => z rfl), s_here hS t2 g2, ob_s]
        show exe X (e + 1) 173 129 _ [.int _] _ = _
        rw [t173_129, if_neg (fun z => z sv1), t173_139 hS, if_neg (by decide), t173_158 hS, if_neg (by decide), if_pos rfl, t2.2.2.2.1, n_suc]
        exact m_end (b := true) hS (eM.t t2 t3) ho
    · have sv1 : ¬ sgv T nt p1 = 41 := by
        rw [show (41 : Int32) = Int32.ofNat 41 from rfl, sgv_eq h2 (by decide)]
        exact q
      refine ⟨false, p1, cx, cm, by omega, g2, by omega, by omega, ?_, ?_, fun z => Bool.noConfusion z⟩
      · intro e sz sl sh R I J k he hS h hk
        obtain ⟨e, rfl⟩ : ∃ m, e = m + 3 := ⟨e - 3, by omega⟩
        have t1 := eX.go (p' := p + 1) h
        obtain ⟨I', a1, a2⟩ := gx (e + 1) sz sl sh R _ J k (by omega) hS (eX.t h t1) (by omega)
        have t2 := eX.t (eX.t h t1) a2
        refine ⟨_, hx (e + 1) sz sl sh R I J k false _ _ _ _ _ _ hS h ?_, t1.trans a2⟩
        rw [n51, t51_0 hS]
        refine (ob_of a1).trans ?_
        show exe X (e + 1) 51 6 _ [.int _] _ = _
        rw [t51_6 hS, if_neg (by decide), s_sign hS t2 g2, ob_s]
        show exe X (e + 1) 51 13 _ [.int _] _ = _
        rw [t51_13 hS, if_neg sv1]
        rfl
      · intro e sz sl sh R I J l k hl he hS h hk
        obtain ⟨e, rfl⟩ : ∃ m, e = m + 2 := ⟨e - 2, by omega⟩
        obtain ⟨I', a1, a2⟩ := gm (e + 1) sz sl sh R _ J l k hl (by omega) hS h.up (by omega)
        have t2 := eM.t h.up a2
        have t3 := eM.go (p' := p1) t2
        have tt := a2.trans t3
        rw [List.append_nil] at tt
        refine ⟨_, ?_, tt.wrap⟩
        show ev X (e + 2) 173 _ _ = _
        rw [hmm e sz sl sh R I I' J l k hS h a1, t173_114 hS, if_neg (by decide), if_neg (fun z => z rfl), s_here hS t2 g2, ob_s]
        show exe X (e + 1) 173 129 _ [.int _] _ = _
        rw [t173_129, if_pos sv1, t173_139 hS, if_pos rfl, t173_158 hS, if_pos rfl, t2.2.2.2.1, Int32.add_zero]
        exact m_end (b := false) hS (eM.t t2 t3) ho
theorem PP.mono {M : Nat} {rx rm : Nat → HP → Option Rs} {p : Nat} (h : N ≤ M) (q : PP T nt N rx rm o p) : PP T nt M rx rm o p := by
  obtain ⟨ok, p1, cx, cm, g1, g2, g3, g4, gx, gm, gs⟩ := q
  exact ⟨ok, p1, cx, cm, g1, g2, g3, g4, fun e sz sl sh R I J k he => gx e sz sl sh R I J k (by omega), fun e sz sl sh R I J l k hl he => gm e sz sl sh R I J l k hl (by omega), gs⟩
/-- all levels over an operand -/
theorem p_all (hn : nt ≤ 120) (hN : 3 ≤ N) (hc : ∀ p, p ≤ nt → PP T nt N (fun e H => ev X e 45 [.ref 2, .int (Int32.ofNat o)] H) (fun e H => ev X e 173 [.ref 37] H) o p) (p : Nat) (hp : p ≤ nt) : PP T nt (N + 6) (fun e H => ev X e 44 [.ref 2, .int (Int32.ofNat 0), .int (Int32.ofNat o)] H) (fun e H => ev X e 168 [.ref 37] H) o p := by
  have c5 : ∀ p, p ≤ nt → PP T nt (N + 1) (fun e H => ev X e 44 [.ref 2, .int (Int32.ofNat (4 + 1)), .int (Int32.ofNat o)] H) (fun e H => ev X e 173 [.ref 37] H) o p := by
    intro p hp
    obtain ⟨ok, p1, cx, cm, g1, g2, g3, g4, gx, gm, gs⟩ := hc p hp
    refine ⟨ok, p1, cx, cm, g1, g2, g3, g4, ?_, fun e sz sl sh R I J l k hl he => gm e sz sl sh R I J l k hl (by omega), gs⟩
    intro e sz sl sh R I J k he hS h hk
    obtain ⟨e, rfl⟩ : ∃ m, e = m + 1 := ⟨e - 1, by omega⟩
    obtain ⟨I', a1, a2⟩ := gx e sz sl sh R I J k (by omega) hS h hk
    refine ⟨I', ?_, a2⟩
    show ev X (e + 1) 44 _ _ = _
    rw [n44, t44_0 hS, if_neg (by decide)]
    refine (ob_of a1).trans ?_
    show exe X e 44 10 _ [.int _] _ = _
    rw [t44_10, if_pos okn_or]
  exact p_readsAll (by omega) hn (p_readsAnd (by omega) hn (p_readsLess (by omega) hn (p_readsSum (by omega) hn (p_readsTimes (by omega) hn c5)))) p hp
theorem p_op (X : XX) (hn : nt ≤ 120) (h2 : ∀ j, j < nt → T j ≤ 255) : ∀ (u o : Nat), o + u = 6 → ∀ p, p ≤ nt → PP T nt (8 * u + 3) (fun e H => ev X e 45 [.ref 2, .int (Int32.ofNat o)] H) (fun e H => ev X e 173 [.ref 37] H) o p
  | 0, o, ho, p, hp => p_easy X hn h2 (by omega) (by omega) hp (by omega)
  | u + 1, o, ho, p, hp => by
    have ih := p_op X hn h2 u (o + 1) (by omega)
    by_cases q : p < nt ∧ (T p = 40 ∨ T p = 33 ∨ T p = 45)
    · rcases q with ⟨q1, q2 | q2 | q2⟩
      · exact (p_par hn h2 (by omega) (by omega) (p_all hn (by omega) ih) q1 q2).mono (by omega)
      · exact (p_not hn (by omega) (by omega) ih q1 q2).mono (by omega)
      · exact (p_neg hn (by omega) (by omega) ih q1 q2).mono (by omega)
    · exact p_easy X hn h2 (by omega) (by omega) hp (by omega)
/-- a line's reading -/
theorem p_top (X : XX) (hn : nt ≤ 120) (h2 : ∀ j, j < nt → T j ≤ 255) : ∀ p, p ≤ nt → PP T nt 57 (fun e H => ev X e 44 [.ref 2, .int (Int32.ofNat 0), .int (Int32.ofNat 0)] H) (fun e H => ev X e 168 [.ref 37] H) 0 p := p_all hn (by omega) (p_op X hn h2 6 0 rfl)
end DEEPER
