/-! LAW: lines -/
section LINES
variable {X : XX} {T : Nat → Nat} {nt : Nat}
theorem p_line (X : XX) (hn : nt ≤ 120) (h2 : ∀ j, j < nt → T j ≤ 255) {p : Nat} (hp : p ≤ nt) : ∃ (ok : Bool) (p' : Nat) (cx cm : List Nat), p ≤ p' ∧ p' ≤ nt ∧ cx.length ≤ 2 * (p' - p) + 1 ∧ cm.length ≤ (p' - p) + 1 ∧ GX T nt p 58 (fun e H => ev X e 43 [.ref 2] H) (some (.int (okn ok))) p' cx ∧ GM T nt 0 p 58 (fun e H => ev X e 167 [.ref 37] H) (some (.int (okn ok))) p' cm ∧ (ok = true → ∃ ln : LN, wfl ln ∧ lx ln = cx ∧ lm ln = cm) := by
  obtain ⟨ok, p1, cx, cm, g1, g2, g3, g4, gx, gm, gs⟩ := p_top X hn h2 p hp
  have hx0 : ∀ (e sz sl : Nat) (sh : Nat → Nat × Nat) (R : Nat → Nat → Option Nat) (I I' : Nat → Nat → Int32) (J : Nat → Nat → Int64), SF sh R → ev X e 44 [.ref 2, .int (Int32.ofNat 0), .int (Int32.ofNat 0)] (sz, sl, sh, R, I, J) = some (some (.int (okn ok)), (sz, sl, sh, R, I', J)) → ev X (e + 1) 43 [.ref 2] (sz, sl, sh, R, I, J) = exe X e 43 6 [.ref 2] [.int (okn ok)] (sz, sl, sh, R, I', J) := by
    intro e sz sl sh R I I' J hS run
    rw [n43, t43_0 hS]
    exact ob_of run
  have hm0 : ∀ (e sz sl : Nat) (sh : Nat → Nat × Nat) (R : Nat → Nat → Option Nat) (I I' : Nat → Nat → Int32) (J : Nat → Nat → Int64), SF sh R → ev X e 168 [.ref 37] (sz, sl, sh, R, I, J) = some (some (.int (okn ok)), (sz, sl, sh, R, I', J)) → ev X (e + 1) 167 [.ref 37] (sz, sl, sh, R, I, J) = exe X e 167 4 [.ref 37, dm] [.int (okn ok)] (sz, sl, sh, R, I', J) := by
    intro e sz sl sh R I I' J hS run
    rw [n167, t167_0 hS]
    exact ob_of run
  cases ok with
  | false =>
    refine ⟨false, p1, cx, cm, g1, g2, by omega, by omega, ?_, ?_, fun z => Bool.noConfusion z⟩
    · intro e sz sl sh R I J k he hS h hk
      obtain ⟨e, rfl⟩ : ∃ m, e = m + 1 := ⟨e - 1, by omega⟩
      obtain ⟨I', a1, a2⟩ := gx e sz sl sh R I J k (by omega) hS h hk
      refine ⟨I', ?_, a2⟩
      show ev X (e + 1) 43 _ _ = _
      rw [hx0 e sz sl sh R I I' J hS a1, t43_6 hS, if_neg (fun z => z rfl)]
      rfl
    · intro e sz sl sh R I J l k hl he hS h hk
      obtain ⟨e, rfl⟩ : ∃ m, e = m + 1 := ⟨e - 1, by omega⟩
      obtain ⟨I', a1, a2⟩ := gm e sz sl sh R I J l k hl (by omega) hS h hk
      refine ⟨I', ?_, a2⟩
      show ev X (e + 1) 167 _ _ = _
      rw [hm0 e sz sl sh R I I' J hS a1, t167_4 hS, if_neg (fun z => z rfl)]
      rfl
  | true =>
    obtain ⟨v, hv⟩ := gs rfl
    have e63 : (sgv T nt p1 = 63) = (p1 < nt ∧ T p1 = 63) := sgv_eq h2 (c := 63) (by decide)
    by_cases q : p1 < nt ∧ T p1 = 63
    · obtain ⟨ok2, p2, cx2, cm2, r1, r2, r3, r4, rx, rm, rs⟩ := p_top X hn h2 (p1 + 1) (by omega)
      have hmm : GM T nt 0 p 58 (fun e H => ev X e 167 [.ref 37] H) (some (.int (okn ok2))) p2 (cm ++ ([41] ++ (cm2 ++ [42]))) := by
        intro e sz sl sh R I J l k hl he hS h hk
        obtain ⟨e, rfl⟩ : ∃ m, e = m + 2 := ⟨e - 2, by omega⟩
        obtain ⟨I', a1, a2⟩ := gm (e + 1) sz sl sh R I J l k hl (by omega) hS h hk
        have t0 := eM.t h a2
        have t1 := eM.go (p' := p1 + 1) t0
        have t2 := eM.one (c := 41) (eM.t t0 t1)
        have t3 := eM.t (eM.t t0 t1) t2
        obtain ⟨I2, b1, b2⟩ := rm (e + 1) sz sl sh R _ J l _ hl (by omega) hS t3 (by show k + cm.length + 1 ≤ _; omega)
        have t4 := eM.t t3 b2
        refine ⟨_, ?_, a2.trans (t1.trans (t2.trans (b2.trans (eM.one (c := 42) t4))))⟩
        show ev X (e + 1 + 1) 167 _ _ = _
        rw [hm0 (e + 1) sz sl sh R I I' J hS a1, t167_4 hS, if_pos (by decide), s_here hS t0 g2, ob_s]
        show exe X (e + 1) 167 13 _ [.int _] _ = _
        rw [t167_13 hS, if_pos (by rw [e63]; exact q), t0.2.2.2.1, n_suc, k_41, s_emits hS (eM.t t0 t1) hl (by show k + cm.length < 200; omega), ob_s]
        show exe X (e + 1) 167 42 _ [] _ = _
        rw [t167_42 hS]
        refine (ob_of b1).trans ?_
        show exe X (e + 1) 167 46 _ [.int _] _ = _
        rw [t167_46 hS, k_42, s_emits hS t4 hl (by show k + cm.length + 1 + cm2.length < 200; omega), ob_s]
        show exe X (e + 1) 167 53 _ [] _ = _
        rw [t167_53, if_pos okn_or]
      have hx1 : ∀ (e sz sl : Nat) (sh : Nat → Nat × Nat) (R : Nat → Nat → Option Nat) (I : Nat → Nat → Int32) (J : Nat → Nat → Int64) (k : Nat), 58 ≤ e + 2 → SF sh R → tX T nt I p k → k ≤ 2 * p → ∃ I', ev X (e + 2) 43 [.ref 2] (sz, sl, sh, R, I, J) = exe X (e + 1) 43 43 [.ref 2] [.int (okn ok2)] (sz, sl, sh, R, I', J) ∧ eX I I' k (cx ++ ([20063] ++ cx2)) p2 := by
        intro e sz sl sh R I J k he hS h hk
        obtain ⟨I', a1, a2⟩ := gx (e + 1) sz sl sh R I J k (by omega) hS h hk
        have t0 := eX.t h a2
        have t1 := eX.go (p' := p1 + 1) t0
        have t2 := eX.one (c := 20063) (eX.t t0 t1)
        have t3 := eX.t (eX.t t0 t1) t2
        obtain ⟨I2, b1, b2⟩ := rx (e + 1) sz sl sh R _ J _ (by omega) hS t3 (by show k + cx.length + 1 ≤ _; omega)
        refine ⟨I2, ?_, a2.trans (t1.trans (t2.trans b2))⟩
        rw [hx0 (e + 1) sz sl sh R I I' J hS a1, t43_6 hS, if_pos (by decide), s_sign hS t0 g2, ob_s]
        show exe X (e + 1) 43 15 _ [.int _] _ = _
        rw [t43_15 hS, if_neg (by rw [e63]; exact fun z => z q), t0.2.2.2.1, n_suc, k_20063, s_emit hS (eX.t t0 t1) (by show k + cx.length < 241; omega), ob_s]
        show exe X (e + 1) 43 37 _ [] _ = _
        rw [t43_37 hS]
        exact ob_of b1
      cases ok2 with
      | false =>
        refine ⟨false, p2, cx ++ ([20063] ++ cx2), cm ++ ([41] ++ (cm2 ++ [42])), by omega, r2, by rw [List.length_append, List.length_append]; show cx.length + (1 + cx2.length) ≤ _; omega, by rw [List.length_append, List.length_append, List.length_append]; show cm.length + (1 + (cm2.length + 1)) ≤ _; omega, ?_, hmm, fun z => Bool.noConfusion z⟩
        intro e sz sl sh R I J k he hS h hk
        obtain ⟨e, rfl⟩ : ∃ m, e = m + 2 := ⟨e - 2, by omega⟩
        obtain ⟨I', a1, a2⟩ := hx1 e sz sl sh R I J k he hS h hk
        refine ⟨I', ?_, a2⟩
        show ev X (e + 2) 43 _ _ = _
        rw [a1, t43_43 hS, if_neg (fun z => z rfl)]
        rfl
      | true =>
        obtain ⟨v2, hv2⟩ := rs rfl
        refine ⟨true, p2, (cx ++ ([20063] ++ cx2)) ++ [20059], cm ++ ([41] ++ (cm2 ++ [42])), by omega, r2, by rw [List.length_append, List.length_append, List.length_append]; show cx.length + (1 + cx2.length) + 1 ≤ _; omega, by rw [List.length_append, List.length_append, List.length_append]; show cm.length + (1 + (cm2.length + 1)) ≤ _; omega, ?_, hmm, fun _ => ⟨(some (cx, cm, v), (cx2, cm2, v2)), ⟨fun p hp => by cases hp; exact hv, hv2⟩, ?_, ?_⟩⟩
        · intro e sz sl sh R I J k he hS h hk
          obtain ⟨e, rfl⟩ : ∃ m, e = m + 2 := ⟨e - 2, by omega⟩
          obtain ⟨I', a1, a2⟩ := hx1 e sz sl sh R I J k he hS h hk
          have t3 := eX.t h a2
          refine ⟨_, ?_, a2.trans (eX.one (c := 20059) t3)⟩
          show ev X (e + 2) 43 _ _ = _
          rw [a1, t43_43 hS, if_pos (by decide), k_20059, s_emit hS t3 (by rw [List.length_append, List.length_append]; show k + (cx.length + (1 + cx2.length)) < 241; omega), ob_s]
          show exe X (e + 1) 43 55 _ [] _ = _
          rw [t43_55]
          rfl
        · show cx ++ [20063] ++ cx2 ++ [20059] = _
          rw [List.append_assoc cx]
        · show cm ++ [41] ++ cm2 ++ [42] = _
          rw [List.append_assoc, List.append_assoc]
    · refine ⟨true, p1, cx ++ [20059], cm ++ [40], g1, g2, by rw [List.length_append]; show cx.length + 1 ≤ _; omega, by rw [List.length_append]; show cm.length + 1 ≤ _; omega, ?_, ?_, fun _ => ⟨(none, (cx, cm, v)), ⟨fun p hp => (by cases hp), hv⟩, rfl, rfl⟩⟩
      · intro e sz sl sh R I J k he hS h hk
        obtain ⟨e, rfl⟩ : ∃ m, e = m + 2 := ⟨e - 2, by omega⟩
        obtain ⟨I', a1, a2⟩ := gx (e + 1) sz sl sh R I J k (by omega) hS h hk
        have t0 := eX.t h a2
        refine ⟨_, ?_, a2.trans (eX.one (c := 20059) t0)⟩
        show ev X (e + 1 + 1) 43 _ _ = _
        rw [hx0 (e + 1) sz sl sh R I I' J hS a1, t43_6 hS, if_pos (by decide), s_sign hS t0 g2, ob_s]
        show exe X (e + 1) 43 15 _ [.int _] _ = _
        rw [t43_15 hS, if_pos (by rw [e63]; exact q), k_20059, s_emit hS t0 (by show k + cx.length < 241; omega), ob_s]
        show exe X (e + 1) 43 55 _ [] _ = _
        rw [t43_55]
        rfl
      · intro e sz sl sh R I J l k hl he hS h hk
        obtain ⟨e, rfl⟩ : ∃ m, e = m + 2 := ⟨e - 2, by omega⟩
        obtain ⟨I', a1, a2⟩ := gm (e + 1) sz sl sh R I J l k hl (by omega) hS h hk
        have t0 := eM.t h a2
        refine ⟨_, ?_, a2.trans (eM.one (c := 40) t0)⟩
        show ev X (e + 1 + 1) 167 _ _ = _
        rw [hm0 (e + 1) sz sl sh R I I' J hS a1, t167_4 hS, if_pos (by decide), s_here hS t0 g2, ob_s]
        show exe X (e + 1) 167 13 _ [.int _] _ = _
        rw [t167_13 hS, if_neg (by rw [e63]; exact q), k_40, s_emits hS t0 hl (by show k + cm.length < 200; omega), ob_s]
        show exe X (e + 1) 167 24 _ [] _ = _
        rw [t167_24]
        rfl
/-- the lines behind the first -/
theorem p_lines (X : XX) (hn : nt ≤ 120) (h2 : ∀ j, j < nt → T j ≤ 255) : ∀ (f p n : Nat), nt ≤ p + f → n ≤ p → p ≤ nt → ∃ (ok : Bool) (p' : Nat) (cx cm : List Nat), p ≤ p' ∧ p' ≤ nt ∧ cx.length ≤ 2 * (p' - p) ∧ cm.length ≤ p' - p ∧
    (∀ (e sz sl : Nat) (sh : Nat → Nat × Nat) (R : Nat → Nat → Option Nat) (I : Nat → Nat → Int32) (J : Nat → Nat → Int64) (k : Nat), 58 ≤ e → SF sh R → tX T nt I p k → k ≤ 2 * p + 1 → ∃ I', exe X e 42 17 [.ref 2, .int 1, .int (Int32.ofNat n)] [] (sz, sl, sh, R, I, J) = exe X e 42 57 [.ref 2, .int (okn ok), dm] [] (sz, sl, sh, R, I', J) ∧ eX I I' k cx p') ∧
    (∀ (e sz sl : Nat) (sh : Nat → Nat × Nat) (R : Nat → Nat → Option Nat) (I : Nat → Nat → Int32) (J : Nat → Nat → Int64) (l k : Nat), l < 4 → 58 ≤ e → SF sh R → tM T nt I l 0 p k → k ≤ p + 1 → ∃ I', exe X e 166 25 [.ref 37, .int (Int32.ofNat l), .int 1] [] (sz, sl, sh, R, I, J) = exe X e 166 56 [.ref 37, .int (Int32.ofNat l), .int (okn ok)] [] (sz, sl, sh, R, I', J) ∧ eM I I' l 0 k cm p') ∧
    (ok = true → ∃ Tl : List LN, (∀ q, q ∈ Tl → wfl q) ∧ tx Tl = cx ∧ tm Tl = cm)
  | f, p, n, hf, hnp, hp => by
    have e59 : (sgv T nt p = 59) = (p < nt ∧ T p = 59) := sgv_eq h2 (c := 59) (by decide)
    by_cases q : p < nt ∧ T p = 59
    · obtain ⟨f, rfl⟩ : ∃ m, f = m + 1 := ⟨f - 1, by omega⟩
      obtain ⟨ok, p1, cx, cm, g1, g2, g3, g4, gx, gm, gs⟩ := p_line X hn h2 (p := p + 1) (by omega)
      have hx0 : ∀ (e sz sl : Nat) (sh : Nat → Nat × Nat) (R : Nat → Nat → Option Nat) (I I' : Nat → Nat → Int32) (J : Nat → Nat → Int64) (k : Nat), SF sh R → tX T nt I p k → ev X (e + 1) 43 [.ref 2] (sz, sl, sh, R, u2 I 2 4 (Int32.ofNat (p + 1)), J) = some (some (.int (okn ok)), (sz, sl, sh, R, I', J)) → exe X (e + 1) 42 17 [.ref 2, .int 1, .int (Int32.ofNat n)] [] (sz, sl, sh, R, I, J) = exe X (e + 1) 42 17 [.ref 2, .int (okn ok), .int (Int32.ofNat (n + 1))] [] (sz, sl, sh, R, I', J) := by
        intro e sz sl sh R I I' J k hS h run
        rw [t42_17 hS, if_neg (by rw [k_120, n_le (by decide) (by omega)]; omega), if_neg (by decide), s_sign hS h hp, ob_s]
        show exe X (e + 1) 42 31 _ [.int _] _ = _
        rw [t42_31 hS, if_neg (by rw [e59]; exact fun z => z q), h.2.2.2.1, n_suc, run, ob_s]
        show exe X (e + 1) 42 50 _ [.int _] _ = _
        rw [t42_50, n_suc]
      have hm0 : ∀ (e sz sl : Nat) (sh : Nat → Nat × Nat) (R : Nat → Nat → Option Nat) (I I' : Nat → Nat → Int32) (J : Nat → Nat → Int64) (l k : Nat), SF sh R → tM T nt I l 0 p k → ev X (e + 1) 167 [.ref 37] (sz, sl, sh, R, u2 I 37 36 (Int32.ofNat (p + 1)), J) = some (some (.int (okn ok)), (sz, sl, sh, R, I', J)) → exe X (e + 1) 166 25 [.ref 37, .int (Int32.ofNat l), .int 1] [] (sz, sl, sh, R, I, J) = exe X (e + 1) 166 25 [.ref 37, .int (Int32.ofNat l), .int (okn ok)] [] (sz, sl, sh, R, I', J) := by
        intro e sz sl sh R I I' J l k hS h run
        rw [t166_25 hS, if_neg (by decide), s_here hS h hp, ob_s]
        show exe X (e + 1) 166 33 _ [.int _] _ = _
        rw [t166_33 hS, if_neg (by rw [e59]; exact fun z => z q), h.2.2.2.1, n_suc, run, ob_s]
        show exe X (e + 1) 166 52 _ [.int _] _ = _
        rw [t166_52]
      cases ok with
      | false =>
        refine ⟨false, p1, cx, cm, by omega, g2, by omega, by omega, ?_, ?_, fun z => Bool.noConfusion z⟩
        · intro e sz sl sh R I J k he hS h hk
          obtain ⟨e, rfl⟩ : ∃ m, e = m + 1 := ⟨e - 1, by omega⟩
          have t1 := eX.go (p' := p + 1) h
          obtain ⟨I', a1, a2⟩ := gx (e + 1) sz sl sh R _ J k he hS (eX.t h t1) (by omega)
          refine ⟨I', ?_, t1.trans a2⟩
          rw [hx0 e sz sl sh R I I' J k hS h a1, t42_17 hS]
          by_cases hc : (120 : Int32) ≤ Int32.ofNat (n + 1)
          · rw [if_pos hc]
          · rw [if_neg hc, if_pos okn_0]
        · intro e sz sl sh R I J l k hl he hS h hk
          obtain ⟨e, rfl⟩ : ∃ m, e = m + 1 := ⟨e - 1, by omega⟩
          have t1 := eM.go (p' := p + 1) h
          obtain ⟨I', a1, a2⟩ := gm (e + 1) sz sl sh R _ J l k hl he hS (eM.t h t1) (by omega)
          refine ⟨I', ?_, t1.trans a2⟩
          rw [hm0 e sz sl sh R I I' J l k hS h a1, t166_25 hS, if_pos okn_0]
      | true =>
        obtain ⟨ln, hw, hlx, hlm⟩ := gs rfl
        obtain ⟨ok2, p2, cx2, cm2, r1, r2, r3, r4, rx, rm, rs⟩ := p_lines X hn h2 f p1 (n + 1) (by omega) (by omega) g2
        refine ⟨ok2, p2, cx ++ cx2, cm ++ cm2, by omega, r2, by rw [List.length_append]; omega, by rw [List.length_append]; omega, ?_, ?_, fun z => ?_⟩
        · intro e sz sl sh R I J k he hS h hk
          obtain ⟨e, rfl⟩ : ∃ m, e = m + 1 := ⟨e - 1, by omega⟩
          have t1 := eX.go (p' := p + 1) h
          obtain ⟨I', a1, a2⟩ := gx (e + 1) sz sl sh R _ J k he hS (eX.t h t1) (by omega)
          obtain ⟨I2, b1, b2⟩ := rx (e + 1) sz sl sh R _ J _ he hS (eX.t (eX.t h t1) a2) (by show k + cx.length ≤ _; omega)
          refine ⟨I2, ?_, t1.trans (a2.trans b2)⟩
          rw [hx0 e sz sl sh R I I' J k hS h a1]
          exact b1
        · intro e sz sl sh R I J l k hl he hS h hk
          obtain ⟨e, rfl⟩ : ∃ m, e = m + 1 := ⟨e - 1, by omega⟩
          have t1 := eM.go (p' := p + 1) h
          obtain ⟨I', a1, a2⟩ := gm (e + 1) sz sl sh R _ J l k hl he hS (eM.t h t1) (by omega)
          obtain ⟨I2, b1, b2⟩ := rm (e + 1) sz sl sh R _ J l _ hl he hS (eM.t (eM.t h t1) a2) (by show k + cm.length ≤ _; omega)
          refine ⟨I2, ?_, t1.trans (a2.trans b2)⟩
          rw [hm0 e sz sl sh R I I' J l k hS h a1]
          exact b1
        · obtain ⟨Tl, w1, w2, w3⟩ := rs z
          refine ⟨ln :: Tl, fun y hy => ?_, ?_, ?_⟩
          · rcases List.mem_cons.mp hy with z | z
            · rw [z]; exact hw
            · exact w1 y z
          · show lx ln ++ tx Tl = _
            rw [hlx, w2]
          · show lm ln ++ tm Tl = _
            rw [hlm, w3]
    · refine ⟨true, p, [], [], Nat.le_refl _, hp, by simp, by simp, ?_, ?_, fun _ => ⟨[], fun y hy => (List.not_mem_nil hy).elim, rfl, rfl⟩⟩
      · intro e sz sl sh R I J k he hS h hk
        obtain ⟨e, rfl⟩ : ∃ m, e = m + 1 := ⟨e - 1, by omega⟩
        refine ⟨I, ?_, eX.nil h⟩
        rw [t42_17 hS]
        by_cases hc : (120 : Int32) ≤ Int32.ofNat n
        · rw [if_pos hc]
          rfl
        · rw [if_neg hc, if_neg (by decide), s_sign hS h hp, ob_s]
          show exe X (e + 1) 42 31 _ [.int _] _ = _
          rw [t42_31 hS, if_pos (by rw [e59]; exact q)]
          rfl
      · intro e sz sl sh R I J l k hl he hS h hk
        obtain ⟨e, rfl⟩ : ∃ m, e = m + 1 := ⟨e - 1, by omega⟩
        refine ⟨I, ?_, eM.nil h⟩
        rw [t166_25 hS, if_neg (by decide), s_here hS h hp, ob_s]
        show exe X (e + 1) 166 33 _ [.int _] _ = _
        rw [t166_33 hS, if_pos (by rw [e59]; exact q)]
        rfl
end LINES
