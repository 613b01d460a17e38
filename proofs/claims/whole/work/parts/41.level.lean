/-! LAW: one level -/
section LEVEL
variable {X : XX} {T : Nat → Nat} {nt o a N : Nat} {mC mL : Nat} {LM : Nat → Int32 → HP → Option Rs}
theorem okn_1 : okn true = 1 := rfl
theorem okn_0 : okn false = 0 := rfl
theorem okn_or {b : Bool} : okn b = 0 ∨ okn b = 1 := by cases b <;> decide
theorem x_stop {e sz sl : Nat} {sh : Nat → Nat × Nat} {R : Nat → Nat → Option Nat} {I : Nat → Nat → Int32} {J : Nat → Nat → Int64} {p k m n : Nat} (hm : m ≤ 120) (hn : n ≤ 120) (hS : SF sh R) (h : tX T nt I p k) (hp : p ≤ nt) (ha : a < 5) (q : m ≤ n ∨ ¬ (p < nt ∧ lvn (T p) = a)) : exe X (e + 1) 44 39 [.ref 2, .int (Int32.ofNat a), .int (Int32.ofNat o), .int (Int32.ofNat m), .int (Int32.ofNat n), dm] [] (sz, sl, sh, R, I, J) = some (some (.int 1), (sz, sl, sh, R, I, J)) := by
  by_cases q0 : m ≤ n
  · rw [t44_39 hS, if_pos (by rw [n_le (by omega) (by omega)]; exact q0)]
  · rw [t44_39 hS, if_neg (by rw [n_le (by omega) (by omega)]; exact q0), s_sign hS h hp, ob_s]
    show exe X (e + 1) 44 49 _ [.int _] _ = _
    rw [t44_49, s_levelOf, ob_s]
    show exe X (e + 1) 44 52 _ [.int _] _ = _
    rw [t44_52 hS, if_pos (by rw [lvv_sg h.2.1 ha]; omega)]
theorem x_go {e sz sl : Nat} {sh : Nat → Nat × Nat} {R : Nat → Nat → Option Nat} {I I' : Nat → Nat → Int32} {J : Nat → Nat → Int64} {p k m n p1 k1 : Nat} {ok : Bool} (hm : m ≤ 120) (hn : n ≤ 120) (hS : SF sh R) (h : tX T nt I p k) (hp : p < nt) (ha : a < 5) (q : lvn (T p) = a) (hmn : n < m) (run : ev X (e + 1) 44 [.ref 2, .int (Int32.ofNat (a + 1)), .int (Int32.ofNat o)] (sz, sl, sh, R, u2 I 2 4 (Int32.ofNat (p + 1)), J) = some (some (.int (okn ok)), (sz, sl, sh, R, I', J))) (h' : tX T nt I' p1 k1) (hk : k1 < 241) : exe X (e + 1) 44 39 [.ref 2, .int (Int32.ofNat a), .int (Int32.ofNat o), .int (Int32.ofNat m), .int (Int32.ofNat n), dm] [] (sz, sl, sh, R, I, J) = if ok = true then exe X (e + 1) 44 39 [.ref 2, .int (Int32.ofNat a), .int (Int32.ofNat o), .int (Int32.ofNat m), .int (Int32.ofNat (n + 1)), dm] [] (sz, sl, sh, R, u2 (u2 I' 4 k1 (Int32.ofNat (20000 + T p))) 2 2 (Int32.ofNat (k1 + 1)), J) else some (some (.int 0), (sz, sl, sh, R, I', J)) := by
  rw [t44_39 hS, if_neg (by rw [n_le (by omega) (by omega)]; omega), s_sign hS h (by omega), ob_s]
  show exe X (e + 1) 44 49 _ [.int _] _ = _
  rw [t44_49, s_levelOf, ob_s]
  show exe X (e + 1) 44 52 _ [.int _] _ = _
  rw [t44_52 hS, if_neg (by rw [lvv_sg h.2.1 ha]; exact fun z => z ⟨hp, q⟩), s_sign hS h (by omega), ob_s]
  show exe X (e + 1) 44 60 _ [.int _] _ = _
  rw [t44_60 hS, h.2.2.2.1, n_suc, n_suc, run, ob_s]
  show exe X (e + 1) 44 80 _ [.int _] _ = _
  rw [t44_80 hS]
  cases ok with
  | false => rw [if_neg (fun z => z rfl), if_neg (by decide)]
  | true =>
    rw [if_pos (by decide), if_pos rfl, sgv_in hp, k_20000, n_add, s_emit hS h' hk, ob_s]
    show exe X (e + 1) 44 95 _ [] _ = _
    rw [t44_95, n_suc]
theorem lvlL (ha : a < 5) (hN : 1 ≤ N) (hn : nt ≤ 120)
    (hc : ∀ p, p ≤ nt → PP T nt N (fun e H => ev X e 44 [.ref 2, .int (Int32.ofNat (a + 1)), .int (Int32.ofNat o)] H) (fun e H => ev X e mC [.ref 37] H) o p)
    (m1 : ∀ (e sz sl : Nat) (sh : Nat → Nat × Nat) (R : Nat → Nat → Option Nat) (I : Nat → Nat → Int32) (J : Nat → Nat → Int64), SF sh R → LM e 0 (sz, sl, sh, R, I, J) = some (some (.int 0), (sz, sl, sh, R, I, J)))
    (m2 : ∀ (e sz sl : Nat) (sh : Nat → Nat × Nat) (R : Nat → Nat → Option Nat) (I : Nat → Nat → Int32) (J : Nat → Nat → Int64) (l k p : Nat), SF sh R → tM T nt I l o p k → p ≤ nt → ¬ (p < nt ∧ lvn (T p) = a) → LM (e + 1) 1 (sz, sl, sh, R, I, J) = some (some (.int 1), (sz, sl, sh, R, I, J)))
    (m3 : ∀ (e sz sl : Nat) (sh : Nat → Nat × Nat) (R : Nat → Nat → Option Nat) (I I' : Nat → Nat → Int32) (J : Nat → Nat → Int64) (l k p p1 k1 : Nat) (ok : Bool), l < 4 → SF sh R → tM T nt I l o p k → p < nt → lvn (T p) = a → ev X (e + 1) mC [.ref 37] (sz, sl, sh, R, u2 I 37 36 (Int32.ofNat (p + 1)), J) = some (some (.int (okn ok)), (sz, sl, sh, R, I', J)) → tM T nt I' l o p1 k1 → k1 < 200 → LM (e + 1) 1 (sz, sl, sh, R, I, J) = LM (e + 1) (okn ok) (sz, sl, sh, R, u2 (u2 I' 46 (200 * l + k1) (Int32.ofNat (oc (T p)))) 37 39 (Int32.ofNat (k1 + 1)), J)) :
    ∀ (f p n : Nat), nt ≤ p + f → n ≤ p → p ≤ nt → PL T nt N (fun e H => exe X e 44 39 [.ref 2, .int (Int32.ofNat a), .int (Int32.ofNat o), .int (Int32.ofNat 120), .int (Int32.ofNat n), dm] [] H) (fun e H => LM e 1 H) o p
  | f, p, n, hf, hnp, hp => by
    by_cases q : p < nt ∧ lvn (T p) = a
    · obtain ⟨f, rfl⟩ : ∃ m, f = m + 1 := ⟨f - 1, by omega⟩
      obtain ⟨ok, p1, cx, cm, g1, g2, g3, g4, gx, gm, gs⟩ := hc (p + 1) (by omega)
      have hop := lvn_op (c := T p) (by omega)
      cases ok with
      | false =>
        refine ⟨false, p1, cx, cm ++ [oc (T p)], by omega, g2, by omega, by rw [List.length_append]; show cm.length + 1 ≤ _; omega, ?_, ?_, fun z => Bool.noConfusion z⟩
        · intro e sz sl sh R I J k he hS h hk
          obtain ⟨e, rfl⟩ : ∃ m, e = m + 1 := ⟨e - 1, by omega⟩
          have t1 := eX.go (p' := p + 1) h
          obtain ⟨I', a1, a2⟩ := gx (e + 1) sz sl sh R _ J k he hS (eX.t h t1) (by omega)
          refine ⟨I', ?_, t1.trans a2⟩
          show exe X (e + 1) 44 39 _ [] _ = _
          rw [x_go (by decide) (by omega) hS h q.1 ha q.2 (by omega) a1 (eX.t (eX.t h t1) a2) (by show k + cx.length < 241; omega), if_neg (by decide)]
          rfl
        · intro e sz sl sh R I J l k hl he hS h hk
          obtain ⟨e, rfl⟩ : ∃ m, e = m + 1 := ⟨e - 1, by omega⟩
          have t1 := eM.go (p' := p + 1) h
          obtain ⟨I', a1, a2⟩ := gm (e + 1) sz sl sh R _ J l k hl he hS (eM.t h t1) (by omega)
          have t2 := eM.t (eM.t h t1) a2
          refine ⟨_, ?_, t1.trans (a2.trans (eM.one t2))⟩
          show LM (e + 1) 1 _ = _
          rw [m3 e sz sl sh R I I' J l k p p1 _ false hl hS h q.1 q.2 a1 t2 (by show k + cm.length < 200; omega)]
          exact m1 _ _ _ _ _ _ _ hS
      | true =>
        obtain ⟨v, hv⟩ := gs rfl
        obtain ⟨ok2, p2, cx2, cm2, r1, r2, r3, r4, rx, rm, rs⟩ := lvlL ha hN hn hc m1 m2 m3 f p1 (n + 1) (by omega) (by omega) g2
        refine ⟨ok2, p2, cx ++ ([20000 + T p] ++ cx2), cm ++ ([oc (T p)] ++ cm2), by omega, r2, ?_, ?_, ?_, ?_, fun z => ?_⟩
        · rw [List.length_append, List.length_append]
          show cx.length + (1 + cx2.length) ≤ _
          omega
        · rw [List.length_append, List.length_append]
          show cm.length + (1 + cm2.length) ≤ _
          omega
        · intro e sz sl sh R I J k he hS h hk
          obtain ⟨e, rfl⟩ : ∃ m, e = m + 1 := ⟨e - 1, by omega⟩
          have t1 := eX.go (p' := p + 1) h
          obtain ⟨I', a1, a2⟩ := gx (e + 1) sz sl sh R _ J k he hS (eX.t h t1) (by omega)
          have t2 := eX.t (eX.t h t1) a2
          have t3 := eX.one (c := 20000 + T p) t2
          obtain ⟨I2, b1, b2⟩ := rx (e + 1) sz sl sh R _ J _ he hS (eX.t t2 t3) (by show k + cx.length + 1 ≤ _; omega)
          refine ⟨I2, ?_, t1.trans (a2.trans (t3.trans b2))⟩
          show exe X (e + 1) 44 39 _ [] _ = _
          rw [x_go (by decide) (by omega) hS h q.1 ha q.2 (by omega) a1 t2 (by show k + cx.length < 241; omega), if_pos rfl]
          exact b1
        · intro e sz sl sh R I J l k hl he hS h hk
          obtain ⟨e, rfl⟩ : ∃ m, e = m + 1 := ⟨e - 1, by omega⟩
          have t1 := eM.go (p' := p + 1) h
          obtain ⟨I', a1, a2⟩ := gm (e + 1) sz sl sh R _ J l k hl he hS (eM.t h t1) (by omega)
          have t2 := eM.t (eM.t h t1) a2
          have t3 := eM.one (c := oc (T p)) t2
          obtain ⟨I2, b1, b2⟩ := rm (e + 1) sz sl sh R _ J l _ hl he hS (eM.t t2 t3) (by show k + cm.length + 1 ≤ _; omega)
          refine ⟨I2, ?_, t1.trans (a2.trans (t3.trans b2))⟩
          show LM (e + 1) 1 _ = _
          rw [m3 e sz sl sh R I I' J l k p p1 _ true hl hS h q.1 q.2 a1 t2 (by show k + cm.length < 200; omega)]
          exact b1
        · obtain ⟨w, hw⟩ := rs z
          exact ⟨_, wfr.op hop hv hw⟩
    · refine ⟨true, p, [], [], Nat.le_refl _, hp, by simp, by simp, ?_, ?_, fun _ => ⟨_, wfr.nil⟩⟩
      · intro e sz sl sh R I J k he hS h hk
        obtain ⟨e, rfl⟩ : ∃ m, e = m + 1 := ⟨e - 1, by omega⟩
        exact ⟨I, x_stop (by decide) (by omega) hS h hp ha (Or.inr q), eX.nil h⟩
      · intro e sz sl sh R I J l k hl he hS h hk
        obtain ⟨e, rfl⟩ : ∃ m, e = m + 1 := ⟨e - 1, by omega⟩
        exact ⟨I, m2 e sz sl sh R I J l k p hS h hp q, eM.nil h⟩
theorem x_level {e sz sl : Nat} {sh : Nat → Nat × Nat} {R : Nat → Nat → Option Nat} {I : Nat → Nat → Int32} {J : Nat → Nat → Int64} {H' : HP} {ok : Bool} {m : Nat} (hS : SF sh R) (ha : a < 5) (hm : m = if a = 2 then 1 else 120) (run : ev X e 44 [.ref 2, .int (Int32.ofNat (a + 1)), .int (Int32.ofNat o)] (sz, sl, sh, R, I, J) = some (some (.int (okn ok)), H')) : ev X (e + 1) 44 [.ref 2, .int (Int32.ofNat a), .int (Int32.ofNat o)] (sz, sl, sh, R, I, J) = if ok = true then exe X e 44 39 [.ref 2, .int (Int32.ofNat a), .int (Int32.ofNat o), .int (Int32.ofNat m), .int (Int32.ofNat 0), dm] [] H' else some (some (.int 0), H') := by
  rw [n44, t44_0 hS, if_pos (by rw [k_5, n_lt (by omega) (by decide)]; exact ha), n_suc, run, ob_s]
  show exe X e 44 19 _ [.int _] _ = _
  rw [t44_19]
  cases ok with
  | false => rw [if_neg (fun z => z rfl), if_neg (by decide)]
  | true =>
    rw [if_pos (by decide), if_pos rfl, hm]
    by_cases h2 : a = 2
    · subst h2
      rw [if_neg (fun z => z rfl), if_pos rfl]
      rfl
    · rw [if_pos (by rw [k_2, n_eq (by omega) (by decide)]; exact h2), if_neg h2]
      rfl
theorem lvl (ha : a < 5) (ha2 : a ≠ 2) (hN : 1 ≤ N) (hn : nt ≤ 120)
    (hc : ∀ p, p ≤ nt → PP T nt N (fun e H => ev X e 44 [.ref 2, .int (Int32.ofNat (a + 1)), .int (Int32.ofNat o)] H) (fun e H => ev X e mC [.ref 37] H) o p)
    (m0 : ∀ (e : Nat) (sz sl : Nat) (sh : Nat → Nat × Nat) (R : Nat → Nat → Option Nat) (I : Nat → Nat → Int32) (J : Nat → Nat → Int64) (ok : Bool) (H' : HP), SF sh R → ev X e mC [.ref 37] (sz, sl, sh, R, I, J) = some (some (.int (okn ok)), H') → ev X (e + 1) mL [.ref 37] (sz, sl, sh, R, I, J) = LM e (okn ok) H')
    (m1 : ∀ (e sz sl : Nat) (sh : Nat → Nat × Nat) (R : Nat → Nat → Option Nat) (I : Nat → Nat → Int32) (J : Nat → Nat → Int64), SF sh R → LM e 0 (sz, sl, sh, R, I, J) = some (some (.int 0), (sz, sl, sh, R, I, J)))
    (m2 : ∀ (e sz sl : Nat) (sh : Nat → Nat × Nat) (R : Nat → Nat → Option Nat) (I : Nat → Nat → Int32) (J : Nat → Nat → Int64) (l k p : Nat), SF sh R → tM T nt I l o p k → p ≤ nt → ¬ (p < nt ∧ lvn (T p) = a) → LM (e + 1) 1 (sz, sl, sh, R, I, J) = some (some (.int 1), (sz, sl, sh, R, I, J)))
    (m3 : ∀ (e sz sl : Nat) (sh : Nat → Nat × Nat) (R : Nat → Nat → Option Nat) (I I' : Nat → Nat → Int32) (J : Nat → Nat → Int64) (l k p p1 k1 : Nat) (ok : Bool), l < 4 → SF sh R → tM T nt I l o p k → p < nt → lvn (T p) = a → ev X (e + 1) mC [.ref 37] (sz, sl, sh, R, u2 I 37 36 (Int32.ofNat (p + 1)), J) = some (some (.int (okn ok)), (sz, sl, sh, R, I', J)) → tM T nt I' l o p1 k1 → k1 < 200 → LM (e + 1) 1 (sz, sl, sh, R, I, J) = LM (e + 1) (okn ok) (sz, sl, sh, R, u2 (u2 I' 46 (200 * l + k1) (Int32.ofNat (oc (T p)))) 37 39 (Int32.ofNat (k1 + 1)), J))
    (p : Nat) (hp : p ≤ nt) : PP T nt (N + 1) (fun e H => ev X e 44 [.ref 2, .int (Int32.ofNat a), .int (Int32.ofNat o)] H) (fun e H => ev X e mL [.ref 37] H) o p := by
  obtain ⟨ok, p1, cx, cm, g1, g2, g3, g4, gx, gm, gs⟩ := hc p hp
  have hm : 120 = if a = 2 then 1 else 120 := by rw [if_neg ha2]
  cases ok with
  | false =>
    refine ⟨false, p1, cx, cm, g1, g2, g3, g4, ?_, ?_, fun z => Bool.noConfusion z⟩
    · intro e sz sl sh R I J k he hS h hk
      obtain ⟨e, rfl⟩ : ∃ m, e = m + 1 := ⟨e - 1, by omega⟩
      obtain ⟨I', a1, a2⟩ := gx e sz sl sh R I J k (by omega) hS h hk
      refine ⟨I', ?_, a2⟩
      show ev X (e + 1) 44 _ _ = _
      rw [x_level hS ha hm a1, if_neg (by decide)]
      rfl
    · intro e sz sl sh R I J l k hl he hS h hk
      obtain ⟨e, rfl⟩ : ∃ m, e = m + 1 := ⟨e - 1, by omega⟩
      obtain ⟨I', a1, a2⟩ := gm e sz sl sh R I J l k hl (by omega) hS h hk
      refine ⟨I', ?_, a2⟩
      show ev X (e + 1) mL _ _ = _
      rw [m0 e sz sl sh R I J false _ hS a1]
      exact m1 _ _ _ _ _ _ _ hS
  | true =>
    obtain ⟨v, hv⟩ := gs rfl
    obtain ⟨ok2, p2, cx2, cm2, r1, r2, r3, r4, rx, rm, rs⟩ := lvlL (LM := LM) ha hN hn hc m1 m2 m3 nt p1 0 (by omega) (by omega) g2
    refine ⟨ok2, p2, cx ++ cx2, cm ++ cm2, by omega, r2, by rw [List.length_append]; omega, by rw [List.length_append]; omega, ?_, ?_, fun z => ?_⟩
    · intro e sz sl sh R I J k he hS h hk
      obtain ⟨e, rfl⟩ : ∃ m, e = m + 1 := ⟨e - 1, by omega⟩
      obtain ⟨I', a1, a2⟩ := gx e sz sl sh R I J k (by omega) hS h hk
      obtain ⟨I2, b1, b2⟩ := rx e sz sl sh R _ J _ (by omega) hS (eX.t h a2) (by omega)
      refine ⟨I2, ?_, a2.trans b2⟩
      show ev X (e + 1) 44 _ _ = _
      rw [x_level hS ha hm a1, if_pos rfl]
      exact b1
    · intro e sz sl sh R I J l k hl he hS h hk
      obtain ⟨e, rfl⟩ : ∃ m, e = m + 1 := ⟨e - 1, by omega⟩
      obtain ⟨I', a1, a2⟩ := gm e sz sl sh R I J l k hl (by omega) hS h hk
      obtain ⟨I2, b1, b2⟩ := rm e sz sl sh R _ J l _ hl (by omega) hS (eM.t h a2) (by omega)
      refine ⟨I2, ?_, a2.trans b2⟩
      show ev X (e + 1) mL _ _ = _
      rw [m0 e sz sl sh R I J true _ hS a1]
      exact b1
    · obtain ⟨w, hw⟩ := rs z
      exact ⟨_, wfq.then hv hw⟩
end LEVEL
