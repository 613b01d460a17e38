/-! LAW: reading, both at once -/
def GX (T : Nat → Nat) (nt p N : Nat) (run : Nat → HP → Option Rs) (res : Option Value) (p' : Nat) (cx : List Nat) : Prop := ∀ (e sz sl : Nat) (sh : Nat → Nat × Nat) (R : Nat → Nat → Option Nat) (I : Nat → Nat → Int32) (J : Nat → Nat → Int64) (k : Nat), N ≤ e → SF sh R → tX T nt I p k → k ≤ 2 * p → ∃ I', run e (sz, sl, sh, R, I, J) = some (res, (sz, sl, sh, R, I', J)) ∧ eX I I' k cx p'
def GM (T : Nat → Nat) (nt o p N : Nat) (run : Nat → HP → Option Rs) (res : Option Value) (p' : Nat) (cm : List Nat) : Prop := ∀ (e sz sl : Nat) (sh : Nat → Nat × Nat) (R : Nat → Nat → Option Nat) (I : Nat → Nat → Int32) (J : Nat → Nat → Int64) (l k : Nat), l < 4 → N ≤ e → SF sh R → tM T nt I l o p k → k ≤ p → ∃ I', run e (sz, sl, sh, R, I, J) = some (res, (sz, sl, sh, R, I', J)) ∧ eM I I' l o k cm p'
def PP (T : Nat → Nat) (nt N : Nat) (runX runM : Nat → HP → Option Rs) (o p : Nat) : Prop := ∃ (ok : Bool) (p' : Nat) (cx cm : List Nat), p ≤ p' ∧ p' ≤ nt ∧ cx.length ≤ 2 * (p' - p) ∧ cm.length ≤ p' - p ∧ GX T nt p N runX (some (.int (okn ok))) p' cx ∧ GM T nt o p N runM (some (.int (okn ok))) p' cm ∧ (ok = true → ∃ v : Env → Int32, wfq (cx, cm, v))
def wfr (cx cm : List Nat) (w : Env → Int32 → Int32) : Prop := (∀ E s a, xE E cx (a :: s) = some (w E a :: s)) ∧ (∀ E s a, mE E cm (a :: s) = some (w E a :: s)) ∧ (∀ x, x ∈ cx → x ≠ 20059 ∧ x < 30000) ∧ (∀ x, x ∈ cm → x < 110000)
def PL (T : Nat → Nat) (nt N : Nat) (runX runM : Nat → HP → Option Rs) (o p : Nat) : Prop := ∃ (ok : Bool) (p' : Nat) (cx cm : List Nat), p ≤ p' ∧ p' ≤ nt ∧ cx.length ≤ 2 * (p' - p) ∧ cm.length ≤ p' - p ∧ GX T nt p N runX (some (.int (okn ok))) p' cx ∧ GM T nt o p N runM (some (.int (okn ok))) p' cm ∧ (ok = true → ∃ w, wfr cx cm w)
theorem wfr.nil : wfr [] [] (fun _ a => a) := ⟨fun _ _ _ => rfl, fun _ _ _ => rfl, fun x h => (List.not_mem_nil h).elim, fun x h => (List.not_mem_nil h).elim⟩
theorem wfq.then {cx cm cx' cm' : List Nat} {v : Env → Int32} {w : Env → Int32 → Int32} (h : wfq (cx, cm, v)) (q : wfr cx' cm' w) : wfq (cx ++ cx', cm ++ cm', fun E => w E (v E)) := by
  obtain ⟨h1, h2, h3, h4⟩ := h
  obtain ⟨q1, q2, q3, q4⟩ := q
  refine ⟨fun E s => ?_, fun E s => ?_, fun x hx => ?_, fun x hx => ?_⟩
  · show xE E (cx ++ cx') s = _
    rw [xE_app, show xE E cx s = some (v E :: s) from h1 E s]
    exact q1 E s (v E)
  · show mE E (cm ++ cm') s = _
    rw [mE_app, show mE E cm s = some (v E :: s) from h2 E s]
    exact q2 E s (v E)
  · rcases List.mem_append.mp hx with z | z
    · exact h3 x z
    · exact q3 x z
  · rcases List.mem_append.mp hx with z | z
    · exact h4 x z
    · exact q4 x z
theorem wfr.op {c : Nat} {cx cm cx' cm' : List Nat} {v : Env → Int32} {w : Env → Int32 → Int32} (hc : isop c = true) (h : wfq (cx, cm, v)) (q : wfr cx' cm' w) : wfr (cx ++ ([20000 + c] ++ cx')) (cm ++ ([oc c] ++ cm')) (fun E a => w E (opv c a (v E))) := by
  obtain ⟨h1, h2, h3, h4⟩ := h
  obtain ⟨q1, q2, q3, q4⟩ := q
  have i1 := isop_c hc
  obtain ⟨i2, i3⟩ := om_oc hc
  have i4 := isom_c i3
  refine ⟨fun E s a => ?_, fun E s a => ?_, fun x hx => ?_, fun x hx => ?_⟩
  · rw [xE_app, show xE E cx (a :: s) = some (v E :: a :: s) from h1 E (a :: s)]
    show xE E ((20000 + c) :: cx') (v E :: a :: s) = _
    rw [xE, if_neg (by omega), if_neg (by omega), if_pos ⟨by omega, by rw [show 20000 + c - 20000 = c by omega]; exact hc⟩, show 20000 + c - 20000 = c by omega]
    exact q1 E s (opv c a (v E))
  · rw [mE_app, show mE E cm (a :: s) = some (v E :: a :: s) from h2 E (a :: s)]
    show mE E (oc c :: cm') (v E :: a :: s) = _
    rw [mE, if_neg (by omega), if_neg (by omega), if_neg (by omega), if_neg (by omega), if_pos i3, i2]
    exact q2 E s (opv c a (v E))
  · rcases List.mem_append.mp hx with z | z
    · exact h3 x z
    · rcases List.mem_append.mp z with z | z
      · rw [List.mem_singleton] at z
        omega
      · exact q3 x z
  · rcases List.mem_append.mp hx with z | z
    · exact h4 x z
    · rcases List.mem_append.mp z with z | z
      · rw [List.mem_singleton] at z
        omega
      · exact q4 x z
def lvn (c : Nat) : Nat := if c = 37 then 4 else if c = 38 then 1 else if c = 42 then 4 else if c = 43 then 3 else if c = 45 then 3 else if c = 47 then 4 else if c = 60 then 2 else if c = 61 then 2 else if c = 62 then 2 else if c = 124 then 0 else 9
theorem lvn_op {c : Nat} (h : lvn c < 5) : isop c = true := by
  unfold lvn at h
  repeat' split at h
  all_goals first | (subst_vars; rfl) | omega
section PARSE
variable {X : XX} {d : Nat} {sz sl : Nat} {sh : Nat → Nat × Nat} {R : Nat → Nat → Option Nat} {I : Nat → Nat → Int32} {J : Nat → Nat → Int64} {T : Nat → Nat} {nt p k l o : Nat}
def lvv (v : Int32) : Int32 := if v = 37 then 4 else if v = 38 then 1 else if v = 42 then 4 else if v = 43 then 3 else if v = 45 then 3 else if v = 47 then 4 else if v = 60 then 2 else if v = 61 then 2 else if v = 62 then 2 else if v = 124 then 0 else -1
theorem s_levelOf {v : Int32} : ev X (d + 1) 54 [.int v] (sz, sl, sh, R, I, J) = some (some (.int (lvv v)), (sz, sl, sh, R, I, J)) := by
  rw [n54, t54_0]
  unfold lvv
  repeat' split
  all_goals rfl
theorem lvv_sg (h2 : ∀ j, j < nt → T j ≤ 255) {a : Nat} (ha : a < 5) : (lvv (sgv T nt p) = Int32.ofNat a) = (p < nt ∧ lvn (T p) = a) := by
  have e : ∀ c : Nat, c ≤ 255 → (sgv T nt p = Int32.ofNat c) = (p < nt ∧ T p = c) := fun c hc => sgv_eq h2 hc
  have g : lvv (sgv T nt p) = if p < nt then (if lvn (T p) = 9 then -1 else Int32.ofNat (lvn (T p))) else -1 := by
    unfold lvv
    rw [k_37, k_38, k_42, k_43, k_45, k_47, k_60, k_61, k_62, k_124]
    simp only [e 37 (by decide), e 38 (by decide), e 42 (by decide), e 43 (by decide), e 45 (by decide), e 47 (by decide), e 60 (by decide), e 61 (by decide), e 62 (by decide), e 124 (by decide)]
    by_cases q : p < nt
    · simp only [q, true_and]
      generalize T p = c
      unfold lvn
      by_cases h37 : c = 37
      · subst h37; rfl
      by_cases h38 : c = 38
      · subst h38; rfl
      by_cases h42 : c = 42
      · subst h42; rfl
      by_cases h43 : c = 43
      · subst h43; rfl
      by_cases h45 : c = 45
      · subst h45; rfl
      by_cases h47 : c = 47
      · subst h47; rfl
      by_cases h60 : c = 60
      · subst h60; rfl
      by_cases h61 : c = 61
      · subst h61; rfl
      by_cases h62 : c = 62
      · subst h62; rfl
      by_cases h124 : c = 124
      · subst h124; rfl
      simp only [h37, h38, h42, h43, h45, h47, h60, h61, h62, h124, if_false]
      rfl
    · simp only [q, false_and, if_false]
  rw [g]
  have m1 : ¬ (-1 : Int32) = Int32.ofNat a := fun z => by
    have z' := congrArg Int32.toInt z
    rw [n_ti (by omega), show (-1 : Int32).toInt = -1 from rfl] at z'
    omega
  have l9 : lvn (T p) ≤ 9 := by
    unfold lvn
    repeat' split
    all_goals decide
  by_cases q : p < nt
  · rw [if_pos q]
    by_cases q9 : lvn (T p) = 9
    · rw [if_pos q9]
      exact propext ⟨fun z => absurd z m1, fun z => by omega⟩
    · rw [if_neg q9, n_eq (by omega) (by omega)]
      exact propext ⟨fun z => ⟨q, z⟩, fun z => z.2⟩
  · rw [if_neg q]
    exact propext ⟨fun z => absurd z m1, fun z => absurd z.1 q⟩
theorem sgv_in (h : p < nt) : sgv T nt p = Int32.ofNat (T p) := if_pos h
/-- a number -/
theorem numl (X : XX) (hn : nt ≤ 120) (h2 : ∀ j, j < nt → T j ≤ 255) (o : Nat) : ∀ (n c v p : Nat), c + n = 4 → v < 10 ^ c → p ≤ nt → ∃ p' v', p ≤ p' ∧ p' ≤ nt ∧ v' < 10000 ∧ (n ≠ 0 → (p < nt ∧ 48 ≤ T p ∧ T p ≤ 57) → p < p') ∧ GX T nt p 1 (fun e H => exe X e 50 4 [.ref 2, .int (Int32.ofNat v), .int (Int32.ofNat c)] [] H) none p' [v'] ∧ GM T nt o p 1 (fun e H => exe X e 175 4 [.ref 37, .int (Int32.ofNat v), .int (Int32.ofNat c)] [] H) (some (.int 1)) p' [100000 + v']
  | n, c, v, p, h4, hv, hp => by
    have hv4 : v < 10000 := Nat.lt_of_lt_of_le hv (Nat.pow_le_pow_right (by decide) (show c ≤ 4 by omega))
    by_cases hd : n ≠ 0 ∧ p < nt ∧ 48 ≤ T p ∧ T p ≤ 57
    · obtain ⟨h0, hd⟩ := hd
      obtain ⟨n, rfl⟩ : ∃ m, n = m + 1 := ⟨n - 1, by omega⟩
      have hv2 : 10 * v + (T p - 48) < 10 ^ (c + 1) := by
        rw [Nat.pow_succ]
        omega
      have hv3 : 10 * v + (T p - 48) < 10000 := Nat.lt_of_lt_of_le hv2 (Nat.pow_le_pow_right (by decide) (show c + 1 ≤ 4 by omega))
      obtain ⟨p', v', g1, g2, g3, -, g5, g6⟩ := numl X hn h2 o n (c + 1) (10 * v + (T p - 48)) (p + 1) (by omega) hv2 (by omega)
      have em : (10 : Int32) * Int32.ofNat v + Int32.ofNat (T p) - 48 = Int32.ofNat (10 * v + (T p - 48)) := by
        rw [k_10, n_mul, n_add, k_48, n_sub (by omega)]
        congr 1
        omega
      refine ⟨p', v', by omega, g2, g3, fun _ _ => by omega, ?_, ?_⟩
      · intro e sz sl sh R I J k he hS h hk
        obtain ⟨e, rfl⟩ : ∃ m, e = m + 1 := ⟨e - 1, by omega⟩
        have t1 := eX.go (p' := p + 1) h
        obtain ⟨I', a1, a2⟩ := g5 (e + 1) sz sl sh R (u2 I 2 4 (Int32.ofNat (p + 1))) J k he hS (eX.t h t1) (by omega)
        refine ⟨I', ?_, t1.trans a2⟩
        show exe X (e + 1) 50 4 _ [] _ = _
        rw [t50_4 hS, if_neg (by rw [k_4, n_le (by decide) (by omega)]; omega), s_sign hS h hp, ob_s]
        show exe X (e + 1) 50 13 _ [.int _] _ = _
        rw [t50_13, s_isDigit h2, bi_t hd, ob_s]
        show exe X (e + 1) 50 16 _ [.int _] _ = _
        rw [t50_16 hS, if_neg (by decide), s_sign hS h hp, ob_s]
        show exe X (e + 1) 50 27 _ [.int _, .int _] _ = _
        rw [t50_27 hS, sgv_in hd.1, em, n_suc, h.2.2.2.1, n_suc]
        exact a1
      · intro e sz sl sh R I J l k hl he hS h hk
        obtain ⟨e, rfl⟩ : ∃ m, e = m + 1 := ⟨e - 1, by omega⟩
        have t1 := eM.go (p' := p + 1) h
        obtain ⟨I', a1, a2⟩ := g6 (e + 1) sz sl sh R (u2 I 37 36 (Int32.ofNat (p + 1))) J l k hl he hS (eM.t h t1) (by omega)
        refine ⟨I', ?_, t1.trans a2⟩
        show exe X (e + 1) 175 4 _ [] _ = _
        rw [t175_4 hS, s_here hS h hp, ob_s]
        show exe X (e + 1) 175 8 _ [.int _] _ = _
        rw [t175_8, s_digitM h2, bi_t hd, ob_s]
        show exe X (e + 1) 175 15 _ [.int _] _ = _
        rw [t175_15 hS, if_neg (by decide), if_neg (by rw [k_4, n_le (by decide) (by omega)]; omega), s_here hS h hp, ob_s]
        show exe X (e + 1) 175 31 _ [.int _, .int _] _ = _
        rw [t175_31 hS, sgv_in hd.1, em, n_suc, h.2.2.2.1, n_suc]
        exact a1
    · refine ⟨p, v, Nat.le_refl _, hp, hv4, fun h0 hd' => absurd ⟨h0, hd'⟩ hd, ?_, ?_⟩
      · intro e sz sl sh R I J k he hS h hk
        obtain ⟨e, rfl⟩ : ∃ m, e = m + 1 := ⟨e - 1, by omega⟩
        refine ⟨_, ?_, eX.one h⟩
        show exe X (e + 1) 50 4 _ [] _ = _
        have fin : (ev X (e + 1) 48 [.ref 2, .int (Int32.ofNat v)] (sz, sl, sh, R, I, J)).bind (fun q => exe X (e + 1) 50 53 [dm, dm, dm] (q.1.toList ++ []) q.2) = some (none, (sz, sl, sh, R, u2 (u2 I 4 k (Int32.ofNat v)) 2 2 (Int32.ofNat (k + 1)), J)) := by
          rw [s_emit hS h (by omega), ob_s]
          show exe X (e + 1) 50 53 _ [] _ = _
          rw [t50_53]
        by_cases hc : 4 ≤ c
        · rw [t50_4 hS, if_pos (by rw [k_4, n_le (by decide) (by omega)]; exact hc)]
          exact fin
        · rw [t50_4 hS, if_neg (by rw [k_4, n_le (by decide) (by omega)]; exact hc), s_sign hS h hp, ob_s]
          show exe X (e + 1) 50 13 _ [.int _] _ = _
          rw [t50_13, s_isDigit h2, bi_f (fun z => hd ⟨by omega, z⟩), ob_s]
          show exe X (e + 1) 50 16 _ [.int _] _ = _
          rw [t50_16 hS, if_pos rfl]
          exact fin
      · intro e sz sl sh R I J l k hl he hS h hk
        obtain ⟨e, rfl⟩ : ∃ m, e = m + 1 := ⟨e - 1, by omega⟩
        refine ⟨_, ?_, eM.one h⟩
        show exe X (e + 1) 175 4 _ [] _ = _
        have fin : (ev X (e + 1) 176 [.ref 37, .int (100000 + Int32.ofNat v)] (sz, sl, sh, R, I, J)).bind (fun q => exe X (e + 1) 175 60 [dm, dm, dm] (q.1.toList ++ []) q.2) = some (some (.int 1), (sz, sl, sh, R, u2 (u2 I 46 (200 * l + k) (Int32.ofNat (100000 + v))) 37 39 (Int32.ofNat (k + 1)), J)) := by
          rw [k_100000, n_add, s_emits hS h hl (by omega), ob_s]
          show exe X (e + 1) 175 60 _ [] _ = _
          rw [t175_60]
        rw [t175_4 hS, s_here hS h hp, ob_s]
        show exe X (e + 1) 175 8 _ [.int _] _ = _
        rw [t175_8, s_digitM h2, ob_s]
        show exe X (e + 1) 175 15 _ [.int _] _ = _
        rw [t175_15 hS]
        by_cases hd2 : p < nt ∧ 48 ≤ T p ∧ T p ≤ 57
        · rw [if_neg (by rw [bi_t hd2]; decide), if_pos (by rw [k_4, n_le (by decide) (by omega)]; omega)]
          exact fin
        · rw [if_pos (bi_f hd2)]
          exact fin
end PARSE
