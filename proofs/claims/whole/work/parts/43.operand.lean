/-! LAW: an operand -/
theorem wfq.not {cx cm : List Nat} {v : Env → Int32} (h : wfq (cx, cm, v)) : wfq (cx ++ ([0] ++ [20061]), cm ++ [13], fun E => bi (v E = 0)) := by
  obtain ⟨h1, h2, h3, h4⟩ := h
  refine ⟨fun E s => ?_, fun E s => ?_, fun x hx => ?_, fun x hx => ?_⟩
  · show xE E (cx ++ [0, 20061]) s = _
    rw [xE_app, show xE E cx s = some (v E :: s) from h1 E s]
    rfl
  · show mE E (cm ++ [13]) s = _
    rw [mE_app, show mE E cm s = some (v E :: s) from h2 E s]
    rfl
  · rcases List.mem_append.mp hx with z | z
    · exact h3 x z
    · simp at z; omega
  · rcases List.mem_append.mp hx with z | z
    · exact h4 x z
    · simp at z; omega
theorem wfq.neg {cx cm : List Nat} {v : Env → Int32} (h : wfq (cx, cm, v)) : wfq ([0] ++ (cx ++ [20045]), cm ++ [19], fun E => - v E) := by
  obtain ⟨h1, h2, h3, h4⟩ := h
  refine ⟨fun E s => ?_, fun E s => ?_, fun x hx => ?_, fun x hx => ?_⟩
  · show xE E ([0] ++ (cx ++ [20045])) s = _
    rw [xE_app]
    show xE E (cx ++ [20045]) (0 :: s) = _
    rw [xE_app, show xE E cx (0 :: s) = some (v E :: 0 :: s) from h1 E (0 :: s)]
    show some ((0 - v E) :: s) = _
    rw [Int32.zero_sub]
  · show mE E (cm ++ [19]) s = _
    rw [mE_app, show mE E cm s = some (v E :: s) from h2 E s]
    rfl
  · rcases List.mem_append.mp hx with z | z
    · simp at z; omega
    · rcases List.mem_append.mp z with z | z
      · exact h3 x z
      · simp at z; omega
  · rcases List.mem_append.mp hx with z | z
    · exact h4 x z
    · simp at z; omega
theorem tM.up {T : Nat → Nat} {nt l o p k : Nat} {I : Nat → Nat → Int32} (h : tM T nt I l o p k) : tM T nt (u2 (u2 I 37 37 (Int32.ofNat (o + 1))) 37 36 (Int32.ofNat (p + 1))) l (o + 1) (p + 1) k := by
  obtain ⟨h1, h2, h3, h4, h5, h6, h7, h8⟩ := h
  exact ⟨h1, h2, h3, rfl, rfl, h6, h7, h8⟩
theorem eM.wrap {l o p k p' : Nat} {I I2 : Nat → Nat → Int32} {c : List Nat} (e : eM (u2 (u2 I 37 37 (Int32.ofNat (o + 1))) 37 36 (Int32.ofNat (p + 1))) I2 l (o + 1) k c p') : eM I (u2 I2 37 37 (Int32.ofNat o)) l o k c p' := by
  obtain ⟨e1, e2, e3, e4, e5⟩ := e
  refine ⟨cdX.of (I := I2) (I' := u2 I2 37 37 (Int32.ofNat o)) (fun j => rfl) _ _ e1, e2, e3, rfl, fun a j h1 h2 => ?_⟩
  have z := e5 a j h1 h2
  unfold u2 at z ⊢
  rw [if_neg (by omega)]
  rw [if_neg (by omega), if_neg (by omega)] at z
  exact z
section OPERAND
variable {X : XX} {T : Nat → Nat} {nt o N : Nat}
theorem x_front {e sz sl : Nat} {sh : Nat → Nat × Nat} {R : Nat → Nat → Option Nat} {I : Nat → Nat → Int32} {J : Nat → Nat → Int64} {p k : Nat} (hS : SF sh R) (h : tX T nt I p k) (hp : p ≤ nt) (hd : ¬ (p < nt ∧ 48 ≤ T p ∧ T p ≤ 57)) (hm : ¬ (p < nt ∧ nmi (T p) < 7)) : ev X (e + 2) 45 [.ref 2, .int (Int32.ofNat o)] (sz, sl, sh, R, I, J) = if p < nt ∧ (T p = 40 ∨ T p = 33 ∨ T p = 45) then exe X (e + 1) 45 67 [.ref 2, .int (Int32.ofNat o), .int (sgv T nt p), dm] [] (sz, sl, sh, R, I, J) else some (some (.int 0), (sz, sl, sh, R, I, J)) := by
  have e40 : (sgv T nt p = 40) = (p < nt ∧ T p = 40) := sgv_eq h.2.1 (c := 40) (by decide)
  have e33 : (sgv T nt p = 33) = (p < nt ∧ T p = 33) := sgv_eq h.2.1 (c := 33) (by decide)
  have e45 : (sgv T nt p = 45) = (p < nt ∧ T p = 45) := sgv_eq h.2.1 (c := 45) (by decide)
  rw [n45, t45_0 hS, s_sign hS h hp, ob_s]
  show exe X (e + 1) 45 4 _ [.int _] _ = _
  rw [t45_4, s_nameOf.1, ob_s, nmv_sg h.2.1, if_neg hm]
  show exe X (e + 1) 45 9 _ [.int _] _ = _
  rw [t45_9 hS, if_pos rfl, s_isDigit h.2.1, ob_s, bi_f hd]
  show exe X (e + 1) 45 40 _ [.int _] _ = _
  rw [t45_40 hS, if_pos rfl]
  by_cases q1 : p < nt ∧ T p = 40
  · rw [if_pos (by rw [e40]; exact q1), if_pos ⟨q1.1, Or.inl q1.2⟩]
  · rw [if_neg (by rw [e40]; exact q1)]
    by_cases q2 : p < nt ∧ T p = 33
    · rw [if_pos (by rw [e33]; exact q2), if_pos ⟨q2.1, Or.inr (Or.inl q2.2)⟩]
    · rw [if_neg (by rw [e33]; exact q2)]
      by_cases q3 : p < nt ∧ T p = 45
      · rw [if_neg (by rw [e45]; exact fun z => z q3), if_pos ⟨q3.1, Or.inr (Or.inr q3.2)⟩]
      · rw [if_pos (by rw [e45]; exact q3), if_neg (by omega)]
theorem m_front {e sz sl : Nat} {sh : Nat → Nat × Nat} {R : Nat → Nat → Option Nat} {I : Nat → Nat → Int32} {J : Nat → Nat → Int64} {l p k : Nat} (hS : SF sh R) (h : tM T nt I l o p k) (hp : p ≤ nt) (hd : ¬ (p < nt ∧ 48 ≤ T p ∧ T p ≤ 57)) (hm : ¬ (p < nt ∧ nmi (T p) < 7)) : ev X (e + 2) 173 [.ref 37] (sz, sl, sh, R, I, J) = if p < nt ∧ (T p = 40 ∨ T p = 33 ∨ T p = 45) then exe X (e + 1) 173 66 [.ref 37, .int (sgv T nt p), dm] [] (sz, sl, sh, R, I, J) else some (some (.int 0), (sz, sl, sh, R, I, J)) := by
  have e40 : (sgv T nt p = 40) = (p < nt ∧ T p = 40) := sgv_eq h.2.1 (c := 40) (by decide)
  have e33 : (sgv T nt p = 33) = (p < nt ∧ T p = 33) := sgv_eq h.2.1 (c := 33) (by decide)
  have e45 : (sgv T nt p = 45) = (p < nt ∧ T p = 45) := sgv_eq h.2.1 (c := 45) (by decide)
  rw [n173, t173_0 hS, s_here hS h hp, ob_s]
  show exe X (e + 1) 173 4 _ [.int _] _ = _
  rw [t173_4, s_digitM h.2.1, ob_s, bi_f hd]
  show exe X (e + 1) 173 13 _ [.int _] _ = _
  rw [t173_13 hS, if_pos rfl, s_nameOf.2, ob_s, nmv_sg h.2.1, if_neg hm]
  show exe X (e + 1) 173 25 _ [.int _] _ = _
  rw [t173_25, if_pos (by decide)]
  by_cases q1 : p < nt ∧ T p = 40
  · rw [if_pos (by rw [e40]; exact q1), if_pos ⟨q1.1, Or.inl q1.2⟩]
  · rw [if_neg (by rw [e40]; exact q1)]
    by_cases q2 : p < nt ∧ T p = 33
    · rw [if_pos (by rw [e33]; exact q2), if_pos ⟨q2.1, Or.inr (Or.inl q2.2)⟩]
    · rw [if_neg (by rw [e33]; exact q2)]
      by_cases q3 : p < nt ∧ T p = 45
      · rw [if_neg (by rw [e45]; exact fun z => z q3), if_pos ⟨q3.1, Or.inr (Or.inr q3.2)⟩]
      · rw [if_pos (by rw [e45]; exact q3), if_neg (by omega)]
theorem p_easy (X : XX) (hn : nt ≤ 120) (h2 : ∀ j, j < nt → T j ≤ 255) (ho : o ≤ 6) (hN : 3 ≤ N) {p : Nat} (hp : p ≤ nt) (hno : ¬ (o < 6 ∧ p < nt ∧ (T p = 40 ∨ T p = 33 ∨ T p = 45))) : PP T nt N (fun e H => ev X e 45 [.ref 2, .int (Int32.ofNat o)] H) (fun e H => ev X e 173 [.ref 37] H) o p := by
  by_cases hd : p < nt ∧ 48 ≤ T p ∧ T p ≤ 57
  · have hm : ¬ (p < nt ∧ nmi (T p) < 7) := fun z => by have := nmi_c z.2; omega
    obtain ⟨p', v', g1, g2, g3, g4, gx, gm⟩ := numl X hn h2 o 4 0 0 p rfl (by decide) hp
    have g5 := g4 (by decide) hd
    refine ⟨true, p', [v'], [100000 + v'], g1, g2, by show 1 ≤ _; omega, by show 1 ≤ _; omega, ?_, ?_, fun _ => ⟨fun _ => Int32.ofNat v', fun E s => ?_, fun E s => ?_, fun x hx => ?_, fun x hx => ?_⟩⟩
    · intro e sz sl sh R I J k he hS h hk
      obtain ⟨e, rfl⟩ : ∃ m, e = m + 3 := ⟨e - 3, by omega⟩
      obtain ⟨I', a1, a2⟩ := gx (e + 1) sz sl sh R I J k (by omega) hS h hk
      have a1' : exe X (e + 1) 50 4 [.ref 2, .int 0, .int 0] [] (sz, sl, sh, R, I, J) = some (none, (sz, sl, sh, R, I', J)) := a1
      refine ⟨I', ?_, a2⟩
      show ev X (e + 2 + 1) 45 _ _ = _
      rw [n45, t45_0 hS, s_sign hS h hp, ob_s]
      show exe X (e + 2) 45 4 _ [.int _] _ = _
      rw [t45_4, s_nameOf.1, ob_s, nmv_sg h2, if_neg hm]
      show exe X (e + 2) 45 9 _ [.int _] _ = _
      rw [t45_9 hS, if_pos rfl, s_isDigit h2, ob_s, bi_t hd]
      show exe X (e + 2) 45 40 _ [.int _] _ = _
      rw [t45_40 hS, if_neg (by decide), n50, t50_0, a1', ob_s]
      show exe X (e + 2) 45 47 _ [] _ = _
      rw [t45_47]
      rfl
    · intro e sz sl sh R I J l k hl he hS h hk
      obtain ⟨e, rfl⟩ : ∃ m, e = m + 3 := ⟨e - 3, by omega⟩
      obtain ⟨I', a1, a2⟩ := gm (e + 1) sz sl sh R I J l k hl (by omega) hS h hk
      have a1' : exe X (e + 1) 175 4 [.ref 37, .int 0, .int 0] [] (sz, sl, sh, R, I, J) = some (some (.int 1), (sz, sl, sh, R, I', J)) := a1
      refine ⟨I', ?_, a2⟩
      show ev X (e + 2 + 1) 173 _ _ = _
      rw [n173, t173_0 hS, s_here hS h hp, ob_s]
      show exe X (e + 2) 173 4 _ [.int _] _ = _
      rw [t173_4, s_digitM h2, ob_s, bi_t hd]
      show exe X (e + 2) 173 13 _ [.int _] _ = _
      rw [t173_13 hS, if_neg (by decide), n175, t175_0, a1', ob_s]
      show exe X (e + 2) 173 20 _ [.int _] _ = _
      rw [t173_20, if_pos (Or.inr rfl)]
      rfl
    · show xE E [v'] s = _
      rw [xE, if_pos g3]
      rfl
    · show mE E [100000 + v'] s = _
      rw [mE, if_pos (by omega), if_pos (by omega), show 100000 + v' - 100000 = v' by omega]
      rfl
    · have : x = v' := List.mem_singleton.mp hx
      omega
    · have : x = 100000 + v' := List.mem_singleton.mp hx
      omega
  · by_cases hm : p < nt ∧ nmi (T p) < 7
    · obtain ⟨hpn, hm7⟩ := hm
      have ge0 : ¬ Int32.ofNat (nmi (T p)) = -1 := fun z => by
        have z' := congrArg Int32.toInt z
        rw [n_ti (by omega), show (-1 : Int32).toInt = -1 from rfl] at z'
        omega
      have ge1 : ¬ Int32.ofNat (nmi (T p)) < 0 := by rw [k_0, n_lt (by omega) (by decide)]; omega
      refine ⟨true, p + 1, [10000 + nmi (T p)], [nmi (T p)], by omega, by omega, by show 1 ≤ _; omega, by show 1 ≤ _; omega, ?_, ?_, fun _ => ⟨fun E => E (nmi (T p)), fun E s => ?_, fun E s => ?_, fun x hx => ?_, fun x hx => ?_⟩⟩
      · intro e sz sl sh R I J k he hS h hk
        obtain ⟨e, rfl⟩ : ∃ m, e = m + 2 := ⟨e - 2, by omega⟩
        have t1 := eX.go (p' := p + 1) h
        refine ⟨_, ?_, t1.trans (eX.one (c := 10000 + nmi (T p)) (eX.t h t1))⟩
        show ev X (e + 1 + 1) 45 _ _ = _
        rw [n45, t45_0 hS, s_sign hS h hp, ob_s]
        show exe X (e + 1) 45 4 _ [.int _] _ = _
        rw [t45_4, s_nameOf.1, ob_s, nmv_sg h2, if_pos ⟨hpn, hm7⟩]
        show exe X (e + 1) 45 9 _ [.int _] _ = _
        rw [t45_9 hS, if_neg ge0, h.2.2.2.1, n_suc, k_10000, n_add, s_emit hS (eX.t h t1) (by show k < 241; omega), ob_s]
        show exe X (e + 1) 45 34 _ [] _ = _
        rw [t45_34]
        rfl
      · intro e sz sl sh R I J l k hl he hS h hk
        obtain ⟨e, rfl⟩ : ∃ m, e = m + 2 := ⟨e - 2, by omega⟩
        have t1 := eM.one (c := nmi (T p)) h
        refine ⟨_, ?_, t1.trans (eM.go (p' := p + 1) (eM.t h t1))⟩
        show ev X (e + 1 + 1) 173 _ _ = _
        rw [n173, t173_0 hS, s_here hS h hp, ob_s]
        show exe X (e + 1) 173 4 _ [.int _] _ = _
        rw [t173_4, s_digitM h2, ob_s, bi_f hd]
        show exe X (e + 1) 173 13 _ [.int _] _ = _
        rw [t173_13 hS, if_pos rfl, s_nameOf.2, ob_s, nmv_sg h2, if_pos ⟨hpn, hm7⟩]
        show exe X (e + 1) 173 25 _ [.int _] _ = _
        rw [t173_25, if_neg ge1, s_nameOf.2, ob_s, nmv_sg h2, if_pos ⟨hpn, hm7⟩]
        show exe X (e + 1) 173 33 _ [.int _, .ref 37] _ = _
        rw [t173_33 rfl, rf_ref, if_pos (zS37 hS), s_emits hS h hl (by omega), ob_s]
        show exe X (e + 1) 173 36 _ [] _ = _
        rw [t173_36 hS, (eM.t h t1).2.2.2.1, n_suc]
        rfl
      · show xE E [10000 + nmi (T p)] s = _
        rw [xE, if_neg (by omega), if_pos (by omega), show 10000 + nmi (T p) - 10000 = nmi (T p) by omega]
        rfl
      · show mE E [nmi (T p)] s = _
        rw [mE, if_neg (by omega), if_pos hm7]
        rfl
      · have : x = 10000 + nmi (T p) := List.mem_singleton.mp hx
        omega
      · have : x = nmi (T p) := List.mem_singleton.mp hx
        omega
    · refine ⟨false, p, [], [], Nat.le_refl _, hp, by simp, by simp, ?_, ?_, fun z => Bool.noConfusion z⟩
      · intro e sz sl sh R I J k he hS h hk
        obtain ⟨e, rfl⟩ : ∃ m, e = m + 2 := ⟨e - 2, by omega⟩
        refine ⟨I, ?_, eX.nil h⟩
        show ev X (e + 2) 45 _ _ = _
        rw [x_front hS h hp hd hm]
        by_cases q : p < nt ∧ (T p = 40 ∨ T p = 33 ∨ T p = 45)
        · have h6 : o = 6 := by omega
          rw [if_pos q, t45_67 hS, if_neg (by rw [h6]; decide)]
          rfl
        · rw [if_neg q]
          rfl
      · intro e sz sl sh R I J l k hl he hS h hk
        obtain ⟨e, rfl⟩ : ∃ m, e = m + 2 := ⟨e - 2, by omega⟩
        refine ⟨I, ?_, eM.nil h⟩
        show ev X (e + 2) 173 _ _ = _
        rw [m_front hS h hp hd hm]
        by_cases q : p < nt ∧ (T p = 40 ∨ T p = 33 ∨ T p = 45)
        · have h6 : o = 6 := by omega
          rw [if_pos q, t173_66 hS, h.2.2.2.2.1, if_neg (by rw [h6]; exact fun z => z rfl)]
          rfl
        · rw [if_neg q]
          rfl
end OPERAND
