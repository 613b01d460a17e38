/-! LAW: the whole reading -/
section READ
variable {X : XX} {T : Nat → Nat} {nt : Nat}
def tape (T : Nat → Nat) (nt : Nat) (I : Nat → Nat → Int32) (a k b : Nat) : Prop := nt ≤ 120 ∧ (∀ j, j < nt → T j ≤ 255) ∧ I a k = Int32.ofNat nt ∧ ∀ j, j < nt → I b j = Int32.ofNat (T j)
theorem p_read (X : XX) (hn : nt ≤ 120) (h2 : ∀ j, j < nt → T j ≤ 255) : ∃ (ok : Bool) (p' : Nat) (cx cm : List Nat), p' ≤ nt ∧ cx.length ≤ 2 * p' + 1 ∧ cm.length ≤ p' + 1 ∧
    (∀ (e sz sl : Nat) (sh : Nat → Nat × Nat) (R : Nat → Nat → Option Nat) (I : Nat → Nat → Int32) (J : Nat → Nat → Int64), 58 ≤ e → SF sh R → tape T nt I 2 3 3 → ∃ I', ev X (e + 1) 42 [.ref 2] (sz, sl, sh, R, I, J) = exe X e 42 57 [.ref 2, .int (okn ok), dm] [] (sz, sl, sh, R, I', J) ∧ tX T nt I' p' cx.length ∧ cdX I' 4 0 cx ∧ ∀ a j, a ≠ 4 → ¬ (a = 2 ∧ (j = 2 ∨ j = 4)) → I' a j = I a j) ∧
    (∀ (e sz sl : Nat) (sh : Nat → Nat × Nat) (R : Nat → Nat → Option Nat) (I : Nat → Nat → Int32) (J : Nat → Nat → Int64) (l : Nat), l < 4 → 58 ≤ e → SF sh R → tape T nt I 37 9 45 → ∃ I', ev X (e + 1) 166 [.ref 37, .int (Int32.ofNat l)] (sz, sl, sh, R, I, J) = exe X e 166 56 [.ref 37, .int (Int32.ofNat l), .int (okn ok)] [] (sz, sl, sh, R, I', J) ∧ tM T nt I' l 0 p' cm.length ∧ cdX I' 46 (200 * l) cm ∧ ∀ a j, ¬ (a = 46 ∧ 200 * l ≤ j) → ¬ (a = 37 ∧ 36 ≤ j ∧ j ≤ 39) → I' a j = I a j) ∧
    (ok = true → ∃ Tl : List LN, (∀ q, q ∈ Tl → wfl q) ∧ tx Tl = cx ∧ tm Tl = cm) := by
  obtain ⟨ok, p1, cx, cm, g1, g2, g3, g4, gx, gm, gs⟩ := p_line X hn h2 (p := 0) (Nat.zero_le _)
  have hx0 : ∀ (e sz sl : Nat) (sh : Nat → Nat × Nat) (R : Nat → Nat → Option Nat) (I : Nat → Nat → Int32) (J : Nat → Nat → Int64), 58 ≤ e → SF sh R → tape T nt I 2 3 3 → ∃ I', ev X (e + 1) 42 [.ref 2] (sz, sl, sh, R, I, J) = exe X e 42 17 [.ref 2, .int (okn ok), .int (Int32.ofNat 0)] [] (sz, sl, sh, R, I', J) ∧ tX T nt I' p1 cx.length ∧ cdX I' 4 0 cx ∧ ∀ a j, a ≠ 4 → ¬ (a = 2 ∧ (j = 2 ∨ j = 4)) → I' a j = I a j := by
    intro e sz sl sh R I J he hS h
    have t0 : tX T nt (u2 (u2 I 2 4 0) 2 2 0) 0 0 := ⟨h.1, h.2.1, h.2.2.1, rfl, rfl, h.2.2.2⟩
    obtain ⟨I', a1, a2⟩ := gx e sz sl sh R _ J 0 he hS t0 (Nat.zero_le _)
    have t1 := eX.t t0 a2
    rw [Nat.zero_add] at t1
    refine ⟨I', ?_, t1, a2.1, fun a j ha hb => ?_⟩
    · rw [n42, t42_0 hS]
      refine (ob_of a1).trans ?_
      show exe X e 42 14 _ [.int _] _ = _
      rw [t42_14]
      rfl
    · rw [a2.2.2.2 a j (by omega) hb]
      unfold u2
      rw [if_neg (by omega), if_neg (by omega)]
  have hm0 : ∀ (e sz sl : Nat) (sh : Nat → Nat × Nat) (R : Nat → Nat → Option Nat) (I : Nat → Nat → Int32) (J : Nat → Nat → Int64) (l : Nat), l < 4 → 58 ≤ e → SF sh R → tape T nt I 37 9 45 → ∃ I', ev X (e + 1) 166 [.ref 37, .int (Int32.ofNat l)] (sz, sl, sh, R, I, J) = exe X e 166 25 [.ref 37, .int (Int32.ofNat l), .int (okn ok)] [] (sz, sl, sh, R, I', J) ∧ tM T nt I' l 0 p1 cm.length ∧ cdX I' 46 (200 * l) cm ∧ ∀ a j, ¬ (a = 46 ∧ 200 * l ≤ j) → ¬ (a = 37 ∧ 36 ≤ j ∧ j ≤ 39) → I' a j = I a j := by
    intro e sz sl sh R I J l hl he hS h
    have t0 : tM T nt (u2 (u2 (u2 (u2 I 37 36 0) 37 37 0) 37 38 (Int32.ofNat l)) 37 39 0) l 0 0 0 := ⟨h.1, h.2.1, h.2.2.1, rfl, rfl, rfl, rfl, h.2.2.2⟩
    obtain ⟨I', a1, a2⟩ := gm e sz sl sh R _ J l 0 hl he hS t0 (Nat.zero_le _)
    have t1 := eM.t t0 a2
    rw [Nat.zero_add] at t1
    refine ⟨I', ?_, t1, a2.1, fun a j ha hb => ?_⟩
    · rw [n166, t166_0 hS]
      refine (ob_of a1).trans ?_
      show exe X e 166 24 _ [.int _] _ = _
      rw [t166_24]
    · rw [a2.2.2.2.2 a j (by omega) (by omega)]
      unfold u2
      rw [if_neg (by omega), if_neg (by omega), if_neg (by omega), if_neg (by omega)]
  cases ok with
  | false =>
    refine ⟨false, p1, cx, cm, g2, by omega, by omega, ?_, ?_, fun z => Bool.noConfusion z⟩
    · intro e sz sl sh R I J he hS h
      obtain ⟨I', a1, a2, a3, a4⟩ := hx0 e sz sl sh R I J he hS h
      refine ⟨I', ?_, a2, a3, a4⟩
      rw [a1, t42_17 hS, if_neg (by decide), if_pos okn_0]
    · intro e sz sl sh R I J l hl he hS h
      obtain ⟨I', a1, a2, a3, a4⟩ := hm0 e sz sl sh R I J l hl he hS h
      refine ⟨I', ?_, a2, a3, a4⟩
      rw [a1, t166_25 hS, if_pos okn_0]
  | true =>
    obtain ⟨ln, hw, hlx, hlm⟩ := gs rfl
    obtain ⟨ok2, p2, cx2, cm2, r1, r2, r3, r4, rx, rm, rs⟩ := p_lines X hn h2 nt p1 0 (by omega) (by omega) g2
    refine ⟨ok2, p2, cx ++ cx2, cm ++ cm2, r2, by rw [List.length_append]; omega, by rw [List.length_append]; omega, ?_, ?_, fun z => ?_⟩
    · intro e sz sl sh R I J he hS h
      obtain ⟨I', a1, a2, a3, a4⟩ := hx0 e sz sl sh R I J he hS h
      obtain ⟨I2, b1, b2⟩ := rx e sz sl sh R I' J _ he hS a2 (by omega)
      have t1 := eX.t a2 b2
      obtain ⟨b3, b4, b5, b6⟩ := b2
      refine ⟨I2, a1.trans b1, by rw [List.length_append]; exact t1, (cdX_app _ _ _).mpr ⟨cdX_low cx 0 (fun j hj => b6 4 j (by omega) (by omega)) a3, by rw [Nat.zero_add]; exact b3⟩, fun a j ha hb => (b6 a j (by omega) hb).trans (a4 a j ha hb)⟩
    · intro e sz sl sh R I J l hl he hS h
      obtain ⟨I', a1, a2, a3, a4⟩ := hm0 e sz sl sh R I J l hl he hS h
      obtain ⟨I2, b1, b2⟩ := rm e sz sl sh R I' J l _ hl he hS a2 (by omega)
      have t1 := eM.t a2 b2
      obtain ⟨b3, b4, b5, b6, b7⟩ := b2
      refine ⟨I2, a1.trans b1, by rw [List.length_append]; exact t1, (cdX_app _ _ _).mpr ⟨cdX_low cm _ (fun j hj => b7 46 j (by omega) (by omega)) a3, b3⟩, fun a j ha hb => (b7 a j (by omega) (by omega)).trans (a4 a j ha hb)⟩
    · obtain ⟨Tl, w1, w2, w3⟩ := rs z
      refine ⟨ln :: Tl, fun y hy => ?_, ?_, ?_⟩
      · rcases List.mem_cons.mp hy with z | z
        · rw [z]; exact hw
        · exact w1 y z
      · show lx ln ++ tx Tl = _
        rw [hlx, w2]
      · show lm ln ++ tm Tl = _
        rw [hlm, w3]
theorem s_lawInit {d s sl : Nat} {sh : Nat → Nat × Nat} {R : Nat → Nat → Option Nat} {I : Nat → Nat → Int32} {J : Nat → Nat → Int64} {L m : Nat} (h0 : sh L = (10, 0)) (hL : L < s) (h4 : sh 4 = (0, 241)) (hs : 71 ≤ s) (hm : m ≤ 241) : ∃ I' J', ev X (d + 1) 55 [.ref L, .ref 4, .int (Int32.ofNat m)] (s, sl, sh, R, I, J) = some (none, (s + 1 + 1 + 1, sl + 7 + m + (m + 1), ur (ur (ur sh s (0, 7)) (s + 1) (0, m)) (s + 1 + 1) (0, m + 1), u2 (ur (u2 (ur (u2 (ur R s (fun _ => none)) L 2 (some s)) (s + 1) (fun _ => none)) L 0 (some (s + 1))) (s + 1 + 1) (fun _ => none)) L 1 (some (s + 1 + 1)), I', J')) ∧ (∀ j, j < m → I' (s + 1) j = I 4 j) ∧ (∀ a k, a < s → I' a k = I a k) ∧ (∀ a k, a < s → J' a k = J a k) := by
  have e1 : (if (Int32.ofNat 241) < Int32.ofNat m then Int32.ofNat 241 else Int32.ofNat m) = Int32.ofNat m := if_neg (by rw [n_lt (by decide) (by omega)]; omega)
  have e2 : (if (0 : Int32) < Int32.ofNat m then Int32.ofNat m else 0) = Int32.ofNat m := by
    by_cases q : m = 0
    · rw [q]; rfl
    · rw [if_pos (by rw [k_0, n_lt (by decide) (by omega)]; omega)]
  have e3 : ¬ Int32.ofNat m < 0 := by rw [k_0, n_lt (by omega) (by decide)]; omega
  have e4 : ¬ Int32.ofNat (m + 1) < 0 := by rw [k_0, n_lt (by omega) (by decide)]; omega
  have c1 : (Int32.ofNat m).toNatClampNeg = m := n_cl (by omega)
  have c2 : (Int32.ofNat (m + 1)).toNatClampNeg = m + 1 := n_cl (by omega)
  have q1 : ur sh s (0, 7) L = (10, 0) := by rw [ur_n (by omega)]; exact h0
  have q2 : ur sh s (0, 7) 4 = (0, 241) := by rw [ur_n (by omega)]; exact h4
  have q3 : ur (ur sh s (0, 7)) (s + 1) (0, m) L = (10, 0) := by rw [ur_n (by omega)]; exact q1
  have q4 : ur (ur (ur sh s (0, 7)) (s + 1) (0, m)) (s + 1 + 1) (0, m + 1) L = (10, 0) := by rw [ur_n (by omega)]; exact q3
  have q5 : ur (ur (ur sh s (0, 7)) (s + 1) (0, m)) (s + 1 + 1) (0, m + 1) 4 = (0, 241) := by rw [ur_n (by omega), ur_n (by omega)]; exact q2
  have q6 : ur (ur (ur sh s (0, 7)) (s + 1) (0, m)) (s + 1 + 1) (0, m + 1) (s + 1) = (0, m) := by rw [ur_n (by omega), ur_a]
  have qr : u2 (ur (u2 (ur (u2 (ur R s (fun _ => none)) L 2 (some s)) (s + 1) (fun _ => none)) L 0 (some (s + 1))) (s + 1 + 1) (fun _ => none)) L 1 (some (s + 1 + 1)) L 0 = some (s + 1) := by
    unfold u2
    rw [if_neg (by omega), ur_n (by omega), if_pos ⟨rfl, rfl⟩]
  have q7 : (¬ (0 : Int32) < 0 ∧ ¬ (0 : Int32) < 0 ∧ ¬ Int32.ofNat m < 0) ∧ 0 + m ≤ 241 ∧ 0 + m ≤ m := ⟨⟨by decide, by decide, e3⟩, by omega, by omega⟩
  have q8 : ¬ Int32.ofNat m < 0 ∧ m ≤ 60000 := ⟨e3, by omega⟩
  have q9 : ¬ Int32.ofNat (m + 1) < 0 ∧ m + 1 ≤ 60000 := ⟨e4, by omega⟩
  have q10 : (0 : Nat) < 7 := by decide
  refine ⟨ur (ur (ur (ur I s (fun _ => 0)) (s + 1) (fun _ => 0)) (s + 1 + 1) (fun _ => 0)) (s + 1) (va_cpy (ur (ur (ur I s (fun _ => 0)) (s + 1) (fun _ => 0)) (s + 1 + 1) (fun _ => 0) 4) (ur (ur (ur I s (fun _ => 0)) (s + 1) (fun _ => 0)) (s + 1 + 1) (fun _ => 0) (s + 1)) 0 0 m), ur (ur (ur J s (fun _ => 0)) (s + 1) (fun _ => 0)) (s + 1 + 1) (fun _ => 0), ?_, ?_, ?_, ?_⟩
  · rw [n55, t55_0 h0, t55_9 q1 rfl rfl, rf_ref, orf_ref, if_pos q1, t55_12 q1]
    simp only [q2, e1, e2, c1]
    rw [if_pos q10, if_pos q8, t55_27 q3 rfl rfl, rf_ref, orf_ref, if_pos q3, t55_30 q3, n_suc]
    simp only [c2]
    rw [if_pos q9, t55_36 q4 rfl rfl, rf_ref, orf_ref, if_pos q4, t55_39 q4, qr, rfv_s, rf_ref, rf_ref]
    simp only [c1, q5, q6]
    rw [if_pos q7, if_pos ⟨trivial, trivial⟩, t55_50]
  · intro j hj
    rw [ur_a]
    unfold va_cpy
    rw [if_pos ⟨Nat.zero_le _, by omega⟩, ur_n (by omega), ur_n (by omega), ur_n (by omega), Nat.sub_zero, Nat.zero_add]
  · intro a k ha
    rw [ur_n (by omega), ur_n (by omega), ur_n (by omega), ur_n (by omega)]
  · intro a k ha
    rw [ur_n (by omega), ur_n (by omega), ur_n (by omega)]
end READ
