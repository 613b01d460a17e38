/-! LAW -/
theorem SF.up {sh sh' : Nat → Nat × Nat} {R R' : Nat → Nat → Option Nat} (hs : ∀ a, a < 71 → sh' a = sh a) (hR : ∀ a k, a < 71 → a ≠ 1 → a ≠ 5 → a ≠ 6 → R' a k = R a k) (S : SF sh R) : SF sh' R' := by
  refine ⟨fun a ha => (hs a ha).trans (S.1 a ha), fun q hq => ?_⟩
  have : ∀ q ∈ rfT, q.1 < 71 ∧ q.1 ≠ 1 ∧ q.1 ≠ 5 ∧ q.1 ≠ 6 := by decide
  have z := this q hq
  exact (hR _ _ z.1 z.2.1 z.2.2.1 z.2.2.2).trans (S.2 q hq)
theorem cdX_mv {I I' : Nat → Nat → Int32} {C C' : Nat} : ∀ (a : List Nat) (i : Nat), (∀ j, i ≤ j → j < i + a.length → I' C' j = I C j) → cdX I C i a → cdX I' C' i a
  | [], _, _, _ => trivial
  | c :: r, i, h, ⟨h1, h2⟩ => ⟨(h i (Nat.le_refl i) (by rw [List.length_cons]; omega)).trans h1, cdX_mv r (i + 1) (fun j h3 hj => h j (by omega) (by rw [List.length_cons]; omega)) h2⟩
section LAW
variable {X : XX} {d : Nat} {sz sl : Nat} {sh : Nat → Nat × Nat} {R : Nat → Nat → Option Nat} {I : Nat → Nat → Int32} {J : Nat → Nat → Int64} {T : Nat → Nat} {nt nl p' : Nat} {ok : Bool} {cx cm : List Nat}
theorem sgv_m (hn : nt ≤ 120) (h2 : ∀ j, j < nt → T j ≤ 255) {p : Nat} (hp : p ≤ nt) : (sgv T nt p = -1) = (p = nt) := by
  unfold sgv
  by_cases q : p < nt
  · have := h2 p q
    rw [if_pos q]
    refine propext ⟨fun z => ?_, fun z => by omega⟩
    have e := congrArg Int32.toInt z
    rw [n_ti (by omega), show (-1 : Int32).toInt = -1 from rfl] at e
    omega
  · rw [if_neg q]
    exact propext ⟨fun _ => by omega, fun _ => rfl⟩
theorem s_lawM (hS : SF sh R) (hl : nl < 4) (e12 : I 37 12 = Int32.ofNat nl) (hp : p' ≤ nt) (hn : nt ≤ 120)
    (run : ∃ I', ev X (d + 59) 166 [.ref 37, .int (Int32.ofNat nl)] (sz, sl, sh, R, I, J) = exe X (d + 58) 166 56 [.ref 37, .int (Int32.ofNat nl), .int (okn ok)] [] (sz, sl, sh, R, I', J) ∧ tM T nt I' nl 0 p' cm.length ∧ cdX I' 46 (200 * nl) cm ∧ ∀ a j, ¬ (a = 46 ∧ 200 * nl ≤ j) → ¬ (a = 37 ∧ 36 ≤ j ∧ j ≤ 39) → I' a j = I a j) :
    ∃ I2, ev X (d + 60) 165 [.ref 37] (sz, sl, sh, R, I, J) = some (some (.int (if ok = true ∧ p' = nt then Int32.ofNat nl else -100 - Int32.ofNat p')), (sz, sl, sh, R, I2, J)) ∧ I2 47 nl = Int32.ofNat cm.length ∧ cdX I2 46 (200 * nl) cm ∧ I2 37 9 = 0 ∧ I2 37 12 = Int32.ofNat (if ok = true ∧ p' = nt then nl + 1 else nl) ∧ ∀ a j, ¬ (a = 46 ∧ 200 * nl ≤ j) → ¬ (a = 47 ∧ j = nl) → ¬ (a = 37 ∧ (j = 9 ∨ j = 12 ∨ 36 ≤ j ∧ j ≤ 39)) → I2 a j = I a j := by
  obtain ⟨I', a1, t, c1, fr⟩ := run
  have i12 : I' 37 12 = Int32.ofNat nl := (fr 37 12 (by omega) (by omega)).trans e12
  have l1 : ¬ Int32.ofNat nl = 4 := by rw [k_4, n_eq (by omega) (by decide)]; omega
  have l2 : inb (Int32.ofNat nl) 4 := by rw [n_inb (by omega)]; exact hl
  have l3 : (Int32.ofNat nl).toNatClampNeg = nl := n_cl (by omega)
  have fr2 : ∀ a j, ¬ (a = 46 ∧ 200 * nl ≤ j) → ¬ (a = 47 ∧ j = nl) → ¬ (a = 37 ∧ (j = 9 ∨ j = 12 ∨ 36 ≤ j ∧ j ≤ 39)) → u2 (u2 I' 47 nl (Int32.ofNat cm.length)) 37 9 0 a j = I a j := fun a j x y z => by
    unfold u2
    rw [if_neg (by omega), if_neg (by omega)]
    exact fr a j x (by omega)
  by_cases g : ok = true ∧ p' = nt
  · obtain ⟨rfl, rfl⟩ := g
    refine ⟨u2 (u2 (u2 I' 47 nl (Int32.ofNat cm.length)) 37 9 0) 37 12 (Int32.ofNat (nl + 1)), ?_, ?_, ?_, ?_, ?_, fun a j x y z => ?_⟩
    · rw [n165, t165_0 hS, e12, if_pos l1, a1, t166_56 hS, if_neg (by decide), t.2.2.2.1, t.2.2.1, if_neg (fun z => z rfl), t166_76 hS, if_pos l2, if_neg (by decide), l3, t.2.2.2.2.2.2.1, ob_s, if_pos ⟨rfl, rfl⟩]
      show exe X (d + 59) 165 19 _ [.int _] _ = _
      rw [t165_19 hS, if_pos (by decide)]
      have q : u2 (u2 I' 47 nl (Int32.ofNat cm.length)) 37 9 0 37 12 = Int32.ofNat nl := i12
      rw [q, n_suc]
      have q2 : Int32.ofNat (nl + 1) - 1 = Int32.ofNat nl := by rw [k_1, n_sub (by omega)]; rfl
      rw [q2]
    · show (if 47 = 37 ∧ _ then _ else if 47 = 37 ∧ _ then _ else if 47 = 47 ∧ nl = nl then _ else _) = _
      rw [if_neg (by omega), if_neg (by omega), if_pos ⟨rfl, rfl⟩]
    · exact cdX.of (I := I') (I' := u2 (u2 (u2 I' 47 nl (Int32.ofNat cm.length)) 37 9 0) 37 12 (Int32.ofNat (nl + 1))) (C := 46) (fun j => rfl) _ _ c1
    · rfl
    · rw [if_pos ⟨rfl, rfl⟩]
      rfl
    · show (if a = 37 ∧ j = 12 then _ else u2 (u2 I' 47 nl (Int32.ofNat cm.length)) 37 9 0 a j) = _
      rw [if_neg (by omega)]
      exact fr2 a j x y z
  · have ge : ¬ Int32.ofNat p' < 0 := by rw [k_0, n_lt (by omega) (by decide)]; omega
    refine ⟨u2 (u2 I' 47 nl (Int32.ofNat cm.length)) 37 9 0, ?_, ?_, ?_, ?_, ?_, fr2⟩
    · have fin : exe X (d + 58) 166 56 [.ref 37, .int (Int32.ofNat nl), .int (okn ok)] [] (sz, sl, sh, R, I', J) = some (some (.int (Int32.ofNat p')), (sz, sl, sh, R, u2 (u2 I' 47 nl (Int32.ofNat cm.length)) 37 9 0, J)) := by
        rw [t166_56 hS]
        have z76 : exe X (d + 58) 166 76 [.ref 37, .int (Int32.ofNat nl), dm] [.int 0] (sz, sl, sh, R, I', J) = some (some (.int (Int32.ofNat p')), (sz, sl, sh, R, u2 (u2 I' 47 nl (Int32.ofNat cm.length)) 37 9 0, J)) := by
          rw [t166_76 hS, if_pos l2, if_pos rfl, l3, t.2.2.2.1, t.2.2.2.2.2.2.1]
        cases ok with
        | false => rw [if_pos okn_0, t166_75, z76]
        | true =>
          have : ¬ p' = nt := fun z => g ⟨rfl, z⟩
          rw [if_neg (by decide), t.2.2.2.1, t.2.2.1, if_pos (by rw [n_eq (by omega) (by omega)]; exact this), t166_75, z76]
      rw [n165, t165_0 hS, e12, if_pos l1, a1, fin, ob_s, if_neg g]
      show exe X (d + 59) 165 19 _ [.int _] _ = _
      rw [t165_19 hS, if_neg ge]
    · show (if 47 = 37 ∧ _ then _ else if 47 = 47 ∧ nl = nl then _ else _) = _
      rw [if_neg (by omega), if_pos ⟨rfl, rfl⟩]
    · exact cdX.of (I := I') (I' := u2 (u2 I' 47 nl (Int32.ofNat cm.length)) 37 9 0) (C := 46) (fun j => rfl) _ _ c1
    · rfl
    · rw [if_neg g]
      exact i12
theorem s_lawX0 (hS : SF sh R) (hl : nl < 4) (e4 : I 0 4 = Int32.ofNat nl) (hp : p' ≤ nt) (hn : nt ≤ 120) (g : ¬ (ok = true ∧ p' = nt))
    (run : ∃ I', ev X (d + 59) 42 [.ref 2] (sz, sl, sh, R, I, J) = exe X (d + 58) 42 57 [.ref 2, .int (okn ok), dm] [] (sz, sl, sh, R, I', J) ∧ tX T nt I' p' cx.length ∧ cdX I' 4 0 cx ∧ ∀ a j, a ≠ 4 → ¬ (a = 2 ∧ (j = 2 ∨ j = 4)) → I' a j = I a j) :
    ∃ I1, ev X (d + 60) 41 [.ref 0] (sz, sl, sh, R, I, J) = some (some (.int (-100 - Int32.ofNat p')), (sz, sl, sh, R, I1, J)) ∧ I1 2 3 = 0 ∧ ∀ a j, a ≠ 4 → ¬ (a = 2 ∧ 2 ≤ j ∧ j ≤ 4) → I1 a j = I a j := by
  obtain ⟨I', a1, t, c1, fr⟩ := run
  refine ⟨u2 I' 2 3 0, ?_, rfl, fun a j x y => ?_⟩
  · have fin : exe X (d + 58) 42 57 [.ref 2, .int (okn ok), dm] [] (sz, sl, sh, R, I', J) = some (some .null, (sz, sl, sh, R, I', J)) := by
      rw [t42_57 hS]
      cases ok with
      | false => rw [if_pos okn_0]
      | true =>
        have : ¬ p' = nt := fun z => g ⟨rfl, z⟩
        rw [if_neg (by decide), s_sign hS t hp, ob_s]
        show exe X (d + 58) 42 65 _ [.int _] _ = _
        rw [t42_65, if_pos (by rw [sgv_m hn t.2.1 hp]; exact this)]
    rw [n41, t41_0 hS, e4, if_pos (by rw [k_4, n_lt (by omega) (by decide)]; exact hl), a1, fin, ob_s]
    show exe X (d + 59) 41 22 _ [.null] _ = _
    rw [t41_22 hS rfl, nn_null, t.2.2.2.1]
  · unfold u2
    rw [if_neg (by omega)]
    exact fr a j x (by omega)
theorem s_lawX1 (hS : SF sh R) (h71 : 71 ≤ sz) (hl : nl < 4) (e4 : I 0 4 = Int32.ofNat nl) (hn : nt ≤ 120) (hm : cx.length ≤ 241)
    (run : ∃ I', ev X (d + 59) 42 [.ref 2] (sz, sl, sh, R, I, J) = exe X (d + 58) 42 57 [.ref 2, .int (okn true), dm] [] (sz, sl, sh, R, I', J) ∧ tX T nt I' nt cx.length ∧ cdX I' 4 0 cx ∧ ∀ a j, a ≠ 4 → ¬ (a = 2 ∧ (j = 2 ∨ j = 4)) → I' a j = I a j) :
    ∃ sh1 R1 I1 J1, ev X (d + 60) 41 [.ref 0] (sz, sl, sh, R, I, J) = some (some (.int (Int32.ofNat nl)), (sz + 4, sl + 11 + 2 * cx.length, sh1, R1, I1, J1)) ∧ I1 2 3 = 0 ∧ I1 0 4 = Int32.ofNat (nl + 1) ∧ cdX I1 (sz + 2) 0 cx ∧ (∀ a j, a < sz → a ≠ 4 → ¬ (a = 2 ∧ 2 ≤ j ∧ j ≤ 4) → ¬ (a = 0 ∧ j = 4) → I1 a j = I a j) ∧ (∀ a j, a < sz → J1 a j = J a j) ∧ (∀ a, a < sz → sh1 a = sh a) ∧ (∀ a j, a < sz → ¬ (a = 5 ∧ j = nl) → R1 a j = R a j) ∧ R1 5 nl = some sz ∧ LO sh1 R1 sz (sz + 2) (sz + 3) (sz + 1) cx.length := by
  obtain ⟨I', a1, t, c1, fr⟩ := run
  have hS1 : SF (ur sh sz (10, 0)) (ur R sz (fun _ => none)) := hS.up (fun a ha => by rw [ur_n (by omega)]) (fun a k ha _ _ _ => by rw [ur_n (by omega)])
  obtain ⟨I2, J2, b1, b2, b3, b4⟩ := s_lawInit (X := X) (d := d + 57) (s := sz + 1) (sl := sl + 3) (sh := ur sh sz (10, 0)) (R := ur R sz (fun _ => none)) (I := ur I' sz (fun _ => 0)) (J := ur J sz (fun _ => 0)) (L := sz) (m := cx.length) ur_a (by omega) (zS4 hS1) (by omega) hm
  have z22 : ur I' sz (fun _ => 0) 2 2 = Int32.ofNat cx.length := by rw [ur_n (by omega)]; exact t.2.2.2.2.1
  generalize hsh : ur (ur (ur (ur sh sz (10, 0)) (sz + 1) (0, 7)) (sz + 1 + 1) (0, cx.length)) (sz + 1 + 1 + 1) (0, cx.length + 1) = sh1 at b1
  generalize hR1 : u2 (ur (u2 (ur (u2 (ur (ur R sz (fun _ => none)) (sz + 1) (fun _ => none)) sz 2 (some (sz + 1))) (sz + 1 + 1) (fun _ => none)) sz 0 (some (sz + 1 + 1))) (sz + 1 + 1 + 1) (fun _ => none)) sz 1 (some (sz + 1 + 1 + 1)) = R1 at b1
  have sN : ∀ a, a < sz → sh1 a = sh a := fun a ha => by rw [← hsh, ur_n (by omega), ur_n (by omega), ur_n (by omega), ur_n (by omega)]
  have rN : ∀ a j, a < sz → R1 a j = R a j := fun a j ha => by
    rw [← hR1]
    unfold u2
    rw [if_neg (by omega), ur_n (by omega), if_neg (by omega), ur_n (by omega), if_neg (by omega), ur_n (by omega), ur_n (by omega)]
  have iN : ∀ a j, a < sz → I2 a j = I' a j := fun a j ha => by rw [b3 a j (by omega), ur_n (by omega)]
  have hS2 : SF sh1 R1 := hS.up (fun a ha => sN a (by omega)) (fun a k ha _ _ _ => rN a k (by omega))
  have hS3 : SF sh1 (u2 R1 5 nl (some sz)) := hS2.up (fun a ha => rfl) (fun a k ha _ h5 _ => by unfold u2; rw [if_neg (by omega)])
  have shL : sh1 sz = (10, 0) := by rw [← hsh, ur_n (by omega), ur_n (by omega), ur_n (by omega), ur_a]
  have cond : ((3 ≤ (sh1 5).1 ∧ (sh1 5).1 < 7) ∧ inb (Int32.ofNat nl) (sh1 5).2) ∧ sh1 sz = (tcl (sh1 5).1 + 7, 0) := by
    rw [zS5 hS2, shL]
    exact ⟨⟨⟨by decide, by decide⟩, by rw [n_inb (by omega)]; exact hl⟩, rfl⟩
  have i04 : I2 0 4 = Int32.ofNat nl := by rw [iN 0 4 (by omega), fr 0 4 (by omega) (by omega)]; exact e4
  refine ⟨sh1, u2 R1 5 nl (some sz), u2 (u2 I2 2 3 0) 0 4 (Int32.ofNat (nl + 1)), J2, ?_, rfl, rfl, ?_, fun a j ha x y z => ?_, fun a j ha => ?_, sN, fun a j ha z => ?_, ?_, ?_⟩
  · have fin : exe X (d + 58) 42 57 [.ref 2, .int (okn true), dm] [] (sz, sl, sh, R, I', J) = some (some (.ref sz), (sz + 1 + 1 + 1 + 1, sl + 3 + 7 + cx.length + (cx.length + 1), sh1, R1, I2, J2)) := by
      rw [t42_57 hS, if_neg (by decide), s_sign hS t (Nat.le_refl _), ob_s]
      show exe X (d + 58) 42 65 _ [.int _] _ = _
      rw [t42_65, if_neg (by rw [sgv_m hn t.2.1 (Nat.le_refl _)]; exact fun z => z rfl), t42_72 hS1 rfl, rf_ref, if_pos ur_a, z22]
      refine (ob_of b1).trans ?_
      show exe X (d + 58) 42 84 _ [.ref sz] _ = _
      rw [t42_84 rfl]
    rw [n41, t41_0 hS, e4, if_pos (by rw [k_4, n_lt (by omega) (by decide)]; exact hl), a1, fin, ob_s]
    show exe X (d + 59) 41 22 _ [.ref sz] _ = _
    rw [t41_22 hS2 rfl, nn_ref, rf_ref, i04, if_pos cond, n_cl (by omega), t41_58 hS3]
    have q : u2 I2 2 3 0 0 4 = Int32.ofNat nl := i04
    rw [q, n_suc, show sl + 3 + 7 + cx.length + (cx.length + 1) = sl + 11 + 2 * cx.length by omega]
  · refine cdX_mv cx 0 (fun j _ hj => ?_) c1
    have z := b2 j (by omega)
    rw [ur_n (by omega)] at z
    show (if sz + 2 = 0 ∧ _ then _ else if sz + 2 = 2 ∧ _ then _ else I2 (sz + 2) j) = _
    rw [if_neg (by omega), if_neg (by omega)]
    exact z
  · unfold u2
    rw [if_neg (by omega), if_neg (by omega), iN a j ha]
    exact fr a j x (by omega)
  · rw [b4 a j (by omega), ur_n (by omega)]
  · unfold u2
    rw [if_neg z]
    exact rN a j ha
  · unfold u2
    rw [if_pos ⟨rfl, rfl⟩]
  · have r5 : ∀ a j, a ≠ 5 → u2 R1 5 nl (some sz) a j = R1 a j := fun a j h => by unfold u2; rw [if_neg (by omega)]
    refine ⟨shL, ?_, ?_, ?_, ?_, ?_, ?_, by omega, by omega, by omega, hm⟩
    · rw [r5 sz 0 (by omega), ← hR1]
      unfold u2
      rw [if_neg (by omega), ur_n (by omega), if_pos ⟨rfl, rfl⟩]
    · rw [r5 sz 1 (by omega), ← hR1]
      unfold u2
      rw [if_pos ⟨rfl, rfl⟩]
    · rw [r5 sz 2 (by omega), ← hR1]
      unfold u2
      rw [if_neg (by omega), ur_n (by omega), if_neg (by omega), ur_n (by omega), if_pos ⟨rfl, rfl⟩]
    · rw [← hsh, ur_n (by omega)]
      exact ur_a
    · rw [← hsh]
      exact ur_a
    · rw [← hsh, ur_n (by omega), ur_n (by omega)]
      exact ur_a
end LAW
