/-! LAW: the levels -/
theorem lvn_in {c : Nat} : (lvn c = 0 → c = 124) ∧ (lvn c = 1 → c = 38) ∧ (lvn c = 2 → c = 60 ∨ c = 61 ∨ c = 62) ∧ (lvn c = 3 → c = 43 ∨ c = 45) ∧ (lvn c = 4 → c = 37 ∨ c = 42 ∨ c = 47) := by
  unfold lvn
  by_cases h37 : c = 37
  · subst h37; decide
  by_cases h38 : c = 38
  · subst h38; decide
  by_cases h42 : c = 42
  · subst h42; decide
  by_cases h43 : c = 43
  · subst h43; decide
  by_cases h45 : c = 45
  · subst h45; decide
  by_cases h47 : c = 47
  · subst h47; decide
  by_cases h60 : c = 60
  · subst h60; decide
  by_cases h61 : c = 61
  · subst h61; decide
  by_cases h62 : c = 62
  · subst h62; decide
  by_cases h124 : c = 124
  · subst h124; decide
  rw [if_neg h37, if_neg h38, if_neg h42, if_neg h43, if_neg h45, if_neg h47, if_neg h60, if_neg h61, if_neg h62, if_neg h124]
  exact ⟨fun z => absurd z (by decide), fun z => absurd z (by decide), fun z => absurd z (by decide), fun z => absurd z (by decide), fun z => absurd z (by decide)⟩
section LEVELS
variable {X : XX} {T : Nat → Nat} {nt o N : Nat}
theorem sg_no (h2 : ∀ j, j < nt → T j ≤ 255) {p a c : Nat} (hc : c ≤ 255) (ha : lvn c = a) (q : ¬ (p < nt ∧ lvn (T p) = a)) : ¬ sgv T nt p = Int32.ofNat c := fun z => by
  rw [sgv_eq h2 hc] at z
  exact q ⟨z.1, by rw [z.2]; exact ha⟩
theorem sg_is {p c : Nat} (hp : p < nt) (q : T p = c) : sgv T nt p = Int32.ofNat c := by rw [sgv_in hp, q]
theorem p_readsAll (hN : 1 ≤ N) (hn : nt ≤ 120) (hc : ∀ p, p ≤ nt → PP T nt N (fun e H => ev X e 44 [.ref 2, .int (Int32.ofNat (0 + 1)), .int (Int32.ofNat o)] H) (fun e H => ev X e 169 [.ref 37] H) o p) (p : Nat) (hp : p ≤ nt) : PP T nt (N + 1) (fun e H => ev X e 44 [.ref 2, .int (Int32.ofNat 0), .int (Int32.ofNat o)] H) (fun e H => ev X e 168 [.ref 37] H) o p := by
  refine lvl (mC := 169) (mL := 168) (LM := fun e b H => exe X e 168 5 [.ref 37, .int b] [] H) (by decide) (by decide) hN hn hc ?_ ?_ ?_ ?_ p hp
  · intro e sz sl sh R I J ok H' hS run
    obtain ⟨sz', sl', sh', R', I', J'⟩ := H'
    show _ = exe X e 168 5 _ [] _
    rw [n168, t168_0 hS, run, ob_s]
    show exe X e 168 4 _ [.int _] _ = _
    rw [t168_4]
  · intro e sz sl sh R I J hS
    show exe X e 168 5 _ [] _ = _
    rw [t168_5 hS, if_pos rfl, if_pos (Or.inl rfl)]
  · intro e sz sl sh R I J l k p hS h hp q
    have one : (1 : Int32) = 0 ∨ (1 : Int32) = 1 := Or.inr rfl
    show exe X (e + 1) 168 5 _ [] _ = _
    rw [t168_5 hS, if_neg (by decide), s_here hS h hp, ob_s]
    show exe X (e + 1) 168 13 _ [.int _] _ = _
    rw [t168_13 hS, if_pos (show ¬ sgv T nt p = (124 : Int32) from sg_no h.2.1 (c := 124) (by decide) rfl q), if_pos one]
  · intro e sz sl sh R I I' J l k p p1 k1 ok hl hS h hp q run h' hk
    show exe X (e + 1) 168 5 _ [] _ = exe X (e + 1) 168 5 _ [] _
    rw [t168_5 hS, if_neg (by decide), s_here hS h (by omega), ob_s]
    show exe X (e + 1) 168 13 _ [.int _] _ = _
    have q0 := lvn_in.1 q
    rw [sg_is hp q0, ← k_124]
    rw [t168_13 hS, if_neg (fun z => z rfl), h.2.2.2.1, n_suc, run, ob_s]
    show exe X (e + 1) 168 32 _ [.int _] _ = _
    rw [t168_32 hS, k_11, s_emits hS h' hl hk, ob_s]
    show exe X (e + 1) 168 39 _ [] _ = _
    rw [t168_39, q0]
    rfl
theorem p_readsAnd (hN : 1 ≤ N) (hn : nt ≤ 120) (hc : ∀ p, p ≤ nt → PP T nt N (fun e H => ev X e 44 [.ref 2, .int (Int32.ofNat (1 + 1)), .int (Int32.ofNat o)] H) (fun e H => ev X e 170 [.ref 37] H) o p) (p : Nat) (hp : p ≤ nt) : PP T nt (N + 1) (fun e H => ev X e 44 [.ref 2, .int (Int32.ofNat 1), .int (Int32.ofNat o)] H) (fun e H => ev X e 169 [.ref 37] H) o p := by
  refine lvl (mC := 170) (mL := 169) (LM := fun e b H => exe X e 169 5 [.ref 37, .int b] [] H) (by decide) (by decide) hN hn hc ?_ ?_ ?_ ?_ p hp
  · intro e sz sl sh R I J ok H' hS run
    obtain ⟨sz', sl', sh', R', I', J'⟩ := H'
    show _ = exe X e 169 5 _ [] _
    rw [n169, t169_0 hS, run, ob_s]
    show exe X e 169 4 _ [.int _] _ = _
    rw [t169_4]
  · intro e sz sl sh R I J hS
    show exe X e 169 5 _ [] _ = _
    rw [t169_5 hS, if_pos rfl, if_pos (Or.inl rfl)]
  · intro e sz sl sh R I J l k p hS h hp q
    have one : (1 : Int32) = 0 ∨ (1 : Int32) = 1 := Or.inr rfl
    show exe X (e + 1) 169 5 _ [] _ = _
    rw [t169_5 hS, if_neg (by decide), s_here hS h hp, ob_s]
    show exe X (e + 1) 169 13 _ [.int _] _ = _
    rw [t169_13 hS, if_pos (show ¬ sgv T nt p = (38 : Int32) from sg_no h.2.1 (c := 38) (by decide) rfl q), if_pos one]
  · intro e sz sl sh R I I' J l k p p1 k1 ok hl hS h hp q run h' hk
    show exe X (e + 1) 169 5 _ [] _ = exe X (e + 1) 169 5 _ [] _
    rw [t169_5 hS, if_neg (by decide), s_here hS h (by omega), ob_s]
    show exe X (e + 1) 169 13 _ [.int _] _ = _
    have q0 := lvn_in.2.1 q
    rw [sg_is hp q0, ← k_38]
    rw [t169_13 hS, if_neg (fun z => z rfl), h.2.2.2.1, n_suc, run, ob_s]
    show exe X (e + 1) 169 32 _ [.int _] _ = _
    rw [t169_32 hS, k_12, s_emits hS h' hl hk, ob_s]
    show exe X (e + 1) 169 39 _ [] _ = _
    rw [t169_39, q0]
    rfl
theorem p_readsSum (hN : 1 ≤ N) (hn : nt ≤ 120) (hc : ∀ p, p ≤ nt → PP T nt N (fun e H => ev X e 44 [.ref 2, .int (Int32.ofNat (3 + 1)), .int (Int32.ofNat o)] H) (fun e H => ev X e 172 [.ref 37] H) o p) (p : Nat) (hp : p ≤ nt) : PP T nt (N + 1) (fun e H => ev X e 44 [.ref 2, .int (Int32.ofNat 3), .int (Int32.ofNat o)] H) (fun e H => ev X e 171 [.ref 37] H) o p := by
  refine lvl (mC := 172) (mL := 171) (LM := fun e b H => exe X e 171 5 [.ref 37, .int b, dm] [] H) (by decide) (by decide) hN hn hc ?_ ?_ ?_ ?_ p hp
  · intro e sz sl sh R I J ok H' hS run
    obtain ⟨sz', sl', sh', R', I', J'⟩ := H'
    show _ = exe X e 171 5 _ [] _
    rw [n171, t171_0 hS, run, ob_s]
    show exe X e 171 4 _ [.int _] _ = _
    rw [t171_4]
  · intro e sz sl sh R I J hS
    show exe X e 171 5 _ [] _ = _
    rw [t171_5 hS, if_pos rfl, if_pos (Or.inl rfl)]
  · intro e sz sl sh R I J l k p hS h hp q
    have one : (1 : Int32) = 0 ∨ (1 : Int32) = 1 := Or.inr rfl
    show exe X (e + 1) 171 5 _ [] _ = _
    rw [t171_5 hS, if_neg (by decide), s_here hS h hp, ob_s]
    show exe X (e + 1) 171 13 _ [.int _] _ = _
    rw [t171_13 hS, if_neg (show ¬ sgv T nt p = (43 : Int32) from sg_no h.2.1 (c := 43) (by decide) rfl q), s_here hS h hp, ob_s]
    show exe X (e + 1) 171 22 _ [.int _] _ = _
    rw [t171_22 hS, if_pos (show ¬ sgv T nt p = (45 : Int32) from sg_no h.2.1 (c := 45) (by decide) rfl q), if_pos one]
  · intro e sz sl sh R I I' J l k p p1 k1 ok hl hS h hp q run h' hk
    show exe X (e + 1) 171 5 _ [] _ = exe X (e + 1) 171 5 _ [] _
    rw [t171_5 hS, if_neg (by decide), s_here hS h (by omega), ob_s]
    show exe X (e + 1) 171 13 _ [.int _] _ = _
    rcases lvn_in.2.2.2.1 q with q0 | q0
    · rw [sg_is hp q0, ← k_43]
      rw [t171_13 hS, if_pos rfl, s_here hS h (by omega), ob_s, sg_is hp q0, ← k_43]
      show exe X (e + 1) 171 31 _ [.int _] _ = _
      rw [t171_31 hS, h.2.2.2.1, n_suc, run, ob_s]
      show exe X (e + 1) 171 46 _ [.int _] _ = _
      rw [t171_46 hS, if_neg (fun z => z rfl), k_16, s_emits hS h' hl hk, ob_s]
      show exe X (e + 1) 171 64 _ [] _ = _
      rw [t171_64, q0]
      rfl
    · rw [sg_is hp q0, ← k_45]
      rw [t171_13 hS, if_neg (by decide), s_here hS h (by omega), ob_s, sg_is hp q0, ← k_45]
      show exe X (e + 1) 171 22 _ [.int _] _ = _
      rw [t171_22 hS, if_neg (fun z => z rfl), s_here hS h (by omega), ob_s, sg_is hp q0, ← k_45]
      show exe X (e + 1) 171 31 _ [.int _] _ = _
      rw [t171_31 hS, h.2.2.2.1, n_suc, run, ob_s]
      show exe X (e + 1) 171 46 _ [.int _] _ = _
      rw [t171_46 hS, if_pos (by decide), k_17, s_emits hS h' hl hk, ob_s]
      show exe X (e + 1) 171 64 _ [] _ = _
      rw [t171_64, q0]
      rfl
theorem p_readsTimes (hN : 1 ≤ N) (hn : nt ≤ 120) (hc : ∀ p, p ≤ nt → PP T nt N (fun e H => ev X e 44 [.ref 2, .int (Int32.ofNat (4 + 1)), .int (Int32.ofNat o)] H) (fun e H => ev X e 173 [.ref 37] H) o p) (p : Nat) (hp : p ≤ nt) : PP T nt (N + 1) (fun e H => ev X e 44 [.ref 2, .int (Int32.ofNat 4), .int (Int32.ofNat o)] H) (fun e H => ev X e 172 [.ref 37] H) o p := by
  refine lvl (mC := 173) (mL := 172) (LM := fun e b H => exe X e 172 5 [.ref 37, .int b, dm] [] H) (by decide) (by decide) hN hn hc ?_ ?_ ?_ ?_ p hp
  · intro e sz sl sh R I J ok H' hS run
    obtain ⟨sz', sl', sh', R', I', J'⟩ := H'
    show _ = exe X e 172 5 _ [] _
    rw [n172, t172_0 hS, run, ob_s]
    show exe X e 172 4 _ [.int _] _ = _
    rw [t172_4]
  · intro e sz sl sh R I J hS
    show exe X e 172 5 _ [] _ = _
    rw [t172_5 hS, if_pos rfl, if_pos (Or.inl rfl)]
  · intro e sz sl sh R I J l k p hS h hp q
    have one : (1 : Int32) = 0 ∨ (1 : Int32) = 1 := Or.inr rfl
    show exe X (e + 1) 172 5 _ [] _ = _
    rw [t172_5 hS, if_neg (by decide), s_here hS h hp, ob_s]
    show exe X (e + 1) 172 13 _ [.int _] _ = _
    rw [t172_13 hS, if_neg (show ¬ sgv T nt p = (42 : Int32) from sg_no h.2.1 (c := 42) (by decide) rfl q), s_here hS h hp, ob_s]
    show exe X (e + 1) 172 22 _ [.int _] _ = _
    rw [t172_22 hS, if_neg (show ¬ sgv T nt p = (47 : Int32) from sg_no h.2.1 (c := 47) (by decide) rfl q), s_here hS h hp, ob_s]
    show exe X (e + 1) 172 31 _ [.int _] _ = _
    rw [t172_31 hS, if_pos (show ¬ sgv T nt p = (37 : Int32) from sg_no h.2.1 (c := 37) (by decide) rfl q), if_pos one]
  · intro e sz sl sh R I I' J l k p p1 k1 ok hl hS h hp q run h' hk
    show exe X (e + 1) 172 5 _ [] _ = exe X (e + 1) 172 5 _ [] _
    rw [t172_5 hS, if_neg (by decide), s_here hS h (by omega), ob_s]
    show exe X (e + 1) 172 13 _ [.int _] _ = _
    rcases lvn_in.2.2.2.2 q with q0 | q0 | q0
    · rw [sg_is hp q0, ← k_37]
      rw [t172_13 hS, if_neg (by decide), s_here hS h (by omega), ob_s, sg_is hp q0, ← k_37]
      show exe X (e + 1) 172 22 _ [.int _] _ = _
      rw [t172_22 hS, if_neg (by decide), s_here hS h (by omega), ob_s, sg_is hp q0, ← k_37]
      show exe X (e + 1) 172 31 _ [.int _] _ = _
      rw [t172_31 hS, if_neg (fun z => z rfl), s_here hS h (by omega), ob_s, sg_is hp q0, ← k_37]
      show exe X (e + 1) 172 40 _ [.int _] _ = _
      rw [t172_40 hS, h.2.2.2.1, n_suc, run, ob_s]
      show exe X (e + 1) 172 55 _ [.int _] _ = _
      rw [t172_55 hS, if_pos (by decide), if_pos (by decide), k_22, s_emits hS h' hl hk, ob_s]
      show exe X (e + 1) 172 84 _ [] _ = _
      rw [t172_84, q0]
      rfl
    · rw [sg_is hp q0, ← k_42]
      rw [t172_13 hS, if_pos rfl, s_here hS h (by omega), ob_s, sg_is hp q0, ← k_42]
      show exe X (e + 1) 172 40 _ [.int _] _ = _
      rw [t172_40 hS, h.2.2.2.1, n_suc, run, ob_s]
      show exe X (e + 1) 172 55 _ [.int _] _ = _
      rw [t172_55 hS, if_neg (fun z => z rfl), k_18, s_emits hS h' hl hk, ob_s]
      show exe X (e + 1) 172 84 _ [] _ = _
      rw [t172_84, q0]
      rfl
    · rw [sg_is hp q0, ← k_47]
      rw [t172_13 hS, if_neg (by decide), s_here hS h (by omega), ob_s, sg_is hp q0, ← k_47]
      show exe X (e + 1) 172 22 _ [.int _] _ = _
      rw [t172_22 hS, if_pos rfl, s_here hS h (by omega), ob_s, sg_is hp q0, ← k_47]
      show exe X (e + 1) 172 40 _ [.int _] _ = _
      rw [t172_40 hS, h.2.2.2.1, n_suc, run, ob_s]
      show exe X (e + 1) 172 55 _ [.int _] _ = _
      rw [t172_55 hS, if_pos (by decide), if_neg (fun z => z rfl), k_21, s_emits hS h' hl hk, ob_s]
      show exe X (e + 1) 172 84 _ [] _ = _
      rw [t172_84, q0]
      rfl
theorem m_less0 {e sz sl : Nat} {sh : Nat → Nat × Nat} {R : Nat → Nat → Option Nat} {I : Nat → Nat → Int32} {J : Nat → Nat → Int64} {sz' sl' : Nat} {sh' : Nat → Nat × Nat} {R' : Nat → Nat → Option Nat} {I' : Nat → Nat → Int32} {J' : Nat → Nat → Int64} {ok : Bool} (hS : SF sh R) (run : ev X e 171 [.ref 37] (sz, sl, sh, R, I, J) = some (some (.int (okn ok)), (sz', sl', sh', R', I', J'))) : ev X (e + 1) 170 [.ref 37] (sz, sl, sh, R, I, J) = exe X e 170 4 [.ref 37, dm, dm] [.int (okn ok)] (sz', sl', sh', R', I', J') := by
  rw [n170, t170_0 hS, run, ob_s]
  rfl
theorem m_less1 {e sz sl : Nat} {sh : Nat → Nat × Nat} {R : Nat → Nat → Option Nat} {I : Nat → Nat → Int32} {J : Nat → Nat → Int64} (hS : SF sh R) : exe X e 170 4 [.ref 37, dm, dm] [.int 0] (sz, sl, sh, R, I, J) = some (some (.int 0), (sz, sl, sh, R, I, J)) := by
  rw [t170_4 hS, if_pos rfl, t170_84, if_pos (Or.inl rfl)]
theorem m_less2 {e sz sl : Nat} {sh : Nat → Nat × Nat} {R : Nat → Nat → Option Nat} {I : Nat → Nat → Int32} {J : Nat → Nat → Int64} {l k p : Nat} (hS : SF sh R) (h : tM T nt I l o p k) (hp : p ≤ nt) (q : ¬ (p < nt ∧ lvn (T p) = 2)) : exe X (e + 1) 170 4 [.ref 37, dm, dm] [.int 1] (sz, sl, sh, R, I, J) = some (some (.int 1), (sz, sl, sh, R, I, J)) := by
  have one : (1 : Int32) = 0 ∨ (1 : Int32) = 1 := Or.inr rfl
  rw [t170_4 hS, if_neg (by decide), s_here hS h hp, ob_s]
  show exe X (e + 1) 170 13 _ [.int _] _ = _
  rw [t170_13 hS, if_neg (show ¬ sgv T nt p = (60 : Int32) from sg_no h.2.1 (c := 60) (by decide) rfl q), s_here hS h hp, ob_s]
  show exe X (e + 1) 170 22 _ [.int _] _ = _
  rw [t170_22 hS, if_neg (show ¬ sgv T nt p = (61 : Int32) from sg_no h.2.1 (c := 61) (by decide) rfl q), s_here hS h hp, ob_s]
  show exe X (e + 1) 170 31 _ [.int _] _ = _
  rw [t170_31 hS, if_pos (show ¬ sgv T nt p = (62 : Int32) from sg_no h.2.1 (c := 62) (by decide) rfl q), t170_84, if_pos one]
theorem m_less3 {e sz sl : Nat} {sh : Nat → Nat × Nat} {R : Nat → Nat → Option Nat} {I I' : Nat → Nat → Int32} {J : Nat → Nat → Int64} {l k p p1 k1 : Nat} {ok : Bool} (hl : l < 4) (hS : SF sh R) (h : tM T nt I l o p k) (hp : p < nt) (q : lvn (T p) = 2) (run : ev X (e + 1) 171 [.ref 37] (sz, sl, sh, R, u2 I 37 36 (Int32.ofNat (p + 1)), J) = some (some (.int (okn ok)), (sz, sl, sh, R, I', J))) (h' : tM T nt I' l o p1 k1) (hk : k1 < 200) : exe X (e + 1) 170 4 [.ref 37, dm, dm] [.int 1] (sz, sl, sh, R, I, J) = some (some (.int (okn ok)), (sz, sl, sh, R, u2 (u2 I' 46 (200 * l + k1) (Int32.ofNat (oc (T p)))) 37 39 (Int32.ofNat (k1 + 1)), J)) := by
  rw [t170_4 hS, if_neg (by decide), s_here hS h (by omega), ob_s]
  show exe X (e + 1) 170 13 _ [.int _] _ = _
  rcases lvn_in.2.2.1 q with q0 | q0 | q0
  · rw [sg_is hp q0, ← k_60]
    rw [t170_13 hS, if_pos rfl, s_here hS h (by omega), ob_s, sg_is hp q0, ← k_60]
    show exe X (e + 1) 170 40 _ [.int _] _ = _
    rw [t170_40 hS, h.2.2.2.1, n_suc, run, ob_s]
    show exe X (e + 1) 170 55 _ [.int _] _ = _
    rw [t170_55 hS, if_neg (fun z => z rfl), k_14, s_emits hS h' hl hk, ob_s]
    show exe X (e + 1) 170 84 _ [] _ = _
    rw [t170_84, if_pos okn_or, q0]
    rfl
  · rw [sg_is hp q0, ← k_61]
    rw [t170_13 hS, if_neg (by decide), s_here hS h (by omega), ob_s, sg_is hp q0, ← k_61]
    show exe X (e + 1) 170 22 _ [.int _] _ = _
    rw [t170_22 hS, if_pos rfl, s_here hS h (by omega), ob_s, sg_is hp q0, ← k_61]
    show exe X (e + 1) 170 40 _ [.int _] _ = _
    rw [t170_40 hS, h.2.2.2.1, n_suc, run, ob_s]
    show exe X (e + 1) 170 55 _ [.int _] _ = _
    rw [t170_55 hS, if_pos (by decide), if_neg (fun z => z rfl), k_15, s_emits hS h' hl hk, ob_s]
    show exe X (e + 1) 170 84 _ [] _ = _
    rw [t170_84, if_pos okn_or, q0]
    rfl
  · rw [sg_is hp q0, ← k_62]
    rw [t170_13 hS, if_neg (by decide), s_here hS h (by omega), ob_s, sg_is hp q0, ← k_62]
    show exe X (e + 1) 170 22 _ [.int _] _ = _
    rw [t170_22 hS, if_neg (by decide), s_here hS h (by omega), ob_s, sg_is hp q0, ← k_62]
    show exe X (e + 1) 170 31 _ [.int _] _ = _
    rw [t170_31 hS, if_neg (fun z => z rfl), s_here hS h (by omega), ob_s, sg_is hp q0, ← k_62]
    show exe X (e + 1) 170 40 _ [.int _] _ = _
    rw [t170_40 hS, h.2.2.2.1, n_suc, run, ob_s]
    show exe X (e + 1) 170 55 _ [.int _] _ = _
    rw [t170_55 hS, if_pos (by decide), if_pos (by decide), k_20, s_emits hS h' hl hk, ob_s]
    show exe X (e + 1) 170 84 _ [] _ = _
    rw [t170_84, if_pos okn_or, q0]
    rfl
theorem p_readsLess (hN : 1 ≤ N) (hn : nt ≤ 120) (hc : ∀ p, p ≤ nt → PP T nt N (fun e H => ev X e 44 [.ref 2, .int (Int32.ofNat (2 + 1)), .int (Int32.ofNat o)] H) (fun e H => ev X e 171 [.ref 37] H) o p) (p : Nat) (hp : p ≤ nt) : PP T nt (N + 1) (fun e H => ev X e 44 [.ref 2, .int (Int32.ofNat 2), .int (Int32.ofNat o)] H) (fun e H => ev X e 170 [.ref 37] H) o p := by
  obtain ⟨ok, p1, cx, cm, g1, g2, g3, g4, gx, gm, gs⟩ := hc p hp
  have hm : 1 = if 2 = 2 then 1 else 120 := rfl
  cases ok with
  | false =>
    refine ⟨false, p1, cx, cm, g1, g2, g3, g4, ?_, ?_, fun z => Bool.noConfusion z⟩
    · intro e sz sl sh R I J k he hS h hk
      obtain ⟨e, rfl⟩ : ∃ m, e = m + 1 := ⟨e - 1, by omega⟩
      obtain ⟨I', a1, a2⟩ := gx e sz sl sh R I J k (by omega) hS h hk
      refine ⟨I', ?_, a2⟩
      show ev X (e + 1) 44 _ _ = _
      rw [x_level hS (by decide) hm a1, if_neg (by decide)]
      rfl
    · intro e sz sl sh R I J l k hl he hS h hk
      obtain ⟨e, rfl⟩ : ∃ m, e = m + 1 := ⟨e - 1, by omega⟩
      obtain ⟨I', a1, a2⟩ := gm e sz sl sh R I J l k hl (by omega) hS h hk
      refine ⟨I', ?_, a2⟩
      show ev X (e + 1) 170 _ _ = _
      rw [m_less0 hS a1]
      exact m_less1 hS
  | true =>
    obtain ⟨v, hv⟩ := gs rfl
    by_cases q : p1 < nt ∧ lvn (T p1) = 2
    · have hop := lvn_op (c := T p1) (by omega)
      obtain ⟨ok2, p2, cx2, cm2, r1, r2, r3, r4, rx, rm, rs⟩ := hc (p1 + 1) (by omega)
      cases ok2 with
      | false =>
        refine ⟨false, p2, cx ++ cx2, cm ++ (cm2 ++ [oc (T p1)]), by omega, r2, by rw [List.length_append]; omega, by rw [List.length_append, List.length_append]; show cm.length + (cm2.length + 1) ≤ _; omega, ?_, ?_, fun z => Bool.noConfusion z⟩
        · intro e sz sl sh R I J k he hS h hk
          obtain ⟨e, rfl⟩ : ∃ m, e = m + 2 := ⟨e - 2, by omega⟩
          obtain ⟨I', a1, a2⟩ := gx (e + 1) sz sl sh R I J k (by omega) hS h hk
          have t0 := eX.t h a2
          have t1 := eX.go (p' := p1 + 1) t0
          obtain ⟨I2, b1, b2⟩ := rx (e + 1) sz sl sh R _ J _ (by omega) hS (eX.t t0 t1) (by show k + cx.length ≤ _; omega)
          refine ⟨I2, ?_, a2.trans (t1.trans b2)⟩
          show ev X (e + 1 + 1) 44 _ _ = _
          rw [x_level hS (by decide) hm a1, if_pos rfl, x_go (by decide) (by decide) hS t0 q.1 (by decide) q.2 (by decide) b1 (eX.t (eX.t t0 t1) b2) (by show k + cx.length + cx2.length < 241; omega), if_neg (by decide)]
          rfl
        · intro e sz sl sh R I J l k hl he hS h hk
          obtain ⟨e, rfl⟩ : ∃ m, e = m + 2 := ⟨e - 2, by omega⟩
          obtain ⟨I', a1, a2⟩ := gm (e + 1) sz sl sh R I J l k hl (by omega) hS h hk
          have t0 := eM.t h a2
          have t1 := eM.go (p' := p1 + 1) t0
          obtain ⟨I2, b1, b2⟩ := rm (e + 1) sz sl sh R _ J l _ hl (by omega) hS (eM.t t0 t1) (by show k + cm.length ≤ _; omega)
          have t2 := eM.t (eM.t t0 t1) b2
          refine ⟨_, ?_, a2.trans (t1.trans (b2.trans (eM.one t2)))⟩
          show ev X (e + 1 + 1) 170 _ _ = _
          rw [m_less0 hS a1]
          exact m_less3 hl hS t0 q.1 q.2 b1 t2 (by show k + cm.length + cm2.length < 200; omega)
      | true =>
        obtain ⟨v2, hv2⟩ := rs rfl
        refine ⟨true, p2, cx ++ (cx2 ++ ([20000 + T p1] ++ [])), cm ++ (cm2 ++ ([oc (T p1)] ++ [])), by omega, r2, by rw [List.length_append, List.length_append]; show cx.length + (cx2.length + 1) ≤ _; omega, by rw [List.length_append, List.length_append]; show cm.length + (cm2.length + 1) ≤ _; omega, ?_, ?_, fun _ => ⟨_, wfq.then hv (wfr.op hop hv2 wfr.nil)⟩⟩
        · intro e sz sl sh R I J k he hS h hk
          obtain ⟨e, rfl⟩ : ∃ m, e = m + 2 := ⟨e - 2, by omega⟩
          obtain ⟨I', a1, a2⟩ := gx (e + 1) sz sl sh R I J k (by omega) hS h hk
          have t0 := eX.t h a2
          have t1 := eX.go (p' := p1 + 1) t0
          obtain ⟨I2, b1, b2⟩ := rx (e + 1) sz sl sh R _ J _ (by omega) hS (eX.t t0 t1) (by show k + cx.length ≤ _; omega)
          have t2 := eX.t (eX.t t0 t1) b2
          have t3 := eX.one (c := 20000 + T p1) t2
          refine ⟨_, ?_, a2.trans (t1.trans (b2.trans t3))⟩
          show ev X (e + 1 + 1) 44 _ _ = _
          rw [x_level hS (by decide) hm a1, if_pos rfl, x_go (by decide) (by decide) hS t0 q.1 (by decide) q.2 (by decide) b1 t2 (by show k + cx.length + cx2.length < 241; omega), if_pos rfl]
          exact x_stop (by decide) (by decide) hS (eX.t t2 t3) r2 (by decide) (Or.inl (Nat.le_refl 1))
        · intro e sz sl sh R I J l k hl he hS h hk
          obtain ⟨e, rfl⟩ : ∃ m, e = m + 2 := ⟨e - 2, by omega⟩
          obtain ⟨I', a1, a2⟩ := gm (e + 1) sz sl sh R I J l k hl (by omega) hS h hk
          have t0 := eM.t h a2
          have t1 := eM.go (p' := p1 + 1) t0
          obtain ⟨I2, b1, b2⟩ := rm (e + 1) sz sl sh R _ J l _ hl (by omega) hS (eM.t t0 t1) (by show k + cm.length ≤ _; omega)
          have t2 := eM.t (eM.t t0 t1) b2
          refine ⟨_, ?_, a2.trans (t1.trans (b2.trans (eM.one t2)))⟩
          show ev X (e + 1 + 1) 170 _ _ = _
          rw [m_less0 hS a1]
          exact m_less3 hl hS t0 q.1 q.2 b1 t2 (by show k + cm.length + cm2.length < 200; omega)
    · refine ⟨true, p1, cx, cm, g1, g2, g3, g4, ?_, ?_, fun _ => ⟨v, hv⟩⟩
      · intro e sz sl sh R I J k he hS h hk
        obtain ⟨e, rfl⟩ : ∃ m, e = m + 2 := ⟨e - 2, by omega⟩
        obtain ⟨I', a1, a2⟩ := gx (e + 1) sz sl sh R I J k (by omega) hS h hk
        refine ⟨I', ?_, a2⟩
        show ev X (e + 1 + 1) 44 _ _ = _
        rw [x_level hS (by decide) hm a1, if_pos rfl]
        exact x_stop (by decide) (by decide) hS (eX.t h a2) g2 (by decide) (Or.inr q)
      · intro e sz sl sh R I J l k hl he hS h hk
        obtain ⟨e, rfl⟩ : ∃ m, e = m + 2 := ⟨e - 2, by omega⟩
        obtain ⟨I', a1, a2⟩ := gm (e + 1) sz sl sh R I J l k hl (by omega) hS h hk
        refine ⟨I', ?_, a2⟩
        show ev X (e + 1 + 1) 170 _ _ = _
        rw [m_less0 hS a1]
        exact m_less2 hS (eM.t h a2) g2 q
end LEVELS
