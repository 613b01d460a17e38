/-! LAW: the signs -/
def sgv (T : Nat → Nat) (nt p : Nat) : Int32 := if p < nt then Int32.ofNat (T p) else -1
def okn : Bool → Int32
  | true => 1
  | false => 0
def tX (T : Nat → Nat) (nt : Nat) (I : Nat → Nat → Int32) (p k : Nat) : Prop := nt ≤ 120 ∧ (∀ j, j < nt → T j ≤ 255) ∧ I 2 3 = Int32.ofNat nt ∧ I 2 4 = Int32.ofNat p ∧ I 2 2 = Int32.ofNat k ∧ ∀ j, j < nt → I 3 j = Int32.ofNat (T j)
def tM (T : Nat → Nat) (nt : Nat) (I : Nat → Nat → Int32) (l o p k : Nat) : Prop := nt ≤ 120 ∧ (∀ j, j < nt → T j ≤ 255) ∧ I 37 9 = Int32.ofNat nt ∧ I 37 36 = Int32.ofNat p ∧ I 37 37 = Int32.ofNat o ∧ I 37 38 = Int32.ofNat l ∧ I 37 39 = Int32.ofNat k ∧ ∀ j, j < nt → I 45 j = Int32.ofNat (T j)
def eX (I I' : Nat → Nat → Int32) (k : Nat) (cx : List Nat) (p' : Nat) : Prop := cdX I' 4 k cx ∧ I' 2 2 = Int32.ofNat (k + cx.length) ∧ I' 2 4 = Int32.ofNat p' ∧ ∀ a j, ¬ (a = 4 ∧ k ≤ j) → ¬ (a = 2 ∧ (j = 2 ∨ j = 4)) → I' a j = I a j
def eM (I I' : Nat → Nat → Int32) (l o k : Nat) (cm : List Nat) (p' : Nat) : Prop := cdX I' 46 (200 * l + k) cm ∧ I' 37 39 = Int32.ofNat (k + cm.length) ∧ I' 37 36 = Int32.ofNat p' ∧ I' 37 37 = Int32.ofNat o ∧ ∀ a j, ¬ (a = 46 ∧ 200 * l + k ≤ j) → ¬ (a = 37 ∧ (j = 36 ∨ j = 37 ∨ j = 39)) → I' a j = I a j
theorem cdX_low {I I' : Nat → Nat → Int32} {C : Nat} : ∀ (a : List Nat) (i : Nat), (∀ j, j < i + a.length → I' C j = I C j) → cdX I C i a → cdX I' C i a
  | [], _, _, _ => trivial
  | c :: r, i, h, ⟨h1, h2⟩ => ⟨(h i (by rw [List.length_cons]; omega)).trans h1, cdX_low r (i + 1) (fun j hj => h j (by rw [List.length_cons]; omega)) h2⟩
theorem eX.t {T : Nat → Nat} {nt p k p' : Nat} {I I' : Nat → Nat → Int32} {cx : List Nat} (h : tX T nt I p k) (e : eX I I' k cx p') : tX T nt I' p' (k + cx.length) := by
  obtain ⟨h1, h2, h3, h4, h5, h6⟩ := h
  obtain ⟨e1, e2, e3, e4⟩ := e
  exact ⟨h1, h2, (e4 2 3 (by omega) (by omega)).trans h3, e3, e2, fun j hj => (e4 3 j (by omega) (by omega)).trans (h6 j hj)⟩
theorem eM.t {T : Nat → Nat} {nt l o p k p' : Nat} {I I' : Nat → Nat → Int32} {cm : List Nat} (h : tM T nt I l o p k) (e : eM I I' l o k cm p') : tM T nt I' l o p' (k + cm.length) := by
  obtain ⟨h1, h2, h3, h4, h5, h6, h7, h8⟩ := h
  obtain ⟨e1, e2, e3, e4, e5⟩ := e
  exact ⟨h1, h2, (e5 37 9 (by omega) (by omega)).trans h3, e3, e4, (e5 37 38 (by omega) (by omega)).trans h6, e2, fun j hj => (e5 45 j (by omega) (by omega)).trans (h8 j hj)⟩
theorem eX.nil {T : Nat → Nat} {nt p k : Nat} {I : Nat → Nat → Int32} (h : tX T nt I p k) : eX I I k [] p := ⟨trivial, h.2.2.2.2.1, h.2.2.2.1, fun _ _ _ _ => rfl⟩
theorem eM.nil {T : Nat → Nat} {nt l o p k : Nat} {I : Nat → Nat → Int32} (h : tM T nt I l o p k) : eM I I l o k [] p := ⟨trivial, h.2.2.2.2.2.2.1, h.2.2.2.1, h.2.2.2.2.1, fun _ _ _ _ => rfl⟩
theorem eX.go {T : Nat → Nat} {nt p k p' : Nat} {I : Nat → Nat → Int32} (h : tX T nt I p k) : eX I (u2 I 2 4 (Int32.ofNat p')) k [] p' := by
  refine ⟨trivial, ?_, ?_, fun a j h1 h2 => ?_⟩
  · exact h.2.2.2.2.1
  · rfl
  · unfold u2
    rw [if_neg (by omega)]
theorem eM.go {T : Nat → Nat} {nt l o p k p' : Nat} {I : Nat → Nat → Int32} (h : tM T nt I l o p k) : eM I (u2 I 37 36 (Int32.ofNat p')) l o k [] p' := by
  refine ⟨trivial, ?_, ?_, ?_, fun a j h1 h2 => ?_⟩
  · exact h.2.2.2.2.2.2.1
  · rfl
  · exact h.2.2.2.2.1
  · unfold u2
    rw [if_neg (by omega)]
theorem eX.one {T : Nat → Nat} {nt p k c : Nat} {I : Nat → Nat → Int32} (h : tX T nt I p k) : eX I (u2 (u2 I 4 k (Int32.ofNat c)) 2 2 (Int32.ofNat (k + 1))) k [c] p := by
  refine ⟨⟨?_, trivial⟩, ?_, ?_, fun a j h1 h2 => ?_⟩
  · unfold u2
    rw [if_neg (by omega), if_pos ⟨rfl, rfl⟩]
  · rfl
  · exact h.2.2.2.1
  · unfold u2
    rw [if_neg (by omega), if_neg (by omega)]
theorem eM.one {T : Nat → Nat} {nt l o p k c : Nat} {I : Nat → Nat → Int32} (h : tM T nt I l o p k) : eM I (u2 (u2 I 46 (200 * l + k) (Int32.ofNat c)) 37 39 (Int32.ofNat (k + 1))) l o k [c] p := by
  refine ⟨⟨?_, trivial⟩, ?_, ?_, ?_, fun a j h1 h2 => ?_⟩
  · unfold u2
    rw [if_neg (by omega), if_pos ⟨rfl, rfl⟩]
  · rfl
  · exact h.2.2.2.1
  · exact h.2.2.2.2.1
  · unfold u2
    rw [if_neg (by omega), if_neg (by omega)]
theorem eX.trans {I I1 I2 : Nat → Nat → Int32} {k p1 p2 : Nat} {c1 c2 : List Nat} (e : eX I I1 k c1 p1) (f : eX I1 I2 (k + c1.length) c2 p2) : eX I I2 k (c1 ++ c2) p2 := by
  obtain ⟨e1, e2, e3, e4⟩ := e
  obtain ⟨f1, f2, f3, f4⟩ := f
  refine ⟨(cdX_app _ _ _).mpr ⟨cdX_low c1 k (fun j hj => f4 4 j (by omega) (by omega)) e1, f1⟩, ?_, f3, fun a j h1 h2 => (f4 a j (by omega) h2).trans (e4 a j h1 h2)⟩
  rw [f2, List.length_append, Nat.add_assoc]
theorem eM.trans {I I1 I2 : Nat → Nat → Int32} {l o k p1 p2 : Nat} {c1 c2 : List Nat} (e : eM I I1 l o k c1 p1) (f : eM I1 I2 l o (k + c1.length) c2 p2) : eM I I2 l o k (c1 ++ c2) p2 := by
  obtain ⟨e1, e2, e3, e4, e5⟩ := e
  obtain ⟨f1, f2, f3, f4, f5⟩ := f
  rw [← Nat.add_assoc] at f1
  refine ⟨(cdX_app _ _ _).mpr ⟨cdX_low c1 _ (fun j hj => f5 46 j (by omega) (by omega)) e1, f1⟩, ?_, f3, f4, fun a j h1 h2 => (f5 a j (by omega) h2).trans (e5 a j h1 h2)⟩
  rw [f2, List.length_append, Nat.add_assoc]
section SIGN
variable {X : XX} {d : Nat} {sz sl : Nat} {sh : Nat → Nat × Nat} {R : Nat → Nat → Option Nat} {I : Nat → Nat → Int32} {J : Nat → Nat → Int64} {T : Nat → Nat} {nt p k l o : Nat}
theorem s_sign (hS : SF sh R) (h : tX T nt I p k) (hp : p ≤ nt) : ev X (d + 1) 46 [.ref 2] (sz, sl, sh, R, I, J) = some (some (.int (sgv T nt p)), (sz, sl, sh, R, I, J)) := by
  obtain ⟨h1, h2, h3, h4, h5, h6⟩ := h
  rw [n46, t46_0 hS, h4, h3, if_neg (by rw [k_0, n_lt (by omega) (by decide)]; omega)]
  unfold sgv
  by_cases q : p < nt
  · rw [if_neg (by rw [n_le (by omega) (by omega)]; omega), if_neg (by rw [k_120, n_le (by decide) (by omega)]; omega), if_pos (by rw [n_inb (by omega)]; omega), n_cl (by omega), h6 p q, if_pos q]
  · rw [if_pos (by rw [n_le (by omega) (by omega)]; omega), if_neg q]
theorem s_here (hS : SF sh R) (h : tM T nt I l o p k) (hp : p ≤ nt) : ev X (d + 1) 174 [.ref 37] (sz, sl, sh, R, I, J) = some (some (.int (sgv T nt p)), (sz, sl, sh, R, I, J)) := by
  obtain ⟨h1, h2, h3, h4, h5, h6, h7, h8⟩ := h
  rw [n174, t174_0 hS, h4, h3]
  unfold sgv
  by_cases q : p < nt
  · rw [if_neg (by rw [n_le (by omega) (by omega)]; omega), if_pos (by rw [n_inb (by omega)]; omega), n_cl (by omega), h8 p q, if_pos q]
  · rw [if_pos (by rw [n_le (by omega) (by omega)]; omega), if_neg q]
theorem sgv_eq (h2 : ∀ j, j < nt → T j ≤ 255) {c : Nat} (hc : c ≤ 255) : (sgv T nt p = Int32.ofNat c) = (p < nt ∧ T p = c) := by
  unfold sgv
  by_cases q : p < nt
  · have := h2 p q
    rw [if_pos q, n_eq (by omega) (by omega)]
    exact propext ⟨fun z => ⟨q, z⟩, fun z => z.2⟩
  · rw [if_neg q]
    refine propext ⟨fun z => ?_, fun z => absurd z.1 q⟩
    have e := congrArg Int32.toInt z
    rw [n_ti (by omega), show (-1 : Int32).toInt = -1 from rfl] at e
    omega
theorem s_emit (hS : SF sh R) (h : tX T nt I p k) (hk : k < 241) {c : Nat} : ev X (d + 1) 48 [.ref 2, .int (Int32.ofNat c)] (sz, sl, sh, R, I, J) = some (none, (sz, sl, sh, R, u2 (u2 I 4 k (Int32.ofNat c)) 2 2 (Int32.ofNat (k + 1)), J)) := by
  obtain ⟨h1, h2, h3, h4, h5, h6⟩ := h
  rw [n48, t48_0 hS, h5, if_neg (by rw [k_241, n_le (by decide) (by omega)]; omega), if_pos (by rw [n_inb (by omega)]; omega), n_cl (by omega), n_suc]
theorem s_emits (hS : SF sh R) (h : tM T nt I l o p k) (hl : l < 4) (hk : k < 200) {c : Nat} : ev X (d + 1) 176 [.ref 37, .int (Int32.ofNat c)] (sz, sl, sh, R, I, J) = some (none, (sz, sl, sh, R, u2 (u2 I 46 (200 * l + k) (Int32.ofNat c)) 37 39 (Int32.ofNat (k + 1)), J)) := by
  obtain ⟨h1, h2, h3, h4, h5, h6, h7, h8⟩ := h
  rw [n176, t176_0 hS, h6, h7, k_200, n_mul, n_add, if_pos (by rw [n_inb (by omega)]; omega), n_cl (by omega), n_suc]
def nmi (c : Nat) : Nat := if c = 98 then 6 else if c = 100 then 4 else if c = 104 then 0 else if c = 107 then 2 else if c = 115 then 5 else if c = 119 then 1 else if c = 120 then 3 else 7
def nmv (v : Int32) : Int32 := if v = 98 then 6 else if v = 100 then 4 else if v = 104 then 0 else if v = 107 then 2 else if v = 115 then 5 else if v = 119 then 1 else if v = 120 then 3 else -1
theorem s_nameOf {v : Int32} : ev X (d + 1) 47 [.int v] (sz, sl, sh, R, I, J) = some (some (.int (nmv v)), (sz, sl, sh, R, I, J)) ∧ ev X (d + 1) 177 [.int v] (sz, sl, sh, R, I, J) = some (some (.int (nmv v)), (sz, sl, sh, R, I, J)) := by
  rw [n47, t47_0, n177, t177_0]
  unfold nmv
  by_cases h1 : v = 98
  · subst h1; exact ⟨rfl, rfl⟩
  by_cases h2 : v = 100
  · subst h2; exact ⟨rfl, rfl⟩
  by_cases h3 : v = 104
  · subst h3; exact ⟨rfl, rfl⟩
  by_cases h4 : v = 107
  · subst h4; exact ⟨rfl, rfl⟩
  by_cases h5 : v = 115
  · subst h5; exact ⟨rfl, rfl⟩
  by_cases h6 : v = 119
  · subst h6; exact ⟨rfl, rfl⟩
  by_cases h7 : v = 120
  · subst h7; exact ⟨rfl, rfl⟩
  simp only [h1, h2, h3, h4, h5, h6, h7, if_false, ite_self, and_self]
theorem nmv_sg (h2 : ∀ j, j < nt → T j ≤ 255) : nmv (sgv T nt p) = if p < nt ∧ nmi (T p) < 7 then Int32.ofNat (nmi (T p)) else -1 := by
  unfold nmv
  have e : ∀ c : Nat, c ≤ 255 → (sgv T nt p = Int32.ofNat c) = (p < nt ∧ T p = c) := fun c hc => sgv_eq h2 hc
  rw [show (98 : Int32) = Int32.ofNat 98 from rfl, show (100 : Int32) = Int32.ofNat 100 from rfl, show (104 : Int32) = Int32.ofNat 104 from rfl, show (107 : Int32) = Int32.ofNat 107 from rfl, show (115 : Int32) = Int32.ofNat 115 from rfl, show (119 : Int32) = Int32.ofNat 119 from rfl, show (120 : Int32) = Int32.ofNat 120 from rfl]
  simp only [e 98 (by decide), e 100 (by decide), e 104 (by decide), e 107 (by decide), e 115 (by decide), e 119 (by decide), e 120 (by decide)]
  by_cases q : p < nt
  · simp only [q, true_and]
    generalize T p = c
    unfold nmi
    by_cases h1 : c = 98
    · subst h1; rfl
    by_cases h2 : c = 100
    · subst h2; rfl
    by_cases h3 : c = 104
    · subst h3; rfl
    by_cases h4 : c = 107
    · subst h4; rfl
    by_cases h5 : c = 115
    · subst h5; rfl
    by_cases h6 : c = 119
    · subst h6; rfl
    by_cases h7 : c = 120
    · subst h7; rfl
    simp only [h1, h2, h3, h4, h5, h6, h7, if_false]
    rfl
  · simp only [q, false_and, if_false]
theorem nmi_le {c : Nat} : nmi c ≤ 7 := by
  unfold nmi
  repeat' split
  all_goals decide
theorem nmi_c {c : Nat} (h : nmi c < 7) : c = 98 ∨ c = 100 ∨ c = 104 ∨ c = 107 ∨ c = 115 ∨ c = 119 ∨ c = 120 := by
  unfold nmi at h
  by_cases h1 : c = 98
  · omega
  by_cases h2 : c = 100
  · omega
  by_cases h3 : c = 104
  · omega
  by_cases h4 : c = 107
  · omega
  by_cases h5 : c = 115
  · omega
  by_cases h6 : c = 119
  · omega
  by_cases h7 : c = 120
  · omega
  rw [if_neg h1, if_neg h2, if_neg h3, if_neg h4, if_neg h5, if_neg h6, if_neg h7] at h
  omega
theorem s_isDigit (h2 : ∀ j, j < nt → T j ≤ 255) : ev X (d + 1) 49 [.int (sgv T nt p)] (sz, sl, sh, R, I, J) = some (some (.int (bi (p < nt ∧ 48 ≤ T p ∧ T p ≤ 57))), (sz, sl, sh, R, I, J)) := by
  rw [n49, t49_0]
  unfold sgv
  by_cases q : p < nt
  · have := h2 p q
    rw [if_pos q]
    by_cases q1 : T p < 48
    · rw [if_pos (by rw [k_48, n_lt (by omega) (by decide)]; exact q1), bi_f (by omega)]
    · rw [if_neg (by rw [k_48, n_lt (by omega) (by decide)]; exact q1)]
      by_cases q2 : 57 < T p
      · rw [if_pos (by rw [k_57, n_lt (by decide) (by omega)]; exact q2), bi_f (by omega)]
      · rw [if_neg (by rw [k_57, n_lt (by decide) (by omega)]; exact q2), bi_t (by omega)]
  · rw [if_neg q, if_pos (by decide), bi_f (by omega)]
theorem s_digitM (h2 : ∀ j, j < nt → T j ≤ 255) : ev X (d + 1) 148 [.int (sgv T nt p), .int 48, .int 57] (sz, sl, sh, R, I, J) = some (some (.int (bi (p < nt ∧ 48 ≤ T p ∧ T p ≤ 57))), (sz, sl, sh, R, I, J)) := by
  rw [s_in]
  have e : ((48 : Int32) ≤ sgv T nt p ∧ sgv T nt p ≤ 57) = (p < nt ∧ 48 ≤ T p ∧ T p ≤ 57) := by
    unfold sgv
    by_cases q : p < nt
    · have := h2 p q
      rw [if_pos q, k_48, k_57, n_le (by decide) (by omega), n_le (by omega) (by decide)]
      exact propext ⟨fun z => ⟨q, z⟩, fun z => z.2⟩
    · rw [if_neg q]
      exact propext ⟨fun z => absurd z.1 (by decide), fun z => absurd z.1 q⟩
  simp only [e]
end SIGN
