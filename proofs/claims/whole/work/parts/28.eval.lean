/-! LAWS: what a code comes to -/
/-- the signs of two operands: | & < = > + - * / % -/
def isop (s : Nat) : Bool := s == 124 || s == 38 || s == 60 || s == 61 || s == 62 || s == 43 || s == 45 || s == 42 || s == 47 || s == 37
def opv (s : Nat) (a b : Int32) : Int32 := if s = 124 then bi (¬ a = 0 ∨ ¬ b = 0) else if s = 38 then bi (¬ a = 0 ∧ ¬ b = 0) else if s = 60 then bi (a < b) else if s = 61 then bi (a = b) else if s = 62 then bi (b < a) else if s = 43 then a + b else if s = 45 then a - b else if s = 42 then a * b else if s = 47 then (if b = 0 then 0 else a / b) else (if b = 0 then 0 else a - a / b * b)
/-- the reference's number of a sign -/
def oc (s : Nat) : Nat := if s = 124 then 11 else if s = 38 then 12 else if s = 60 then 14 else if s = 61 then 15 else if s = 62 then 20 else if s = 43 then 16 else if s = 45 then 17 else if s = 42 then 18 else if s = 47 then 21 else 22
def om (c : Nat) : Nat := if c = 11 then 124 else if c = 12 then 38 else if c = 14 then 60 else if c = 15 then 61 else if c = 20 then 62 else if c = 16 then 43 else if c = 17 then 45 else if c = 18 then 42 else if c = 21 then 47 else 37
def isom (c : Nat) : Bool := c == 11 || c == 12 || c == 14 || c == 15 || c == 16 || c == 17 || c == 18 || c == 20 || c == 21 || c == 22
theorem isop_c {s : Nat} (h : isop s = true) : s = 124 ∨ s = 38 ∨ s = 60 ∨ s = 61 ∨ s = 62 ∨ s = 43 ∨ s = 45 ∨ s = 42 ∨ s = 47 ∨ s = 37 := by
  unfold isop at h
  simp only [Bool.or_eq_true, beq_iff_eq] at h
  omega
theorem om_oc {s : Nat} (h : isop s = true) : om (oc s) = s ∧ isom (oc s) = true := by
  rcases isop_c h with rfl | rfl | rfl | rfl | rfl | rfl | rfl | rfl | rfl | rfl <;> exact ⟨rfl, rfl⟩
theorem isom_c {c : Nat} (h : isom c = true) : c = 11 ∨ c = 12 ∨ c = 14 ∨ c = 15 ∨ c = 16 ∨ c = 17 ∨ c = 18 ∨ c = 20 ∨ c = 21 ∨ c = 22 := by
  unfold isom at h
  simp only [Bool.or_eq_true, beq_iff_eq] at h
  omega
abbrev Env : Type := Nat → Int32
def st2 (f : Int32 → Int32 → Int32) (s : List Int32) : Option (List Int32) := match s with | b :: a :: r => some (f a b :: r) | _ => none
def st1 (f : Int32 → Int32) (s : List Int32) : Option (List Int32) := match s with | a :: r => some (f a :: r) | _ => none
/-- the class's code of an expression, on a stack -/
def xE (E : Env) : List Nat → List Int32 → Option (List Int32)
  | [], s => some s
  | c :: r, s => if c < 10000 then xE E r (Int32.ofNat c :: s) else if c < 10007 then xE E r (E (c - 10000) :: s) else if 20000 ≤ c ∧ isop (c - 20000) = true then (st2 (opv (c - 20000)) s).bind (xE E r) else none
/-- the reference's -/
def mE (E : Env) : List Nat → List Int32 → Option (List Int32)
  | [], s => some s
  | c :: r, s => if 100000 ≤ c then (if c < 110000 then mE E r (Int32.ofNat (c - 100000) :: s) else none) else if c < 7 then mE E r (E c :: s) else if c = 13 then (st1 (fun a => bi (a = 0)) s).bind (mE E r) else if c = 19 then (st1 (fun a => -a) s).bind (mE E r) else if isom c = true then (st2 (opv (om c)) s).bind (mE E r) else none
theorem xE_app {E : Env} : ∀ (e1 e2 : List Nat) (s : List Int32), xE E (e1 ++ e2) s = (xE E e1 s).bind (xE E e2)
  | [], e2, s => rfl
  | c :: r, e2, s => by
    rw [List.cons_append, xE, xE]
    by_cases h1 : c < 10000
    · rw [if_pos h1, if_pos h1]; exact xE_app r e2 _
    rw [if_neg h1, if_neg h1]
    by_cases h2 : c < 10007
    · rw [if_pos h2, if_pos h2]; exact xE_app r e2 _
    rw [if_neg h2, if_neg h2]
    by_cases h3 : 20000 ≤ c ∧ isop (c - 20000) = true
    · rw [if_pos h3, if_pos h3]
      cases st2 (opv (c - 20000)) s with
      | none => rfl
      | some s' => exact xE_app r e2 s'
    · rw [if_neg h3, if_neg h3]; rfl
theorem mE_app {E : Env} : ∀ (e1 e2 : List Nat) (s : List Int32), mE E (e1 ++ e2) s = (mE E e1 s).bind (mE E e2)
  | [], e2, s => rfl
  | c :: r, e2, s => by
    rw [List.cons_append, mE, mE]
    by_cases h1 : 100000 ≤ c
    · rw [if_pos h1, if_pos h1]
      by_cases h2 : c < 110000
      · rw [if_pos h2, if_pos h2]; exact mE_app r e2 _
      · rw [if_neg h2, if_neg h2]; rfl
    rw [if_neg h1, if_neg h1]
    by_cases h2 : c < 7
    · rw [if_pos h2, if_pos h2]; exact mE_app r e2 _
    rw [if_neg h2, if_neg h2]
    by_cases h3 : c = 13
    · rw [if_pos h3, if_pos h3]
      cases st1 (fun a => bi (a = 0)) s with
      | none => rfl
      | some s' => exact mE_app r e2 s'
    rw [if_neg h3, if_neg h3]
    by_cases h4 : c = 19
    · rw [if_pos h4, if_pos h4]
      cases st1 (fun a => -a) s with
      | none => rfl
      | some s' => exact mE_app r e2 s'
    rw [if_neg h4, if_neg h4]
    by_cases h5 : isom c = true
    · rw [if_pos h5, if_pos h5]
      cases st2 (opv (om c)) s with
      | none => rfl
      | some s' => exact mE_app r e2 s'
    · rw [if_neg h5, if_neg h5]; rfl
/-- an expression: the class's code, the reference's, what it comes to -/
abbrev SEG : Type := List Nat × List Nat × (Env → Int32)
def wfq (q : SEG) : Prop := (∀ E s, xE E q.1 s = some (q.2.2 E :: s)) ∧ (∀ E s, mE E q.2.1 s = some (q.2.2 E :: s)) ∧ (∀ x, x ∈ q.1 → x ≠ 20059 ∧ x < 30000) ∧ (∀ x, x ∈ q.2.1 → x < 110000)
/-- a line: what must not be 0, and what counts -/
abbrev LN : Type := Option SEG × SEG
def wfl (l : LN) : Prop := (∀ p, l.1 = some p → wfq p) ∧ wfq l.2
def lx (l : LN) : List Nat := match l.1 with | none => l.2.1 ++ [20059] | some p => p.1 ++ [20063] ++ l.2.1 ++ [20059]
def lm (l : LN) : List Nat := match l.1 with | none => l.2.2.1 ++ [40] | some p => p.2.1 ++ [41] ++ l.2.2.1 ++ [42]
def lv (E : Env) : List LN → Int32
  | [] => 0
  | l :: r => match l.1 with | none => l.2.2.2 E | some p => if p.2.2 E = 0 then lv E r else l.2.2.2 E
def tx : List LN → List Nat | [] => [] | l :: r => lx l ++ tx r
def tm : List LN → List Nat | [] => [] | l :: r => lm l ++ tm r
/-- held within 0 .. 9999 -/
def clN (v : Int32) : Nat := min 9999 v.toNatClampNeg
theorem clN_le {v : Int32} : clN v ≤ 9999 := Nat.min_le_left _ _
theorem clN_X {v : Int32} : (if (0 : Int32) < (if v < 9999 then v else 9999) then (if v < 9999 then v else 9999) else 0) = Int32.ofNat (clN v) := by
  unfold clN
  by_cases h : v < 0
  · have e : v.toNatClampNeg = 0 := by
      rw [Int32.lt_iff_toInt_lt] at h
      show v.toInt.toNat = 0
      have : (0 : Int32).toInt = 0 := rfl
      omega
    have h1 : v < 9999 := by
      rw [Int32.lt_iff_toInt_lt] at h ⊢
      have a : (0 : Int32).toInt = 0 := rfl
      have b : (9999 : Int32).toInt = 9999 := by decide
      omega
    rw [if_pos h1, if_neg (Int32.not_lt.mpr (Int32.le_of_lt h)), e]
    rfl
  · obtain ⟨u, hu, rfl⟩ := n_of (Int32.not_lt.mp h)
    rw [n_cl hu]
    by_cases h1 : u < 9999
    · have e1 : Int32.ofNat u < 9999 := by rw [k_9999, n_lt hu (by decide)]; exact h1
      rw [if_pos e1, Nat.min_eq_right (by omega)]
      by_cases h0 : u = 0
      · subst h0; rfl
      · rw [if_pos (by rw [k_0, n_lt (by decide) hu]; omega)]
    · have e1 : ¬ Int32.ofNat u < 9999 := by rw [k_9999, n_lt hu (by decide)]; exact h1
      rw [if_neg e1, if_pos (by decide), Nat.min_eq_left (by omega)]
      rfl
theorem n_sub0 {a b : Nat} (ha : a < 2147483648) (hb : b < 2147483648) : (Int32.ofNat a - Int32.ofNat b < 0) = (a < b) := by
  rw [Int32.lt_iff_toInt_lt, Int32.toInt_sub, n_ti ha, n_ti hb, show (0 : Int32).toInt = 0 from rfl, Int.bmod_eq_of_le (by omega) (by omega)]
  exact propext ⟨fun z => by omega, fun z => by omega⟩
theorem n_m1 {t : Nat} : Int32.ofNat (t + 1) + -1 = Int32.ofNat t := by
  rw [← n_suc, Int32.add_assoc, show (1 : Int32) + -1 = 0 from by decide, Int32.add_zero]
/-- the stacks -/
def repX (I : Nat → Nat → Int32) (S : Nat) : List Int32 → Prop
  | [] => True
  | x :: r => I S (r.length + 1) = x ∧ repX I S r
def repM (I : Nat → Nat → Int32) : List Int32 → Prop
  | [] => True
  | x :: r => I 66 r.length = x ∧ repM I r
theorem repX_u {I : Nat → Nat → Int32} {S k : Nat} {v : Int32} : ∀ s : List Int32, s.length < k → repX I S s → repX (u2 I S k v) S s
  | [], _, _ => trivial
  | x :: r, h, q => ⟨by rw [u2_pj (by simp only [List.length_cons] at h; omega)]; exact q.1, repX_u r (by simp only [List.length_cons] at h; omega) q.2⟩
theorem repM_u {I : Nat → Nat → Int32} {k : Nat} {v : Int32} : ∀ s : List Int32, s.length ≤ k → repM I s → repM (u2 I 66 k v) s
  | [], _, _ => trivial
  | x :: r, h, q => ⟨by rw [u2_pj (by simp only [List.length_cons] at h; omega)]; exact q.1, repM_u r (by simp only [List.length_cons] at h; omega) q.2⟩
section EVAL
variable {X : XX} {d : Nat} {sz sl : Nat} {sh : Nat → Nat × Nat} {R : Nat → Nat → Option Nat} {J : Nat → Nat → Int64}
theorem s_joined {I : Nat → Nat → Int32} {s : Nat} {a b : Int32} (h : isop s = true) : ev X (d + 1) 61 [.int (Int32.ofNat s), .int a, .int b] (sz, sl, sh, R, I, J) = some (some (Value.int (opv s a b)), (sz, sl, sh, R, I, J)) := by
  rw [n61, t61_0]
  rcases isop_c h with rfl | rfl | rfl | rfl | rfl | rfl | rfl | rfl | rfl | rfl
  · show (if ¬ a = 0 then _ else if b = 0 then _ else _) = some (some (Value.int (bi (¬ a = 0 ∨ ¬ b = 0))), _)
    by_cases h1 : a = 0
    · by_cases h2 : b = 0
      · rw [if_neg (fun z => z h1), if_pos h2, bi_f (fun z => z.elim (fun y => y h1) (fun y => y h2))]
      · rw [if_neg (fun z => z h1), if_neg h2, bi_t (Or.inr h2)]
    · rw [if_pos h1, bi_t (Or.inl h1)]
  · show (if a = 0 then _ else if b = 0 then _ else _) = some (some (Value.int (bi (¬ a = 0 ∧ ¬ b = 0))), _)
    by_cases h1 : a = 0
    · rw [if_pos h1, bi_f (fun z => z.1 h1)]
    · by_cases h2 : b = 0
      · rw [if_neg h1, if_pos h2, bi_f (fun z => z.2 h2)]
      · rw [if_neg h1, if_neg h2, bi_t ⟨h1, h2⟩]
  · show (if b ≤ a then _ else _) = some (some (Value.int (bi (a < b))), _)
    by_cases h1 : b ≤ a
    · rw [if_pos h1, bi_f (Int32.not_lt.mpr h1)]
    · rw [if_neg h1, bi_t (Int32.not_le.mp h1)]
  · show (if ¬ a = b then _ else _) = some (some (Value.int (bi (a = b))), _)
    by_cases h1 : a = b
    · rw [if_neg (fun z => z h1), bi_t h1]
    · rw [if_pos h1, bi_f h1]
  · show (if a ≤ b then _ else _) = some (some (Value.int (bi (b < a))), _)
    by_cases h1 : a ≤ b
    · rw [if_pos h1, bi_f (Int32.not_lt.mpr h1)]
    · rw [if_neg h1, bi_t (Int32.not_le.mp h1)]
  · rfl
  · rfl
  · rfl
  · show (if ¬ b = 0 then (if b = 0 then none else _) else _) = some (some (Value.int (if b = 0 then 0 else a / b)), _)
    by_cases h1 : b = 0
    · rw [if_neg (fun z => z h1), if_pos h1]
    · rw [if_pos h1, if_neg h1, if_neg h1]
  · show (if ¬ b = 0 then (if b = 0 then none else _) else _) = some (some (Value.int (if b = 0 then 0 else a - a / b * b)), _)
    by_cases h1 : b = 0
    · rw [if_neg (fun z => z h1), if_pos h1]
    · rw [if_pos h1, if_neg h1, if_neg h1]
theorem s_asOne {I : Nat → Nat → Int32} : ev X (d + 1) 183 [.int 0] (sz, sl, sh, R, I, J) = some (some (.int 0), (sz, sl, sh, R, I, J)) ∧ ev X (d + 1) 183 [.int 1] (sz, sl, sh, R, I, J) = some (some (.int 1), (sz, sl, sh, R, I, J)) := by
  constructor
  · rw [n183, t183_0, if_pos rfl]
  · rw [n183, t183_0, if_neg (by decide)]
theorem s_two {I : Nat → Nat → Int32} {c : Nat} {a b : Int32} (h : isom c = true) : ev X (d + 2) 184 [.int (Int32.ofNat c), .int a, .int b] (sz, sl, sh, R, I, J) = some (some (Value.int (opv (om c) a b)), (sz, sl, sh, R, I, J)) := by
  rw [n184, t184_0]
  rcases isom_c h with rfl | rfl | rfl | rfl | rfl | rfl | rfl | rfl | rfl | rfl
  · show (if ¬ a = 0 then _ else if b = 0 then _ else _) = some (some (Value.int (bi (¬ a = 0 ∨ ¬ b = 0))), _)
    by_cases h1 : a = 0
    · by_cases h2 : b = 0
      · rw [if_neg (fun z => z h1), if_pos h2, bi_f (fun z => z.elim (fun y => y h1) (fun y => y h2)), s_asOne.1, ob_s]
        exact t184_76
      · rw [if_neg (fun z => z h1), if_neg h2, bi_t (Or.inr h2), s_asOne.2, ob_s]
        exact t184_76
    · rw [if_pos h1, bi_t (Or.inl h1), s_asOne.2, ob_s]
      exact t184_76
  · show (if a = 0 then _ else if b = 0 then _ else _) = some (some (Value.int (bi (¬ a = 0 ∧ ¬ b = 0))), _)
    by_cases h1 : a = 0
    · rw [if_pos h1, bi_f (fun z => z.1 h1), s_asOne.1, ob_s]
      exact t184_93
    · by_cases h2 : b = 0
      · rw [if_neg h1, if_pos h2, bi_f (fun z => z.2 h2), s_asOne.1, ob_s]
        exact t184_93
      · rw [if_neg h1, if_neg h2, bi_t ⟨h1, h2⟩, s_asOne.2, ob_s]
        exact t184_93
  · show (if b ≤ a then _ else _) = some (some (Value.int (bi (a < b))), _)
    by_cases h1 : b ≤ a
    · rw [if_pos h1, bi_f (Int32.not_lt.mpr h1), s_asOne.1, ob_s]
      exact t184_107
    · rw [if_neg h1, bi_t (Int32.not_le.mp h1), s_asOne.2, ob_s]
      exact t184_107
  · show (if ¬ a = b then _ else _) = some (some (Value.int (bi (a = b))), _)
    by_cases h1 : a = b
    · rw [if_neg (fun z => z h1), bi_t h1, s_asOne.2, ob_s]
      exact t184_121
    · rw [if_pos h1, bi_f h1, s_asOne.1, ob_s]
      exact t184_121
  · rfl
  · rfl
  · rfl
  · show (if a ≤ b then _ else _) = some (some (Value.int (bi (b < a))), _)
    by_cases h1 : a ≤ b
    · rw [if_pos h1, bi_f (Int32.not_lt.mpr h1), s_asOne.1, ob_s]
      exact t184_135
    · rw [if_neg h1, bi_t (Int32.not_le.mp h1), s_asOne.2, ob_s]
      exact t184_135
  · show (if ¬ b = 0 then (if b = 0 then none else _) else _) = some (some (Value.int (if b = 0 then 0 else a / b)), _)
    by_cases h1 : b = 0
    · rw [if_neg (fun z => z h1), if_pos h1]
    · rw [if_pos h1, if_neg h1, if_neg h1]
  · show (if ¬ b = 0 then (if b = 0 then none else _) else _) = some (some (Value.int (if b = 0 then 0 else a - a / b * b)), _)
    by_cases h1 : b = 0
    · rw [if_neg (fun z => z h1), if_pos h1]
    · rw [if_pos h1, if_neg h1, if_neg h1]
/-- an item -/
theorem s_operand {I : Nat → Nat → Int32} {L N c : Nat} (h0 : sh L = (10, 0)) (hN : R L 2 = some N) (hn : sh N = (0, 7)) (hc : c < 10007) {E : Env} (hE : ∀ k, k < 7 → I N k = E k) : ev X (d + 1) 60 [.ref L, .int (Int32.ofNat c)] (sz, sl, sh, R, I, J) = some (some (Value.int (if c < 10000 then Int32.ofNat c else E (c - 10000))), (sz, sl, sh, R, I, J)) := by
  rw [n60, t60_0 h0]
  by_cases h1 : c < 10000
  · rw [if_pos (by rw [k_10000, n_sub0 (by omega) (by decide)]; exact h1), if_pos h1]
  · have e1 : c - 10000 < 7 := by omega
    have e2 : ¬ 7 ≤ c - 10000 := by omega
    have e3 : (0 : Nat) < 7 := by decide
    rw [if_neg (by rw [k_10000, n_sub0 (by omega) (by decide)]; exact h1), if_neg h1]
    simp (disch := first | omega | exact ib_r | exact ib_n | exact isB_rfv _ | assumption) only [hN, hn, k_10000, n_sub, n_le, n_inb, n_cl, e1, e2, e3, hE, ↓reduceIte, eq_self, and_self, and_true, true_and, not_true_eq_false, not_false_eq_true, ob_s, tl_s, tl_n, rf_ref, orf_ref, orf_null, nn_ref, nn_null, rfv_s, rfv_n, if_true, if_false, bi_01, bi_e0, bi_e1, or_t, Classical.not_not]
end EVAL
