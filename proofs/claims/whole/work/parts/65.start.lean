/-! THE START: the constructors' run, by evaluation -/
def X00 : XX := (0, fun _ => 0)
def okI (i : Instr) (st : List Value) : Bool := match i with
  | .iconst _ => true
  | .iload _ => true
  | .aload _ => true
  | .istore _ => true
  | .iinc _ _ => true
  | .dup => true
  | .goto _ => true
  | .if_icmp _ _ => true
  | .getfield _ => true
  | .putfield _ => true
  | .new _ => true
  | .newarray _ => true
  | .anewarray _ => true
  | .aastore => true
  | .iastore => true
  | .monitorexit => true
  | .invokespecial _ => true
  | .return_ => true
  | .arraylength => (match st with | .ref _ :: _ => true | _ => false)
  | _ => false
theorem bind_le {α β : Type} {a a' : Option α} {f : α → Option β} {q : β} (h : ∀ r, a = some r → a' = some r) (e : a.bind f = some q) : a'.bind f = some q := by
  obtain ⟨r, h1, h2⟩ := Option.bind_eq_some_iff.mp e
  exact Option.bind_eq_some_iff.mpr ⟨r, h r h1, h2⟩
theorem callV_le {w : Nat} {cr cr' : Nat → List Value → HP → Option Rs} {z pc : Nat} {kk : List Nat} {ls st : List Value} {h : HP} {q : Cfg ⊕ Rs} (hle : ∀ y as h r, cr y as h = some r → cr' y as h = some r) (e : s_callV w cr z pc kk ls st h = some q) : s_callV w cr' z pc kk ls st h = some q := by
  unfold s_callV at e ⊢
  split at e
  · rename_i b r hd
    split at e
    · rename_i hc
      exact (if_pos hc).trans (bind_le (hle z _ h) e)
    · cases e
  · cases e
theorem ok_stI {X : XX} {cr cr' : Nat → List Value → HP → Option Rs} {y pc n : Nat} {k k2 : List Nat} {i : Instr} {ls st : List Value} {h : HP} {q : Cfg ⊕ Rs} (hle : ∀ y as h r, cr y as h = some r → cr' y as h = some r) (ok : okI i st = true) : stI X00 cr y i pc n k k2 ls st h = some q → stI X cr' y i pc n k k2 ls st h = some q := by
  cases i
  case invokespecial z => exact fun e => callV_le hle e
  case if_icmp c t => cases c <;> exact fun e => e
  case newarray t => cases t <;> exact fun e => e
  case arraylength =>
    match st, ok with
    | .ref a :: r, _ => exact fun e => e
  all_goals first | exact absurd ok Bool.false_ne_true | exact fun e => e
def itq (cr : Nat → List Value → HP → Option Rs) (y : Nat) : Nat → Cfg → Option Rs
  | 0, _ => none
  | m + 1, c => match fr y c.1 with
    | some (i, n, k, k2) => if okI i c.2.2.1 = true then (match stI X00 cr y i c.1 n k k2 c.2.1 c.2.2.1 c.2.2.2 with
      | some (.inl c') => itq cr y m c'
      | some (.inr r) => some r
      | none => none) else none
    | none => none
theorem itq_le {X : XX} {cr cr' : Nat → List Value → HP → Option Rs} {y : Nat} (hle : ∀ y as h r, cr y as h = some r → cr' y as h = some r) : ∀ (m : Nat) (c : Cfg) (r : Rs), itq cr y m c = some r → itr X cr' y m c = some r
  | 0, _, _, e => by cases e
  | m + 1, c, r, e => by
    unfold itq at e
    unfold itr stp
    cases hf : fr y c.1 with
    | none => rw [hf] at e; cases e
    | some w =>
      obtain ⟨i, n, k, k2⟩ := w
      simp only [hf] at e ⊢
      split at e
      · rename_i ok
        cases hs : stI X00 cr y i c.1 n k k2 c.2.1 c.2.2.1 c.2.2.2 with
        | none => rw [hs] at e; cases e
        | some q =>
          rw [hs] at e
          rw [ok_stI (X := X) hle ok hs]
          cases q with
          | inl c' => exact itq_le hle m c' r e
          | inr q => exact e
      · cases e
def evq (N : Nat) : Nat → Nat → List Value → HP → Option Rs
  | 0, _, _, _ => none
  | d + 1, y, as, h => if (sprd as).length ≤ pml y then itq (evq N d) y N (0, ent y as, [], h) else none
theorem evq_le {X : XX} {N : Nat} : ∀ (d y : Nat) (as : List Value) (h : HP) (r : Rs), evq N d y as h = some r → ev X d y as h = some r
  | 0, _, _, _, _, e => by cases e
  | d + 1, y, as, h, r, e => by
    rw [evq] at e
    rw [ev]
    split at e
    · rename_i hl
      rw [if_pos hl]
      exact lim_iff.mpr ⟨N, itq_le (fun y as h r => evq_le d y as h r) N _ r e⟩
    · cases e
theorem ev_up {X : XX} {N d e y : Nat} {as : List Value} {h : HP} {r : Rs} (q : evq N d y as h = some r) (he : d = e) : ev X e y as h = some r := by
  subst he
  exact evq_le d y as h r q
/-- a run without a value -/
def vd (o : Option Rs) : Bool := match o with | some (none, _) => true | _ => false
theorem vd_eq {o : Option Rs} (h : vd o = true) : o = some (none, (o.getD (none, hp0)).2) := by
  match o, h with
  | some (none, _), _ => rfl
def hA : HP := al hp0 (7, 0) 13
def qX : Option Rs := evq 200 200 1 [.ref 0] hA
def hB : HP := (qX.getD (none, hp0)).2
def hC : HP := al hB (18, 0) 50
def qM : Option Rs := evq 200 200 146 [.ref 37] hC
def hD : HP := (qM.getD (none, hp0)).2
theorem qX_vd : vd qX = true := by decide +kernel
theorem hB_1 : hB.1 = 37 := by decide +kernel
theorem qM_vd : vd qM = true := by decide +kernel
theorem hD_1 : hD.1 = 71 ∧ hD.2.1 ≤ 20000 := by decide +kernel
theorem hD_sh : ∀ a, a < 71 → hD.2.2.1 a = shT.getD a (0, 0) := by decide +kernel
theorem hD_R : ∀ q, q ∈ rfT → hD.2.2.2.1 q.1 q.2.1 = some q.2.2 := by decide +kernel
theorem hD_Rn : ∀ k, k < 40 → hD.2.2.2.1 6 k = none ∧ hD.2.2.2.1 5 k = none := by decide +kernel
theorem hD_I : hD.2.2.2.2.1 0 1 = 0 ∧ hD.2.2.2.2.1 37 0 = 0 ∧ hD.2.2.2.2.1 0 4 = 0 ∧ hD.2.2.2.2.1 37 12 = 0 ∧ hD.2.2.2.2.1 0 6 = 0 ∧ hD.2.2.2.2.1 37 13 = 0 ∧ hD.2.2.2.2.1 2 3 = 0 ∧ hD.2.2.2.2.1 37 9 = 0 ∧ hD.2.2.2.2.1 15 1 = 0 ∧ hD.2.2.2.2.1 37 21 = 0 ∧ hD.2.2.2.2.1 17 3 = 0 ∧ hD.2.2.2.2.1 37 27 = 0 ∧ hD.2.2.2.2.1 17 4 = 0 ∧ hD.2.2.2.2.1 37 26 = 0 ∧ hD.2.2.2.2.1 21 3 = 0 ∧ hD.2.2.2.2.1 37 28 = 0 ∧ hD.2.2.2.2.1 21 4 = 0 ∧ hD.2.2.2.2.1 37 30 = 0 := by decide +kernel
theorem hD_320 : ∀ k, k < 320 → hD.2.2.2.2.1 42 k = 0 ∧ hD.2.2.2.2.1 43 k = 0 := by decide +kernel
theorem hD_40 : ∀ k, k < 40 → hD.2.2.2.2.1 44 k = 0 ∧ hD.2.2.2.2.1 23 k = hD.2.2.2.2.1 60 k := by decide +kernel
theorem hD_6 : ∀ s, s < 6 → hD.2.2.2.2.1 61 s = -1 ∧ hD.2.2.2.2.1 (25 + 2 * s) 1 = 0 := by decide +kernel
