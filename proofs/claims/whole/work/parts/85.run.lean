/-! A WHOLE RUN -/
def hpOf (q : Cfg ⊕ Rs) : HP := match q with | .inl c => c.2.2.2 | .inr r => r.2
def Grow (h h' : HP) : Prop := (h.1 ≤ h'.1 ∧ h.2.1 ≤ h'.2.1) ∧ (InvH h → InvH h')
theorem Grow.rf {h : HP} : Grow h h := ⟨⟨Nat.le_refl _, Nat.le_refl _⟩, id⟩
theorem Grow.trans {a b c : HP} (h : Grow a b) (g : Grow b c) : Grow a c := ⟨⟨Nat.le_trans h.1.1 g.1.1, Nat.le_trans h.1.2 g.1.2⟩, fun i => g.2 (h.2 i)⟩
theorem Grow.same {h h' : HP} (a : h'.1 = h.1) (b : h'.2.1 = h.2.1) (c : h'.2.2.1 = h.2.2.1) : Grow h h' := ⟨⟨by rw [a]; exact Nat.le_refl _, by rw [b]; exact Nat.le_refl _⟩, fun i q hq => by rw [c]; exact i q (by rw [← a]; exact hq)⟩
theorem Grow.al {h : HP} {sh : Nat × Nat} {n : Nat} : Grow h (al h sh n) := ⟨⟨Nat.le_succ _, Nat.le_add_right _ _⟩, fun hi => al_inv hi⟩
def Mo (h : HP) (s : StpR) : Prop := ∀ q, s = some q → Grow h (hpOf q)
theorem Mo.no {h : HP} : Mo h none := fun q e => by cases e
theorem Mo.nex {pc : Nat} {k : List Nat} {ls st : List Value} {h h' : HP} (g : Grow h h') : Mo h (nx pc k ls st h') := fun q e => by
  unfold nx at e
  cases e
  exact g
theorem Mo.nex0 {pc : Nat} {k : List Nat} {ls st : List Value} {h : HP} : Mo h (nx pc k ls st h) := Mo.nex Grow.rf
theorem Mo.ite {h : HP} {a b : StpR} {c : Prop} [hd : Decidable c] (ha : Mo h a) (hb : Mo h b) : Mo h (if c then a else b) := by split; exact ha; exact hb
theorem Mo.end_ {h : HP} {v : Option Value} : Mo h (some (.inr (v, h))) := fun q e => by cases e; exact Grow.rf
theorem Mo.bind {h : HP} {x : Option Rs} {f : Rs → StpR} (hx : ∀ r, x = some r → Grow h r.2) (hf : ∀ r, Mo r.2 (f r)) : Mo h (x.bind f) := fun q e => by
  obtain ⟨r, h1, h2⟩ := Option.bind_eq_some_iff.mp e
  exact (hx r h1).trans (hf r q h2)
theorem mo_stI {X : XX} {cr : Nat → List Value → HP → Option Rs} (hcr : ∀ z as h r, cr z as h = some r → Grow h r.2) (y : Nat) (i : Instr) (pc n : Nat) (k k2 : List Nat) (ls st : List Value) (h : HP) : Mo h (stI X cr y i pc n k k2 ls st h) := by
  unfold stI
  split
  · exact Mo.nex0
  · exact Mo.nex0
  · exact Mo.nex0
  · (repeat' split) <;> first | exact Mo.nex0 | exact Mo.no
  · (repeat' split) <;> first | exact Mo.nex0 | exact Mo.no
  · (repeat' split) <;> first | exact Mo.nex0 | exact Mo.no
  · (repeat' split) <;> first | exact Mo.nex0 | exact Mo.no
  · (repeat' split) <;> first | exact Mo.nex0 | exact Mo.no
  · (repeat' split) <;> first | exact Mo.nex0 | exact Mo.no
  · (repeat' split) <;> first | exact Mo.nex0 | exact Mo.no
  · unfold s_ii; (repeat' split) <;> first | exact Mo.nex0 | exact Mo.no
  · unfold s_ii; (repeat' split) <;> first | exact Mo.nex0 | exact Mo.no
  · unfold s_ii; (repeat' split) <;> first | exact Mo.nex0 | exact Mo.no
  · unfold s_ii; (repeat' split) <;> first | exact Mo.nex0 | exact Mo.no
  · unfold s_ii; (repeat' split) <;> first | exact Mo.nex0 | exact Mo.no
  · unfold s_ii; (repeat' split) <;> first | exact Mo.nex0 | exact Mo.no
  · unfold s_ii; (repeat' split) <;> first | exact Mo.nex0 | exact Mo.no
  · unfold s_ii; (repeat' split) <;> first | exact Mo.nex0 | exact Mo.no
  · unfold s_ii; (repeat' split) <;> first | exact Mo.nex0 | exact Mo.no
  · (repeat' split) <;> first | exact Mo.nex0 | exact Mo.no
  · (repeat' split) <;> first | exact Mo.nex0 | exact Mo.no
  · (repeat' split) <;> first | exact Mo.nex0 | exact Mo.no
  · unfold s_jj; (repeat' split) <;> first | exact Mo.nex0 | exact Mo.no
  · unfold s_jj; (repeat' split) <;> first | exact Mo.nex0 | exact Mo.no
  · unfold s_jj; (repeat' split) <;> first | exact Mo.nex0 | exact Mo.no
  · unfold s_jj; (repeat' split) <;> first | exact Mo.nex0 | exact Mo.no
  · unfold s_jj; (repeat' split) <;> first | exact Mo.nex0 | exact Mo.no
  · unfold s_ji; (repeat' split) <;> first | exact Mo.nex0 | exact Mo.no
  · (repeat' split) <;> first | exact Mo.nex0 | exact Mo.no
  · (repeat' split) <;> first | exact Mo.nex0 | exact Mo.no
  · (repeat' split) <;> first | exact Mo.nex0 | exact Mo.no
  · (repeat' split) <;> first | exact Mo.nex0 | exact Mo.no
  · (repeat' split) <;> first | exact Mo.nex0 | exact Mo.no
  · (repeat' split) <;> first | exact Mo.nex0 | exact Mo.no
  · (repeat' split) <;> first | exact Mo.nex0 | exact Mo.no
  · (repeat' split) <;> first | exact Mo.nex0 | exact Mo.no
  · (repeat' split) <;> first | exact Mo.nex0 | exact Mo.no
  · (repeat' split) <;> first | exact Mo.nex0 | exact Mo.no
  · (repeat' split) <;> first | exact Mo.nex0 | exact Mo.no
  · unfold s_mm; (repeat' split) <;> first | exact Mo.nex0 | exact Mo.no
  · unfold s_mm; (repeat' split) <;> first | exact Mo.nex0 | exact Mo.no
  · (repeat' split) <;> first | exact Mo.nex0 | exact Mo.no
  · unfold s_ml; (repeat' split) <;> first | exact Mo.nex0 | exact Mo.no
  · unfold s_ml; (repeat' split) <;> first | exact Mo.nex0 | exact Mo.no
  · (repeat' split) <;> first | exact Mo.nex0 | exact Mo.no
  · exact Mo.nex0
  · unfold s_if; (repeat' split) <;> first | exact Mo.nex0 | exact Mo.no
  · unfold s_if; (repeat' split) <;> first | exact Mo.nex0 | exact Mo.no
  · unfold s_if; (repeat' split) <;> first | exact Mo.nex0 | exact Mo.no
  · unfold s_if; (repeat' split) <;> first | exact Mo.nex0 | exact Mo.no
  · unfold s_if; (repeat' split) <;> first | exact Mo.nex0 | exact Mo.no
  · unfold s_if; (repeat' split) <;> first | exact Mo.nex0 | exact Mo.no
  · unfold s_ic; (repeat' split) <;> first | exact Mo.nex0 | exact Mo.no
  · unfold s_ic; (repeat' split) <;> first | exact Mo.nex0 | exact Mo.no
  · unfold s_ic; (repeat' split) <;> first | exact Mo.nex0 | exact Mo.no
  · unfold s_ic; (repeat' split) <;> first | exact Mo.nex0 | exact Mo.no
  · unfold s_ic; (repeat' split) <;> first | exact Mo.nex0 | exact Mo.no
  · unfold s_ic; (repeat' split) <;> first | exact Mo.nex0 | exact Mo.no
  · (repeat' split) <;> first | exact Mo.nex0 | exact Mo.no
  · (repeat' split) <;> first | exact Mo.nex0 | exact Mo.no
  · (repeat' split) <;> first | exact Mo.nex0 | exact Mo.no
  · unfold s_get; (repeat' split) <;> first | exact Mo.nex0 | exact Mo.no
  · unfold s_put; (repeat' split) <;> first | exact Mo.no | exact Mo.nex (Grow.same rfl rfl rfl)
  · exact Mo.nex0
  · unfold s_iald; (repeat' split) <;> first | exact Mo.nex0 | exact Mo.no
  · unfold s_zald; (repeat' split) <;> first | exact Mo.nex0 | exact Mo.no
  · unfold s_lald; (repeat' split) <;> first | exact Mo.nex0 | exact Mo.no
  · unfold s_aald; (repeat' split) <;> first | exact Mo.nex0 | exact Mo.no
  · unfold s_iast; (repeat' split) <;> first | exact Mo.no | exact Mo.nex (Grow.same rfl rfl rfl)
  · unfold s_zast; (repeat' split) <;> first | exact Mo.no | exact Mo.nex (Grow.same rfl rfl rfl)
  · unfold s_last; (repeat' split) <;> first | exact Mo.no | exact Mo.nex (Grow.same rfl rfl rfl)
  · unfold s_aast; (repeat' split) <;> first | exact Mo.no | exact Mo.nex (Grow.same rfl rfl rfl)
  · unfold s_len; (repeat' split) <;> first | exact Mo.nex0 | exact Mo.no
  · unfold s_newa; (repeat' split) <;> first | exact Mo.no | exact Mo.nex Grow.al
  · unfold s_newa; (repeat' split) <;> first | exact Mo.no | exact Mo.nex Grow.al
  · unfold s_newa; (repeat' split) <;> first | exact Mo.no | exact Mo.nex Grow.al
  · unfold s_newa; (repeat' split) <;> first | exact Mo.no | exact Mo.nex Grow.al
  · exact Mo.nex Grow.al
  · (repeat' split) <;> first | exact Mo.nex0 | exact Mo.no
  · unfold s_copy; (repeat' split) <;> first | exact Mo.no | exact Mo.nex (Grow.same rfl rfl rfl)
  · unfold s_callV; (repeat' split) <;> first | exact Mo.no | exact Mo.bind (fun r hr => hcr _ _ _ _ hr) (fun r => Mo.nex0)
  · unfold s_callV; (repeat' split) <;> first | exact Mo.no | exact Mo.bind (fun r hr => hcr _ _ _ _ hr) (fun r => Mo.nex0)
  · unfold s_callS; (repeat' split) <;> first | exact Mo.no | exact Mo.bind (fun r hr => hcr _ _ _ _ hr) (fun r => Mo.nex0)
  · unfold s_iret; (repeat' split) <;> first | exact Mo.no | exact Mo.end_
  · (repeat' split) <;> first | exact Mo.no | exact Mo.end_
  · (repeat' split) <;> first | exact Mo.no | exact Mo.end_
  · (repeat' split) <;> first | exact Mo.no | exact Mo.end_
  · exact Mo.no
def NR (s : StpR) : Prop := ∀ r, ¬ s = some (.inr r)
theorem NR.no : NR none := fun r e => by cases e
theorem NR.nex {pc : Nat} {k : List Nat} {ls st : List Value} {h : HP} : NR (nx pc k ls st h) := fun r e => by unfold nx at e; cases e
theorem NR.bind {x : Option Rs} {f : Rs → StpR} (hf : ∀ r, NR (f r)) : NR (x.bind f) := fun q e => by
  obtain ⟨r, h1, h2⟩ := Option.bind_eq_some_iff.mp e
  exact hf r q h2
theorem no_ret {X : XX} {cr : Nat → List Value → HP → Option Rs} {y : Nat} {i : Instr} {pc n : Nat} {k k2 : List Nat} {ls st : List Value} {h : HP} {r : Rs} (h1 : ¬ i = .ireturn) (h2 : ¬ i = .lreturn) (h3 : ¬ i = .areturn) (h4 : ¬ i = .return_) : ¬ stI X cr y i pc n k k2 ls st h = some (.inr r) := by
  have key : NR (stI X cr y i pc n k k2 ls st h) := by
    unfold stI
    split
    · exact NR.nex
    · exact NR.nex
    · exact NR.nex
    · (repeat' split) <;> first | exact NR.nex | exact NR.no
    · (repeat' split) <;> first | exact NR.nex | exact NR.no
    · (repeat' split) <;> first | exact NR.nex | exact NR.no
    · (repeat' split) <;> first | exact NR.nex | exact NR.no
    · (repeat' split) <;> first | exact NR.nex | exact NR.no
    · (repeat' split) <;> first | exact NR.nex | exact NR.no
    · (repeat' split) <;> first | exact NR.nex | exact NR.no
    · unfold s_ii; (repeat' split) <;> first | exact NR.nex | exact NR.no
    · unfold s_ii; (repeat' split) <;> first | exact NR.nex | exact NR.no
    · unfold s_ii; (repeat' split) <;> first | exact NR.nex | exact NR.no
    · unfold s_ii; (repeat' split) <;> first | exact NR.nex | exact NR.no
    · unfold s_ii; (repeat' split) <;> first | exact NR.nex | exact NR.no
    · unfold s_ii; (repeat' split) <;> first | exact NR.nex | exact NR.no
    · unfold s_ii; (repeat' split) <;> first | exact NR.nex | exact NR.no
    · unfold s_ii; (repeat' split) <;> first | exact NR.nex | exact NR.no
    · unfold s_ii; (repeat' split) <;> first | exact NR.nex | exact NR.no
    · (repeat' split) <;> first | exact NR.nex | exact NR.no
    · (repeat' split) <;> first | exact NR.nex | exact NR.no
    · (repeat' split) <;> first | exact NR.nex | exact NR.no
    · unfold s_jj; (repeat' split) <;> first | exact NR.nex | exact NR.no
    · unfold s_jj; (repeat' split) <;> first | exact NR.nex | exact NR.no
    · unfold s_jj; (repeat' split) <;> first | exact NR.nex | exact NR.no
    · unfold s_jj; (repeat' split) <;> first | exact NR.nex | exact NR.no
    · unfold s_jj; (repeat' split) <;> first | exact NR.nex | exact NR.no
    · unfold s_ji; (repeat' split) <;> first | exact NR.nex | exact NR.no
    · (repeat' split) <;> first | exact NR.nex | exact NR.no
    · (repeat' split) <;> first | exact NR.nex | exact NR.no
    · (repeat' split) <;> first | exact NR.nex | exact NR.no
    · (repeat' split) <;> first | exact NR.nex | exact NR.no
    · (repeat' split) <;> first | exact NR.nex | exact NR.no
    · (repeat' split) <;> first | exact NR.nex | exact NR.no
    · (repeat' split) <;> first | exact NR.nex | exact NR.no
    · (repeat' split) <;> first | exact NR.nex | exact NR.no
    · (repeat' split) <;> first | exact NR.nex | exact NR.no
    · (repeat' split) <;> first | exact NR.nex | exact NR.no
    · (repeat' split) <;> first | exact NR.nex | exact NR.no
    · unfold s_mm; (repeat' split) <;> first | exact NR.nex | exact NR.no
    · unfold s_mm; (repeat' split) <;> first | exact NR.nex | exact NR.no
    · (repeat' split) <;> first | exact NR.nex | exact NR.no
    · unfold s_ml; (repeat' split) <;> first | exact NR.nex | exact NR.no
    · unfold s_ml; (repeat' split) <;> first | exact NR.nex | exact NR.no
    · (repeat' split) <;> first | exact NR.nex | exact NR.no
    · exact NR.nex
    · unfold s_if; (repeat' split) <;> first | exact NR.nex | exact NR.no
    · unfold s_if; (repeat' split) <;> first | exact NR.nex | exact NR.no
    · unfold s_if; (repeat' split) <;> first | exact NR.nex | exact NR.no
    · unfold s_if; (repeat' split) <;> first | exact NR.nex | exact NR.no
    · unfold s_if; (repeat' split) <;> first | exact NR.nex | exact NR.no
    · unfold s_if; (repeat' split) <;> first | exact NR.nex | exact NR.no
    · unfold s_ic; (repeat' split) <;> first | exact NR.nex | exact NR.no
    · unfold s_ic; (repeat' split) <;> first | exact NR.nex | exact NR.no
    · unfold s_ic; (repeat' split) <;> first | exact NR.nex | exact NR.no
    · unfold s_ic; (repeat' split) <;> first | exact NR.nex | exact NR.no
    · unfold s_ic; (repeat' split) <;> first | exact NR.nex | exact NR.no
    · unfold s_ic; (repeat' split) <;> first | exact NR.nex | exact NR.no
    · (repeat' split) <;> first | exact NR.nex | exact NR.no
    · (repeat' split) <;> first | exact NR.nex | exact NR.no
    · (repeat' split) <;> first | exact NR.nex | exact NR.no
    · unfold s_get; (repeat' split) <;> first | exact NR.nex | exact NR.no
    · unfold s_put; (repeat' split) <;> first | exact NR.no | exact NR.nex
    · exact NR.nex
    · unfold s_iald; (repeat' split) <;> first | exact NR.nex | exact NR.no
    · unfold s_zald; (repeat' split) <;> first | exact NR.nex | exact NR.no
    · unfold s_lald; (repeat' split) <;> first | exact NR.nex | exact NR.no
    · unfold s_aald; (repeat' split) <;> first | exact NR.nex | exact NR.no
    · unfold s_iast; (repeat' split) <;> first | exact NR.no | exact NR.nex
    · unfold s_zast; (repeat' split) <;> first | exact NR.no | exact NR.nex
    · unfold s_last; (repeat' split) <;> first | exact NR.no | exact NR.nex
    · unfold s_aast; (repeat' split) <;> first | exact NR.no | exact NR.nex
    · unfold s_len; (repeat' split) <;> first | exact NR.nex | exact NR.no
    · unfold s_newa; (repeat' split) <;> first | exact NR.no | exact NR.nex
    · unfold s_newa; (repeat' split) <;> first | exact NR.no | exact NR.nex
    · unfold s_newa; (repeat' split) <;> first | exact NR.no | exact NR.nex
    · unfold s_newa; (repeat' split) <;> first | exact NR.no | exact NR.nex
    · exact NR.nex
    · (repeat' split) <;> first | exact NR.nex | exact NR.no
    · unfold s_copy; (repeat' split) <;> first | exact NR.no | exact NR.nex
    · unfold s_callV; (repeat' split) <;> first | exact NR.no | exact NR.bind (fun r => NR.nex)
    · unfold s_callV; (repeat' split) <;> first | exact NR.no | exact NR.bind (fun r => NR.nex)
    · unfold s_callS; (repeat' split) <;> first | exact NR.no | exact NR.bind (fun r => NR.nex)
    · exact absurd rfl h1
    · exact absurd rfl h2
    · exact absurd rfl h3
    · exact absurd rfl h4
    · exact NR.no
  exact key r
theorem mo_stp {X : XX} {cr : Nat → List Value → HP → Option Rs} (hcr : ∀ z as h r, cr z as h = some r → Grow h r.2) {y : Nat} {c : Cfg} : Mo c.2.2.2 (stp X cr y c) := by
  unfold stp
  split
  · exact mo_stI hcr _ _ _ _ _ _ _ _ _
  · exact Mo.no
theorem mo_itr {X : XX} {cr : Nat → List Value → HP → Option Rs} (hcr : ∀ z as h r, cr z as h = some r → Grow h r.2) {y : Nat} : ∀ (n : Nat) (c : Cfg) (r : Rs), itr X cr y n c = some r → Grow c.2.2.2 r.2
  | 0, _, _, h => by cases h
  | n + 1, c, r, h => by
    rw [itr] at h
    cases hs : stp X cr y c with
    | none => rw [hs] at h; cases h
    | some q =>
      rw [hs] at h
      have g := mo_stp hcr (y := y) (c := c) q hs
      cases q with
      | inl c' => exact g.trans (mo_itr hcr n c' r h)
      | inr q => cases h; exact g
theorem mo_ev {X : XX} : ∀ (d z : Nat) (as : List Value) (h : HP) (r : Rs), ev X d z as h = some r → Grow h r.2
  | 0, _, _, _, _, e => by cases e
  | d + 1, z, as, h, r, e => by
    rw [ev] at e
    split at e
    · obtain ⟨n, hn⟩ := lim_iff.mp e
      exact mo_itr (mo_ev d) n _ r hn
    · cases e
theorem zV {y z n p : Nat} {raw : Instr} (h : ck_callV y z raw n p = true) : z < NY ∧ 0 < z := by
  unfold ck_callV at h
  split at h
  · simp only [Bool.and_eq_true, decide_eq_true_eq] at h
    exact h.2.1
  · cases h
theorem zI {y z n p : Nat} {raw : Instr} (h : ck_callI y z raw n p = true) : z < NY ∧ 0 < z := by
  unfold ck_callI at h
  split at h
  · simp only [Bool.and_eq_true, decide_eq_true_eq] at h
    exact h.2.1
  · cases h
theorem zS {y z n p : Nat} {raw : Instr} (h : ck_callS y z raw n p = true) : z < NY ∧ 0 < z := by
  unfold ck_callS at h
  split at h
  · simp only [Bool.and_eq_true, decide_eq_true_eq] at h
    exact h.2.1
  · cases h
theorem ret_no1 (y : Nat) (st : List Value) (h : HP) (c' : Cfg) : ¬ s_iret y st h = some (.inl c') := by
  unfold s_iret
  intro e
  split at e
  · split at e <;> cases e
  · cases e
theorem ret_no2 (y : Nat) (st : List Value) (h : HP) (c' : Cfg) : ¬ (match st with | [.long v] => if pret y = some .long then some (.inr (some (.long v), h)) else none | _ => none : StpR) = some (.inl c') := by
  intro e
  split at e
  · split at e <;> cases e
  · cases e
theorem ret_no3 (y : Nat) (st : List Value) (h : HP) (c' : Cfg) : ¬ (match st with | [v] => if isB v = true ∧ rfR (pret y) = true then some (.inr (some v, h)) else none | _ => none : StpR) = some (.inl c') := by
  intro e
  split at e
  · split at e <;> cases e
  · cases e
theorem ret_no4 (y : Nat) (st : List Value) (h : HP) (c' : Cfg) : ¬ (match st with | [] => if pret y = none then some (.inr (none, h)) else none | _ => none : StpR) = some (.inl c') := by
  intro e
  split at e
  · split at e <;> cases e
  · cases e
section STEP
variable {p : Program} {l : Launch} {e : Jvm.Env} {R : Room} {s : State} {m : MethodId} {args : Array Value} {below : List Frame} {meth : Method} {c : Code} {Q : State → Prop} {B0 : Nat} {ta : Nat → Nat} {cA : Nat → ClassId} {D : va_G} {X : XX} {y : Nat} {h0 : HP}
set_option maxHeartbeats 4000000 in
theorem step_sim (C : Ctx p s m args meth c B0 ta cA D X y) (CK : Chk) (CM : ChkM) (hy : y < NY) {d : Nat} (hfr : d + 1 ≤ R.frames) (hlo : 60 * d + 60 ≤ R.locals) (hcr : ∀ z, 0 < z → z < NY → ∀ as h r, InvH h → ev X d z as h = some r → MetY l B0 ta cA D X d z as h r) {cfg c' : Cfg} (hs : stp X (ev X d) y cfg = some (.inl c')) (hR : RmB R s B0 h0 c'.2.2.2) (K : Sim p l e R s m args below meth c Q B0 ta cA D y h0 c') : Sim p l e R s m args below meth c Q B0 ta cA D y h0 cfg := by
  obtain ⟨pc, ls, st, h⟩ := cfg
  unfold stp at hs
  cases hf : fr y pc with
  | none => simp only [hf] at hs; cases hs
  | some w =>
    obtain ⟨i, n, k, k2⟩ := w
    simp only [hf] at hs
    unfold fr at hf
    obtain ⟨en, hft, hen⟩ := Option.map_eq_some_iff.mp hf
    have hi := CK.1 y pc en hy hft
    obtain ⟨r0, raw, n0, ka, kb, pl⟩ := en
    cases hen
    unfold insB at hi
    simp only [Bool.and_eq_true, decide_eq_true_eq] at hi
    obtain ⟨hd, hk⟩ := hi
    have hmo : ∀ z as h r, ev X d z as h = some r → (h.1 ≤ r.2.1 ∧ h.2.1 ≤ r.2.2.1) ∧ (InvH h → InvH r.2) := fun z as h r hr => mo_ev d z as h r hr
    cases r0 with
    | iadd => exact st_iadd C hd hk hs K
    | isub => exact st_isub C hd hk hs K
    | imul => exact st_imul C hd hk hs K
    | iand => exact st_iand C hd hk hs K
    | ior => exact st_ior C hd hk hs K
    | ixor => exact st_ixor C hd hk hs K
    | ishl => exact st_ishl C hd hk hs K
    | ishr => exact st_ishr C hd hk hs K
    | iushr => exact st_iushr C hd hk hs K
    | ladd => exact st_ladd C hd hk hs K
    | lsub => exact st_lsub C hd hk hs K
    | lmul => exact st_lmul C hd hk hs K
    | land => exact st_land C hd hk hs K
    | lor => exact st_lor C hd hk hs K
    | lshl => exact st_lshl C hd hk hs K
    | idiv => exact st_idiv C hd hk hs K
    | irem => exact st_irem C hd hk hs K
    | ldiv => exact st_ldiv C hd hk hs K
    | ineg => exact st_ineg C hd hk hs K
    | lneg => exact st_lneg C hd hk hs K
    | lcmp => exact st_lcmp C hd hk hs K
    | i2l => exact st_i2l C hd hk hs K
    | l2i => exact st_l2i C hd hk hs K
    | i2b => exact st_i2b C hd hk hs K
    | i2s => exact st_i2s C hd hk hs K
    | dup => exact st_dup C hd hk hs K
    | pop => exact st_pop C hd hk hs K
    | dup_x1 => exact st_dup_x1 C hd hk hs K
    | dup2 => exact st_dup2 C hd hk hs K
    | baload => exact st_baload C hd hk hs K
    | laload => exact st_laload C hd hk hs K
    | aaload => exact st_aaload C hd hk hs K
    | iastore => exact st_iastore C hd hk hs K
    | bastore => exact st_bastore C hd hk hs K
    | lastore => exact st_lastore C hd hk hs K
    | aastore => exact st_aastore C hd hk hs K
    | iaload => exact st_iaload C hd hk hs K
    | arraylength => exact st_arraylength C hd hk hs K
    | aconst_null => exact st_anull C hd hk hs K
    | iconst v => exact st_iconst C hd hk hs K
    | jsr_w v => exact st_lconst C hd hk hs K
    | iload i => exact st_iload C hd hk hs K
    | lload i => exact st_lload C hd hk hs K
    | aload i => exact st_aload C hd hk hs K
    | istore i => exact st_istore C hd hk hs K
    | lstore i => exact st_lstore C hd hk hs K
    | astore i => exact st_astore C hd hk hs K
    | iinc i v => exact st_iinc C hd hk hs K
    | goto t => exact st_goto C hd hk hs K
    | ifCond q t => cases q with
      | eq => exact st_if_eq C hd hk hs K
      | ne => exact st_if_ne C hd hk hs K
      | lt => exact st_if_lt C hd hk hs K
      | ge => exact st_if_ge C hd hk hs K
      | gt => exact st_if_gt C hd hk hs K
      | le => exact st_if_le C hd hk hs K
    | if_icmp q t => cases q with
      | eq => exact st_ic_eq C hd hk hs K
      | ne => exact st_ic_ne C hd hk hs K
      | lt => exact st_ic_lt C hd hk hs K
      | ge => exact st_ic_ge C hd hk hs K
      | gt => exact st_ic_gt C hd hk hs K
      | le => exact st_ic_le C hd hk hs K
    | ifnull t => exact st_ifnull C hd hk hs K
    | ifnonnull t => exact st_ifnonnull C hd hk hs K
    | lookupswitch q ps => exact st_switch C hd hk hs K
    | getfield q => exact st_getfield C CK hd hk hs K
    | putfield q => exact st_putfield C CK hd hk hs K
    | getstatic q => exact st_getstatic C hd hk hs K
    | newarray q => cases q with
      | int => exact st_newint C CK hd hk hs hR K
      | long => exact st_newlong C CK hd hk hs hR K
      | boolean => exact st_newbool C CK hd hk hs hR K
      | _ => exact none_inv hs
    | anewarray q => exact st_anewarray C hd hk hs hR K
    | new q => exact st_new C CK hd hk hs hR K
    | monitorexit => exact st_objinit C CK hd hk (by omega) (by omega) hs K
    | monitorenter => exact st_copy C CK hd hk (by omega) (by omega) hs K
    | invokevirtual z => exact st_callV C CK hd hk hfr hlo (fun as h r hI hr => hcr z (zV hk).2 (zV hk).1 as h r hI hr) (hmo z) hs hR K
    | invokespecial z => exact st_callI C CK hd hk hfr hlo (fun as h r hI hr => hcr z (zI hk).2 (zI hk).1 as h r hI hr) (hmo z) hs hR K
    | invokestatic z => exact st_callS C CK hd hk hfr hlo (fun as h r hI hr => hcr z (zS hk).2 (zS hk).1 as h r hI hr) (hmo z) hs hR K
    | ireturn => exact absurd hs (ret_no1 y st h c')
    | lreturn => exact absurd hs (ret_no2 y st h c')
    | areturn => exact absurd hs (ret_no3 y st h c')
    | return_ => exact absurd hs (ret_no4 y st h c')
    | fadd => exact st_fadd C CM hd hk (by omega) (by omega) hs hR K
    | fsub => exact st_fsub C CM hd hk (by omega) (by omega) hs hR K
    | fneg => exact st_fneg C CM hd hk (by omega) (by omega) hs hR K
    | dadd => exact st_dadd C CM hd hk (by omega) (by omega) hs hR K
    | dsub => exact st_dsub C CM hd hk (by omega) (by omega) hs hR K
    | dneg => exact st_dneg C CM hd hk (by omega) (by omega) hs hR K
    | _ => exact none_inv hs
end STEP
