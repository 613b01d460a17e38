/-! THE CHECKS -/
def insY (y : Nat) (l : List (Nat × Ent)) : Bool := l.all fun q => insB y q.1 q.2
theorem lk_mem {pc : Nat} {e : Ent} : ∀ (l : List (Nat × Ent)), lk pc l = some e → (pc, e) ∈ l
  | [], h => by cases h
  | q :: r, h => by
    rw [lk] at h
    by_cases hq : q.1 = pc
    · rw [if_pos hq] at h
      cases h
      subst hq
      exact List.mem_cons_self
    · rw [if_neg hq] at h
      exact List.mem_cons_of_mem _ (lk_mem r h)
theorem ck0_0 : insY 0 cd0_0 = true := by decide +kernel
theorem ck0_1 : insY 0 cd0_1 = true := by decide +kernel
theorem ck0_2 : insY 0 cd0_2 = true := by decide +kernel
theorem ck0_3 : insY 0 cd0_3 = true := by decide +kernel
theorem ck0_4 : insY 0 cd0_4 = true := by decide +kernel
theorem ck0_5 : insY 0 cd0_5 = true := by decide +kernel
theorem ck0_6 : insY 0 cd0_6 = true := by decide +kernel
theorem ck0_7 : insY 0 cd0_7 = true := by decide +kernel
theorem ck0_8 : insY 0 cd0_8 = true := by decide +kernel
theorem ck0_9 : insY 0 cd0_9 = true := by decide +kernel
theorem ck0_10 : insY 0 cd0_10 = true := by decide +kernel
theorem ck0_11 : insY 0 cd0_11 = true := by decide +kernel
theorem ck0_12 : insY 0 cd0_12 = true := by decide +kernel
theorem ck0_13 : insY 0 cd0_13 = true := by decide +kernel
theorem ck0_14 : insY 0 cd0_14 = true := by decide +kernel
theorem ck0_15 : insY 0 cd0_15 = true := by decide +kernel
theorem ck0_16 : insY 0 cd0_16 = true := by decide +kernel
theorem ck0_17 : insY 0 cd0_17 = true := by decide +kernel
theorem ck0_18 : insY 0 cd0_18 = true := by decide +kernel
theorem ck0_19 : insY 0 cd0_19 = true := by decide +kernel
theorem ck0_20 : insY 0 cd0_20 = true := by decide +kernel
