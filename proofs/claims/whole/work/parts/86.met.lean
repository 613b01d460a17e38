/-! EVERY METHOD'S CONTRACT -/
section STEP
variable {p : Program} {l : Launch} {e : Jvm.Env} {R : Room} {s : State} {m : MethodId} {args : Array Value} {below : List Frame} {meth : Method} {c : Code} {Q : State → Prop} {B0 : Nat} {ta : Nat → Nat} {cA : Nat → ClassId} {D : va_G} {X : XX} {y : Nat} {h0 : HP}
theorem ret_sim (C : Ctx p s m args meth c B0 ta cA D X y) (CK : Chk) (hy : y < NY) {cr : Nat → List Value → HP → Option Rs} {cfg : Cfg} {r : Rs} (hs : stp X cr y cfg = some (.inr r)) (hz : s.heap.size = B0 + h0.1) : Sim p l e R s m args below meth c (MQ below (Qx B0 ta cA D r) args s (r.2.1 - h0.1) (r.2.2.1 - h0.2.1) (A0 B0)) B0 ta cA D y h0 cfg := by
  obtain ⟨⟨hx, hb, hml, hr⟩, ⟨hown, hts, hlk, hnm⟩, hE, hB⟩ := C
  obtain ⟨pc, ls, st, h⟩ := cfg
  unfold stp at hs
  cases hf : fr y pc with
  | none => simp only [hf] at hs; cases hs
  | some w =>
    obtain ⟨i, n, k, k2⟩ := w
    simp only [hf] at hs
    unfold fr at hf
    obtain ⟨en, hft, hen⟩ := Option.map_eq_some_iff.mp hf
    have hi := CK.1 y pc en hy hft
    obtain ⟨r0, raw, n0, ka, kb, pl⟩ := en
    cases hen
    unfold insB at hi
    simp only [Bool.and_eq_true, decide_eq_true_eq] at hi
    obtain ⟨hd, hk⟩ := hi
    have nono : ∀ {pc : Nat} {k : List Nat} {ls st : List Value} {h : HP}, ¬ nx pc k ls st h = some (.inr r) := fun q => by unfold nx at q; cases q
    have fin : ∀ {cells slots : Nat} {H : Heap} {locs : List Loc} {g : JFrame}, ((s.heap.size + cells = B0 + h.1 ∧ h0.2.1 + slots = h.2.1)) → W p l e R s m args below meth c H locs cells slots (MQ below (Qx B0 ta cA D r) args s cells slots (A0 B0)) g → r.2 = h → W p l e R s m args below meth c H locs cells slots (MQ below (Qx B0 ta cA D r) args s (r.2.1 - h0.1) (r.2.2.1 - h0.2.1) (A0 B0)) g := by
      intro cells slots H locs g hc hw hrh
      have e1 : r.2.1 - h0.1 = cells := by rw [hrh]; omega
      have e2 : r.2.2.1 - h0.2.1 = slots := by rw [hrh]; omega
      rw [e1, e2]
      exact hw
    by_cases hi : r0 = .ireturn
    · subst hi
      have hk' : c1 .ireturn raw n0 = true := hk
      unfold c1 at hk'
      simp only [Bool.and_eq_true, decide_eq_true_eq] at hk'
      obtain ⟨rfl, rfl⟩ := hk'
      have hs' : s_iret y st h = some (.inr r) := hs
      unfold s_iret at hs'
      split at hs'
      · rename_i v
        split at hs'
        · rename_i hret
          cases hs'
          intro H locs lsA cells slots hP hS hL hc
          refine fin hc.1 ?_ rfl
          rcases hret with hret | ⟨hret, hv⟩
          · exact W.iret (v := v) hx hb (hr.trans hret) (fun t ht hW => ⟨⟨rfl, by rw [ht]; exact hP⟩, hS.F ht⟩) hS.2.2 hd hlk
          · exact W.zret (v := v) hx hb (hr.trans hret) (narrow_01 hv).1 (fun t ht hW => ⟨⟨rfl, by rw [ht]; exact hP⟩, hS.F ht⟩) hS.2.2 hd hlk
        · cases hs'
      · cases hs'
    · by_cases hi2 : r0 = .lreturn
      · subst hi2
        have hk' : c1 .lreturn raw n0 = true := hk
        unfold c1 at hk'
        simp only [Bool.and_eq_true, decide_eq_true_eq] at hk'
        obtain ⟨rfl, rfl⟩ := hk'
        have hs' : (match (generalizing := false) st with | [.long v] => if pret y = some .long then some (.inr (some (.long v), h)) else none | _ => none : StpR) = some (.inr r) := hs
        split at hs'
        · rename_i v
          split at hs'
          · rename_i hret
            cases hs'
            intro H locs lsA cells slots hP hS hL hc
            refine fin hc.1 ?_ rfl
            exact W.lret (v := v) hx hb (hr.trans hret) (fun t ht hW => ⟨⟨rfl, by rw [ht]; exact hP⟩, hS.F ht⟩) hS.2.2 hd hlk
          · cases hs'
        · cases hs'
      · by_cases hi3 : r0 = .areturn
        · subst hi3
          have hk' : c1 .areturn raw n0 = true := hk
          unfold c1 at hk'
          simp only [Bool.and_eq_true, decide_eq_true_eq] at hk'
          obtain ⟨rfl, rfl⟩ := hk'
          have hs' : (match (generalizing := false) st with | [v] => if isB v = true ∧ rfR (pret y) = true then some (.inr (some v, h)) else none | _ => none : StpR) = some (.inr r) := hs
          split at hs'
          · rename_i v
            split at hs'
            · rename_i hret
              cases hs'
              intro H locs lsA cells slots hP hS hL hc
              refine fin hc.1 ?_ rfl
              have hvv : cv B0 ta v = .null ∨ ∃ a, cv B0 ta v = .ref a := by
                have := hret.1
                cases v <;> first | exact Or.inl rfl | exact Or.inr ⟨_, rfl⟩ | (cases this)
              have h2 := hret.2
              cases hpr : pret y with
              | none => rw [hpr] at h2; cases h2
              | some rt =>
                rw [hpr] at h2
                refine W.aret (v := cv B0 ta v) (rt := rt) hx hb (hr.trans hpr) ?_ hvv (fun t ht hW => ⟨⟨rfl, by rw [ht]; exact hP⟩, hS.F ht⟩) hS.2.2 hd hlk
                cases rt <;> simp [rfR] at h2 <;> first | exact Or.inl ⟨_, rfl⟩ | exact Or.inr ⟨_, rfl⟩
            · cases hs'
          · cases hs'
        · by_cases hi4 : r0 = .return_
          · subst hi4
            have hk' : c1 .return_ raw n0 = true := hk
            unfold c1 at hk'
            simp only [Bool.and_eq_true, decide_eq_true_eq] at hk'
            obtain ⟨rfl, rfl⟩ := hk'
            have hs' : (match (generalizing := false) st with | [] => if pret y = none then some (.inr (none, h)) else none | _ => none : StpR) = some (.inr r) := hs
            split at hs'
            · split at hs'
              · rename_i hret
                cases hs'
                intro H locs lsA cells slots hP hS hL hc
                refine fin hc.1 ?_ rfl
                exact W.vret hx hb (hr.trans hret) (fun t ht hW => ⟨⟨rfl, by rw [ht]; exact hP⟩, hS.F ht⟩) hS.2.2 hd hlk
              · cases hs'
            · cases hs'
          · exact absurd hs (no_ret hi hi2 hi3 hi4)
theorem sim_itr (C : Ctx p s m args meth c B0 ta cA D X y) (CK : Chk) (CM : ChkM) (hy : y < NY) {d : Nat} (hfr : d + 1 ≤ R.frames) (hlo : 60 * d + 60 ≤ R.locals) (hcr : ∀ z, 0 < z → z < NY → ∀ as h r, InvH h → ev X d z as h = some r → MetY l B0 ta cA D X d z as h r) {r : Rs} (hret : ∀ cfg, stp X (ev X d) y cfg = some (.inr r) → Sim p l e R s m args below meth c Q B0 ta cA D y h0 cfg) (hR : RmB R s B0 h0 r.2) :
    ∀ (n : Nat) (cfg : Cfg), itr X (ev X d) y n cfg = some r → Sim p l e R s m args below meth c Q B0 ta cA D y h0 cfg
  | 0, _, h => by cases h
  | n + 1, cfg, h => by
    rw [itr] at h
    cases hs : stp X (ev X d) y cfg with
    | none => rw [hs] at h; cases h
    | some q =>
      rw [hs] at h
      cases q with
      | inl c' =>
        have g := mo_itr (X := X) (cr := ev X d) (fun z as h r hr => mo_ev d z as h r hr) n c' r h
        exact step_sim C CK CM hy hfr hlo hcr hs ⟨by have := hR.1; have := g.1.1; omega, by have := hR.2; have := g.1.2; omega⟩ (sim_itr C CK CM hy hfr hlo hcr hret hR n c' h)
      | inr q =>
        cases h
        exact hret cfg hs
end STEP
theorem sl_len {B0 : Nat} {ta : Nat → Nat} : ∀ (as : List Value), (lg_sl (as.map (cv B0 ta))).length = (sprd as).length
  | [] => rfl
  | v :: r => by
    have ih := sl_len (B0 := B0) (ta := ta) r
    unfold lg_sl at ih ⊢
    rw [List.map_cons, List.flatMap_cons, List.length_append, ih, sprd, cv_cat]
    by_cases h : v.category = 2
    · rw [if_pos h, if_pos h]; simp; omega
    · rw [if_neg h, if_neg h]; simp; omega
theorem args_at {B0 : Nat} {ta : Nat → Nat} : ∀ (as : List Value) (i j : Nat) (v : Value), (sprd as)[j]? = some v → v ≠ dm → (i + j, cv B0 ta v) ∈ lv_args i (as.map (cv B0 ta))
  | [], _, _, _, h, _ => by simp [sprd] at h
  | w :: r, i, j, v, h, hv => by
    rw [sprd] at h
    rw [List.map_cons, lv_args, cv_cat]
    by_cases hc : w.category = 2
    · rw [if_pos hc] at h ⊢
      match j, h with
      | 0, h =>
        rw [List.getElem?_cons_zero] at h
        cases h
        exact List.mem_cons_self
      | 1, h =>
        rw [List.getElem?_cons_succ, List.getElem?_cons_zero] at h
        exact absurd (Option.some.inj h).symm hv
      | j + 2, h =>
        rw [List.getElem?_cons_succ, List.getElem?_cons_succ] at h
        have := args_at (B0 := B0) (ta := ta) r (i + 2) j v h hv
        rw [show i + 2 + j = i + (j + 2) by omega] at this
        exact List.mem_cons_of_mem _ this
    · rw [if_neg hc] at h ⊢
      match j, h with
      | 0, h =>
        rw [List.getElem?_cons_zero] at h
        cases h
        exact List.mem_cons_self
      | j + 1, h =>
        rw [List.getElem?_cons_succ] at h
        have := args_at (B0 := B0) (ta := ta) r (i + 1) j v h hv
        rw [show i + 1 + j = i + (j + 1) by omega] at this
        exact List.mem_cons_of_mem _ this
theorem LOK_ent {B0 : Nat} {ta : Nat → Nat} {y : Nat} {as : List Value} (hl : (sprd as).length ≤ pml y) : LOK B0 ta (ent y as) ((lg_sl (as.map (cv B0 ta)) ++ List.replicate (pml y - (lg_sl (as.map (cv B0 ta))).length) Slot.unset).toArray) (pml y) := by
  have h := lv_entry (as.map (cv B0 ta)) (n := pml y) (by rw [sl_len]; exact hl)
  refine ⟨⟨h.1, by unfold ent; rw [List.length_append, List.length_replicate]; omega⟩, h.2.1, fun i v hi hv => ?_⟩
  unfold ent at hi
  by_cases hlt : i < (sprd as).length
  · rw [List.getElem?_append_left hlt] at hi
    have := args_at (B0 := B0) (ta := ta) as 0 i v hi hv
    rw [Nat.zero_add] at this
    exact h.2.2 _ this
  · rw [List.getElem?_append_right (by omega)] at hi
    have := List.mem_of_getElem? hi
    exact absurd (List.mem_replicate.mp this).2 hv
theorem met_ev (CK : Chk) (CM : ChkM) (l : Launch) (B0 : Nat) (ta : Nat → Nat) (cA : Nat → ClassId) (D : va_G) (X : XX) : ∀ (d z : Nat), 0 < z → z < NY → ∀ (as : List Value) (h : HP) (r : Rs), InvH h → ev X d z as h = some r → MetY l B0 ta cA D X d z as h r
  | 0, _, _, _, _, _, _, _, h => by cases h
  | d + 1, z, h0z, hz, as, h, r, hI, he => by
    rw [ev] at he
    split at he
    · rename_i hl
      obtain ⟨n, hn⟩ := lim_iff.mp he
      have hh := CK.2.1 z hz
      unfold hdB at hh
      simp only [Bool.and_eq_true, Bool.or_eq_true, decide_eq_true_eq] at hh
      have gr := mo_itr (X := X) (cr := ev X d) (fun z as h r hr => mo_ev d z as h r hr) n _ r hn
      have gr1 : h.1 ≤ r.2.1 ∧ h.2.1 ≤ r.2.2.1 := gr.1
      unfold MetY
      refine Met.ofW (cc := pby z) (maxL := pml z) (ret := pret z) hh.2.1.1 rfl ?_
      intro p e s m args below meth c s₁ B hml hP
      obtain ⟨rfl, ⟨hsz, hPP⟩, hE⟩ := hP
      have hts0 := atoms_spec (ws := wsy z) B.pre
      have C : Ctx p s m ((as.map (cv B0 ta)).toArray) meth c B0 ta cA D X z := ⟨⟨B.exec, B.bytes, hml, B.returns⟩, ⟨findClass_of_methodNamed B.named, fun w hw => hts0 w (List.mem_cons_of_mem _ hw), B.notSynchronized, Or.inl (name_of_methodNamed B.named B.method).1⟩, hE, by omega⟩
      rw [lg_entry_eq]
      exact sim_itr (h0 := h) C CK CM hz (R := rmy (d + 1) h r) (Nat.le_refl _) (by show 60 * d + 60 ≤ 60 * (d + 1); omega) (fun z h1 h2 as h r hI2 hr => met_ev CK CM l B0 ta cA D X d z h1 h2 as h r hI2 hr) (fun cfg hs => ret_sim C CK hz hs hsz) ⟨by show B0 + r.2.1 ≤ s.heap.size + (r.2.1 - h.1); omega, by show r.2.2.1 ≤ h.2.1 + (r.2.2.1 - h.2.1); omega⟩ n _ hn s.heap [] _ 0 0 hPP va_S.rf (LOK_ent hl) ⟨⟨by show s.heap.size + 0 = B0 + h.1; omega, rfl⟩, hI⟩
    · cases he
