/-! THE CLAIM OUT OF ONE WALK OF THE LAW'S BODY. Your part is whole_start (and what it stands on); all else here is the same for every law, but numbers. -/
def R_law : String := "HollowStepsLaw"
def lw_P (b : Addr) (xs : List Int32) (args : Array Value) (s : State) : Prop := args = #[.ref b] ∧ s.IntsAt b xs ∧ xs.length ≤ 3072 ∧ (Jvm.Cond.and given_1 narrow_1).before args s = true
def lw_Q (_ : Array Value) (s : State) (o : Outcome) (t : State) : Prop := o = .returned (some (.int 1)) ∧ Framed s o t [] 600000 7302250
def lw_Z (below : List Frame) (a : Array Value) (s : State) : State → Prop := fun t => ∃ o, t.status = .running ∧ Ended t below o ∧ lw_Q a s o t
/-- the law's own end, with 1 on the stack, nothing written that was there before, its room as the claim has it -/
theorem lw_ret {p : Program} {l : Launch} {e : Jvm.Env} {s : State} {m : MethodId} {below : List Frame} {meth : Method} {c : Code} {b : Nat} (hx : p.tables.exec = Jvm.exec) (hb : c.code = code) (hr : meth.sig.returnType = ret) (hlocks : meth.locks = false) {pc : Nat} {H : Heap} {ls : Array Slot} (hdg : decode code pc = .ok (.ireturn, 1)) : W p l e room_1 s m #[Value.ref b] below meth c H [] 600000 7302250 (lw_Z below #[Value.ref b] s) (F0 m pc ls [.int 1]) := by
  intro T hT X
  obtain ⟨fs, hret, hrun, hended, hW, hframe⟩ := X.leave (v := some (.int 1)) (hlocks := hlocks) (fun h => by rw [hr] at h; cases h)
  have hmeth' : T.vm.method? m = some meth := X.method'
  refine ⟨T.setFrames fs, ?_, .returned (some (.int 1)), hrun, hended, rfl, ⟨_, rfl⟩, hW, hframe⟩
  jvm_step X.here [X.here.top, hx, hb, hdg, hmeth', hr, ret, narrow_b1]
  (try refine ⟨rfl, ?_⟩); (try refine ⟨rfl, ?_⟩)
  first | (intro acts; rw [hret _ acts rfl rfl rfl]) | rw [hret _ _ rfl rfl rfl]
  exact Steps.refl _
/-- what holds at the law's entry: the machine, the code, the tables' words (any of lw_tbl by 'hts w (by decide +kernel)'), the script of L ints xs at the cell b, what the Statement gives of the start (any of its parts by flat_of_before) -/
def lw_At (p : Program) (s : State) (m : MethodId) (meth : Method) (c : Code) (b L : Nat) (xs : Nat → Int32) : Prop :=
  p.tables.exec = Jvm.exec ∧ c.code = code ∧ meth.sig.returnType = ret ∧ c.maxLocals = 4 ∧ s.vm.findClass R_law = some m.cls ∧ (∀ w ∈ lw_tbl, w.before #[Value.ref b] s = true) ∧ va_X b L xs s s.heap ∧ b < s.heap.size ∧ meth.locks = false ∧ (Jvm.Cond.and given_1 narrow_1).before #[Value.ref b] s = true

theorem ac_facts {s : State} {args : Array Value} {ty : FieldType} (h : (Cond.arrayClass ty).before args s = true) : ∃ c : ClassId, ArrOfT s c ty ∧ s.vm.findClass ("[" ++ ty.toString) = some c := by
  obtain ⟨c, k, comp, h1, h2, h3⟩ := Cond.arrayClass_spec h
  exact ⟨c, fun n z => ⟨fun k h => (by cases h), k, h2, comp, h3⟩, h1⟩
theorem ao_facts {s : State} {args : Array Value} {C : String} (h : (Cond.arrayOver (.object C)).before args s = true) : ∃ c : ClassId, ArrOfT s c (.object C) ∧ va_RA s c (.object C) := by
  obtain ⟨comp, c, k, h1, h2, h3, h4, h5⟩ := Cond.arrayOver_spec h
  exact ⟨c, fun n z => ⟨fun k h => (by cases h), k, h3, comp, h4⟩, k, comp, h3, h4, h1, h5⟩
theorem tab_facts {s : State} {args : Array Value} {n : String} {N : Nat} {f : Nat → Int32} {A : Nat → Prop} (hN : N < 2 ^ 31) (hA : ∀ a : Nat, a < s.heap.size → ¬ A a) (hl : (Cond.laysStatic "HollowSteps$Wears" n "[I").before args s = true) (hini : (Cond.initialized "HollowSteps$Wears").before args s = true)
    (harr : (Cond.arrayOf (.static "HollowSteps$Wears" n "[I") .int).before args s = true) (hlen : (Cond.eq (.length (.static "HollowSteps$Wears" n "[I")) (.int (Int32.ofNat N))).before args s = true) (hel : ∀ j, j < N → (Cond.eq (.elem (.static "HollowSteps$Wears" n "[I") (.int (Int32.ofNat j))) (.int (f j))).before args s = true) :
    ∃ t : Nat, va_T .int t N (fun j => .int (f j)) A s s.heap ∧ va_Z "HollowSteps$Wears" n "[I" (.ref t) A s s.heap := by
  obtain ⟨t, h1, h2⟩ := va_Tof (tm := .static "HollowSteps$Wears" n "[I") (f := fun j => .int (f j)) hN harr (va_eqt hlen) (fun j hj => va_eqt (hel j hj)) hA
  exact ⟨t, h2, va_Zref hl hini h1 hA⟩
theorem fl_own : ∀ j, j < 32 → (Jvm.Cond.eq (.elem (.static "HollowSteps$Wears" "OWN" "[I") (.int (Int32.ofNat j))) (.int (tab2.getD j 0))) ∈ flatC (Jvm.Cond.and given_1 narrow_1) := by decide +kernel
theorem fl_above : ∀ j, j < 8 → (Jvm.Cond.eq (.elem (.static "HollowSteps$Wears" "ABOVE" "[I") (.int (Int32.ofNat j))) (.int (tab1.getD j 0))) ∈ flatC (Jvm.Cond.and given_1 narrow_1) := by decide +kernel
theorem law_env {s : State} {b L : Nat} {xs : Nat → Int32} (hts : ∀ w ∈ lw_tbl, w.before #[Value.ref b] s = true) (hgv : (Jvm.Cond.and given_1 narrow_1).before #[Value.ref b] s = true) (hX : va_X b L xs s s.heap) (hbl : b < s.heap.size) :
    ∃ (ta : Nat → Nat) (cA : Nat → ClassId) (D : va_G), ta 0 = b ∧ EnvS s.heap.size ta cA D (L, xs) s := by
  have hT : ∀ w ∈ Tg, w.before #[Value.ref b] s = true := fun w hw => hts w (List.mem_filter.mp hw).1
  have hA : ∀ a : Nat, a < s.heap.size → ¬ A0 s.heap.size a := fun a h1 h2 => absurd h2 (Nat.not_le.mpr h1)
  have hfl := flat_of_before _ hgv
  obtain ⟨tO, hO1, hO2⟩ := tab_facts (n := "OWN") (N := 32) (f := fun j => tab2.getD j 0) (by decide) hA (hts _ (List.mem_of_getElem? (i := 870) (by decide +kernel))) (hts _ (List.mem_of_getElem? (i := 77) (by decide +kernel))) (hfl _ (by decide +kernel)) (hfl _ (by decide +kernel)) (fun j hj => hfl _ (fl_own j hj))
  obtain ⟨tA, hA1, hA2⟩ := tab_facts (n := "ABOVE") (N := 8) (f := fun j => tab1.getD j 0) (by decide) hA (hts _ (List.mem_of_getElem? (i := 879) (by decide +kernel))) (hts _ (List.mem_of_getElem? (i := 77) (by decide +kernel))) (hfl _ (by decide +kernel)) (hfl _ (by decide +kernel)) (fun j hj => hfl _ (fl_above j hj))
  obtain ⟨c0, q0, r0⟩ := ac_facts (hT _ chk.2.2.2.2.2.2.2.1.1)
  obtain ⟨c1, q1, r1⟩ := ac_facts (hT _ chk.2.2.2.2.2.2.2.1.2.1)
  obtain ⟨c2, q2, r2⟩ := ac_facts (hT _ chk.2.2.2.2.2.2.2.1.2.2)
  have hao : ∀ t, 3 ≤ t → t < 7 → (Cond.arrayOver (.object (tnm t))).before #[Value.ref b] s = true := by
    intro t h3 h7
    rcases (show t = 3 ∨ t = 4 ∨ t = 5 ∨ t = 6 by omega) with rfl | rfl | rfl | rfl
    · exact hts _ (List.mem_of_getElem? (i := 95) (by decide +kernel))
    · exact hts _ (List.mem_of_getElem? (i := 122) (by decide +kernel))
    · exact hts _ (List.mem_of_getElem? (i := 124) (by decide +kernel))
    · exact hts _ (List.mem_of_getElem? (i := 236) (by decide +kernel))
  obtain ⟨c3, q3, r3⟩ := ao_facts (hao 3 (by decide) (by decide))
  obtain ⟨c4, q4, r4⟩ := ao_facts (hao 4 (by decide) (by decide))
  obtain ⟨c5, q5, r5⟩ := ao_facts (hao 5 (by decide) (by decide))
  obtain ⟨c6, q6, r6⟩ := ao_facts (hao 6 (by decide) (by decide))
  have hcl : ∀ c : Nat, ∃ q : ClassId × (Nat → Nat), c < 12 → u_Kn s (cn c) (cT c) (nf c) q.1 q.2 := by
    intro c
    by_cases hc : c < 12
    · obtain ⟨a, f, h⟩ := u_known (ws := Tg) hT (chk.2.2.2.1 c hc) (hT _ (chk.2.2.2.2.2.2.1 c hc (by omega)).1)
      exact ⟨(a, f), fun _ => h⟩
    · exact ⟨(0, fun _ => 0), fun h => absurd h hc⟩
  obtain ⟨F, hF⟩ := Classical.axiomOfChoice hcl
  refine ⟨fun t => if t = 0 then b else if t = 1 then tA else tO, fun t => match t with | 0 => c0 | 1 => c1 | 2 => c2 | 3 => c3 | 4 => c4 | 5 => c5 | _ => c6, (fun c => (F c).1, fun c => (F c).2), rfl, ⟨⟨⟨fun c q hq => ?_, fun k q hq => ?_⟩, fun t h3 h7 => va_AO.of (hao t h3 h7)⟩, fun t ht => ?_, hA2, hO2⟩⟩
  · have hc : c < 12 := by
      have := (List.getElem?_eq_some_iff.mp hq).1
      simpa [cls] using this
    rw [cls_get hc] at hq
    cases hq
    exact hF c hc
  · unfold tysO at hq
    match k, hq with
    | 0, hq => cases hq; exact ⟨q0, r0⟩
    | 1, hq => cases hq; exact ⟨q1, r1⟩
    | 2, hq => cases hq; exact ⟨q2, r2⟩
    | 3, hq => cases hq; exact ⟨q3, r3⟩
    | 4, hq => cases hq; exact ⟨q4, r4⟩
    | 5, hq => cases hq; exact ⟨q5, r5⟩
    | 6, hq => cases hq; exact ⟨q6, r6⟩
    | k + 7, hq => simp at hq
  · rcases (show t = 0 ∨ t = 1 ∨ t = 2 by omega) with rfl | rfl | rfl
    · obtain ⟨scr, h1, h2, h3, h4, h5⟩ := hX
      exact ⟨scr, h1, h2, h3, by rw [h4]; exact Nat.le_refl _, by rw [h4]; rfl, h5, hA b hbl⟩
    · exact hA1
    · exact hO1
-- ===== YOUR PART BEGINS =====
theorem whole_start {p : Program} {e : Jvm.Env} {s : State} {m : MethodId} {below : List Frame} {meth : Method} {c : Code} (l : Launch) (hflags : l.flags = flags0) {b L : Nat} {xs : Nat → Int32} (hL : L ≤ 3072) (C0 : lw_At p s m meth c b L xs) : W p l e room_1 s m #[Value.ref b] below meth c s.heap [] 0 0 (lw_Z below #[Value.ref b] s) (entryFrame m ([Value.ref b] : List Value).toArray 4) := by
  obtain ⟨hx, hb, hr, hml, hown, hts, hX, hbl, hlocks, hgv⟩ := C0
  obtain ⟨ta, cA, D, hta, hE⟩ := law_env hts hgv hX hbl
  obtain ⟨d, h1, hd, hrun, hz1, hz2⟩ := pure_main (L, xs) hL
  obtain ⟨n, hn⟩ := exe_iff.mp hrun
  have hT : ∀ w ∈ Tg, w.before #[Value.ref b] s = true := fun w hw => hts w (List.mem_filter.mp hw).1
  have C : Ctx p s m #[Value.ref b] meth c s.heap.size ta cA D (L, xs) 0 := ⟨⟨hx, hb, hml, hr⟩, ⟨hown, hT, hlocks, Or.inr rfl⟩, hE, Nat.le_refl _⟩
  have hret : ∀ cfg : Cfg, stp (L, xs) (ev (L, xs) d) 0 cfg = some (.inr (some (.int 1), h1)) → Sim p l e room_1 s m #[Value.ref b] below meth c (lw_Z below #[Value.ref b] s) s.heap.size ta cA D 0 hp0 cfg := by
    intro cfg hs
    obtain ⟨pc, ls, st, h⟩ := cfg
    unfold stp at hs
    cases hf : fr 0 pc with
    | none => simp only [hf] at hs; cases hs
    | some w =>
      obtain ⟨i, n, k, k2⟩ := w
      simp only [hf] at hs
      unfold fr at hf
      obtain ⟨en, hft, hen⟩ := Option.map_eq_some_iff.mp hf
      have hi := chk.1 0 pc en (by decide) hft
      obtain ⟨i0, raw, n0, ka, kb, pl⟩ := en
      cases hen
      unfold insB at hi
      simp only [Bool.and_eq_true, decide_eq_true_eq] at hi
      obtain ⟨hdg, hk⟩ := hi
      by_cases hi : i0 = .ireturn
      · subst hi
        have hk' : c1 .ireturn raw n0 = true := hk
        unfold c1 at hk'
        simp only [Bool.and_eq_true, decide_eq_true_eq] at hk'
        obtain ⟨rfl, rfl⟩ := hk'
        have hs' : s_iret 0 st h = some (.inr (some (.int 1), h1)) := hs
        unfold s_iret at hs'
        split at hs'
        · rename_i v
          split at hs'
          · cases hs'
            intro H locs lsA cells slots hP hS hL hc
            have hc1 : s.heap.size + cells = s.heap.size + h1.1 ∧ 0 + slots = h1.2.1 := hc.1
            refine va_forget (fun q hq => hS.2.2 q hq) ?_
            refine W.widen (k := 600000) (n := 7302250) (by omega) (by omega) ?_
            exact lw_ret hx hb hr hlocks hdg
          · cases hs'
        · cases hs'
      · by_cases hi2 : i0 = .lreturn
        · subst hi2
          have hs' : (match (generalizing := false) st with | [.long v] => if pret 0 = some .long then some (.inr (some (.long v), h)) else none | _ => none : StpR) = some (.inr (some (.int 1), h1)) := hs
          split at hs'
          · split at hs' <;> cases hs'
          · cases hs'
        · by_cases hi3 : i0 = .areturn
          · subst hi3
            have hs' : (match (generalizing := false) st with | [v] => if isB v = true ∧ rfR (pret 0) = true then some (.inr (some v, h)) else none | _ => none : StpR) = some (.inr (some (.int 1), h1)) := hs
            split at hs'
            · split at hs'
              · rename_i q; exact absurd q.2 (by decide +kernel)
              · cases hs'
            · cases hs'
          · by_cases hi4 : i0 = .return_
            · subst hi4
              have hs' : (match (generalizing := false) st with | [] => if pret 0 = none then some (.inr (none, h)) else none | _ => none : StpR) = some (.inr (some (.int 1), h1)) := hs
              split at hs'
              · split at hs' <;> cases hs'
              · cases hs'
            · exact absurd hs (no_ret hi hi2 hi3 hi4)
  have hs := sim_itr (h0 := hp0) (Q := lw_Z below #[Value.ref b] s) C chk chkM (by decide) (R := room_1) (show d + 1 ≤ 2048 by omega) (show 60 * d + 60 ≤ 84000 by omega) (fun z h1 h2 as h r hI hr => met_ev chk chkM l s.heap.size ta cA D (L, xs) d z h1 h2 as h r hI hr) hret ⟨by show s.heap.size + h1.1 ≤ s.heap.size + 600000; omega, by show h1.2.1 ≤ 0 + 7302250; omega⟩ n _ hn
  have hlok := LOK_ent (B0 := s.heap.size) (ta := ta) (y := 0) (as := [.retAddr 0]) (by decide +kernel)
  have e1 : entryFrame m ([Value.ref b] : List Value).toArray 4 = F0 m 0 ((lg_sl (([.retAddr 0] : List Value).map (cv s.heap.size ta)) ++ List.replicate (pml 0 - (lg_sl (([.retAddr 0] : List Value).map (cv s.heap.size ta))).length) Slot.unset).toArray) [] := by
    have e0 : ([Value.ref b] : List Value) = ([Value.retAddr 0] : List Value).map (cv s.heap.size ta) := by rw [← hta]; rfl
    rw [e0, lg_entry_eq]; rfl
  rw [e1]
  exact hs s.heap [] _ 0 0 (fun k q hq => absurd (wsO_in hq).1 (Nat.not_lt_zero k)) va_S.rf hlok ⟨⟨rfl, rfl⟩, fun a _ => rfl⟩
-- ===== YOUR PART ENDS =====
set_option maxHeartbeats 4000000 in
theorem lw_walk (l : Launch) (hflags : l.flags = flags0) (b : Addr) (xs : List Int32) : MetFree l x (headSpec (Jvm.Cond.code x code maxLocals ret :: tables_1) room_1) (lw_P b xs) (fun _ _ _ _ _ => True) lw_Q := by
  refine MetFree.of_bodyS (code := code) (maxLocals := maxLocals) (ret := ret) (by decide) ?_ ?_
  · intro args s m h hn
    obtain ⟨meth, c, h1, h2, h3, h4, h5, h6, -, -⟩ := Cond.code_spec hn (atoms_spec (ws := Jvm.Cond.code x code maxLocals ret :: tables_1) h _ List.mem_cons_self)
    exact ⟨meth, c, h1, h2, h3, h4, h5, h6⟩
  · intro p e s m args below meth c s₁ B hml0 hP _
    obtain ⟨rfl, hx, hbd, hgv⟩ := hP
    obtain ⟨scr, harrAt, hlist, hof, hsmall⟩ := hx
    obtain ⟨hcb, hkn, -, -⟩ := State.arrayAt?_spec harrAt
    have hown : s.vm.findClass R_law = some m.cls := findClass_of_methodNamed B.named
    have hts0 : ∀ c ∈ (Jvm.Cond.code x code maxLocals ret :: tables_1), c.before #[Value.ref b] s = true := atoms_spec (ws := Jvm.Cond.code x code maxLocals ret :: tables_1) B.pre
    have hts : ∀ w ∈ lw_tbl, w.before #[Value.ref b] s = true := k2_hts_sels lw_privs (fun w hw => hts0 w (List.mem_cons_of_mem _ hw)) lw_privs_ok
    have hml : c.maxLocals = 4 := B.maxLocals_eq (hts0 _ List.mem_cons_self)
    have X₀ : Stand p l e room_1 s m #[Value.ref b] below meth c s₁ [] 0 0 := Stand.of_body B
    have hh0 : s₁.heap = s.heap := by rw [B.state]; rfl
    have hsz : scr.slots.size = xs.length := by rw [← Array.length_toList, hlist, List.length_map]
    have hval : ∀ j : Nat, j < xs.length → scr.slots[j]? = some (.int (xs.getD j 0)) := fun j hj => by
      rw [← Array.getElem?_toList, hlist]
      simp [hj]
    have hbl : b < s.heap.size := (Array.getElem?_eq_some_iff.mp hcb).1
    have hX : va_X b xs.length (fun j => xs.getD j 0) s s.heap := ⟨scr, hcb, hof, hkn, hsz, hval⟩
    have K : W p l e room_1 s m #[Value.ref b] below meth c s₁.heap [] 0 0 (lw_Z below #[Value.ref b] s) (entryFrame m ([Value.ref b] : List Value).toArray 4) := by
      rw [hh0]
      exact whole_start l hflags hbd ⟨B.exec, B.bytes, B.returns, hml, hown, hts, hX, hbl, B.notSynchronized, hgv⟩
    obtain ⟨t, a1, o, b1, b2, b3⟩ := K s₁ rfl X₀
    exact ⟨t, o, a1, b1, b2, b3⟩
theorem lw_pre_spec {args : Array Value} {s : State} (h : (Jvm.Cond.and given_1 narrow_1).before args s = true) (hr : rest_1_c.before args s = true) : ∃ (b : Addr) (xs : List Int32), lw_P b xs args s := by
  have hs := flat_of_before _ h
  have hq := flat_of_before _ hr
  have hc : (Cond.count 1).before args s = true := hs _ (by decide +kernel)
  have harr : (Cond.arrayOf (.arg 0) .int).before args s = true := hs _ (by decide +kernel)
  have hle : (Cond.le (.length (.arg 0)) (.int 3072)).before args s = true := hs _ (by decide +kernel)
  have hlen : (Cond.isInt (.length (.arg 0))).before args s = true := hq _ (by decide +kernel)
  have hall : (Cond.all (.arg 0) (.isInt (.elem (.arg 0) (.index 0)))).before args s = true := hq _ (by decide +kernel)
  obtain ⟨b, xs, hb, hx⟩ := State.ints_of_pre rfl harr hlen hall
  have hsm : xs.length < 2 ^ 31 := hx.choose_spec.2.2.2
  have hev : (Term.length (.arg 0)).eval args s none [] s = some (.int xs.length.toInt32) := hx.length_eval hb
  have hv := Cond.le_ints hev (show (Term.int 3072).eval args s none [] s = some (.int 3072) from rfl)
  have hd : xs.length.toInt32 ≤ 3072 := by
    simpa [Cond.before, Cond.holds, hv] using hle
  have hN : xs.length ≤ 3072 := (Int32.ofNat_le_ofNat hsm (by decide)).mp (show Int32.ofNat xs.length ≤ Int32.ofNat 3072 from hd)
  exact ⟨b, xs, Cond.one_arg hc (show args[0]? = some (.ref b) from hb), hx, hN, h⟩
theorem lw_comes (l : Launch) (hflags : l.flags = flags0) : Comes l x (Jvm.Cond.code x code maxLocals ret :: tables_1) room_1 (fun tb e args s => Calls_1 tb e args s ∧ rest_1 tb e args s ∧ Pre_1 tb e args s)
    (fun _ _ args s o t => lw_Q args s o t) := by
  intro p e ha hc hk s m args below hf hfit hheap happ hpre
  obtain ⟨b, xs, hP⟩ := lw_pre_spec hpre.2.2 hpre.2.1
  obtain ⟨k, o, h1, h2, h3, hQ⟩ := lw_walk l hflags b xs p e ha hc hk s m args below hf ((Spec.applies_iff_loose hf).mp happ).1 hP trivial
  exact ⟨k, o, h1, h2, h3, hQ⟩
theorem lw_frame {s t : State} {o : Outcome} {args : Array Value} (h : Framed s o t [] 600000 7302250) :
    Framed s o t (fieldLocs frame_1_writes args s ++ arrayLocs frame_1_arrays args s ++ staticLocs frame_1_statics s) 600000 7302250 := h
theorem lw_limb (L : Cond) (hL : ∀ (args : Array Value) (s t : State), L.after args s (.returned (some (.int 1))) t = true) :
    ArmFor flags0 classFile x code maxLocals ret World_1 tables_1 room_1 Calls_1 rest_1 Pre_1
      (fun tb e a s o t => postC L tb e a s o t ∧ Framed s o t (fieldLocs frame_1_writes a s ++ arrayLocs frame_1_arrays a s ++ staticLocs frame_1_statics s) 600000 7302250) := by
  intro l hflags _ _ p e ha hc hk s m args below hf hfit hheap happ hpre
  obtain ⟨k, o, h1, h2, h3, rfl, hF⟩ := lw_comes l hflags p e ha hc hk s m args below hf hfit hheap happ hpre
  exact ⟨k, _, h1, h2, h3, hL args s _, lw_frame hF⟩
theorem i_vc : Claimed_1_1 ∧ Claimed_1_2 := ⟨lw_limb limb_1_1 (fun args s t => by simp [limb_1_1, Cond.after, Cond.holds, Cond.value]), lw_limb limb_1_2 (fun args s t => Cond.after_iff.mpr (by
  first | (rw [show limb_1_2 = Cond.eq .result (.int 1) from rfl, Cond.eq_ints (x := 1) (y := 1) rfl rfl]; simp; done) | (simp [limb_1_2, Cond.value, Term.eval]; done)))⟩

