/-! EACH STEP OF THE PICTURE IS A STEP OF THE MACHINE -/
theorem nx_inv {pc : Nat} {k : List Nat} {ls st : List Value} {h : HP} {c' : Cfg} (e : nx pc k ls st h = some (.inl c')) : c' = (pc, kil k ls, st, h) := by
  unfold nx at e
  exact (Sum.inl.inj (Option.some.inj e)).symm
theorem none_inv {c' : Cfg} {A : Prop} (e : (none : StpR) = some (.inl c')) : A := by cases e
section STEP
variable {p : Program} {l : Launch} {e : Jvm.Env} {R : Room} {s : State} {m : MethodId} {args : Array Value} {below : List Frame} {meth : Method} {c : Code} {Q : State → Prop} {B0 : Nat} {ta : Nat → Nat} {cA : Nat → ClassId} {D : va_G} {X : XX} {y : Nat} {h0 : HP} {pc n : Nat} {k k2 : List Nat} {ls st : List Value} {h : HP} {c' : Cfg} {raw : Instr}
theorem st_iadd (C : Ctx p s m args meth c B0 ta cA D X y) (hd : decode (pby y) pc = .ok (raw, n))  (hk : c1 .iadd raw n = true) (hs : s_ii (fun x y => x + y) (pc + n) k ls st h = some (.inl c')) (K : Sim p l e R s m args below meth c Q B0 ta cA D y h0 c') : Sim p l e R s m args below meth c Q B0 ta cA D y h0 (pc, ls, st, h) := by
  obtain ⟨⟨hx, hb, hml, hr⟩, ⟨hown, hts, hlk, hnm⟩, hE, hB⟩ := C
  unfold c1 at hk
  simp only [Bool.and_eq_true, decide_eq_true_eq] at hk
  obtain ⟨rfl, rfl⟩ := hk
  unfold s_ii at hs
  split at hs
  · obtain rfl := nx_inv hs
    intro H locs lsA cells slots hP hS hL hc
    exact lv_iadd hx hb hd (K H locs lsA cells slots hP hS (hL.kil k) hc)
  · cases hs
theorem st_isub (C : Ctx p s m args meth c B0 ta cA D X y) (hd : decode (pby y) pc = .ok (raw, n))  (hk : c1 .isub raw n = true) (hs : s_ii (fun x y => x - y) (pc + n) k ls st h = some (.inl c')) (K : Sim p l e R s m args below meth c Q B0 ta cA D y h0 c') : Sim p l e R s m args below meth c Q B0 ta cA D y h0 (pc, ls, st, h) := by
  obtain ⟨⟨hx, hb, hml, hr⟩, ⟨hown, hts, hlk, hnm⟩, hE, hB⟩ := C
  unfold c1 at hk
  simp only [Bool.and_eq_true, decide_eq_true_eq] at hk
  obtain ⟨rfl, rfl⟩ := hk
  unfold s_ii at hs
  split at hs
  · obtain rfl := nx_inv hs
    intro H locs lsA cells slots hP hS hL hc
    exact lv_isub hx hb hd (K H locs lsA cells slots hP hS (hL.kil k) hc)
  · cases hs
theorem st_imul (C : Ctx p s m args meth c B0 ta cA D X y) (hd : decode (pby y) pc = .ok (raw, n))  (hk : c1 .imul raw n = true) (hs : s_ii (fun x y => x * y) (pc + n) k ls st h = some (.inl c')) (K : Sim p l e R s m args below meth c Q B0 ta cA D y h0 c') : Sim p l e R s m args below meth c Q B0 ta cA D y h0 (pc, ls, st, h) := by
  obtain ⟨⟨hx, hb, hml, hr⟩, ⟨hown, hts, hlk, hnm⟩, hE, hB⟩ := C
  unfold c1 at hk
  simp only [Bool.and_eq_true, decide_eq_true_eq] at hk
  obtain ⟨rfl, rfl⟩ := hk
  unfold s_ii at hs
  split at hs
  · obtain rfl := nx_inv hs
    intro H locs lsA cells slots hP hS hL hc
    exact lv_imul hx hb hd (K H locs lsA cells slots hP hS (hL.kil k) hc)
  · cases hs
theorem st_iand (C : Ctx p s m args meth c B0 ta cA D X y) (hd : decode (pby y) pc = .ok (raw, n))  (hk : c1 .iand raw n = true) (hs : s_ii (fun x y => x &&& y) (pc + n) k ls st h = some (.inl c')) (K : Sim p l e R s m args below meth c Q B0 ta cA D y h0 c') : Sim p l e R s m args below meth c Q B0 ta cA D y h0 (pc, ls, st, h) := by
  obtain ⟨⟨hx, hb, hml, hr⟩, ⟨hown, hts, hlk, hnm⟩, hE, hB⟩ := C
  unfold c1 at hk
  simp only [Bool.and_eq_true, decide_eq_true_eq] at hk
  obtain ⟨rfl, rfl⟩ := hk
  unfold s_ii at hs
  split at hs
  · obtain rfl := nx_inv hs
    intro H locs lsA cells slots hP hS hL hc
    exact lv_iand hx hb hd (K H locs lsA cells slots hP hS (hL.kil k) hc)
  · cases hs
theorem st_ior (C : Ctx p s m args meth c B0 ta cA D X y) (hd : decode (pby y) pc = .ok (raw, n))  (hk : c1 .ior raw n = true) (hs : s_ii (fun x y => x ||| y) (pc + n) k ls st h = some (.inl c')) (K : Sim p l e R s m args below meth c Q B0 ta cA D y h0 c') : Sim p l e R s m args below meth c Q B0 ta cA D y h0 (pc, ls, st, h) := by
  obtain ⟨⟨hx, hb, hml, hr⟩, ⟨hown, hts, hlk, hnm⟩, hE, hB⟩ := C
  unfold c1 at hk
  simp only [Bool.and_eq_true, decide_eq_true_eq] at hk
  obtain ⟨rfl, rfl⟩ := hk
  unfold s_ii at hs
  split at hs
  · obtain rfl := nx_inv hs
    intro H locs lsA cells slots hP hS hL hc
    exact lv_ior hx hb hd (K H locs lsA cells slots hP hS (hL.kil k) hc)
  · cases hs
theorem st_ixor (C : Ctx p s m args meth c B0 ta cA D X y) (hd : decode (pby y) pc = .ok (raw, n))  (hk : c1 .ixor raw n = true) (hs : s_ii (fun x y => x ^^^ y) (pc + n) k ls st h = some (.inl c')) (K : Sim p l e R s m args below meth c Q B0 ta cA D y h0 c') : Sim p l e R s m args below meth c Q B0 ta cA D y h0 (pc, ls, st, h) := by
  obtain ⟨⟨hx, hb, hml, hr⟩, ⟨hown, hts, hlk, hnm⟩, hE, hB⟩ := C
  unfold c1 at hk
  simp only [Bool.and_eq_true, decide_eq_true_eq] at hk
  obtain ⟨rfl, rfl⟩ := hk
  unfold s_ii at hs
  split at hs
  · obtain rfl := nx_inv hs
    intro H locs lsA cells slots hP hS hL hc
    exact lv_ixor hx hb hd (K H locs lsA cells slots hP hS (hL.kil k) hc)
  · cases hs
theorem st_ishl (C : Ctx p s m args meth c B0 ta cA D X y) (hd : decode (pby y) pc = .ok (raw, n))  (hk : c1 .ishl raw n = true) (hs : s_ii (fun x y => x <<< (y &&& 31)) (pc + n) k ls st h = some (.inl c')) (K : Sim p l e R s m args below meth c Q B0 ta cA D y h0 c') : Sim p l e R s m args below meth c Q B0 ta cA D y h0 (pc, ls, st, h) := by
  obtain ⟨⟨hx, hb, hml, hr⟩, ⟨hown, hts, hlk, hnm⟩, hE, hB⟩ := C
  unfold c1 at hk
  simp only [Bool.and_eq_true, decide_eq_true_eq] at hk
  obtain ⟨rfl, rfl⟩ := hk
  unfold s_ii at hs
  split at hs
  · obtain rfl := nx_inv hs
    intro H locs lsA cells slots hP hS hL hc
    exact lv_ishl hx hb hd (K H locs lsA cells slots hP hS (hL.kil k) hc)
  · cases hs
theorem st_ishr (C : Ctx p s m args meth c B0 ta cA D X y) (hd : decode (pby y) pc = .ok (raw, n))  (hk : c1 .ishr raw n = true) (hs : s_ii (fun x y => x >>> (y &&& 31)) (pc + n) k ls st h = some (.inl c')) (K : Sim p l e R s m args below meth c Q B0 ta cA D y h0 c') : Sim p l e R s m args below meth c Q B0 ta cA D y h0 (pc, ls, st, h) := by
  obtain ⟨⟨hx, hb, hml, hr⟩, ⟨hown, hts, hlk, hnm⟩, hE, hB⟩ := C
  unfold c1 at hk
  simp only [Bool.and_eq_true, decide_eq_true_eq] at hk
  obtain ⟨rfl, rfl⟩ := hk
  unfold s_ii at hs
  split at hs
  · obtain rfl := nx_inv hs
    intro H locs lsA cells slots hP hS hL hc
    exact lv_ishr hx hb hd (K H locs lsA cells slots hP hS (hL.kil k) hc)
  · cases hs
theorem st_iushr (C : Ctx p s m args meth c B0 ta cA D X y) (hd : decode (pby y) pc = .ok (raw, n))  (hk : c1 .iushr raw n = true) (hs : s_ii (fun x y => (x.toUInt32 >>> (y.toUInt32 &&& Int32.toUInt32 31)).toInt32) (pc + n) k ls st h = some (.inl c')) (K : Sim p l e R s m args below meth c Q B0 ta cA D y h0 c') : Sim p l e R s m args below meth c Q B0 ta cA D y h0 (pc, ls, st, h) := by
  obtain ⟨⟨hx, hb, hml, hr⟩, ⟨hown, hts, hlk, hnm⟩, hE, hB⟩ := C
  unfold c1 at hk
  simp only [Bool.and_eq_true, decide_eq_true_eq] at hk
  obtain ⟨rfl, rfl⟩ := hk
  unfold s_ii at hs
  split at hs
  · obtain rfl := nx_inv hs
    intro H locs lsA cells slots hP hS hL hc
    exact lv_iushr hx hb hd rfl (K H locs lsA cells slots hP hS (hL.kil k) hc)
  · cases hs
theorem st_ladd (C : Ctx p s m args meth c B0 ta cA D X y) (hd : decode (pby y) pc = .ok (raw, n))  (hk : c1 .ladd raw n = true) (hs : s_jj (fun x y => x + y) (pc + n) k ls st h = some (.inl c')) (K : Sim p l e R s m args below meth c Q B0 ta cA D y h0 c') : Sim p l e R s m args below meth c Q B0 ta cA D y h0 (pc, ls, st, h) := by
  obtain ⟨⟨hx, hb, hml, hr⟩, ⟨hown, hts, hlk, hnm⟩, hE, hB⟩ := C
  unfold c1 at hk
  simp only [Bool.and_eq_true, decide_eq_true_eq] at hk
  obtain ⟨rfl, rfl⟩ := hk
  unfold s_jj at hs
  split at hs
  · obtain rfl := nx_inv hs
    intro H locs lsA cells slots hP hS hL hc
    exact lv_ladd hx hb hd (K H locs lsA cells slots hP hS (hL.kil k) hc)
  · cases hs
theorem st_lsub (C : Ctx p s m args meth c B0 ta cA D X y) (hd : decode (pby y) pc = .ok (raw, n))  (hk : c1 .lsub raw n = true) (hs : s_jj (fun x y => x - y) (pc + n) k ls st h = some (.inl c')) (K : Sim p l e R s m args below meth c Q B0 ta cA D y h0 c') : Sim p l e R s m args below meth c Q B0 ta cA D y h0 (pc, ls, st, h) := by
  obtain ⟨⟨hx, hb, hml, hr⟩, ⟨hown, hts, hlk, hnm⟩, hE, hB⟩ := C
  unfold c1 at hk
  simp only [Bool.and_eq_true, decide_eq_true_eq] at hk
  obtain ⟨rfl, rfl⟩ := hk
  unfold s_jj at hs
  split at hs
  · obtain rfl := nx_inv hs
    intro H locs lsA cells slots hP hS hL hc
    exact lv_lsub hx hb hd (K H locs lsA cells slots hP hS (hL.kil k) hc)
  · cases hs
theorem st_lmul (C : Ctx p s m args meth c B0 ta cA D X y) (hd : decode (pby y) pc = .ok (raw, n))  (hk : c1 .lmul raw n = true) (hs : s_jj (fun x y => x * y) (pc + n) k ls st h = some (.inl c')) (K : Sim p l e R s m args below meth c Q B0 ta cA D y h0 c') : Sim p l e R s m args below meth c Q B0 ta cA D y h0 (pc, ls, st, h) := by
  obtain ⟨⟨hx, hb, hml, hr⟩, ⟨hown, hts, hlk, hnm⟩, hE, hB⟩ := C
  unfold c1 at hk
  simp only [Bool.and_eq_true, decide_eq_true_eq] at hk
  obtain ⟨rfl, rfl⟩ := hk
  unfold s_jj at hs
  split at hs
  · obtain rfl := nx_inv hs
    intro H locs lsA cells slots hP hS hL hc
    exact lv_lmul hx hb hd (K H locs lsA cells slots hP hS (hL.kil k) hc)
  · cases hs
theorem st_land (C : Ctx p s m args meth c B0 ta cA D X y) (hd : decode (pby y) pc = .ok (raw, n))  (hk : c1 .land raw n = true) (hs : s_jj (fun x y => x &&& y) (pc + n) k ls st h = some (.inl c')) (K : Sim p l e R s m args below meth c Q B0 ta cA D y h0 c') : Sim p l e R s m args below meth c Q B0 ta cA D y h0 (pc, ls, st, h) := by
  obtain ⟨⟨hx, hb, hml, hr⟩, ⟨hown, hts, hlk, hnm⟩, hE, hB⟩ := C
  unfold c1 at hk
  simp only [Bool.and_eq_true, decide_eq_true_eq] at hk
  obtain ⟨rfl, rfl⟩ := hk
  unfold s_jj at hs
  split at hs
  · obtain rfl := nx_inv hs
    intro H locs lsA cells slots hP hS hL hc
    exact lv_land hx hb hd (K H locs lsA cells slots hP hS (hL.kil k) hc)
  · cases hs
theorem st_lor (C : Ctx p s m args meth c B0 ta cA D X y) (hd : decode (pby y) pc = .ok (raw, n))  (hk : c1 .lor raw n = true) (hs : s_jj (fun x y => x ||| y) (pc + n) k ls st h = some (.inl c')) (K : Sim p l e R s m args below meth c Q B0 ta cA D y h0 c') : Sim p l e R s m args below meth c Q B0 ta cA D y h0 (pc, ls, st, h) := by
  obtain ⟨⟨hx, hb, hml, hr⟩, ⟨hown, hts, hlk, hnm⟩, hE, hB⟩ := C
  unfold c1 at hk
  simp only [Bool.and_eq_true, decide_eq_true_eq] at hk
  obtain ⟨rfl, rfl⟩ := hk
  unfold s_jj at hs
  split at hs
  · obtain rfl := nx_inv hs
    intro H locs lsA cells slots hP hS hL hc
    exact lv_lor hx hb hd (K H locs lsA cells slots hP hS (hL.kil k) hc)
  · cases hs
theorem st_lshl (C : Ctx p s m args meth c B0 ta cA D X y) (hd : decode (pby y) pc = .ok (raw, n))  (hk : c1 .lshl raw n = true) (hs : s_ji (fun x y => x <<< (y.toInt64 &&& 63)) (pc + n) k ls st h = some (.inl c')) (K : Sim p l e R s m args below meth c Q B0 ta cA D y h0 c') : Sim p l e R s m args below meth c Q B0 ta cA D y h0 (pc, ls, st, h) := by
  obtain ⟨⟨hx, hb, hml, hr⟩, ⟨hown, hts, hlk, hnm⟩, hE, hB⟩ := C
  unfold c1 at hk
  simp only [Bool.and_eq_true, decide_eq_true_eq] at hk
  obtain ⟨rfl, rfl⟩ := hk
  unfold s_ji at hs
  split at hs
  · obtain rfl := nx_inv hs
    intro H locs lsA cells slots hP hS hL hc
    exact lv_lshl hx hb hd rfl (K H locs lsA cells slots hP hS (hL.kil k) hc)
  · cases hs
theorem st_idiv (C : Ctx p s m args meth c B0 ta cA D X y) (hd : decode (pby y) pc = .ok (raw, n))  (hk : c1 .idiv raw n = true) (hs : (match st with | .int y :: .int x :: r => if y = 0 then none else nx (pc + n) k ls (.int (x / y) :: r) h | _ => none : StpR) = some (.inl c')) (K : Sim p l e R s m args below meth c Q B0 ta cA D y h0 c') : Sim p l e R s m args below meth c Q B0 ta cA D y h0 (pc, ls, st, h) := by
  obtain ⟨⟨hx, hb, hml, hr⟩, ⟨hown, hts, hlk, hnm⟩, hE, hB⟩ := C
  unfold c1 at hk
  simp only [Bool.and_eq_true, decide_eq_true_eq] at hk
  obtain ⟨rfl, rfl⟩ := hk
  split at hs
  · split at hs
    · cases hs
    · rename_i hne
      obtain rfl := nx_inv hs
      intro H locs lsA cells slots hP hS hL hc
      exact lv_idiv hx hb hd hne (K H locs lsA cells slots hP hS (hL.kil k) hc)
  · cases hs
theorem st_irem (C : Ctx p s m args meth c B0 ta cA D X y) (hd : decode (pby y) pc = .ok (raw, n))  (hk : c1 .irem raw n = true) (hs : (match st with | .int y :: .int x :: r => if y = 0 then none else nx (pc + n) k ls (.int (x - x / y * y) :: r) h | _ => none : StpR) = some (.inl c')) (K : Sim p l e R s m args below meth c Q B0 ta cA D y h0 c') : Sim p l e R s m args below meth c Q B0 ta cA D y h0 (pc, ls, st, h) := by
  obtain ⟨⟨hx, hb, hml, hr⟩, ⟨hown, hts, hlk, hnm⟩, hE, hB⟩ := C
  unfold c1 at hk
  simp only [Bool.and_eq_true, decide_eq_true_eq] at hk
  obtain ⟨rfl, rfl⟩ := hk
  split at hs
  · split at hs
    · cases hs
    · rename_i hne
      obtain rfl := nx_inv hs
      intro H locs lsA cells slots hP hS hL hc
      exact lv_irem hx hb hd hne (K H locs lsA cells slots hP hS (hL.kil k) hc)
  · cases hs
theorem st_ldiv (C : Ctx p s m args meth c B0 ta cA D X y) (hd : decode (pby y) pc = .ok (raw, n))  (hk : c1 .ldiv raw n = true) (hs : (match st with | .long y :: .long x :: r => if y = 0 then none else nx (pc + n) k ls (.long (x / y) :: r) h | _ => none : StpR) = some (.inl c')) (K : Sim p l e R s m args below meth c Q B0 ta cA D y h0 c') : Sim p l e R s m args below meth c Q B0 ta cA D y h0 (pc, ls, st, h) := by
  obtain ⟨⟨hx, hb, hml, hr⟩, ⟨hown, hts, hlk, hnm⟩, hE, hB⟩ := C
  unfold c1 at hk
  simp only [Bool.and_eq_true, decide_eq_true_eq] at hk
  obtain ⟨rfl, rfl⟩ := hk
  split at hs
  · split at hs
    · cases hs
    · rename_i hne
      obtain rfl := nx_inv hs
      intro H locs lsA cells slots hP hS hL hc
      exact lv_ldiv hx hb hd hne (K H locs lsA cells slots hP hS (hL.kil k) hc)
  · cases hs
theorem st_ineg (C : Ctx p s m args meth c B0 ta cA D X y) (hd : decode (pby y) pc = .ok (raw, n))  (hk : c1 .ineg raw n = true) (hs : (match st with | .int x :: r => nx (pc + n) k ls (.int (-x) :: r) h | _ => none : StpR) = some (.inl c')) (K : Sim p l e R s m args below meth c Q B0 ta cA D y h0 c') : Sim p l e R s m args below meth c Q B0 ta cA D y h0 (pc, ls, st, h) := by
  obtain ⟨⟨hx, hb, hml, hr⟩, ⟨hown, hts, hlk, hnm⟩, hE, hB⟩ := C
  unfold c1 at hk
  simp only [Bool.and_eq_true, decide_eq_true_eq] at hk
  obtain ⟨rfl, rfl⟩ := hk
  split at hs
  · obtain rfl := nx_inv hs
    intro H locs lsA cells slots hP hS hL hc
    exact lv_ineg hx hb hd (K H locs lsA cells slots hP hS (hL.kil k) hc)
  · cases hs
theorem st_lneg (C : Ctx p s m args meth c B0 ta cA D X y) (hd : decode (pby y) pc = .ok (raw, n))  (hk : c1 .lneg raw n = true) (hs : (match st with | .long x :: r => nx (pc + n) k ls (.long (-x) :: r) h | _ => none : StpR) = some (.inl c')) (K : Sim p l e R s m args below meth c Q B0 ta cA D y h0 c') : Sim p l e R s m args below meth c Q B0 ta cA D y h0 (pc, ls, st, h) := by
  obtain ⟨⟨hx, hb, hml, hr⟩, ⟨hown, hts, hlk, hnm⟩, hE, hB⟩ := C
  unfold c1 at hk
  simp only [Bool.and_eq_true, decide_eq_true_eq] at hk
  obtain ⟨rfl, rfl⟩ := hk
  split at hs
  · obtain rfl := nx_inv hs
    intro H locs lsA cells slots hP hS hL hc
    exact lv_lneg hx hb hd (K H locs lsA cells slots hP hS (hL.kil k) hc)
  · cases hs
theorem st_lcmp (C : Ctx p s m args meth c B0 ta cA D X y) (hd : decode (pby y) pc = .ok (raw, n))  (hk : c1 .lcmp raw n = true) (hs : (match st with | .long y :: .long x :: r => nx (pc + n) k ls (.int (lg_cmp x y) :: r) h | _ => none : StpR) = some (.inl c')) (K : Sim p l e R s m args below meth c Q B0 ta cA D y h0 c') : Sim p l e R s m args below meth c Q B0 ta cA D y h0 (pc, ls, st, h) := by
  obtain ⟨⟨hx, hb, hml, hr⟩, ⟨hown, hts, hlk, hnm⟩, hE, hB⟩ := C
  unfold c1 at hk
  simp only [Bool.and_eq_true, decide_eq_true_eq] at hk
  obtain ⟨rfl, rfl⟩ := hk
  split at hs
  · obtain rfl := nx_inv hs
    intro H locs lsA cells slots hP hS hL hc
    exact W.lcmp hx hb hd (K H locs lsA cells slots hP hS (hL.kil k) hc)
  · cases hs
theorem st_i2l (C : Ctx p s m args meth c B0 ta cA D X y) (hd : decode (pby y) pc = .ok (raw, n))  (hk : c1 .i2l raw n = true) (hs : (match st with | .int x :: r => nx (pc + n) k ls (.long x.toInt64 :: r) h | _ => none : StpR) = some (.inl c')) (K : Sim p l e R s m args below meth c Q B0 ta cA D y h0 c') : Sim p l e R s m args below meth c Q B0 ta cA D y h0 (pc, ls, st, h) := by
  obtain ⟨⟨hx, hb, hml, hr⟩, ⟨hown, hts, hlk, hnm⟩, hE, hB⟩ := C
  unfold c1 at hk
  simp only [Bool.and_eq_true, decide_eq_true_eq] at hk
  obtain ⟨rfl, rfl⟩ := hk
  split at hs
  · obtain rfl := nx_inv hs
    intro H locs lsA cells slots hP hS hL hc
    exact lv_i2l hx hb hd rfl (K H locs lsA cells slots hP hS (hL.kil k) hc)
  · cases hs
theorem st_l2i (C : Ctx p s m args meth c B0 ta cA D X y) (hd : decode (pby y) pc = .ok (raw, n))  (hk : c1 .l2i raw n = true) (hs : (match st with | .long x :: r => nx (pc + n) k ls (.int x.toInt32 :: r) h | _ => none : StpR) = some (.inl c')) (K : Sim p l e R s m args below meth c Q B0 ta cA D y h0 c') : Sim p l e R s m args below meth c Q B0 ta cA D y h0 (pc, ls, st, h) := by
  obtain ⟨⟨hx, hb, hml, hr⟩, ⟨hown, hts, hlk, hnm⟩, hE, hB⟩ := C
  unfold c1 at hk
  simp only [Bool.and_eq_true, decide_eq_true_eq] at hk
  obtain ⟨rfl, rfl⟩ := hk
  split at hs
  · obtain rfl := nx_inv hs
    intro H locs lsA cells slots hP hS hL hc
    exact lv_l2i hx hb hd rfl (K H locs lsA cells slots hP hS (hL.kil k) hc)
  · cases hs
theorem st_i2b (C : Ctx p s m args meth c B0 ta cA D X y) (hd : decode (pby y) pc = .ok (raw, n))  (hk : c1 .i2b raw n = true) (hs : (match st with | .int x :: r => nx (pc + n) k ls (.int x.toInt8.toInt32 :: r) h | _ => none : StpR) = some (.inl c')) (K : Sim p l e R s m args below meth c Q B0 ta cA D y h0 c') : Sim p l e R s m args below meth c Q B0 ta cA D y h0 (pc, ls, st, h) := by
  obtain ⟨⟨hx, hb, hml, hr⟩, ⟨hown, hts, hlk, hnm⟩, hE, hB⟩ := C
  unfold c1 at hk
  simp only [Bool.and_eq_true, decide_eq_true_eq] at hk
  obtain ⟨rfl, rfl⟩ := hk
  split at hs
  · obtain rfl := nx_inv hs
    intro H locs lsA cells slots hP hS hL hc
    exact lv_i2b hx hb hd rfl (K H locs lsA cells slots hP hS (hL.kil k) hc)
  · cases hs
theorem st_i2s (C : Ctx p s m args meth c B0 ta cA D X y) (hd : decode (pby y) pc = .ok (raw, n))  (hk : c1 .i2s raw n = true) (hs : (match st with | .int x :: r => nx (pc + n) k ls (.int x.toInt16.toInt32 :: r) h | _ => none : StpR) = some (.inl c')) (K : Sim p l e R s m args below meth c Q B0 ta cA D y h0 c') : Sim p l e R s m args below meth c Q B0 ta cA D y h0 (pc, ls, st, h) := by
  obtain ⟨⟨hx, hb, hml, hr⟩, ⟨hown, hts, hlk, hnm⟩, hE, hB⟩ := C
  unfold c1 at hk
  simp only [Bool.and_eq_true, decide_eq_true_eq] at hk
  obtain ⟨rfl, rfl⟩ := hk
  split at hs
  · obtain rfl := nx_inv hs
    intro H locs lsA cells slots hP hS hL hc
    exact lv_i2s hx hb hd rfl (K H locs lsA cells slots hP hS (hL.kil k) hc)
  · cases hs
theorem st_dup (C : Ctx p s m args meth c B0 ta cA D X y) (hd : decode (pby y) pc = .ok (raw, n))  (hk : c1 .dup raw n = true) (hs : (match st with | v :: r => if v.category = 1 then nx (pc + n) k ls (v :: v :: r) h else none | _ => none : StpR) = some (.inl c')) (K : Sim p l e R s m args below meth c Q B0 ta cA D y h0 c') : Sim p l e R s m args below meth c Q B0 ta cA D y h0 (pc, ls, st, h) := by
  obtain ⟨⟨hx, hb, hml, hr⟩, ⟨hown, hts, hlk, hnm⟩, hE, hB⟩ := C
  unfold c1 at hk
  simp only [Bool.and_eq_true, decide_eq_true_eq] at hk
  obtain ⟨rfl, rfl⟩ := hk
  split at hs
  · split at hs
    · rename_i hcat
      obtain rfl := nx_inv hs
      intro H locs lsA cells slots hP hS hL hc
      exact lv_dup hx hb hd (by rw [cv_cat]; exact hcat) (K H locs lsA cells slots hP hS (hL.kil k) hc)
    · cases hs
  · cases hs
theorem st_pop (C : Ctx p s m args meth c B0 ta cA D X y) (hd : decode (pby y) pc = .ok (raw, n))  (hk : c1 .pop raw n = true) (hs : (match st with | v :: r => if v.category = 1 then nx (pc + n) k ls (r) h else none | _ => none : StpR) = some (.inl c')) (K : Sim p l e R s m args below meth c Q B0 ta cA D y h0 c') : Sim p l e R s m args below meth c Q B0 ta cA D y h0 (pc, ls, st, h) := by
  obtain ⟨⟨hx, hb, hml, hr⟩, ⟨hown, hts, hlk, hnm⟩, hE, hB⟩ := C
  unfold c1 at hk
  simp only [Bool.and_eq_true, decide_eq_true_eq] at hk
  obtain ⟨rfl, rfl⟩ := hk
  split at hs
  · split at hs
    · rename_i hcat
      obtain rfl := nx_inv hs
      intro H locs lsA cells slots hP hS hL hc
      exact lv_pop hx hb hd (by rw [cv_cat]; exact hcat) (K H locs lsA cells slots hP hS (hL.kil k) hc)
    · cases hs
  · cases hs
theorem st_dup_x1 (C : Ctx p s m args meth c B0 ta cA D X y) (hd : decode (pby y) pc = .ok (raw, n))  (hk : c1 .dup_x1 raw n = true) (hs : (match st with | v :: w :: r => if v.category = 1 ∧ w.category = 1 then nx (pc + n) k ls (v :: w :: v :: r) h else none | _ => none : StpR) = some (.inl c')) (K : Sim p l e R s m args below meth c Q B0 ta cA D y h0 c') : Sim p l e R s m args below meth c Q B0 ta cA D y h0 (pc, ls, st, h) := by
  obtain ⟨⟨hx, hb, hml, hr⟩, ⟨hown, hts, hlk, hnm⟩, hE, hB⟩ := C
  unfold c1 at hk
  simp only [Bool.and_eq_true, decide_eq_true_eq] at hk
  obtain ⟨rfl, rfl⟩ := hk
  split at hs
  · split at hs
    · rename_i hcat
      obtain rfl := nx_inv hs
      intro H locs lsA cells slots hP hS hL hc
      exact lv_dup_x1 hx hb hd (by rw [cv_cat]; exact hcat.1) (by rw [cv_cat]; exact hcat.2) (K H locs lsA cells slots hP hS (hL.kil k) hc)
    · cases hs
  · cases hs
theorem st_dup2 (C : Ctx p s m args meth c B0 ta cA D X y) (hd : decode (pby y) pc = .ok (raw, n))  (hk : c1 .dup2 raw n = true) (hs : (match st with | v :: w :: r => if v.category = 1 ∧ w.category = 1 then nx (pc + n) k ls (v :: w :: v :: w :: r) h else none | _ => none : StpR) = some (.inl c')) (K : Sim p l e R s m args below meth c Q B0 ta cA D y h0 c') : Sim p l e R s m args below meth c Q B0 ta cA D y h0 (pc, ls, st, h) := by
  obtain ⟨⟨hx, hb, hml, hr⟩, ⟨hown, hts, hlk, hnm⟩, hE, hB⟩ := C
  unfold c1 at hk
  simp only [Bool.and_eq_true, decide_eq_true_eq] at hk
  obtain ⟨rfl, rfl⟩ := hk
  split at hs
  · split at hs
    · rename_i hcat
      obtain rfl := nx_inv hs
      intro H locs lsA cells slots hP hS hL hc
      exact lv_dup2_11 hx hb hd (by rw [cv_cat]; exact hcat.1) (by rw [cv_cat]; exact hcat.2) (K H locs lsA cells slots hP hS (hL.kil k) hc)
    · cases hs
  · cases hs
theorem st_iconst (C : Ctx p s m args meth c B0 ta cA D X y) (hd : decode (pby y) pc = .ok (raw, n)) {v : Int} {pl : Nat} (hk : ck_iconst y v raw n pl = true) (hs : nx (pc + n) k ls (.int (Int32.ofInt v) :: st) h = some (.inl c')) (K : Sim p l e R s m args below meth c Q B0 ta cA D y h0 c') : Sim p l e R s m args below meth c Q B0 ta cA D y h0 (pc, ls, st, h) := by
  obtain ⟨⟨hx, hb, hml, hr⟩, ⟨hown, hts, hlk, hnm⟩, hE, hB⟩ := C
  obtain rfl := nx_inv hs
  unfold ck_iconst at hk
  intro H locs lsA cells slots hP hS hL hc
  split at hk <;> try simp only [Bool.and_eq_true, decide_eq_true_eq] at hk
  · obtain ⟨h1, rfl⟩ := hk
    exact lv_iconst hx hb hd h1 (K H locs lsA cells slots hP hS (hL.kil k) hc)
  · obtain ⟨h1, rfl⟩ := hk
    exact lv_bipush hx hb hd h1 (K H locs lsA cells slots hP hS (hL.kil k) hc)
  · obtain ⟨h1, rfl⟩ := hk
    exact lv_sipush hx hb hd h1 (K H locs lsA cells slots hP hS (hL.kil k) hc)
  · obtain ⟨h1, rfl⟩ := hk
    exact lv_ldc hx hb hown (hts _ (hasW_in h1)) hd (K H locs lsA cells slots hP hS (hL.kil k) hc)
  · obtain ⟨h1, rfl⟩ := hk
    exact lv_ldcw hx hb hown (hts _ (hasW_in h1)) hd (K H locs lsA cells slots hP hS (hL.kil k) hc)
  · cases hk
theorem st_lconst (C : Ctx p s m args meth c B0 ta cA D X y) (hd : decode (pby y) pc = .ok (raw, n)) {v : Int} {pl : Nat} (hk : ck_lconst y v raw n pl = true) (hs : nx (pc + n) k ls (.long (Int64.ofInt v) :: st) h = some (.inl c')) (K : Sim p l e R s m args below meth c Q B0 ta cA D y h0 c') : Sim p l e R s m args below meth c Q B0 ta cA D y h0 (pc, ls, st, h) := by
  obtain ⟨⟨hx, hb, hml, hr⟩, ⟨hown, hts, hlk, hnm⟩, hE, hB⟩ := C
  obtain rfl := nx_inv hs
  unfold ck_lconst at hk
  intro H locs lsA cells slots hP hS hL hc
  split at hk <;> try simp only [Bool.and_eq_true, decide_eq_true_eq] at hk
  · obtain ⟨h1, rfl⟩ := hk
    exact lv_lconst hx hb hd h1 (K H locs lsA cells slots hP hS (hL.kil k) hc)
  · obtain ⟨h1, rfl⟩ := hk
    exact lv_ldc2 hx hb hown (hts _ (hasW_in h1)) hd (K H locs lsA cells slots hP hS (hL.kil k) hc)
  · cases hk
theorem st_anull (C : Ctx p s m args meth c B0 ta cA D X y) (hd : decode (pby y) pc = .ok (raw, n)) (hk : c1 .aconst_null raw n = true) (hs : nx (pc + n) k ls (.null :: st) h = some (.inl c')) (K : Sim p l e R s m args below meth c Q B0 ta cA D y h0 c') : Sim p l e R s m args below meth c Q B0 ta cA D y h0 (pc, ls, st, h) := by
  obtain ⟨⟨hx, hb, hml, hr⟩, ⟨hown, hts, hlk, hnm⟩, hE, hB⟩ := C
  unfold c1 at hk
  simp only [Bool.and_eq_true, decide_eq_true_eq] at hk
  obtain ⟨rfl, rfl⟩ := hk
  obtain rfl := nx_inv hs
  intro H locs lsA cells slots hP hS hL hc
  exact lv_null hx hb hd (K H locs lsA cells slots hP hS (hL.kil k) hc)
theorem st_iload (C : Ctx p s m args meth c B0 ta cA D X y) (hd : decode (pby y) pc = .ok (raw, n)) {i : Nat} (hk : ck_iload i raw n = true) (hs : (match ls[i]? with | some (.int x) => nx (pc + n) k ls (.int x :: st) h | _ => none : StpR) = some (.inl c')) (K : Sim p l e R s m args below meth c Q B0 ta cA D y h0 c') : Sim p l e R s m args below meth c Q B0 ta cA D y h0 (pc, ls, st, h) := by
  obtain ⟨⟨hx, hb, hml, hr⟩, ⟨hown, hts, hlk, hnm⟩, hE, hB⟩ := C
  split at hs
  · rename_i x hi
    obtain rfl := nx_inv hs
    unfold ck_iload at hk
    intro H locs lsA cells slots hP hS hL hc
    have hv := hL.2.2 i _ hi (fun q => by cases q)
    split at hk <;> try simp only [Bool.and_eq_true, decide_eq_true_eq] at hk
    · obtain ⟨rfl, rfl⟩ := hk
      exact lv_iload hx hb hd hv (K H locs lsA cells slots hP hS (hL.kil k) hc)
    · obtain ⟨h1, rfl⟩ := hk
      exact lv_iload_n hx hb hd h1 hv (K H locs lsA cells slots hP hS (hL.kil k) hc)
    · cases hk
  · cases hs
theorem st_lload (C : Ctx p s m args meth c B0 ta cA D X y) (hd : decode (pby y) pc = .ok (raw, n)) {i : Nat} (hk : ck_lload i raw n = true) (hs : (match ls[i]? with | some (.long x) => nx (pc + n) k ls (.long x :: st) h | _ => none : StpR) = some (.inl c')) (K : Sim p l e R s m args below meth c Q B0 ta cA D y h0 c') : Sim p l e R s m args below meth c Q B0 ta cA D y h0 (pc, ls, st, h) := by
  obtain ⟨⟨hx, hb, hml, hr⟩, ⟨hown, hts, hlk, hnm⟩, hE, hB⟩ := C
  split at hs
  · rename_i x hi
    obtain rfl := nx_inv hs
    unfold ck_lload at hk
    intro H locs lsA cells slots hP hS hL hc
    have hv := hL.2.2 i _ hi (fun q => by cases q)
    split at hk <;> try simp only [Bool.and_eq_true, decide_eq_true_eq] at hk
    · obtain ⟨rfl, rfl⟩ := hk
      exact lv_lload hx hb hd hv (K H locs lsA cells slots hP hS (hL.kil k) hc)
    · obtain ⟨h1, rfl⟩ := hk
      exact lv_lload_n hx hb hd h1 hv (K H locs lsA cells slots hP hS (hL.kil k) hc)
    · cases hk
  · cases hs
theorem st_aload (C : Ctx p s m args meth c B0 ta cA D X y) (hd : decode (pby y) pc = .ok (raw, n)) {i : Nat} (hk : ck_aload i raw n = true) (hs : (match ls[i]? with | some v => if isA v = true then nx (pc + n) k ls (v :: st) h else none | _ => none : StpR) = some (.inl c')) (K : Sim p l e R s m args below meth c Q B0 ta cA D y h0 c') : Sim p l e R s m args below meth c Q B0 ta cA D y h0 (pc, ls, st, h) := by
  obtain ⟨⟨hx, hb, hml, hr⟩, ⟨hown, hts, hlk, hnm⟩, hE, hB⟩ := C
  split at hs
  · rename_i v hi
    split at hs
    · rename_i hA
      obtain rfl := nx_inv hs
      unfold ck_aload at hk
      intro H locs lsA cells slots hP hS hL hc
      have hv := hL.2.2 i _ hi (fun q => by rw [q] at hA; cases hA)
      have K1 := K H locs lsA cells slots hP hS (hL.kil k) hc
      split at hk <;> try simp only [Bool.and_eq_true, decide_eq_true_eq] at hk
      · obtain ⟨rfl, rfl⟩ := hk
        cases v <;> first | (exact lv_aload hx hb hd hv K1) | (exact lv_aloadN hx hb hd hv K1) | (cases hA)
      · obtain ⟨h1, rfl⟩ := hk
        cases v <;> first | (exact lv_aload_n hx hb hd h1 hv K1) | (exact lv_aload_nN hx hb hd h1 hv K1) | (cases hA)
      · cases hk
    · cases hs
  · cases hs
theorem st_istore (C : Ctx p s m args meth c B0 ta cA D X y) (hd : decode (pby y) pc = .ok (raw, n)) {i : Nat} (hk : ck_istore i raw n = true) (hs : (match st with | .int x :: r => if okS ls i = true then nx (pc + n) k (ls.set i (.int x)) r h else none | _ => none : StpR) = some (.inl c')) (K : Sim p l e R s m args below meth c Q B0 ta cA D y h0 c') : Sim p l e R s m args below meth c Q B0 ta cA D y h0 (pc, ls, st, h) := by
  obtain ⟨⟨hx, hb, hml, hr⟩, ⟨hown, hts, hlk, hnm⟩, hE, hB⟩ := C
  split at hs
  · split at hs
    · rename_i ho
      obtain rfl := nx_inv hs
      unfold ck_istore at hk
      intro H locs lsA cells slots hP hS hL hc
      have hi : i < pml y := Nat.lt_of_lt_of_le (okS_lt ho) hL.1.2
      split at hk <;> try simp only [Bool.and_eq_true, decide_eq_true_eq] at hk
      · obtain ⟨rfl, rfl⟩ := hk
        exact lv_istore hx hb hd hL.has hi rfl (fun ls' h' => K H locs ls' cells slots hP hS ((hL.st1 ho h').kil k) hc)
      · obtain ⟨h1, rfl⟩ := hk
        exact lv_istore_n hx hb hd h1 hL.has hi rfl (fun ls' h' => K H locs ls' cells slots hP hS ((hL.st1 ho h').kil k) hc)
      · cases hk
    · cases hs
  · cases hs
theorem st_lstore (C : Ctx p s m args meth c B0 ta cA D X y) (hd : decode (pby y) pc = .ok (raw, n)) {i : Nat} (hk : ck_lstore i raw n = true) (hs : (match st with | .long x :: r => if okS ls i = true ∧ i + 1 < ls.length then nx (pc + n) k ((ls.set i (.long x)).set (i + 1) dm) r h else none | _ => none : StpR) = some (.inl c')) (K : Sim p l e R s m args below meth c Q B0 ta cA D y h0 c') : Sim p l e R s m args below meth c Q B0 ta cA D y h0 (pc, ls, st, h) := by
  obtain ⟨⟨hx, hb, hml, hr⟩, ⟨hown, hts, hlk, hnm⟩, hE, hB⟩ := C
  split at hs
  · split at hs
    · rename_i ho
      obtain rfl := nx_inv hs
      unfold ck_lstore at hk
      intro H locs lsA cells slots hP hS hL hc
      have hi : i + 1 < pml y := Nat.lt_of_lt_of_le ho.2 hL.1.2
      split at hk <;> try simp only [Bool.and_eq_true, decide_eq_true_eq] at hk
      · obtain ⟨rfl, rfl⟩ := hk
        exact lv_lstore hx hb hd hL.has hi rfl (fun ls' h' => K H locs ls' cells slots hP hS ((hL.st2 ho.1 h').kil k) hc)
      · obtain ⟨h1, rfl⟩ := hk
        exact lv_lstore_n hx hb hd h1 hL.has hi rfl (fun ls' h' => K H locs ls' cells slots hP hS ((hL.st2 ho.1 h').kil k) hc)
      · cases hk
    · cases hs
  · cases hs
theorem st_astore (C : Ctx p s m args meth c B0 ta cA D X y) (hd : decode (pby y) pc = .ok (raw, n)) {i : Nat} (hk : ck_astore i raw n = true) (hs : (match st with | v :: r => if isB v = true ∧ okS ls i = true then nx (pc + n) k (ls.set i v) r h else none | _ => none : StpR) = some (.inl c')) (K : Sim p l e R s m args below meth c Q B0 ta cA D y h0 c') : Sim p l e R s m args below meth c Q B0 ta cA D y h0 (pc, ls, st, h) := by
  obtain ⟨⟨hx, hb, hml, hr⟩, ⟨hown, hts, hlk, hnm⟩, hE, hB⟩ := C
  split at hs
  · rename_i v r
    split at hs
    · rename_i ho
      obtain rfl := nx_inv hs
      unfold ck_astore at hk
      intro H locs lsA cells slots hP hS hL hc
      have hi : i < pml y := Nat.lt_of_lt_of_le (okS_lt ho.2) hL.1.2
      have hB := ho.1
      split at hk <;> try simp only [Bool.and_eq_true, decide_eq_true_eq] at hk
      · obtain ⟨rfl, rfl⟩ := hk
        cases v <;> first | (cases hB; done) | (exact lv_astore hx hb hd hL.has hi rfl (fun ls' h' => K H locs ls' cells slots hP hS ((hL.st1 ho.2 h').kil k) hc)) | (exact lv_astoreN hx hb hd hL.has hi rfl (fun ls' h' => K H locs ls' cells slots hP hS ((hL.st1 ho.2 h').kil k) hc))
      · obtain ⟨h1, rfl⟩ := hk
        cases v <;> first | (cases hB; done) | (exact lv_astore_n hx hb hd h1 hL.has hi rfl (fun ls' h' => K H locs ls' cells slots hP hS ((hL.st1 ho.2 h').kil k) hc)) | (exact lv_astore_nN hx hb hd h1 hL.has hi rfl (fun ls' h' => K H locs ls' cells slots hP hS ((hL.st1 ho.2 h').kil k) hc))
      · cases hk
    · cases hs
  · cases hs
theorem st_iinc (C : Ctx p s m args meth c B0 ta cA D X y) (hd : decode (pby y) pc = .ok (raw, n)) {i : Nat} {w : Int} (hk : ck_iinc i w raw n = true) (hs : (match ls[i]? with | some (.int x) => if okS ls i = true then nx (pc + n) k (ls.set i (.int (x + Int32.ofInt w))) st h else none | _ => none : StpR) = some (.inl c')) (K : Sim p l e R s m args below meth c Q B0 ta cA D y h0 c') : Sim p l e R s m args below meth c Q B0 ta cA D y h0 (pc, ls, st, h) := by
  obtain ⟨⟨hx, hb, hml, hr⟩, ⟨hown, hts, hlk, hnm⟩, hE, hB⟩ := C
  split at hs
  · rename_i x hi0
    split at hs
    · rename_i ho
      obtain rfl := nx_inv hs
      unfold ck_iinc at hk
      intro H locs lsA cells slots hP hS hL hc
      have hi : i < pml y := Nat.lt_of_lt_of_le (okS_lt ho) hL.1.2
      split at hk
      · simp only [Bool.and_eq_true, decide_eq_true_eq] at hk
        obtain ⟨⟨rfl, rfl⟩, rfl⟩ := hk
        obtain ⟨q, hq⟩ := List.getElem?_of_mem ((lvof_mem (B0 := B0) (ta := ta) (ls := ls) (q := (_, .int x))).mpr ⟨.int x, hi0, (fun z => by cases z), rfl⟩)
        exact lv_iinc hx hb hd hL.has hq rfl hi rfl (fun ls' h' => K H locs ls' cells slots hP hS ((hL.st1 ho h').kil k) hc)
      · cases hk
    · cases hs
  · cases hs
theorem tg_use {pc n : Nat} {o t : Int} (h : tg pc o t n = true) : n = 3 ∧ (pc : Int) + o = (t.toNat : Int) := by
  unfold tg at h
  simp only [Bool.and_eq_true, decide_eq_true_eq] at h
  exact ⟨h.2, by rw [h.1.1, Int.toNat_of_nonneg h.1.2]⟩
theorem st_goto (C : Ctx p s m args meth c B0 ta cA D X y) (hd : decode (pby y) pc = .ok (raw, n)) {t : Int} (hk : ck_goto pc t raw n = true) (hs : nx t.toNat k2 ls st h = some (.inl c')) (K : Sim p l e R s m args below meth c Q B0 ta cA D y h0 c') : Sim p l e R s m args below meth c Q B0 ta cA D y h0 (pc, ls, st, h) := by
  obtain ⟨⟨hx, hb, hml, hr⟩, ⟨hown, hts, hlk, hnm⟩, hE, hB⟩ := C
  obtain rfl := nx_inv hs
  unfold ck_goto at hk
  intro H locs lsA cells slots hP hS hL hc
  split at hk
  · obtain ⟨rfl, ht⟩ := tg_use hk
    exact lv_goto hx hb hd ht (K H locs lsA cells slots hP hS (hL.kil k2) hc)
  · cases hk
theorem st_if_eq (C : Ctx p s m args meth c B0 ta cA D X y) (hd : decode (pby y) pc = .ok (raw, n)) {t : Int} (hk : ck_if pc .eq t raw n = true) (hs : s_if (fun x => x = 0) (fun _ => inferInstance) t.toNat (pc + n) k2 k ls st h = some (.inl c')) (K : Sim p l e R s m args below meth c Q B0 ta cA D y h0 c') : Sim p l e R s m args below meth c Q B0 ta cA D y h0 (pc, ls, st, h) := by
  obtain ⟨⟨hx, hb, hml, hr⟩, ⟨hown, hts, hlk, hnm⟩, hE, hB⟩ := C
  unfold s_if at hs
  unfold ck_if at hk
  split at hs
  · rename_i xx r
    intro H locs lsA cells slots hP hS hL hc
    split at hk
    · simp only [Bool.and_eq_true, decide_eq_true_eq] at hk
      obtain ⟨rfl, hk⟩ := hk
      obtain ⟨rfl, ht⟩ := tg_use hk
      by_cases hcond : xx = 0
      · rw [if_pos hcond] at hs
        obtain rfl := nx_inv hs
        exact lv_if_eq hx hb hd ht (fun _ => K H locs lsA cells slots hP hS (hL.kil k2) hc) (fun q => absurd hcond q)
      · rw [if_neg hcond] at hs
        obtain rfl := nx_inv hs
        exact lv_if_eq hx hb hd ht (fun q => absurd q hcond) (fun _ => K H locs lsA cells slots hP hS (hL.kil k) hc)
    · cases hk
  · cases hs
theorem st_ic_eq (C : Ctx p s m args meth c B0 ta cA D X y) (hd : decode (pby y) pc = .ok (raw, n)) {t : Int} (hk : ck_ic pc .eq t raw n = true) (hs : s_ic (fun x y => x = y) (fun _ _ => inferInstance) t.toNat (pc + n) k2 k ls st h = some (.inl c')) (K : Sim p l e R s m args below meth c Q B0 ta cA D y h0 c') : Sim p l e R s m args below meth c Q B0 ta cA D y h0 (pc, ls, st, h) := by
  obtain ⟨⟨hx, hb, hml, hr⟩, ⟨hown, hts, hlk, hnm⟩, hE, hB⟩ := C
  unfold s_ic at hs
  unfold ck_ic at hk
  split at hs
  · rename_i yy xx r
    intro H locs lsA cells slots hP hS hL hc
    split at hk
    · simp only [Bool.and_eq_true, decide_eq_true_eq] at hk
      obtain ⟨rfl, hk⟩ := hk
      obtain ⟨rfl, ht⟩ := tg_use hk
      by_cases hcond : xx = yy
      · rw [if_pos hcond] at hs
        obtain rfl := nx_inv hs
        exact lv_icmp_eq hx hb hd ht (fun _ => K H locs lsA cells slots hP hS (hL.kil k2) hc) (fun q => absurd hcond q)
      · rw [if_neg hcond] at hs
        obtain rfl := nx_inv hs
        exact lv_icmp_eq hx hb hd ht (fun q => absurd q hcond) (fun _ => K H locs lsA cells slots hP hS (hL.kil k) hc)
    · cases hk
  · cases hs
theorem st_if_ne (C : Ctx p s m args meth c B0 ta cA D X y) (hd : decode (pby y) pc = .ok (raw, n)) {t : Int} (hk : ck_if pc .ne t raw n = true) (hs : s_if (fun x => ¬ x = 0) (fun _ => inferInstance) t.toNat (pc + n) k2 k ls st h = some (.inl c')) (K : Sim p l e R s m args below meth c Q B0 ta cA D y h0 c') : Sim p l e R s m args below meth c Q B0 ta cA D y h0 (pc, ls, st, h) := by
  obtain ⟨⟨hx, hb, hml, hr⟩, ⟨hown, hts, hlk, hnm⟩, hE, hB⟩ := C
  unfold s_if at hs
  unfold ck_if at hk
  split at hs
  · rename_i xx r
    intro H locs lsA cells slots hP hS hL hc
    split at hk
    · simp only [Bool.and_eq_true, decide_eq_true_eq] at hk
      obtain ⟨rfl, hk⟩ := hk
      obtain ⟨rfl, ht⟩ := tg_use hk
      by_cases hcond : xx = 0
      · rw [if_neg (not_not_intro hcond)] at hs
        obtain rfl := nx_inv hs
        exact lv_if_ne hx hb hd ht (fun q => absurd hcond q) (fun _ => K H locs lsA cells slots hP hS (hL.kil k) hc)
      · rw [if_pos hcond] at hs
        obtain rfl := nx_inv hs
        exact lv_if_ne hx hb hd ht (fun _ => K H locs lsA cells slots hP hS (hL.kil k2) hc) (fun q => absurd q hcond)
    · cases hk
  · cases hs
theorem st_ic_ne (C : Ctx p s m args meth c B0 ta cA D X y) (hd : decode (pby y) pc = .ok (raw, n)) {t : Int} (hk : ck_ic pc .ne t raw n = true) (hs : s_ic (fun x y => ¬ x = y) (fun _ _ => inferInstance) t.toNat (pc + n) k2 k ls st h = some (.inl c')) (K : Sim p l e R s m args below meth c Q B0 ta cA D y h0 c') : Sim p l e R s m args below meth c Q B0 ta cA D y h0 (pc, ls, st, h) := by
  obtain ⟨⟨hx, hb, hml, hr⟩, ⟨hown, hts, hlk, hnm⟩, hE, hB⟩ := C
  unfold s_ic at hs
  unfold ck_ic at hk
  split at hs
  · rename_i yy xx r
    intro H locs lsA cells slots hP hS hL hc
    split at hk
    · simp only [Bool.and_eq_true, decide_eq_true_eq] at hk
      obtain ⟨rfl, hk⟩ := hk
      obtain ⟨rfl, ht⟩ := tg_use hk
      by_cases hcond : xx = yy
      · rw [if_neg (not_not_intro hcond)] at hs
        obtain rfl := nx_inv hs
        exact lv_icmp_ne hx hb hd ht (fun q => absurd hcond q) (fun _ => K H locs lsA cells slots hP hS (hL.kil k) hc)
      · rw [if_pos hcond] at hs
        obtain rfl := nx_inv hs
        exact lv_icmp_ne hx hb hd ht (fun _ => K H locs lsA cells slots hP hS (hL.kil k2) hc) (fun q => absurd q hcond)
    · cases hk
  · cases hs
theorem st_if_lt (C : Ctx p s m args meth c B0 ta cA D X y) (hd : decode (pby y) pc = .ok (raw, n)) {t : Int} (hk : ck_if pc .lt t raw n = true) (hs : s_if (fun x => x < 0) (fun _ => inferInstance) t.toNat (pc + n) k2 k ls st h = some (.inl c')) (K : Sim p l e R s m args below meth c Q B0 ta cA D y h0 c') : Sim p l e R s m args below meth c Q B0 ta cA D y h0 (pc, ls, st, h) := by
  obtain ⟨⟨hx, hb, hml, hr⟩, ⟨hown, hts, hlk, hnm⟩, hE, hB⟩ := C
  unfold s_if at hs
  unfold ck_if at hk
  split at hs
  · rename_i xx r
    intro H locs lsA cells slots hP hS hL hc
    split at hk
    · simp only [Bool.and_eq_true, decide_eq_true_eq] at hk
      obtain ⟨rfl, hk⟩ := hk
      obtain ⟨rfl, ht⟩ := tg_use hk
      by_cases hcond : xx < 0
      · rw [if_pos hcond] at hs
        obtain rfl := nx_inv hs
        exact lv_if_lt hx hb hd ht (fun _ => K H locs lsA cells slots hP hS (hL.kil k2) hc) (fun q => absurd hcond q)
      · rw [if_neg hcond] at hs
        obtain rfl := nx_inv hs
        exact lv_if_lt hx hb hd ht (fun q => absurd q hcond) (fun _ => K H locs lsA cells slots hP hS (hL.kil k) hc)
    · cases hk
  · cases hs
theorem st_ic_lt (C : Ctx p s m args meth c B0 ta cA D X y) (hd : decode (pby y) pc = .ok (raw, n)) {t : Int} (hk : ck_ic pc .lt t raw n = true) (hs : s_ic (fun x y => x < y) (fun _ _ => inferInstance) t.toNat (pc + n) k2 k ls st h = some (.inl c')) (K : Sim p l e R s m args below meth c Q B0 ta cA D y h0 c') : Sim p l e R s m args below meth c Q B0 ta cA D y h0 (pc, ls, st, h) := by
  obtain ⟨⟨hx, hb, hml, hr⟩, ⟨hown, hts, hlk, hnm⟩, hE, hB⟩ := C
  unfold s_ic at hs
  unfold ck_ic at hk
  split at hs
  · rename_i yy xx r
    intro H locs lsA cells slots hP hS hL hc
    split at hk
    · simp only [Bool.and_eq_true, decide_eq_true_eq] at hk
      obtain ⟨rfl, hk⟩ := hk
      obtain ⟨rfl, ht⟩ := tg_use hk
      by_cases hcond : xx < yy
      · rw [if_pos hcond] at hs
        obtain rfl := nx_inv hs
        exact lv_icmp_lt hx hb hd ht (fun _ => K H locs lsA cells slots hP hS (hL.kil k2) hc) (fun q => absurd hcond q)
      · rw [if_neg hcond] at hs
        obtain rfl := nx_inv hs
        exact lv_icmp_lt hx hb hd ht (fun q => absurd q hcond) (fun _ => K H locs lsA cells slots hP hS (hL.kil k) hc)
    · cases hk
  · cases hs
theorem st_if_ge (C : Ctx p s m args meth c B0 ta cA D X y) (hd : decode (pby y) pc = .ok (raw, n)) {t : Int} (hk : ck_if pc .ge t raw n = true) (hs : s_if (fun x => 0 ≤ x) (fun _ => inferInstance) t.toNat (pc + n) k2 k ls st h = some (.inl c')) (K : Sim p l e R s m args below meth c Q B0 ta cA D y h0 c') : Sim p l e R s m args below meth c Q B0 ta cA D y h0 (pc, ls, st, h) := by
  obtain ⟨⟨hx, hb, hml, hr⟩, ⟨hown, hts, hlk, hnm⟩, hE, hB⟩ := C
  unfold s_if at hs
  unfold ck_if at hk
  split at hs
  · rename_i xx r
    intro H locs lsA cells slots hP hS hL hc
    split at hk
    · simp only [Bool.and_eq_true, decide_eq_true_eq] at hk
      obtain ⟨rfl, hk⟩ := hk
      obtain ⟨rfl, ht⟩ := tg_use hk
      by_cases hcond : 0 ≤ xx
      · rw [if_pos hcond] at hs
        obtain rfl := nx_inv hs
        exact lv_if_ge hx hb hd ht (fun _ => K H locs lsA cells slots hP hS (hL.kil k2) hc) (fun q => absurd hcond q)
      · rw [if_neg hcond] at hs
        obtain rfl := nx_inv hs
        exact lv_if_ge hx hb hd ht (fun q => absurd q hcond) (fun _ => K H locs lsA cells slots hP hS (hL.kil k) hc)
    · cases hk
  · cases hs
theorem st_ic_ge (C : Ctx p s m args meth c B0 ta cA D X y) (hd : decode (pby y) pc = .ok (raw, n)) {t : Int} (hk : ck_ic pc .ge t raw n = true) (hs : s_ic (fun x y => y ≤ x) (fun _ _ => inferInstance) t.toNat (pc + n) k2 k ls st h = some (.inl c')) (K : Sim p l e R s m args below meth c Q B0 ta cA D y h0 c') : Sim p l e R s m args below meth c Q B0 ta cA D y h0 (pc, ls, st, h) := by
  obtain ⟨⟨hx, hb, hml, hr⟩, ⟨hown, hts, hlk, hnm⟩, hE, hB⟩ := C
  unfold s_ic at hs
  unfold ck_ic at hk
  split at hs
  · rename_i yy xx r
    intro H locs lsA cells slots hP hS hL hc
    split at hk
    · simp only [Bool.and_eq_true, decide_eq_true_eq] at hk
      obtain ⟨rfl, hk⟩ := hk
      obtain ⟨rfl, ht⟩ := tg_use hk
      by_cases hcond : yy ≤ xx
      · rw [if_pos hcond] at hs
        obtain rfl := nx_inv hs
        exact lv_icmp_ge hx hb hd ht (fun _ => K H locs lsA cells slots hP hS (hL.kil k2) hc) (fun q => absurd hcond q)
      · rw [if_neg hcond] at hs
        obtain rfl := nx_inv hs
        exact lv_icmp_ge hx hb hd ht (fun q => absurd q hcond) (fun _ => K H locs lsA cells slots hP hS (hL.kil k) hc)
    · cases hk
  · cases hs
theorem st_if_gt (C : Ctx p s m args meth c B0 ta cA D X y) (hd : decode (pby y) pc = .ok (raw, n)) {t : Int} (hk : ck_if pc .gt t raw n = true) (hs : s_if (fun x => 0 < x) (fun _ => inferInstance) t.toNat (pc + n) k2 k ls st h = some (.inl c')) (K : Sim p l e R s m args below meth c Q B0 ta cA D y h0 c') : Sim p l e R s m args below meth c Q B0 ta cA D y h0 (pc, ls, st, h) := by
  obtain ⟨⟨hx, hb, hml, hr⟩, ⟨hown, hts, hlk, hnm⟩, hE, hB⟩ := C
  unfold s_if at hs
  unfold ck_if at hk
  split at hs
  · rename_i xx r
    intro H locs lsA cells slots hP hS hL hc
    split at hk
    · simp only [Bool.and_eq_true, decide_eq_true_eq] at hk
      obtain ⟨rfl, hk⟩ := hk
      obtain ⟨rfl, ht⟩ := tg_use hk
      by_cases hcond : 0 < xx
      · rw [if_pos hcond] at hs
        obtain rfl := nx_inv hs
        exact lv_if_gt hx hb hd ht (fun _ => K H locs lsA cells slots hP hS (hL.kil k2) hc) (fun q => absurd hcond q)
      · rw [if_neg hcond] at hs
        obtain rfl := nx_inv hs
        exact lv_if_gt hx hb hd ht (fun q => absurd q hcond) (fun _ => K H locs lsA cells slots hP hS (hL.kil k) hc)
    · cases hk
  · cases hs
theorem st_ic_gt (C : Ctx p s m args meth c B0 ta cA D X y) (hd : decode (pby y) pc = .ok (raw, n)) {t : Int} (hk : ck_ic pc .gt t raw n = true) (hs : s_ic (fun x y => y < x) (fun _ _ => inferInstance) t.toNat (pc + n) k2 k ls st h = some (.inl c')) (K : Sim p l e R s m args below meth c Q B0 ta cA D y h0 c') : Sim p l e R s m args below meth c Q B0 ta cA D y h0 (pc, ls, st, h) := by
  obtain ⟨⟨hx, hb, hml, hr⟩, ⟨hown, hts, hlk, hnm⟩, hE, hB⟩ := C
  unfold s_ic at hs
  unfold ck_ic at hk
  split at hs
  · rename_i yy xx r
    intro H locs lsA cells slots hP hS hL hc
    split at hk
    · simp only [Bool.and_eq_true, decide_eq_true_eq] at hk
      obtain ⟨rfl, hk⟩ := hk
      obtain ⟨rfl, ht⟩ := tg_use hk
      by_cases hcond : yy < xx
      · rw [if_pos hcond] at hs
        obtain rfl := nx_inv hs
        exact lv_icmp_gt hx hb hd ht (fun _ => K H locs lsA cells slots hP hS (hL.kil k2) hc) (fun q => absurd hcond q)
      · rw [if_neg hcond] at hs
        obtain rfl := nx_inv hs
        exact lv_icmp_gt hx hb hd ht (fun q => absurd q hcond) (fun _ => K H locs lsA cells slots hP hS (hL.kil k) hc)
    · cases hk
  · cases hs
theorem st_if_le (C : Ctx p s m args meth c B0 ta cA D X y) (hd : decode (pby y) pc = .ok (raw, n)) {t : Int} (hk : ck_if pc .le t raw n = true) (hs : s_if (fun x => x ≤ 0) (fun _ => inferInstance) t.toNat (pc + n) k2 k ls st h = some (.inl c')) (K : Sim p l e R s m args below meth c Q B0 ta cA D y h0 c') : Sim p l e R s m args below meth c Q B0 ta cA D y h0 (pc, ls, st, h) := by
  obtain ⟨⟨hx, hb, hml, hr⟩, ⟨hown, hts, hlk, hnm⟩, hE, hB⟩ := C
  unfold s_if at hs
  unfold ck_if at hk
  split at hs
  · rename_i xx r
    intro H locs lsA cells slots hP hS hL hc
    split at hk
    · simp only [Bool.and_eq_true, decide_eq_true_eq] at hk
      obtain ⟨rfl, hk⟩ := hk
      obtain ⟨rfl, ht⟩ := tg_use hk
      by_cases hcond : xx ≤ 0
      · rw [if_pos hcond] at hs
        obtain rfl := nx_inv hs
        exact lv_if_le hx hb hd ht (fun _ => K H locs lsA cells slots hP hS (hL.kil k2) hc) (fun q => absurd hcond q)
      · rw [if_neg hcond] at hs
        obtain rfl := nx_inv hs
        exact lv_if_le hx hb hd ht (fun q => absurd q hcond) (fun _ => K H locs lsA cells slots hP hS (hL.kil k) hc)
    · cases hk
  · cases hs
theorem st_ic_le (C : Ctx p s m args meth c B0 ta cA D X y) (hd : decode (pby y) pc = .ok (raw, n)) {t : Int} (hk : ck_ic pc .le t raw n = true) (hs : s_ic (fun x y => x ≤ y) (fun _ _ => inferInstance) t.toNat (pc + n) k2 k ls st h = some (.inl c')) (K : Sim p l e R s m args below meth c Q B0 ta cA D y h0 c') : Sim p l e R s m args below meth c Q B0 ta cA D y h0 (pc, ls, st, h) := by
  obtain ⟨⟨hx, hb, hml, hr⟩, ⟨hown, hts, hlk, hnm⟩, hE, hB⟩ := C
  unfold s_ic at hs
  unfold ck_ic at hk
  split at hs
  · rename_i yy xx r
    intro H locs lsA cells slots hP hS hL hc
    split at hk
    · simp only [Bool.and_eq_true, decide_eq_true_eq] at hk
      obtain ⟨rfl, hk⟩ := hk
      obtain ⟨rfl, ht⟩ := tg_use hk
      by_cases hcond : xx ≤ yy
      · rw [if_pos hcond] at hs
        obtain rfl := nx_inv hs
        exact lv_icmp_le hx hb hd ht (fun _ => K H locs lsA cells slots hP hS (hL.kil k2) hc) (fun q => absurd hcond q)
      · rw [if_neg hcond] at hs
        obtain rfl := nx_inv hs
        exact lv_icmp_le hx hb hd ht (fun q => absurd q hcond) (fun _ => K H locs lsA cells slots hP hS (hL.kil k) hc)
    · cases hk
  · cases hs
theorem st_ifnull (C : Ctx p s m args meth c B0 ta cA D X y) (hd : decode (pby y) pc = .ok (raw, n)) {t : Int} (hk : ck_null pc t raw n = true) (hs : (match st with | .null :: r => nx t.toNat k2 ls r h | .ref _ :: r => nx (pc + n) k ls r h | _ => none : StpR) = some (.inl c')) (K : Sim p l e R s m args below meth c Q B0 ta cA D y h0 c') : Sim p l e R s m args below meth c Q B0 ta cA D y h0 (pc, ls, st, h) := by
  obtain ⟨⟨hx, hb, hml, hr⟩, ⟨hown, hts, hlk, hnm⟩, hE, hB⟩ := C
  unfold ck_null at hk
  intro H locs lsA cells slots hP hS hL hc
  split at hk
  · obtain ⟨rfl, ht⟩ := tg_use hk
    split at hs
    · obtain rfl := nx_inv hs
      exact lv_ifnullN hx hb hd ht (K H locs lsA cells slots hP hS (hL.kil k2) hc)
    · obtain rfl := nx_inv hs
      exact lv_ifnull hx hb hd (K H locs lsA cells slots hP hS (hL.kil k) hc)
    · cases hs
  · cases hk
theorem st_ifnonnull (C : Ctx p s m args meth c B0 ta cA D X y) (hd : decode (pby y) pc = .ok (raw, n)) {t : Int} (hk : ck_nonnull pc t raw n = true) (hs : (match st with | .null :: r => nx (pc + n) k ls r h | .ref _ :: r => nx t.toNat k2 ls r h | _ => none : StpR) = some (.inl c')) (K : Sim p l e R s m args below meth c Q B0 ta cA D y h0 c') : Sim p l e R s m args below meth c Q B0 ta cA D y h0 (pc, ls, st, h) := by
  obtain ⟨⟨hx, hb, hml, hr⟩, ⟨hown, hts, hlk, hnm⟩, hE, hB⟩ := C
  unfold ck_nonnull at hk
  intro H locs lsA cells slots hP hS hL hc
  split at hk
  · obtain ⟨rfl, ht⟩ := tg_use hk
    split at hs
    · obtain rfl := nx_inv hs
      exact lv_ifnonnullN hx hb hd (K H locs lsA cells slots hP hS (hL.kil k) hc)
    · obtain rfl := nx_inv hs
      exact lv_ifnonnull hx hb hd ht (K H locs lsA cells slots hP hS (hL.kil k2) hc)
    · cases hs
  · cases hk
end STEP
