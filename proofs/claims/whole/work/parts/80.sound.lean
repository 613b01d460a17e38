/-! THE PROGRAM AS DATA IS THE PROGRAM: a check by computation -/
def Tg : List Cond := lw_tbl.filter goodWord
def hasW (p : Nat) (w : Cond) : Bool := decide (lw_tbl[p]? = some w) && goodWord w
theorem hasW_in {p : Nat} {w : Cond} (h : hasW p w = true) : w ∈ Tg := by
  unfold hasW at h
  rw [Bool.and_eq_true, decide_eq_true_eq] at h
  exact List.mem_filter.mpr ⟨List.mem_of_getElem? h.1, h.2⟩
theorem Tg_good {w : Cond} (h : w ∈ Tg) : (w.onTables && w.keeps) = true ∨ ∃ ty, w = .arrayClass ty := good_of_word (List.mem_filter.mp h).2
def cn (c : Nat) : String := clsN.getD c ""
def cT (c : Nat) : u_T := fun k => (cn c, ((clsF.getD c []).getD k ("", "", false, 9)).1, ((clsF.getD c []).getD k ("", "", false, 9)).2.1, ((clsF.getD c []).getD k ("", "", false, 9)).2.2.1)
def cty (c k : Nat) : FieldType := (parseFieldDescriptor (cT c k).2.2.1).getD .int
def cls : List vw_C := (List.range 12).map fun c => (cn c, cT c, nf c)
def own (y : Nat) : String := (pnm y).cls
def c1 (r raw : Instr) (n : Nat) : Bool := decide (raw = r) && decide (n = 1)
def ck_iconst (y : Nat) (v : Int) (raw : Instr) (n p : Nat) : Bool := match raw with
  | .iconst j => decide (Int32.ofInt j = Int32.ofInt v) && decide (n = 1)
  | .bipush j => decide ((Int8.ofInt j).toInt32 = Int32.ofInt v) && decide (n = 2)
  | .sipush j => decide ((Int16.ofInt j).toInt32 = Int32.ofInt v) && decide (n = 3)
  | .ldc j => hasW p (.constant (own y) j (Int32.ofInt v)) && decide (n = 2)
  | .ldc_w j => hasW p (.constant (own y) j (Int32.ofInt v)) && decide (n = 3)
  | _ => false
def ck_lconst (y : Nat) (v : Int) (raw : Instr) (n p : Nat) : Bool := match raw with
  | .lconst j => decide (Int64.ofNat j = Int64.ofInt v) && decide (n = 1)
  | .ldc2_w j => hasW p (.constantLong (own y) j (Int64.ofInt v)) && decide (n = 3)
  | _ => false
def ck_iload (i : Nat) (raw : Instr) (n : Nat) : Bool := match raw with | .iload j => decide (j = i) && decide (n = 2) | .iload_n j => decide (j.val = i) && decide (n = 1) | _ => false
def ck_lload (i : Nat) (raw : Instr) (n : Nat) : Bool := match raw with | .lload j => decide (j = i) && decide (n = 2) | .lload_n j => decide (j.val = i) && decide (n = 1) | _ => false
def ck_aload (i : Nat) (raw : Instr) (n : Nat) : Bool := match raw with | .aload j => decide (j = i) && decide (n = 2) | .aload_n j => decide (j.val = i) && decide (n = 1) | _ => false
def ck_istore (i : Nat) (raw : Instr) (n : Nat) : Bool := match raw with | .istore j => decide (j = i) && decide (n = 2) | .istore_n j => decide (j.val = i) && decide (n = 1) | _ => false
def ck_lstore (i : Nat) (raw : Instr) (n : Nat) : Bool := match raw with | .lstore j => decide (j = i) && decide (n = 2) | .lstore_n j => decide (j.val = i) && decide (n = 1) | _ => false
def ck_astore (i : Nat) (raw : Instr) (n : Nat) : Bool := match raw with | .astore j => decide (j = i) && decide (n = 2) | .astore_n j => decide (j.val = i) && decide (n = 1) | _ => false
def tg (pc : Nat) (o t : Int) (n : Nat) : Bool := decide ((pc : Int) + o = t) && decide (0 ≤ t) && decide (n = 3)
def ck_goto (pc : Nat) (t : Int) (raw : Instr) (n : Nat) : Bool := match raw with | .goto o => tg pc o t n | _ => false
def ck_if (pc : Nat) (c : ClassFile.Cond) (t : Int) (raw : Instr) (n : Nat) : Bool := match raw with | .ifCond c' o => decide (c' = c) && tg pc o t n | _ => false
def ck_ic (pc : Nat) (c : ClassFile.Cond) (t : Int) (raw : Instr) (n : Nat) : Bool := match raw with | .if_icmp c' o => decide (c' = c) && tg pc o t n | _ => false
def ck_null (pc : Nat) (t : Int) (raw : Instr) (n : Nat) : Bool := match raw with | .ifnull o => tg pc o t n | _ => false
def ck_nonnull (pc : Nat) (t : Int) (raw : Instr) (n : Nat) : Bool := match raw with | .ifnonnull o => tg pc o t n | _ => false
def okT (ps : List (Int × Int)) (d : Int) : Bool := decide (0 ≤ d) && ps.all fun q => decide (0 ≤ q.2) && decide (-2147483648 ≤ q.1) && decide (q.1 ≤ 2147483647)
def ck_sw (pc : Nat) (d : Int) (ps : List (Int × Int)) (raw : Instr) : Bool := match raw with
  | .lookupswitch d0 ps0 => (ps0.toList.zip (ps0.toList.drop 1)).all (fun (a, next) => a.1 < next.1) && (decide (d = (pc : Int) + d0) && decide (ps = ps0.toList.map fun q => (q.1, (pc : Int) + q.2)) && okT ps d)
  | .tableswitch d0 lo hi offs => (decide (lo + (offs.size : Int) = hi + 1) && decide (d = (pc : Int) + d0)) && (decide (ps = (List.range' 0 offs.size).map fun (j : Nat) => (lo + (j : Int), (pc : Int) + offs.getD j 0)) && okT ps d)
  | _ => false
def ck_get (y : Nat) (c k : Nat) (raw : Instr) (n p : Nat) : Bool := match raw with
  | .getfield j => (hasW p (.fieldLink (own y) j (cn c) (cT c k).2.1 (cT c k).2.2.1) && decide (n = 3)) && (decide (c < 12) && decide (k < nf c))
  | _ => false
def ck_put (y : Nat) (c k : Nat) (raw : Instr) (n p : Nat) : Bool := match raw with
  | .putfield j => ((hasW p (.fieldLink (own y) j (cn c) (cT c k).2.1 (cT c k).2.2.1) && decide (n = 3)) && (decide (c < 12) && decide (k < nf c))) && (!(cT c k).2.2.2 || (decide ((pnm y).name = "<init>") && decide (cn c = own y)))
  | _ => false
def ck_stat (y t : Nat) (raw : Instr) (n p : Nat) : Bool := match raw with
  | .getstatic j => match t with
    | 1 => hasW p (.fieldLink (own y) j "HollowSteps$Wears" "ABOVE" "[I") && decide (n = 3)
    | 2 => hasW p (.fieldLink (own y) j "HollowSteps$Wears" "OWN" "[I") && decide (n = 3)
    | _ => false
  | _ => false
def tnm (t : Nat) : String := match t with | 3 => "HollowSteps$Step" | 4 => "HollowSteps$Law" | 5 => "HollowSteps$Story" | _ => "HollowSteps$Shelf"
def ck_anew (y t : Nat) (raw : Instr) (n p : Nat) : Bool := match raw with | .anewarray j => (hasW p (.classLink (own y) j (tnm t)) && decide (n = 3)) && (decide (3 ≤ t) && decide (t < 7)) | _ => false
def ck_new (y c : Nat) (raw : Instr) (n p : Nat) : Bool := match raw with | .new j => (hasW p (.classLink (own y) j (cn c)) && decide (n = 3)) && decide (c < 12) | _ => false
def ck_newa (a : ArrayType) (raw : Instr) (n : Nat) : Bool := match raw with | .newarray b => decide (b = a) && decide (n = 2) | _ => false
def ck_obj (y : Nat) (raw : Instr) (n p : Nat) : Bool := match raw with | .invokespecial j => hasW p (.methodLink (own y) j Lib.objectInit) && decide (n = 3) | _ => false
def ck_copy (y : Nat) (raw : Instr) (n p : Nat) : Bool := match raw with | .invokestatic j => hasW p (.methodLink (own y) j arraycopyName) && decide (n = 3) | _ => false
def ck_callV (y z : Nat) (raw : Instr) (n p : Nat) : Bool := match raw with | .invokevirtual j => (hasW p (.methodLink (own y) j (pnm z)) && decide (n = 3)) && (decide (z < NY ∧ 0 < z) && decide (pkd z = 1)) | _ => false
def ck_callI (y z : Nat) (raw : Instr) (n p : Nat) : Bool := match raw with | .invokespecial j => (hasW p (.methodLink (own y) j (pnm z)) && decide (n = 3)) && (decide (z < NY ∧ 0 < z) && decide (pkd z = 2)) | _ => false
def ck_callS (y z : Nat) (raw : Instr) (n p : Nat) : Bool := match raw with | .invokestatic j => (hasW p (.methodLink (own y) j (pnm z)) && decide (n = 3)) && (decide (z < NY ∧ 0 < z) && decide (pkd z = 0)) | _ => false
def ck_iinc (i : Nat) (v : Int) (raw : Instr) (n : Nat) : Bool := match raw with | .iinc j w => (decide (j = i) && decide (w = v)) && decide (n = 3) | _ => false
def ck_math (x : MethodName) (y : Nat) (raw : Instr) (n p : Nat) : Bool := match raw with | .invokestatic j => hasW p (.methodLink (own y) j x) && decide (n = 3) | _ => false
def ckI (y pc : Nat) (r raw : Instr) (n p : Nat) : Bool := match r with
  | .iconst v => ck_iconst y v raw n p
  | .jsr_w v => ck_lconst y v raw n p
  | .iload i => ck_iload i raw n
  | .lload i => ck_lload i raw n
  | .aload i => ck_aload i raw n
  | .istore i => ck_istore i raw n
  | .lstore i => ck_lstore i raw n
  | .astore i => ck_astore i raw n
  | .iinc i v => ck_iinc i v raw n
  | .goto t => ck_goto pc t raw n
  | .ifCond c t => ck_if pc c t raw n
  | .if_icmp c t => ck_ic pc c t raw n
  | .ifnull t => ck_null pc t raw n
  | .ifnonnull t => ck_nonnull pc t raw n
  | .lookupswitch d ps => ck_sw pc d ps.toList raw
  | .getfield c => ck_get y (c / 1000) (c % 1000) raw n p
  | .putfield c => ck_put y (c / 1000) (c % 1000) raw n p
  | .getstatic t => ck_stat y t raw n p
  | .anewarray t => ck_anew y t raw n p
  | .new c => ck_new y c raw n p
  | .newarray a => ck_newa a raw n
  | .monitorexit => ck_obj y raw n p
  | .monitorenter => ck_copy y raw n p
  | .fadd => ck_math Lib.Math.max.name y raw n p
  | .fsub => ck_math Lib.Math.min.name y raw n p
  | .fneg => ck_math Lib.Math.abs.name y raw n p
  | .dadd => ck_math Lib.MathLoose.max_long.x y raw n p
  | .dsub => ck_math Lib.MathLoose.min_long.x y raw n p
  | .dneg => ck_math Lib.MathLoose.abs_long.x y raw n p
  | .invokevirtual z => ck_callV y z raw n p
  | .invokespecial z => ck_callI y z raw n p
  | .invokestatic z => ck_callS y z raw n p
  | r => c1 r raw n
def insB (y pc : Nat) (e : Ent) : Bool := decide (decode (pby y) pc = .ok (e.2.1, e.2.2.1)) && ckI y pc e.1 e.2.1 e.2.2.1 e.2.2.2.2.2
/-- a method's head -/
def hdB (y : Nat) : Bool := (hasW (ppl y) (.code (pnm y) (pby y) (pml y) (pret y)) || decide (y = 0)) && ((plainName (own y) && decide (own y ≠ "java/lang/invoke/MethodHandle" ∧ own y ≠ "java/lang/invoke/VarHandle")) && (decide ((parseMethodDescriptor (pnm y).desc).map (fun d => d.parameters.length) = some (pna y)) && decide (pml y ≤ 40)))
def pl3 (y : Nat) : Nat × Nat × Nat := pls.getD y (0, 0, 0)
def hkB (y : Nat) : Bool := hasW (pl3 y).1 (.initialized (own y)) && match pkd y with
  | 0 => hasW (pl3 y).2.1 (.static (pnm y))
  | 1 => hasW (pl3 y).2.1 (.instanceMethod (pnm y)) && (hasW (pl3 y).2.2 (.selects (own y) (pnm y) (pnm y)) && decide (own y = cn (pci y) ∧ pci y < 12))
  | _ => hasW (pl3 y).2.1 (.instanceMethod (pnm y)) && (decide ((pnm y).name = "<init>") && (decide (own y = cn (pci y) ∧ pci y < 12) && decide (pret y = none)))
/-- what the checks say of the whole program -/
def Chk : Prop := (∀ y pc e, y < NY → ft y pc = some e → insB y pc e = true) ∧ (∀ y, y < NY → hdB y = true) ∧ (∀ y, y < NY → 0 < y → hkB y = true) ∧ (∀ c, c < 12 → ∀ w ∈ u_ws (cn c) (cT c) (nf c), w ∈ Tg) ∧
  (∀ c, c < 12 → ∀ k, k < nf c → parseFieldDescriptor (cT c k).2.2.1 = some (cty c k) ∧ (match fT c k with | 0 => cty c k = .int | 1 => cty c k = .long | 3 => cty c k = .boolean | _ => rfR (some (cty c k)) = true)) ∧
  (∀ c, c < 12 → ∀ a, a < nf c → ∀ b, b < nf c → a ≠ b → (cT c a).2.1 ≠ (cT c b).2.1) ∧
  (∀ c, c < 12 → 0 < c ∨ c = 0 → Cond.instantiable (cn c) (nf c) ∈ Tg ∧ Cond.initialized (cn c) ∈ Tg) ∧
  (Cond.arrayClass .int ∈ Tg ∧ Cond.arrayClass .long ∈ Tg ∧ Cond.arrayClass .boolean ∈ Tg) ∧
  (Cond.instanceMethod Lib.objectInit ∈ Tg ∧ Cond.code Lib.objectInit ⟨#[0xb1]⟩ 1 none ∈ Tg) ∧
  (Cond.native arraycopyName ∈ Tg ∧ Cond.static arraycopyName ∈ Tg ∧ Cond.initialized "java/lang/System" ∈ Tg)
def ChkM : Prop := Cond.initialized "java/lang/Math" ∈ Tg ∧
  (Cond.static Lib.Math.max.name ∈ Tg ∧ Cond.code Lib.Math.max.name Lib.Math.max.code 2 (some .int) ∈ Tg) ∧
  (Cond.static Lib.Math.min.name ∈ Tg ∧ Cond.code Lib.Math.min.name Lib.Math.min.code 2 (some .int) ∈ Tg) ∧
  (Cond.static Lib.Math.abs.name ∈ Tg ∧ Cond.code Lib.Math.abs.name Lib.Math.abs.code 1 (some .int) ∈ Tg) ∧
  (Cond.static Lib.MathLoose.max_long.x ∈ Tg ∧ Cond.code Lib.MathLoose.max_long.x Lib.MathLoose.max_long.code 4 (some .long) ∈ Tg) ∧
  (Cond.static Lib.MathLoose.min_long.x ∈ Tg ∧ Cond.code Lib.MathLoose.min_long.x Lib.MathLoose.min_long.code 4 (some .long) ∈ Tg) ∧
  (Cond.static Lib.MathLoose.abs_long.x ∈ Tg ∧ Cond.code Lib.MathLoose.abs_long.x Lib.MathLoose.abs_long.code 2 (some .long) ∈ Tg)
/-! THE PICTURE AND THE MACHINE -/
def cv (B0 : Nat) (ta : Nat → Nat) (v : Value) : Value := match v with | .ref a => .ref (B0 + a) | .retAddr t => .ref (ta t) | v => v
def fvl (B0 : Nat) (h : HP) (c k j : Nat) : Value := match fT c j with | 1 => .long (h.2.2.2.2.2 k j) | 2 => va_rf ((h.2.2.2.1 k j).map (fun a => B0 + a)) | _ => .int (h.2.2.2.2.1 k j)
def fvs (B0 : Nat) (h : HP) (c k : Nat) : List Value := (List.range (nf c)).map (fvl B0 h c k)
def cellO (B0 : Nat) (cA : Nat → ClassId) (h : HP) (k : Nat) : va_E :=
  if (h.2.2.1 k).1 = 0 then .inl (cA 0, (h.2.2.1 k).2, .inl (h.2.2.2.2.1 k))
  else if (h.2.2.1 k).1 = 1 then .inl (cA 1, (h.2.2.1 k).2, .inr (.inl (h.2.2.2.2.2 k)))
  else if (h.2.2.1 k).1 = 2 then .inl (cA 2, (h.2.2.1 k).2, .inl (h.2.2.2.2.1 k))
  else if (h.2.2.1 k).1 < 7 then .inl (cA (h.2.2.1 k).1, (h.2.2.1 k).2, .inr (.inr (.inr (.inr (fun j => (h.2.2.2.1 k j).map (fun a => B0 + a))))))
  else .inr ((h.2.2.1 k).1 - 7, fvs B0 h ((h.2.2.1 k).1 - 7) k)
def wsO (B0 : Nat) (cA : Nat → ClassId) (h : HP) : va_W := (List.range h.1).map fun k => (B0 + k, cellO B0 cA h k)
def tysO (cA : Nat → ClassId) : List (ClassId × FieldType) := [(cA 0, .int), (cA 1, .long), (cA 2, .boolean), (cA 3, .object "HollowSteps$Step"), (cA 4, .object "HollowSteps$Law"), (cA 5, .object "HollowSteps$Story"), (cA 6, .object "HollowSteps$Shelf")]
def A0 (B0 : Nat) : Nat → Prop := fun q => B0 ≤ q
def EnvS (B0 : Nat) (ta : Nat → Nat) (cA : Nat → ClassId) (D : va_G) (X : XX) (U : State) : Prop :=
  (va_K D cls (tysO cA) U ∧ ∀ t, 3 ≤ t → t < 7 → va_AO (tnm t) U) ∧
  (∀ t, t < 3 → va_T .int (ta t) (tn X t) (fun j => .int (tv X t j)) (A0 B0) U U.heap) ∧
  (va_Z "HollowSteps$Wears" "ABOVE" "[I" (.ref (ta 1)) (A0 B0) U U.heap ∧ va_Z "HollowSteps$Wears" "OWN" "[I" (.ref (ta 2)) (A0 B0) U U.heap)
def wsy (y : Nat) : List Cond := .code (pnm y) (pby y) (pml y) (pret y) :: Tg
def Qx (B0 : Nat) (ta : Nat → Nat) (cA : Nat → ClassId) (D : va_G) (r : Rs) : Array Value → State → Outcome → State → Prop := fun _ st oc t => (oc = .returned (r.1.map (cv B0 ta)) ∧ va_P D cls (wsO B0 cA r.2) t.heap) ∧ va_F (A0 B0) st t
def PyB (B0 : Nat) (ta : Nat → Nat) (cA : Nat → ClassId) (D : va_G) (X : XX) (h : HP) (U : State) : Prop := (U.heap.size = B0 + h.1 ∧ va_P D cls (wsO B0 cA h) U.heap) ∧ EnvS B0 ta cA D X U
def rmy (d : Nat) (h : HP) (r : Rs) : Room := { frames := d, cells := r.2.1 - h.1, slots := r.2.2.1 - h.2.1, locals := 60 * d }
def MetY (l : Launch) (B0 : Nat) (ta : Nat → Nat) (cA : Nat → ClassId) (D : va_G) (X : XX) (d y : Nat) (as : List Value) (h : HP) (r : Rs) : Prop :=
  Met l (pnm y) (wsy y) (rmy d h r) (va_Pc (as.map (cv B0 ta)) (PyB B0 ta cA D X h)) (Qx B0 ta cA D r) (r.2.1 - h.1) (r.2.2.1 - h.2.1) (A0 B0)
def LOK (B0 : Nat) (ta : Nat → Nat) (ls : List Value) (lsA : Array Slot) (nL : Nat) : Prop := (lsA.size = nL ∧ ls.length ≤ nL) ∧ lv_wf lsA ∧ ∀ (i : Nat) (v : Value), ls[i]? = some v → v ≠ dm → lsA[i]? = some (Slot.val (cv B0 ta v))
def Ctx (p : Program) (s : State) (m : MethodId) (args : Array Value) (meth : Method) (c : Code) (B0 : Nat) (ta : Nat → Nat) (cA : Nat → ClassId) (D : va_G) (X : XX) (y : Nat) : Prop :=
  (p.tables.exec = Jvm.exec ∧ c.code = pby y ∧ c.maxLocals = pml y ∧ meth.sig.returnType = pret y) ∧ (s.vm.findClass (own y) = some m.cls ∧ (∀ w ∈ Tg, w.before args s = true) ∧ meth.locks = false ∧ (meth.name = (pnm y).name ∨ y = 0)) ∧ EnvS B0 ta cA D X s ∧ B0 ≤ s.heap.size
/-- what lies behind the picture's end is no cell -/
def InvH (h : HP) : Prop := ∀ a, h.1 ≤ a → h.2.2.1 a = (1000000, 0)
def Sim (p : Program) (l : Launch) (e : Jvm.Env) (R : Room) (s : State) (m : MethodId) (args : Array Value) (below : List Frame) (meth : Method) (c : Code) (Q : State → Prop) (B0 : Nat) (ta : Nat → Nat) (cA : Nat → ClassId) (D : va_G) (y : Nat) (h0 : HP) (cfg : Cfg) : Prop :=
  ∀ (H : Heap) (locs : List Loc) (lsA : Array Slot) (cells slots : Nat), va_P D cls (wsO B0 cA cfg.2.2.2) H → va_S (A0 B0) s.heap H locs → LOK B0 ta cfg.2.1 lsA (pml y) → ((s.heap.size + cells = B0 + cfg.2.2.2.1 ∧ h0.2.1 + slots = cfg.2.2.2.2.1) ∧ InvH cfg.2.2.2) → W p l e R s m args below meth c H locs cells slots Q (F0 m cfg.1 lsA (cfg.2.2.1.map (cv B0 ta)))
/-! small facts -/
theorem wsO_get {B0 : Nat} {cA : Nat → ClassId} {h : HP} {k : Nat} (hk : k < h.1) : (wsO B0 cA h)[k]? = some (B0 + k, cellO B0 cA h k) := by
  unfold wsO
  rw [List.getElem?_map, List.getElem?_range hk]
  rfl
theorem wsO_len {B0 : Nat} {cA : Nat → ClassId} {h : HP} : (wsO B0 cA h).length = h.1 := by unfold wsO; rw [List.length_map, List.length_range]
theorem wsO_in {B0 : Nat} {cA : Nat → ClassId} {h : HP} {k : Nat} {q : Nat × va_E} (hq : (wsO B0 cA h)[k]? = some q) : k < h.1 ∧ q = (B0 + k, cellO B0 cA h k) := by
  have hk : k < h.1 := by
    have := (List.getElem?_eq_some_iff.mp hq).1
    rwa [wsO_len] at this
  rw [wsO_get hk] at hq
  exact ⟨hk, (Option.some.inj hq).symm⟩
theorem wsO_D {B0 : Nat} {cA : Nat → ClassId} {h : HP} : va_D (A0 B0) (wsO B0 cA h) := by
  refine ⟨fun i j p q hp hq e => ?_, fun k q hq => ?_⟩
  · obtain ⟨-, rfl⟩ := wsO_in hp
    obtain ⟨-, rfl⟩ := wsO_in hq
    simp only at e
    omega
  · obtain ⟨-, rfl⟩ := wsO_in hq
    exact Nat.le_add_right _ _
/-- another picture that differs at one cell -/
theorem wsO_set {B0 : Nat} {cA : Nat → ClassId} {h h' : HP} {k : Nat} (hs : h'.1 = h.1) (ho : ∀ j, j ≠ k → cellO B0 cA h' j = cellO B0 cA h j) : (wsO B0 cA h).set k (B0 + k, cellO B0 cA h' k) = wsO B0 cA h' := by
  apply List.ext_getElem?
  intro j
  rw [List.getElem?_set]
  by_cases hj : k = j
  · subst hj
    rw [if_pos rfl]
    by_cases hk : k < h.1
    · rw [if_pos (by rw [wsO_len]; exact hk), wsO_get (by rw [hs]; exact hk)]
    · rw [if_neg (by rw [wsO_len]; exact hk)]
      symm
      rw [List.getElem?_eq_none_iff, wsO_len, hs]; omega
  · rw [if_neg hj]
    by_cases hk : j < h.1
    · rw [wsO_get hk, wsO_get (by rw [hs]; exact hk), ho j (Ne.symm hj)]
    · rw [List.getElem?_eq_none_iff.mpr (by rw [wsO_len]; omega), List.getElem?_eq_none_iff.mpr (by rw [wsO_len, hs]; omega)]
theorem wsO_push {B0 : Nat} {cA : Nat → ClassId} {h h' : HP} (hs : h'.1 = h.1 + 1) (ho : ∀ j, j < h.1 → cellO B0 cA h' j = cellO B0 cA h j) : wsO B0 cA h ++ [(B0 + h.1, cellO B0 cA h' h.1)] = wsO B0 cA h' := by
  unfold wsO
  rw [hs, List.range_succ, List.map_append]
  congr 1
  apply List.map_congr_left
  intro k hk
  rw [ho k (List.mem_range.mp hk)]
theorem cats_cv {B0 : Nat} {ta : Nat → Nat} (st : List Value) (h : ∀ v ∈ st, True) : ((st.map (cv B0 ta)).map fun v => v.category).sum = cats st := by
  unfold cats
  rw [List.map_map]
  congr 1
  apply List.map_congr_left
  intro v _
  cases v <;> rfl
theorem LOK.kil {B0 : Nat} {ta : Nat → Nat} {lsA : Array Slot} {nL : Nat} : ∀ (k : List Nat) {ls : List Value}, LOK B0 ta ls lsA nL → LOK B0 ta (kil k ls) lsA nL
  | [], _, h => h
  | i :: r, ls, h => by
    refine LOK.kil r ⟨⟨h.1.1, by rw [List.length_set]; exact h.1.2⟩, h.2.1, fun j v hj hv => ?_⟩
    rw [List.getElem?_set] at hj
    by_cases hij : i = j
    · rw [if_pos hij] at hj
      by_cases hl : i < ls.length
      · rw [if_pos hl] at hj
        exact absurd (Option.some.inj hj).symm hv
      · rw [if_neg hl] at hj; cases hj
    · rw [if_neg hij] at hj
      exact h.2.2 j v hj hv
def lvof (B0 : Nat) (ta : Nat → Nat) (ls : List Value) : List (Nat × Value) := (List.range ls.length).filterMap fun i => match ls[i]? with | some v => if v = dm then none else some (i, cv B0 ta v) | none => none
theorem lvof_mem {B0 : Nat} {ta : Nat → Nat} {ls : List Value} {q : Nat × Value} : q ∈ lvof B0 ta ls ↔ ∃ v, ls[q.1]? = some v ∧ v ≠ dm ∧ q.2 = cv B0 ta v := by
  unfold lvof
  rw [List.mem_filterMap]
  constructor
  · rintro ⟨i, -, h⟩
    cases hv : ls[i]? with
    | none => rw [hv] at h; cases h
    | some v =>
      rw [hv] at h
      simp only at h
      by_cases hd : v = dm
      · rw [if_pos hd] at h; cases h
      · rw [if_neg hd] at h
        cases h
        exact ⟨v, hv, hd, rfl⟩
  · rintro ⟨v, hv, hd, hq⟩
    refine ⟨q.1, List.mem_range.mpr (List.getElem?_eq_some_iff.mp hv).1, ?_⟩
    rw [hv]
    simp only
    rw [if_neg hd, ← hq]
theorem LOK.has {B0 : Nat} {ta : Nat → Nat} {ls : List Value} {lsA : Array Slot} {nL : Nat} (h : LOK B0 ta ls lsA nL) : lv_has lsA nL (lvof B0 ta ls) := by
  refine ⟨h.1.1, h.2.1, fun q hq => ?_⟩
  obtain ⟨v, h1, h2, h3⟩ := lvof_mem.mp hq
  rw [h3]
  exact h.2.2 q.1 v h1 h2
theorem cv_cat {B0 : Nat} {ta : Nat → Nat} (v : Value) : (cv B0 ta v).category = v.category := by cases v <;> rfl
theorem LOK.st1 {B0 : Nat} {ta : Nat → Nat} {ls : List Value} {lsA : Array Slot} {nL i : Nat} {v : Value} (h : LOK B0 ta ls lsA nL) (ho : okS ls i = true)
    {ls' : Array Slot} (h' : lv_has ls' nL ((i, cv B0 ta v) :: (lvof B0 ta ls).filter (fun q => !(q.1 == i) && !(q.1 + 1 == i && q.2.category == 2)))) : LOK B0 ta (ls.set i v) ls' nL := by
  refine ⟨⟨h'.1, by rw [List.length_set]; exact h.1.2⟩, h'.2.1, fun j w hj hw => ?_⟩
  rw [List.getElem?_set] at hj
  by_cases hij : i = j
  · subst hij
    rw [if_pos rfl] at hj
    by_cases hl : i < ls.length
    · rw [if_pos hl] at hj
      cases hj
      exact h'.2.2 (i, cv B0 ta v) List.mem_cons_self
    · rw [if_neg hl] at hj; cases hj
  · rw [if_neg hij] at hj
    refine h'.2.2 (j, cv B0 ta w) (List.mem_cons_of_mem _ (List.mem_filter.mpr ⟨lvof_mem.mpr ⟨w, hj, hw, rfl⟩, ?_⟩))
    simp only [Bool.and_eq_true, Bool.not_eq_true', beq_eq_false_iff_ne, Bool.and_eq_false_iff]
    refine ⟨Ne.symm hij, ?_⟩
    by_cases hi : j + 1 = i
    · right
      subst hi
      rw [cv_cat]
      unfold okS at ho
      simp only [Bool.and_eq_true] at ho
      have h2 := ho.2
      rw [hj] at h2
      cases w <;> simp_all [nlg, Value.category]
    · left; exact hi
theorem LOK.st2 {B0 : Nat} {ta : Nat → Nat} {ls : List Value} {lsA : Array Slot} {nL i : Nat} {v : Value} (h : LOK B0 ta ls lsA nL) (ho : okS ls i = true)
    {ls' : Array Slot} (h' : lv_has ls' nL ((i, cv B0 ta v) :: (lvof B0 ta ls).filter (fun q => !(q.1 == i) && (!(q.1 == i + 1) && !(q.1 + 1 == i && q.2.category == 2))))) : LOK B0 ta ((ls.set i v).set (i + 1) dm) ls' nL := by
  refine ⟨⟨h'.1, by rw [List.length_set, List.length_set]; exact h.1.2⟩, h'.2.1, fun j w hj hw => ?_⟩
  rw [List.getElem?_set] at hj
  by_cases hi1 : i + 1 = j
  · rw [if_pos hi1] at hj
    by_cases hl : i + 1 < (ls.set i v).length
    · rw [if_pos hl] at hj
      exact absurd (Option.some.inj hj).symm hw
    · rw [if_neg hl] at hj; cases hj
  · rw [if_neg hi1, List.getElem?_set] at hj
    by_cases hij : i = j
    · subst hij
      rw [if_pos rfl] at hj
      by_cases hl : i < ls.length
      · rw [if_pos hl] at hj
        cases hj
        exact h'.2.2 (i, cv B0 ta v) List.mem_cons_self
      · rw [if_neg hl] at hj; cases hj
    · rw [if_neg hij] at hj
      refine h'.2.2 (j, cv B0 ta w) (List.mem_cons_of_mem _ (List.mem_filter.mpr ⟨lvof_mem.mpr ⟨w, hj, hw, rfl⟩, ?_⟩))
      simp only [Bool.and_eq_true, Bool.not_eq_true', beq_eq_false_iff_ne, Bool.and_eq_false_iff]
      refine ⟨Ne.symm hij, Ne.symm hi1, ?_⟩
      by_cases hi : j + 1 = i
      · right
        subst hi
        rw [cv_cat]
        unfold okS at ho
        simp only [Bool.and_eq_true] at ho
        have h2 := ho.2
        rw [hj] at h2
        cases w <;> simp_all [nlg, Value.category]
      · left; exact hi
theorem okS_lt {ls : List Value} {i : Nat} (h : okS ls i = true) : i < ls.length := by
  cases i with
  | zero => simpa [okS] using h
  | succ i => simp only [okS, Bool.and_eq_true, decide_eq_true_eq] at h; exact h.1
theorem va_S_cs {A : Nat → Prop} {H0 H : Heap} {locs : List Loc} (h : va_S A H0 H locs) : H0.size ≤ H.size := h.1
