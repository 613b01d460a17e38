/-! THE PICTURE OF THE HEAP: size, slots, shapes (0 ints, 1 longs, 2 booleans, 3 .. 6 references; 7 + c an object of class c), references, ints, longs -/
abbrev HP : Type := Nat × Nat × (Nat → Nat × Nat) × (Nat → Nat → Option Nat) × (Nat → Nat → Int32) × (Nat → Nat → Int64)
def u2 {α : Type} (f : Nat → Nat → α) (k j : Nat) (v : α) : Nat → Nat → α := fun a b => if a = k ∧ b = j then v else f a b
def ur {α : Type} (f : Nat → α) (k : Nat) (g : α) : Nat → α := fun a => if a = k then g else f a
def al (h : HP) (sh : Nat × Nat) (n : Nat) : HP := (h.1 + 1, h.2.1 + n, ur h.2.2.1 h.1 sh, ur h.2.2.2.1 h.1 (fun _ => none), ur h.2.2.2.2.1 h.1 (fun _ => 0), ur h.2.2.2.2.2 h.1 (fun _ => 0))
abbrev Cfg : Type := Nat × List Value × List Value × HP
abbrev Rs : Type := Option Value × HP
abbrev StpR : Type := Option (Cfg ⊕ Rs)
abbrev XX : Type := Nat × (Nat → Int32)
def dm : Value := .retAddr 9
/-- an address that is no cell of the picture: 0 the script, 1 and 2 the two tables -/
def tn (X : XX) (t : Nat) : Nat := match t with | 0 => X.1 | 1 => 8 | 2 => 32 | _ => 0
def tab1 : List Int32 := [-1, 0, 0, 1, 2, 0, 0, 6]
def tab2 : List Int32 := [1, 10, 11, 2, 20, 0, 0, 0, 0, 30, 0, 0, 41, 0, 40, 0, 0, 0, 0, 50, 0, 0, 60, 0, 0, 70, 0, 0, 80, 0, 0, 81]
def tv (X : XX) (t : Nat) (j : Nat) : Int32 := match t with | 0 => X.2 j | 1 => tab1.getD j 0 | 2 => tab2.getD j 0 | _ => 0
def isA (v : Value) : Bool := match v with | .ref _ => true | .null => true | .retAddr t => decide (t < 3) | _ => false
abbrev inb (i : Int32) (n : Nat) : Prop := ¬ (i < 0 ∨ n ≤ i.toNatClampNeg)
def isB (v : Value) : Bool := match v with | .ref _ => true | .null => true | _ => false
def kil (k : List Nat) (ls : List Value) : List Value := match k with | [] => ls | i :: r => kil r (ls.set i dm)
def nx (pc : Nat) (k : List Nat) (ls st : List Value) (h : HP) : StpR := some (.inl (pc, kil k ls, st, h))
def nlg (v : Option Value) : Bool := match v with | some (.long _) => false | some (.double _) => false | _ => true
/-- a store at i breaks no long -/
def okS (ls : List Value) (i : Nat) : Bool := match i with | 0 => decide (0 < ls.length) | j + 1 => decide (j + 1 < ls.length) && nlg (ls[j]?)
def cats (st : List Value) : Nat := (st.map fun v => v.category).sum
def rfv (r : Option Nat) : Value := match r with | none => .null | some a => .ref a
def swt (ps : List (Int × Int)) (d : Int) (x : Int32) : Nat := match ps with | [] => d.toNat | (a, o) :: r => if x = Int32.ofInt a then o.toNat else swt r d x
def nf (c : Nat) : Nat := (clsF.getD c []).length
def fT (c k : Nat) : Nat := ((clsF.getD c []).getD k ("", "", false, 9)).2.2.2
/-! ONE STEP -/
def s_ii (f : Int32 → Int32 → Int32) (pc : Nat) (k : List Nat) (ls st : List Value) (h : HP) : StpR := match st with | .int y :: .int x :: r => nx pc k ls (.int (f x y) :: r) h | _ => none
def s_jj (f : Int64 → Int64 → Int64) (pc : Nat) (k : List Nat) (ls st : List Value) (h : HP) : StpR := match st with | .long y :: .long x :: r => nx pc k ls (.long (f x y) :: r) h | _ => none
def s_ji (f : Int64 → Int32 → Int64) (pc : Nat) (k : List Nat) (ls st : List Value) (h : HP) : StpR := match st with | .int y :: .long x :: r => nx pc k ls (.long (f x y) :: r) h | _ => none
def s_mm (f : Int32 → Int32 → Int32) (pc : Nat) (k : List Nat) (ls st : List Value) (h : HP) : StpR := match st with | .int y :: .int x :: r => if cats r ≤ 8 then nx pc k ls (.int (f x y) :: r) h else none | _ => none
def s_ml (f : Int64 → Int64 → Int64) (pc : Nat) (k : List Nat) (ls st : List Value) (h : HP) : StpR := match st with | .long y :: .long x :: r => if cats r ≤ 8 then nx pc k ls (.long (f x y) :: r) h else none | _ => none
def s_if (c : Int32 → Prop) (d : ∀ x, Decidable (c x)) (t pc : Nat) (k2 k : List Nat) (ls st : List Value) (h : HP) : StpR := match st with | .int x :: r => if c x then nx t k2 ls r h else nx pc k ls r h | _ => none
def s_ic (c : Int32 → Int32 → Prop) (d : ∀ x y, Decidable (c x y)) (t pc : Nat) (k2 k : List Nat) (ls st : List Value) (h : HP) : StpR := match st with | .int y :: .int x :: r => if c x y then nx t k2 ls r h else nx pc k ls r h | _ => none
def s_get (c k : Nat) (pc : Nat) (kk : List Nat) (ls st : List Value) (h : HP) : StpR := match st with
  | .ref a :: r => if h.2.2.1 a = (c + 7, 0) ∧ k < nf c then
      match fT c k with | 1 => nx pc kk ls (.long (h.2.2.2.2.2 a k) :: r) h | 2 => nx pc kk ls (rfv (h.2.2.2.1 a k) :: r) h | _ => nx pc kk ls (.int (h.2.2.2.2.1 a k) :: r) h else none
  | _ => none
def s_put (c k : Nat) (pc : Nat) (kk : List Nat) (ls st : List Value) (h : HP) : StpR := match st with
  | v :: .ref a :: r => if h.2.2.1 a = (c + 7, 0) ∧ k < nf c then
      match fT c k, v with
      | 0, .int x => nx pc kk ls r (h.1, h.2.1, h.2.2.1, h.2.2.2.1, u2 h.2.2.2.2.1 a k x, h.2.2.2.2.2)
      | 3, .int x => if x = 0 ∨ x = 1 then nx pc kk ls r (h.1, h.2.1, h.2.2.1, h.2.2.2.1, u2 h.2.2.2.2.1 a k x, h.2.2.2.2.2) else none
      | 1, .long x => nx pc kk ls r (h.1, h.2.1, h.2.2.1, h.2.2.2.1, h.2.2.2.2.1, u2 h.2.2.2.2.2 a k x)
      | 2, .ref b => nx pc kk ls r (h.1, h.2.1, h.2.2.1, u2 h.2.2.2.1 a k (some b), h.2.2.2.2.1, h.2.2.2.2.2)
      | 2, .null => nx pc kk ls r (h.1, h.2.1, h.2.2.1, u2 h.2.2.2.1 a k none, h.2.2.2.2.1, h.2.2.2.2.2)
      | _, _ => none
    else none
  | _ => none
def s_iald (X : XX) (pc : Nat) (kk : List Nat) (ls st : List Value) (h : HP) : StpR := match st with
  | .int i :: .ref a :: r => if (h.2.2.1 a).1 = 0 ∧ inb i (h.2.2.1 a).2 then nx pc kk ls (.int (h.2.2.2.2.1 a i.toNatClampNeg) :: r) h else none
  | .int i :: .retAddr t :: r => if t < 3 ∧ inb i (tn X t) then nx pc kk ls (.int (tv X t i.toNatClampNeg) :: r) h else none
  | _ => none
def s_zald (pc : Nat) (kk : List Nat) (ls st : List Value) (h : HP) : StpR := match st with
  | .int i :: .ref a :: r => if (h.2.2.1 a).1 = 2 ∧ inb i (h.2.2.1 a).2 then nx pc kk ls (.int (h.2.2.2.2.1 a i.toNatClampNeg) :: r) h else none
  | _ => none
def s_lald (pc : Nat) (kk : List Nat) (ls st : List Value) (h : HP) : StpR := match st with
  | .int i :: .ref a :: r => if (h.2.2.1 a).1 = 1 ∧ inb i (h.2.2.1 a).2 then nx pc kk ls (.long (h.2.2.2.2.2 a i.toNatClampNeg) :: r) h else none
  | _ => none
def s_aald (pc : Nat) (kk : List Nat) (ls st : List Value) (h : HP) : StpR := match st with
  | .int i :: .ref a :: r => if (3 ≤ (h.2.2.1 a).1 ∧ (h.2.2.1 a).1 < 7) ∧ inb i (h.2.2.1 a).2 then nx pc kk ls (rfv (h.2.2.2.1 a i.toNatClampNeg) :: r) h else none
  | _ => none
def s_iast (pc : Nat) (kk : List Nat) (ls st : List Value) (h : HP) : StpR := match st with
  | .int x :: .int i :: .ref a :: r => if (h.2.2.1 a).1 = 0 ∧ inb i (h.2.2.1 a).2 then nx pc kk ls r (h.1, h.2.1, h.2.2.1, h.2.2.2.1, u2 h.2.2.2.2.1 a i.toNatClampNeg x, h.2.2.2.2.2) else none
  | _ => none
def s_zast (pc : Nat) (kk : List Nat) (ls st : List Value) (h : HP) : StpR := match st with
  | .int x :: .int i :: .ref a :: r => if ((h.2.2.1 a).1 = 2 ∧ inb i (h.2.2.1 a).2) ∧ (x = 0 ∨ x = 1) then nx pc kk ls r (h.1, h.2.1, h.2.2.1, h.2.2.2.1, u2 h.2.2.2.2.1 a i.toNatClampNeg x, h.2.2.2.2.2) else none
  | _ => none
def s_last (pc : Nat) (kk : List Nat) (ls st : List Value) (h : HP) : StpR := match st with
  | .long x :: .int i :: .ref a :: r => if (h.2.2.1 a).1 = 1 ∧ inb i (h.2.2.1 a).2 then nx pc kk ls r (h.1, h.2.1, h.2.2.1, h.2.2.2.1, h.2.2.2.2.1, u2 h.2.2.2.2.2 a i.toNatClampNeg x) else none
  | _ => none
/-- the class of the objects that an array of shape t holds -/
def tcl (t : Nat) : Nat := match t with | 3 => 8 | 4 => 3 | 5 => 9 | _ => 7
def s_aast (pc : Nat) (kk : List Nat) (ls st : List Value) (h : HP) : StpR := match st with
  | .ref b :: .int i :: .ref a :: r => if ((3 ≤ (h.2.2.1 a).1 ∧ (h.2.2.1 a).1 < 7) ∧ inb i (h.2.2.1 a).2) ∧ h.2.2.1 b = (tcl (h.2.2.1 a).1 + 7, 0) then nx pc kk ls r (h.1, h.2.1, h.2.2.1, u2 h.2.2.2.1 a i.toNatClampNeg (some b), h.2.2.2.2.1, h.2.2.2.2.2) else none
  | _ => none
def s_len (X : XX) (pc : Nat) (kk : List Nat) (ls st : List Value) (h : HP) : StpR := match st with
  | .ref a :: r => if (h.2.2.1 a).1 < 7 then nx pc kk ls (.int (Int32.ofNat (h.2.2.1 a).2) :: r) h else none
  | .retAddr t :: r => if t < 3 then nx pc kk ls (.int (Int32.ofNat (tn X t)) :: r) h else none
  | _ => none
def s_newa (t : Nat) (pc : Nat) (kk : List Nat) (ls st : List Value) (h : HP) : StpR := match st with
  | .int n :: r => if ¬ n < 0 ∧ n.toNatClampNeg ≤ 60000 then nx pc kk ls (.ref h.1 :: r) (al h (t, n.toNatClampNeg) n.toNatClampNeg) else none
  | _ => none
def s_copy (pc : Nat) (kk : List Nat) (ls st : List Value) (h : HP) : StpR := match st with
  | .int n :: .int dp :: .ref a :: .int sp :: .ref a0 :: r =>
    if ((¬ sp < 0 ∧ ¬ dp < 0 ∧ ¬ n < 0) ∧ sp.toNatClampNeg + n.toNatClampNeg ≤ (h.2.2.1 a0).2 ∧ dp.toNatClampNeg + n.toNatClampNeg ≤ (h.2.2.1 a).2) ∧ cats r ≤ 8 then
      (if (h.2.2.1 a0).1 = 0 ∧ (h.2.2.1 a).1 = 0 then nx pc kk ls r (h.1, h.2.1, h.2.2.1, h.2.2.2.1, ur h.2.2.2.2.1 a (va_cpy (h.2.2.2.2.1 a0) (h.2.2.2.2.1 a) sp.toNatClampNeg dp.toNatClampNeg n.toNatClampNeg), h.2.2.2.2.2)
       else if (h.2.2.1 a0).1 = 1 ∧ (h.2.2.1 a).1 = 1 then nx pc kk ls r (h.1, h.2.1, h.2.2.1, h.2.2.2.1, h.2.2.2.2.1, ur h.2.2.2.2.2 a (va_cpy (h.2.2.2.2.2 a0) (h.2.2.2.2.2 a) sp.toNatClampNeg dp.toNatClampNeg n.toNatClampNeg))
       else none) else none
  | _ => none
def s_callV (w : Nat) (cr : Nat → List Value → HP → Option Rs) (z : Nat) (pc : Nat) (kk : List Nat) (ls st : List Value) (h : HP) : StpR := match st.drop (pna z) with
  | .ref b :: r => if h.2.2.1 b = (pci z + 7, 0) ∧ cats r ≤ w then (cr z (.ref b :: (st.take (pna z)).reverse) h).bind fun q => nx pc kk ls (q.1.toList ++ r) q.2 else none
  | _ => none
def s_callS (cr : Nat → List Value → HP → Option Rs) (z : Nat) (pc : Nat) (kk : List Nat) (ls st : List Value) (h : HP) : StpR :=
  if pna z ≤ st.length ∧ cats (st.drop (pna z)) ≤ 8 then (cr z (st.take (pna z)).reverse h).bind fun q => nx pc kk ls (q.1.toList ++ st.drop (pna z)) q.2 else none
def s_iret (y : Nat) (st : List Value) (h : HP) : StpR := match st with
  | [.int v] => if pret y = some .int ∨ (pret y = some .boolean ∧ (v = 0 ∨ v = 1)) then some (.inr (some (.int v), h)) else none
  | _ => none
def stI (X : XX) (cr : Nat → List Value → HP → Option Rs) (y : Nat) (i : Instr) (pc n : Nat) (k k2 : List Nat) (ls st : List Value) (h : HP) : StpR := match i with
  | .iconst v => nx (pc + n) k ls (.int (Int32.ofInt v) :: st) h
  | .jsr_w v => nx (pc + n) k ls (.long (Int64.ofInt v) :: st) h
  | .aconst_null => nx (pc + n) k ls (.null :: st) h
  | .iload i => (match ls[i]? with | some (.int x) => nx (pc + n) k ls (.int x :: st) h | _ => none)
  | .lload i => (match ls[i]? with | some (.long x) => nx (pc + n) k ls (.long x :: st) h | _ => none)
  | .aload i => (match ls[i]? with | some v => if isA v = true then nx (pc + n) k ls (v :: st) h else none | _ => none)
  | .istore i => (match st with | .int x :: r => if okS ls i = true then nx (pc + n) k (ls.set i (.int x)) r h else none | _ => none)
  | .lstore i => (match st with | .long x :: r => if okS ls i = true ∧ i + 1 < ls.length then nx (pc + n) k ((ls.set i (.long x)).set (i + 1) dm) r h else none | _ => none)
  | .astore i => (match st with | v :: r => if isB v = true ∧ okS ls i = true then nx (pc + n) k (ls.set i v) r h else none | _ => none)
  | .iinc i c => (match ls[i]? with | some (.int x) => if okS ls i = true then nx (pc + n) k (ls.set i (.int (x + Int32.ofInt c))) st h else none | _ => none)
  | .iadd => s_ii (fun x y => x + y) (pc + n) k ls st h
  | .isub => s_ii (fun x y => x - y) (pc + n) k ls st h
  | .imul => s_ii (fun x y => x * y) (pc + n) k ls st h
  | .iand => s_ii (fun x y => x &&& y) (pc + n) k ls st h
  | .ior => s_ii (fun x y => x ||| y) (pc + n) k ls st h
  | .ixor => s_ii (fun x y => x ^^^ y) (pc + n) k ls st h
  | .ishl => s_ii (fun x y => x <<< (y &&& 31)) (pc + n) k ls st h
  | .ishr => s_ii (fun x y => x >>> (y &&& 31)) (pc + n) k ls st h
  | .iushr => s_ii (fun x y => (x.toUInt32 >>> (y.toUInt32 &&& Int32.toUInt32 31)).toInt32) (pc + n) k ls st h
  | .idiv => (match st with | .int y :: .int x :: r => if y = 0 then none else nx (pc + n) k ls (.int (x / y) :: r) h | _ => none)
  | .irem => (match st with | .int y :: .int x :: r => if y = 0 then none else nx (pc + n) k ls (.int (x - x / y * y) :: r) h | _ => none)
  | .ineg => (match st with | .int x :: r => nx (pc + n) k ls (.int (-x) :: r) h | _ => none)
  | .ladd => s_jj (fun x y => x + y) (pc + n) k ls st h
  | .lsub => s_jj (fun x y => x - y) (pc + n) k ls st h
  | .lmul => s_jj (fun x y => x * y) (pc + n) k ls st h
  | .land => s_jj (fun x y => x &&& y) (pc + n) k ls st h
  | .lor => s_jj (fun x y => x ||| y) (pc + n) k ls st h
  | .lshl => s_ji (fun x y => x <<< (y.toInt64 &&& 63)) (pc + n) k ls st h
  | .ldiv => (match st with | .long y :: .long x :: r => if y = 0 then none else nx (pc + n) k ls (.long (x / y) :: r) h | _ => none)
  | .lneg => (match st with | .long x :: r => nx (pc + n) k ls (.long (-x) :: r) h | _ => none)
  | .lcmp => (match st with | .long y :: .long x :: r => nx (pc + n) k ls (.int (lg_cmp x y) :: r) h | _ => none)
  | .i2l => (match st with | .int x :: r => nx (pc + n) k ls (.long x.toInt64 :: r) h | _ => none)
  | .l2i => (match st with | .long x :: r => nx (pc + n) k ls (.int x.toInt32 :: r) h | _ => none)
  | .i2b => (match st with | .int x :: r => nx (pc + n) k ls (.int x.toInt8.toInt32 :: r) h | _ => none)
  | .i2s => (match st with | .int x :: r => nx (pc + n) k ls (.int x.toInt16.toInt32 :: r) h | _ => none)
  | .dup => (match st with | v :: r => if v.category = 1 then nx (pc + n) k ls (v :: v :: r) h else none | _ => none)
  | .pop => (match st with | v :: r => if v.category = 1 then nx (pc + n) k ls r h else none | _ => none)
  | .dup_x1 => (match st with | v :: w :: r => if v.category = 1 ∧ w.category = 1 then nx (pc + n) k ls (v :: w :: v :: r) h else none | _ => none)
  | .dup2 => (match st with | v :: w :: r => if v.category = 1 ∧ w.category = 1 then nx (pc + n) k ls (v :: w :: v :: w :: r) h else none | _ => none)
  | .fadd => s_mm (fun x y => if x < y then y else x) (pc + n) k ls st h
  | .fsub => s_mm (fun x y => if y < x then y else x) (pc + n) k ls st h
  | .fneg => (match st with | .int x :: r => if cats r ≤ 8 then nx (pc + n) k ls (.int (if 0 ≤ x then x else 0 - x) :: r) h else none | _ => none)
  | .dadd => s_ml (fun x y => if y < x then x else y) (pc + n) k ls st h
  | .dsub => s_ml (fun x y => if y < x then y else x) (pc + n) k ls st h
  | .dneg => (match st with | .long x :: r => if cats r ≤ 8 then nx (pc + n) k ls (.long (if 0 < x then x else -x) :: r) h else none | _ => none)
  | .goto t => nx t.toNat k2 ls st h
  | .ifCond .eq t => s_if (fun x => x = 0) (fun _ => inferInstance) t.toNat (pc + n) k2 k ls st h
  | .ifCond .ne t => s_if (fun x => ¬ x = 0) (fun _ => inferInstance) t.toNat (pc + n) k2 k ls st h
  | .ifCond .lt t => s_if (fun x => x < 0) (fun _ => inferInstance) t.toNat (pc + n) k2 k ls st h
  | .ifCond .ge t => s_if (fun x => 0 ≤ x) (fun _ => inferInstance) t.toNat (pc + n) k2 k ls st h
  | .ifCond .gt t => s_if (fun x => 0 < x) (fun _ => inferInstance) t.toNat (pc + n) k2 k ls st h
  | .ifCond .le t => s_if (fun x => x ≤ 0) (fun _ => inferInstance) t.toNat (pc + n) k2 k ls st h
  | .if_icmp .eq t => s_ic (fun x y => x = y) (fun _ _ => inferInstance) t.toNat (pc + n) k2 k ls st h
  | .if_icmp .ne t => s_ic (fun x y => ¬ x = y) (fun _ _ => inferInstance) t.toNat (pc + n) k2 k ls st h
  | .if_icmp .lt t => s_ic (fun x y => x < y) (fun _ _ => inferInstance) t.toNat (pc + n) k2 k ls st h
  | .if_icmp .ge t => s_ic (fun x y => y ≤ x) (fun _ _ => inferInstance) t.toNat (pc + n) k2 k ls st h
  | .if_icmp .gt t => s_ic (fun x y => y < x) (fun _ _ => inferInstance) t.toNat (pc + n) k2 k ls st h
  | .if_icmp .le t => s_ic (fun x y => x ≤ y) (fun _ _ => inferInstance) t.toNat (pc + n) k2 k ls st h
  | .ifnull t => (match st with | .null :: r => nx t.toNat k2 ls r h | .ref _ :: r => nx (pc + n) k ls r h | _ => none)
  | .ifnonnull t => (match st with | .null :: r => nx (pc + n) k ls r h | .ref _ :: r => nx t.toNat k2 ls r h | _ => none)
  | .lookupswitch d ps => (match st with | .int x :: r => nx (swt ps.toList d x) k ls r h | _ => none)
  | .getfield c => s_get (c / 1000) (c % 1000) (pc + n) k ls st h
  | .putfield c => s_put (c / 1000) (c % 1000) (pc + n) k ls st h
  | .getstatic t => nx (pc + n) k ls (.retAddr t :: st) h
  | .iaload => s_iald X (pc + n) k ls st h
  | .baload => s_zald (pc + n) k ls st h
  | .laload => s_lald (pc + n) k ls st h
  | .aaload => s_aald (pc + n) k ls st h
  | .iastore => s_iast (pc + n) k ls st h
  | .bastore => s_zast (pc + n) k ls st h
  | .lastore => s_last (pc + n) k ls st h
  | .aastore => s_aast (pc + n) k ls st h
  | .arraylength => s_len X (pc + n) k ls st h
  | .newarray .int => s_newa 0 (pc + n) k ls st h
  | .newarray .long => s_newa 1 (pc + n) k ls st h
  | .newarray .boolean => s_newa 2 (pc + n) k ls st h
  | .anewarray t => s_newa t (pc + n) k ls st h
  | .new c => nx (pc + n) k ls (.ref h.1 :: st) (al h (c + 7, 0) (nf c))
  | .monitorexit => (match st with | .ref _ :: r => if cats r ≤ 8 then nx (pc + n) k ls r h else none | _ => none)
  | .monitorenter => s_copy (pc + n) k ls st h
  | .invokevirtual z => s_callV 9 cr z (pc + n) k ls st h
  | .invokespecial z => s_callV 8 cr z (pc + n) k ls st h
  | .invokestatic z => s_callS cr z (pc + n) k ls st h
  | .ireturn => s_iret y st h
  | .lreturn => (match st with | [.long v] => if pret y = some .long then some (.inr (some (.long v), h)) else none | _ => none)
  | .areturn => (match st with | [v] => if isB v = true ∧ rfR (pret y) = true then some (.inr (some v, h)) else none | _ => none)
  | .return_ => (match st with | [] => if pret y = none then some (.inr (none, h)) else none | _ => none)
  | _ => none
def stp (X : XX) (cr : Nat → List Value → HP → Option Rs) (y : Nat) (c : Cfg) : StpR := match fr y c.1 with
  | some (i, n, k, k2) => stI X cr y i c.1 n k k2 c.2.1 c.2.2.1 c.2.2.2
  | none => none
def itr (X : XX) (cr : Nat → List Value → HP → Option Rs) (y : Nat) : Nat → Cfg → Option Rs
  | 0, _ => none
  | n + 1, c => match stp X cr y c with
    | some (.inl c') => itr X cr y n c'
    | some (.inr r) => some r
    | none => none
noncomputable def lim (f : Nat → Option Rs) : Option Rs := @dite _ (∃ n, (f n).isSome = true) (Classical.propDecidable _) (fun h => f (Classical.choose h)) (fun _ => none)
def sprd : List Value → List Value
  | [] => []
  | v :: r => if v.category = 2 then v :: dm :: sprd r else v :: sprd r
def ent (y : Nat) (as : List Value) : List Value := sprd as ++ List.replicate (pml y - (sprd as).length) dm
noncomputable def ev (X : XX) : Nat → Nat → List Value → HP → Option Rs
  | 0, _, _, _ => none
  | d + 1, y, as, h => if (sprd as).length ≤ pml y then lim (fun n => itr X (ev X d) y n (0, ent y as, [], h)) else none
noncomputable def exe (X : XX) (d y pc : Nat) (ls st : List Value) (h : HP) : Option Rs := lim (fun n => itr X (ev X d) y n (pc, ls, st, h))
/-! what the limit says -/
theorem itr_det {X : XX} {cr : Nat → List Value → HP → Option Rs} {y : Nat} : ∀ (n m : Nat) (c : Cfg) (r r' : Rs), itr X cr y n c = some r → itr X cr y m c = some r' → r = r'
  | 0, _, _, _, _, h, _ => by cases h
  | n + 1, 0, _, _, _, _, h => by cases h
  | n + 1, m + 1, c, r, r', h1, h2 => by
    rw [itr] at h1 h2
    cases hs : stp X cr y c with
    | none => rw [hs] at h1; cases h1
    | some q =>
      rw [hs] at h1 h2
      cases q with
      | inl c' => exact itr_det n m c' r r' h1 h2
      | inr q => exact (Option.some.inj h1).symm.trans (Option.some.inj h2)
theorem lim_iff {X : XX} {cr : Nat → List Value → HP → Option Rs} {y : Nat} {c : Cfg} {r : Rs} : lim (fun n => itr X cr y n c) = some r ↔ ∃ n, itr X cr y n c = some r := by
  unfold lim
  by_cases h : ∃ n, (itr X cr y n c).isSome = true
  · rw [dif_pos h]
    obtain ⟨r', hr'⟩ := Option.isSome_iff_exists.mp (Classical.choose_spec h)
    constructor
    · intro e; exact ⟨_, e⟩
    · rintro ⟨n, hn⟩
      exact hr'.trans (congrArg some (itr_det _ _ _ _ _ hr' hn))
  · rw [dif_neg h]
    constructor
    · intro e; cases e
    · rintro ⟨n, hn⟩
      exact absurd ⟨n, by rw [hn]; rfl⟩ h
theorem exe_iff {X : XX} {d y pc : Nat} {ls st : List Value} {h : HP} {r : Rs} : exe X d y pc ls st h = some r ↔ ∃ n, itr X (ev X d) y n (pc, ls, st, h) = some r := lim_iff
theorem exe_go {X : XX} {d y pc pc' : Nat} {ls st ls' st' : List Value} {h h' : HP} (e : stp X (ev X d) y (pc, ls, st, h) = some (.inl (pc', ls', st', h'))) : exe X d y pc ls st h = exe X d y pc' ls' st' h' := by
  apply Option.ext
  intro r
  rw [exe_iff, exe_iff]
  constructor
  · rintro ⟨n, hn⟩
    cases n with
    | zero => cases hn
    | succ n => rw [itr, e] at hn; exact ⟨n, hn⟩
  · rintro ⟨n, hn⟩
    exact ⟨n + 1, by rw [itr, e]; exact hn⟩
theorem exe_end {X : XX} {d y pc : Nat} {ls st : List Value} {h : HP} {r : Rs} (e : stp X (ev X d) y (pc, ls, st, h) = some (.inr r)) : exe X d y pc ls st h = some r := exe_iff.mpr ⟨1, by rw [itr, e]⟩
theorem exe_no {X : XX} {d y pc : Nat} {ls st : List Value} {h : HP} (e : stp X (ev X d) y (pc, ls, st, h) = none) : exe X d y pc ls st h = none := by
  apply Option.ext
  intro r
  rw [exe_iff]
  constructor
  · rintro ⟨n, hn⟩
    cases n with
    | zero => cases hn
    | succ n => rw [itr, e] at hn; cases hn
  · intro q; cases q
/-- what a step gives is what follows -/
theorem exe_st {X : XX} {d y pc : Nat} {ls st : List Value} {h : HP} {s : StpR} (e : stp X (ev X d) y (pc, ls, st, h) = s) : exe X d y pc ls st h = s.bind fun q => match q with | .inl c => exe X d y c.1 c.2.1 c.2.2.1 c.2.2.2 | .inr r => some r := by
  cases s with
  | none => exact exe_no e
  | some q => cases q with
    | inl c => exact exe_go e
    | inr r => exact exe_end e
theorem ev_exe {X : XX} {d y : Nat} {as : List Value} {h : HP} (hl : (sprd as).length ≤ pml y) : ev X (d + 1) y as h = exe X d y 0 (ent y as) [] h := by
  rw [ev, if_pos hl]; rfl
def hp0 : HP := (0, 0, fun _ => (1000000, 0), fun _ _ => none, fun _ _ => 0, fun _ _ => 0)
