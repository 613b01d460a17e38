/-! SWITCHES, COPIES, CALLS, RETURNS -/
theorem ofInt_iff {x : Int32} {a : Int} (h1 : -2147483648 ≤ a) (h2 : a ≤ 2147483647) : x = Int32.ofInt a ↔ x.toInt = a := by
  have e : (Int32.ofInt a).toInt = a := Int32.toInt_ofInt_of_le (by simpa using h1) (by simp; omega)
  constructor
  · rintro rfl; exact e
  · intro h; exact Int32.toInt_inj.mp (h.trans e.symm)
theorem swt_look {pc : Nat} {x : Int32} {d0 : Int} : ∀ (ps : List (Int × Int)), okT (ps.map fun q => (q.1, (pc : Int) + q.2)) ((pc : Int) + d0) = true → (pc : Int) + Op.lookupswitch.offset ps d0 x.toInt = (swt (ps.map fun q => (q.1, (pc : Int) + q.2)) ((pc : Int) + d0) x : Nat)
  | [], h => by
    unfold okT at h
    simp only [Bool.and_eq_true, decide_eq_true_eq] at h
    show (pc : Int) + d0 = (((pc : Int) + d0).toNat : Int)
    rw [Int.toNat_of_nonneg h.1]
  | (a, o) :: r, h => by
    have h' := h
    unfold okT at h
    simp only [Bool.and_eq_true, decide_eq_true_eq, List.map_cons, List.all_cons] at h
    have hr : okT (r.map fun q => (q.1, (pc : Int) + q.2)) ((pc : Int) + d0) = true := by
      unfold okT
      simp only [Bool.and_eq_true, decide_eq_true_eq]
      exact ⟨h.1, h.2.2⟩
    have ih := swt_look (x := x) r hr
    rw [Op.lookupswitch.offset_cons, List.map_cons, swt]
    by_cases hx : x.toInt = a
    · rw [if_pos hx.symm, if_pos ((ofInt_iff h.2.1.1.2 h.2.1.2).mpr hx), Int.toNat_of_nonneg h.2.1.1.1]
    · rw [if_neg (fun z => hx z.symm), if_neg (fun z => hx ((ofInt_iff h.2.1.1.2 h.2.1.2).mp z))]
      exact ih
theorem swt_tab {x : Int32} {d lo : Int} {f : Nat → Int} : ∀ (k s : Nat), okT ((List.range' s k).map fun (j : Nat) => (lo + (j : Int), f j)) d = true → swt ((List.range' s k).map fun (j : Nat) => (lo + (j : Int), f j)) d x = if lo + (s : Int) ≤ x.toInt ∧ x.toInt < lo + (s : Int) + (k : Int) then (f (x.toInt - lo).toNat).toNat else d.toNat
  | 0, s, h => by
    rw [if_neg (by omega)]; rfl
  | k + 1, s, h => by
    unfold okT at h
    simp only [List.range'_succ, Bool.and_eq_true, decide_eq_true_eq, List.map_cons, List.all_cons] at h
    have hr : okT ((List.range' (s + 1) k).map fun (j : Nat) => (lo + (j : Int), f j)) d = true := by
      unfold okT
      simp only [Bool.and_eq_true, decide_eq_true_eq]
      exact ⟨h.1, h.2.2⟩
    rw [List.range'_succ, List.map_cons, swt]
    by_cases hx : x.toInt = lo + (s : Int)
    · rw [if_pos ((ofInt_iff h.2.1.1.2 h.2.1.2).mpr hx), if_pos (by omega), show (x.toInt - lo).toNat = s by omega]
    · rw [if_neg (fun z => hx ((ofInt_iff h.2.1.1.2 h.2.1.2).mp z)), swt_tab k (s + 1) hr]
      by_cases hc : lo + ((s + 1 : Nat) : Int) ≤ x.toInt ∧ x.toInt < lo + ((s + 1 : Nat) : Int) + (k : Int)
      · rw [if_pos hc, if_pos (by omega)]
      · rw [if_neg hc, if_neg (by omega)]
section STEP
variable {p : Program} {l : Launch} {e : Jvm.Env} {R : Room} {s : State} {m : MethodId} {args : Array Value} {below : List Frame} {meth : Method} {c : Code} {Q : State → Prop} {B0 : Nat} {ta : Nat → Nat} {cA : Nat → ClassId} {D : va_G} {X : XX} {y : Nat} {h0 : HP} {pc n : Nat} {k k2 : List Nat} {ls st : List Value} {h : HP} {c' : Cfg} {raw : Instr}
theorem st_switch (C : Ctx p s m args meth c B0 ta cA D X y) (hd : decode (pby y) pc = .ok (raw, n)) {d : Int} {ps : Array (Int × Int)} (hk : ck_sw pc d ps.toList raw = true) (hs : (match st with | .int x :: r => nx (swt ps.toList d x) k ls r h | _ => none : StpR) = some (.inl c')) (K : Sim p l e R s m args below meth c Q B0 ta cA D y h0 c') : Sim p l e R s m args below meth c Q B0 ta cA D y h0 (pc, ls, st, h) := by
  obtain ⟨⟨hx, hb, hml, hr⟩, ⟨hown, hts, hlk, hnm⟩, hE, hB⟩ := C
  split at hs
  · rename_i x r
    obtain rfl := nx_inv hs
    intro H locs lsA cells slots hP hS hL hc
    have K1 := K H locs lsA cells slots hP hS (hL.kil k) hc
    unfold ck_sw at hk
    split at hk
    · rename_i d0 ps0
      simp only [Bool.and_eq_true, decide_eq_true_eq] at hk
      obtain ⟨hsort, ⟨rfl, hps⟩, hok⟩ := hk
      rw [hps] at hok
      have e1 := swt_look (x := x) ps0.toList hok
      rw [← hps] at e1
      exact lv_lookup hx hb hd hsort rfl e1 K1
    · rename_i d0 lo hi offs
      simp only [Bool.and_eq_true, decide_eq_true_eq] at hk
      obtain ⟨⟨hsz, rfl⟩, hps, hok⟩ := hk
      rw [hps] at hok
      have hd0 : 0 ≤ (pc : Int) + d0 := by
        unfold okT at hok
        simp only [Bool.and_eq_true, decide_eq_true_eq] at hok
        exact hok.1
      have hnn : ∀ j : Nat, j < offs.size → 0 ≤ (pc : Int) + offs.getD j 0 := by
        intro j hj
        unfold okT at hok
        simp only [Bool.and_eq_true, decide_eq_true_eq] at hok
        have := List.all_eq_true.mp hok.2 (lo + (j : Int), (pc : Int) + offs.getD j 0) (List.mem_map.mpr ⟨j, List.mem_range'.mpr ⟨j, hj, by omega⟩, rfl⟩)
        simp only [Bool.and_eq_true, decide_eq_true_eq] at this
        exact this.1.1
      have e1 := swt_tab (x := x) offs.size 0 hok
      rw [← hps] at e1
      by_cases hin : lo ≤ x.toInt ∧ x.toInt ≤ hi
      · rw [if_pos (by omega)] at e1
        have hj : (x.toInt - lo).toNat < offs.size := by omega
        refine lv_tableIn (off := offs.getD (x.toInt - lo).toNat 0) hx hb hd (by omega) (by omega) ?_ ?_ K1
        · simp [Array.getD, hj]
        · show _ = ((swt ps.toList ((pc : Int) + d0) x : Nat) : Int)
          rw [e1, Int.toNat_of_nonneg (hnn _ hj)]
      · rw [if_neg (by omega)] at e1
        refine lv_tableOut hx hb hd (by omega) ?_ K1
        show _ = ((swt ps.toList ((pc : Int) + d0) x : Nat) : Int)
        rw [e1, Int.toNat_of_nonneg hd0]
    · cases hk
  · cases hs
theorem st_objinit (C : Ctx p s m args meth c B0 ta cA D X y) (CK : Chk) (hd : decode (pby y) pc = .ok (raw, n)) {pl : Nat} (hk : ck_obj y raw n pl = true) (hfr : 1 ≤ R.frames) (hlo : 60 ≤ R.locals) (hs : (match st with | .ref _ :: r => if cats r ≤ 8 then nx (pc + n) k ls r h else none | _ => none : StpR) = some (.inl c')) (K : Sim p l e R s m args below meth c Q B0 ta cA D y h0 c') : Sim p l e R s m args below meth c Q B0 ta cA D y h0 (pc, ls, st, h) := by
  obtain ⟨⟨hx, hb, hml, hr⟩, ⟨hown, hts, hlk, hnm⟩, hE, hB⟩ := C
  unfold ck_obj at hk
  split at hk
  · simp only [Bool.and_eq_true, decide_eq_true_eq] at hk
    obtain ⟨hw, rfl⟩ := hk
    split at hs
    · rename_i a r
      split at hs
      · rename_i hcat
        obtain rfl := nx_inv hs
        intro H locs lsA cells slots hP hS hL hc
        refine W.objInit hx hb hown (hts _ (hasW_in hw)) (hts _ CK.2.2.2.2.2.2.2.2.1.1) (hts _ CK.2.2.2.2.2.2.2.2.1.2) rfl (by rw [hml]; exact hL.1.1) rfl hd hfr ?_ ?_
        · have := lv_room (m := m) (pc := pc) (ls := lsA) (rest := r.map (cv B0 ta)) (st := r.map (cv B0 ta)) (by rw [cats_cv r (fun _ _ => trivial)]; exact hcat)
          exact Nat.le_trans (Nat.add_le_add_right this 12) (by omega)
        · exact K H locs lsA cells slots hP hS (hL.kil k) hc
      · cases hs
    · cases hs
  · cases hk
theorem st_copy (C : Ctx p s m args meth c B0 ta cA D X y) (CK : Chk) (hd : decode (pby y) pc = .ok (raw, n)) {pl : Nat} (hk : ck_copy y raw n pl = true) (hfr : 1 ≤ R.frames) (hlo : 60 ≤ R.locals) (hs : s_copy (pc + n) k ls st h = some (.inl c')) (K : Sim p l e R s m args below meth c Q B0 ta cA D y h0 c') : Sim p l e R s m args below meth c Q B0 ta cA D y h0 (pc, ls, st, h) := by
  obtain ⟨⟨hx, hb, hml, hr⟩, ⟨hown, hts, hlk, hnm⟩, hE, hB⟩ := C
  unfold ck_copy at hk
  split at hk
  · simp only [Bool.and_eq_true, decide_eq_true_eq] at hk
    obtain ⟨hw, rfl⟩ := hk
    unfold s_copy at hs
    split at hs
    · rename_i nn dp a sp a0 r
      split at hs
      · rename_i hcd
        have hlo2 : ((r.map (cv B0 ta)).map fun v => v.category).sum + (nativeFrameWords "java/lang/System" "arraycopy" 5 + 11) ≤ R.locals := by
          rw [cats_cv r (fun _ _ => trivial)]
          have : nativeFrameWords "java/lang/System" "arraycopy" 5 ≤ 40 := by decide +kernel
          have := hcd.2
          omega
        split at hs
        · rename_i hz
          obtain rfl := nx_inv hs
          intro H locs lsA cells slots hP hS hL hc
          have ha0 : a0 < h.1 := (show InvH h from hc.2).lt hz.1 (by omega)
          have ha : a < h.1 := (show InvH h from hc.2).lt hz.2 (by omega)
          have he0 := wsO_get (B0 := B0) (cA := cA) ha0
          have he := wsO_get (B0 := B0) (cA := cA) ha
          rw [cellO_0 hz.1] at he0
          rw [cellO_0 hz.2] at he
          refine va_copyi hx hb (by rw [hml]; exact hL.1.1.symm) hown (hts _ (hasW_in hw)) (hts _ CK.2.2.2.2.2.2.2.2.2.1) (hts _ CK.2.2.2.2.2.2.2.2.2.2.1) (hts _ CK.2.2.2.2.2.2.2.2.2.2.2) hE.1.1 hP wsO_D hS a0 a 0 0 he0 he rfl rfl rfl hcd.1.1.1 hcd.1.1.2.1 hcd.1.1.2.2 hcd.1.2.1 hcd.1.2.2 (fun _ _ => rfl) hfr hlo2 hd (fun H1 locs1 hP1 _ hS1 => ?_)
          refine K H1 locs1 lsA cells slots ?_ hS1 (hL.kil k) hc
          rw [← wsO_set (k := a) (h := h) (h' := (h.1, h.2.1, h.2.2.1, h.2.2.2.1, ur h.2.2.2.2.1 a (va_cpy (h.2.2.2.2.1 a0) (h.2.2.2.2.1 a) sp.toNatClampNeg dp.toNatClampNeg nn.toNatClampNeg), h.2.2.2.2.2)) rfl (fun j hj => cellO_same rfl rfl (ur_ne hj) rfl), cellO_0 (show (((h.1, h.2.1, h.2.2.1, h.2.2.2.1, ur h.2.2.2.2.1 a (va_cpy (h.2.2.2.2.1 a0) (h.2.2.2.2.1 a) sp.toNatClampNeg dp.toNatClampNeg nn.toNatClampNeg), h.2.2.2.2.2) : HP).2.2.1 a).1 = 0 from hz.2)]
          show va_P D cls ((wsO B0 cA h).set a (B0 + a, .inl (cA 0, (h.2.2.1 a).2, .inl (ur h.2.2.2.2.1 a _ a)))) H1
          rw [ur_eq]
          exact hP1
        · split at hs
          · rename_i hz
            obtain rfl := nx_inv hs
            intro H locs lsA cells slots hP hS hL hc
            have ha0 : a0 < h.1 := (show InvH h from hc.2).lt hz.1 (by omega)
            have ha : a < h.1 := (show InvH h from hc.2).lt hz.2 (by omega)
            have he0 := wsO_get (B0 := B0) (cA := cA) ha0
            have he := wsO_get (B0 := B0) (cA := cA) ha
            rw [cellO_1 hz.1] at he0
            rw [cellO_1 hz.2] at he
            refine va_copyl hx hb (by rw [hml]; exact hL.1.1.symm) hown (hts _ (hasW_in hw)) (hts _ CK.2.2.2.2.2.2.2.2.2.1) (hts _ CK.2.2.2.2.2.2.2.2.2.2.1) (hts _ CK.2.2.2.2.2.2.2.2.2.2.2) hE.1.1 hP wsO_D hS a0 a 1 1 he0 he rfl rfl rfl hcd.1.1.1 hcd.1.1.2.1 hcd.1.1.2.2 hcd.1.2.1 hcd.1.2.2 (fun _ _ => rfl) hfr hlo2 hd (fun H1 locs1 hP1 _ hS1 => ?_)
            refine K H1 locs1 lsA cells slots ?_ hS1 (hL.kil k) hc
            rw [← wsO_set (k := a) (h := h) (h' := (h.1, h.2.1, h.2.2.1, h.2.2.2.1, h.2.2.2.2.1, ur h.2.2.2.2.2 a (va_cpy (h.2.2.2.2.2 a0) (h.2.2.2.2.2 a) sp.toNatClampNeg dp.toNatClampNeg nn.toNatClampNeg))) rfl (fun j hj => cellO_same rfl rfl rfl (ur_ne hj)), cellO_1 (show (((h.1, h.2.1, h.2.2.1, h.2.2.2.1, h.2.2.2.2.1, ur h.2.2.2.2.2 a (va_cpy (h.2.2.2.2.2 a0) (h.2.2.2.2.2 a) sp.toNatClampNeg dp.toNatClampNeg nn.toNatClampNeg)) : HP).2.2.1 a).1 = 1 from hz.2)]
            show va_P D cls ((wsO B0 cA h).set a (B0 + a, .inl (cA 1, (h.2.2.1 a).2, .inr (.inl (ur h.2.2.2.2.2 a _ a))))) H1
            rw [ur_eq]
            exact hP1
          · cases hs
      · cases hs
    · cases hs
  · cases hk
/-- behind a call -/
theorem call_x {H : Heap} {locs : List Loc} {lsA : Array Slot} {cells slots mc ms : Nat} {st0 rest : List Value} {a : Array Value} {r : Rs} (hr : va_Run p l e R s m args below meth c H locs cells slots mc ms (F0 m pc lsA st0) rest (Qx B0 ta cA D r a) (A0 B0)) (hS : va_S (A0 B0) s.heap H locs)
    (kk : ∀ (H1 : Heap) (locs1 : List Loc), va_P D cls (wsO B0 cA r.2) H1 → va_S (A0 B0) s.heap H1 locs1 → W p l e R s m args below meth c H1 locs1 (cells + mc) (slots + ms) Q (F0 m (pc + 3) lsA ((r.1.map (cv B0 ta)).toList ++ rest))) : W p l e R s m args below meth c H locs cells slots Q (F0 m pc lsA st0) := by
  intro T hT X
  obtain ⟨v, st₀, t, T', L, e0, X', hL, e1, e2, ⟨⟨hv, hb⟩, hz, hk⟩, st⟩ := hr T hT X
  cases hv
  rw [e0] at hz hk
  obtain ⟨t2, a1, b1⟩ := kk T'.heap (locs ++ L) (by rw [e1]; exact hb)
    ⟨Nat.le_trans hS.1 (by rw [e1]; exact hz), fun q g1 g2 => by rw [e1, hk q (Nat.lt_of_lt_of_le g1 hS.1) g2]; exact hS.2.1 q g1 g2, fun q hq => by
      rcases List.mem_append.mp hq with g | g
      · exact hS.2.2 q g
      · exact hL q g⟩ T' rfl X'
  exact ⟨t2, st t2 a1, b1⟩
theorem EnvS.moved {u U : State} (h : EnvS B0 ta cA D X u) (hvm : u.vm.Alike U.vm) (hh : ∀ a : Nat, a < u.heap.size → ¬ A0 B0 a → U.heap[a]? = u.heap[a]?) : EnvS B0 ta cA D X U :=
  ⟨⟨va_K.moved hvm h.1.1, fun t h3 h7 => va_AO.moved hvm (h.1.2 t h3 h7)⟩, fun t ht => ((h.2.1 t ht).moved hvm).kept hh, ((h.2.2.1).moved hvm).kept hh, ((h.2.2.2).moved hvm).kept hh⟩
theorem py_pre {H : Heap} {locs : List Loc} {av : List Value} (hE : EnvS B0 ta cA D X s) (hS : va_S (A0 B0) s.heap H locs) (hz : H.size = B0 + h.1) (hP : va_P D cls (wsO B0 cA h) H) : PreS s H (va_Pc av (PyB B0 ta cA D X h)) av := by
  refine ⟨fun a U g mk q => ?_, fun U hU hW => ⟨rfl, ⟨by rw [hU]; exact hz, by rw [hU]; exact hP⟩, hE.moved hW.alike (fun a g1 g2 => by rw [hU]; exact hS.2.1 a g1 g2)⟩⟩
  obtain ⟨q1, q2, q3⟩ := q
  exact ⟨q1, q2, q3.moved (Vm.Alike.refl U.vm) (fun _ _ _ => rfl)⟩
theorem gw (CK : Chk) {z : Nat} (hz : z < NY) (h0z : 0 < z) : GoodIn Tg (wsy z) := by
  have h := CK.2.1 z hz
  unfold hdB at h
  simp only [Bool.and_eq_true, Bool.or_eq_true, decide_eq_true_eq] at h
  intro w hw
  rcases List.mem_cons.mp hw with rfl | hw
  · rcases h.1 with h1 | h1
    · exact ⟨hasW_in h1, Tg_good (hasW_in h1)⟩
    · omega
  · exact ⟨hw, Tg_good hw⟩
theorem gi {w : Cond} {ws : List Cond} (hw : w ∈ Tg) (h : GoodIn Tg ws) : GoodIn Tg (w :: ws) := by
  intro v hv
  rcases List.mem_cons.mp hv with rfl | hv
  · exact ⟨hw, Tg_good hw⟩
  · exact h v hv
theorem hd_z (CK : Chk) {z : Nat} (hz : z < NY) : (own z ≠ "java/lang/invoke/MethodHandle" ∧ own z ≠ "java/lang/invoke/VarHandle" ∧ (parseMethodDescriptor (pnm z).desc).map (fun d => d.parameters.length) = some (pna z)) ∧ pml z ≤ 40 := by
  have h := CK.2.1 z hz
  unfold hdB at h
  simp only [Bool.and_eq_true, Bool.or_eq_true, decide_eq_true_eq] at h
  exact ⟨⟨h.2.1.2.1, h.2.1.2.2, h.2.2.1⟩, h.2.2.2⟩
/-- nine words may lie under the receiver (one call of the reference wants it) -/
theorem lv_room9 {m : MethodId} {pc : Nat} {ls : Array Slot} {rest st : List Value} (h : (st.map fun v => v.category).sum ≤ 9) : 2 * (F0 m pc ls rest).monitorRoom + (st.map fun v => v.category).sum ≤ 9 := by
  show 2 * 0 + _ ≤ 9
  omega
theorem va_runV9 {p : Program} {l : Launch} {e : Jvm.Env} {R : Room} {s : State} {m : MethodId} {args : Array Value} {below : List Frame} {meth : Method} {c : Code} {H : Heap} {locs : List Loc} {cells slots : Nat}
    {z : MethodName} {bytes cc : ByteArray} {maxL nL mc ms n index : Nat} {ret : Option FieldType} {ws : List Cond} {rm : Room} {Pc : Array Value → State → Prop} {Qc : Array Value → State → Outcome → State → Prop} {free : Addr → Prop} {Ts : List Cond} {own C : String} {b : Addr} {As rest : List Value} {g : JFrame}
    (S : CallFix p m c cc nL s args Ts own) (hM : Met l z ws rm Pc Qc mc ms free) (cw : CallW R s args own C index z bytes maxL ret ws rm mc ms n) (h9 : 9 + (maxL + 11) + rm.locals ≤ R.locals) (hp : PreV s H C b Pc As)
    (hg : g.method = m) (hn : As.length = n) (hsize : g.locals.size = nL) (hstack : g.stack = As.reverse ++ .ref b :: rest) (hW : 2 * g.monitorRoom + (rest.map fun v => v.category).sum ≤ 9) (hdg : decode cc g.pc = .ok (.invokevirtual index, 3)) (hf : cells + mc ≤ R.cells ∧ slots + ms ≤ R.slots) :
    va_Run p l e R s m args below meth c H locs cells slots mc ms g rest (Qc (Value.ref b :: As).toArray) free := by
  obtain ⟨⟨hrc, hrs, hfr, -, hws, hcw, hcode, hini, hy, hlen, hl⟩, hin, hse⟩ := cw
  obtain ⟨hx, hb, hml, ho, -⟩ := S
  obtain ⟨hbl, ⟨cb, hcB, hoB, hclB⟩, hPc⟩ := hp
  intro T hT X
  obtain ⟨v, vm₁, ⟨U', l2, c2, s2⟩, hW₁, X', ⟨g', mk, t, L, e1, e2, hq, h1, hL, h2, h3⟩, st⟩ := callV X hx ho hl hin hse hcode hy
    (back_of (W := 9) (len := 3) (bytes := bytes) (maxL := maxL) (ret := ret) hM hbl hrc hrs hfr h9 hws hcw (fun a' U hU => word_at hU (Or.inl (by first | rfl | simp [Cond.onTables, Cond.keeps, Cond.steady])) hini))
    (C := C) (argsL := As) (rest := rest) (by rw [hT]; exact hcB) hoB hclB hg (hsize.trans hml.symm) (fun sig h => hn.trans (hlen sig h)) hstack hW (by rw [hb]; exact hdg) (fun vm₁ hW₁ => ⟨hf.1, hf.2, hPc (T.setVm vm₁) hT hW₁⟩)
  dsimp only [Pt.U, Pt.locs, Pt.cells, Pt.slots] at X' e1 e2 h1 h2 h3 st
  subst h1; subst h2; subst h3
  exact ⟨v, (T.setVm vm₁).calling g' mk (Value.ref b :: As).toArray, t, U', L, hT, X', hL, e1, e2, hq, st⟩
theorem st_callV (C : Ctx p s m args meth c B0 ta cA D X y) (CK : Chk) (hd : decode (pby y) pc = .ok (raw, n)) {z pl d : Nat} (hk : ck_callV y z raw n pl = true) (hfr : d + 1 ≤ R.frames) (hlo : 60 * d + 60 ≤ R.locals) (hcr : ∀ as h r, InvH h → ev X d z as h = some r → MetY l B0 ta cA D X d z as h r) (hmo : ∀ as h r, ev X d z as h = some r → (h.1 ≤ r.2.1 ∧ h.2.1 ≤ r.2.2.1) ∧ (InvH h → InvH r.2))
    (hs : s_callV 9 (ev X d) z (pc + n) k ls st h = some (.inl c')) (hR : RmB R s B0 h0 c'.2.2.2) (K : Sim p l e R s m args below meth c Q B0 ta cA D y h0 c') : Sim p l e R s m args below meth c Q B0 ta cA D y h0 (pc, ls, st, h) := by
  obtain ⟨⟨hx, hb, hml, hr⟩, ⟨hown, hts, hlk, hnm⟩, hE, hB⟩ := C
  unfold ck_callV at hk
  split at hk
  · rename_i j
    simp only [Bool.and_eq_true, decide_eq_true_eq] at hk
    obtain ⟨⟨hw, rfl⟩, ⟨hz, h0z⟩, hkd⟩ := hk
    have hhk := CK.2.2.1 z hz h0z
    unfold hkB at hhk
    rw [hkd] at hhk
    simp only [Bool.and_eq_true, decide_eq_true_eq] at hhk
    obtain ⟨hini, hins, hsel, hcn, hc12⟩ := hhk
    have hdz := hd_z CK hz
    unfold s_callV at hs
    split at hs
    · rename_i b r hdrop
      split at hs
      · rename_i hsh
        obtain ⟨q, hq, hs⟩ := Option.bind_eq_some_iff.mp hs
        obtain rfl := nx_inv hs
        have hst : st = st.take (pna z) ++ .ref b :: r := by rw [← hdrop, List.take_append_drop]
        have htl : (st.take (pna z)).length = pna z := by
          rw [List.length_take]
          have : (st.drop (pna z)).length = r.length + 1 := by rw [hdrop]; rfl
          rw [List.length_drop] at this
          omega
        have hmq := hmo _ _ _ hq
        intro H locs lsA cells slots hP hS hL hc
        have hcc : s.heap.size + cells = B0 + h.1 ∧ h0.2.1 + slots = h.2.1 := hc.1
        have hR1 : B0 + q.2.1 ≤ s.heap.size + R.cells := hR.1
        have hR2 : q.2.2.1 ≤ h0.2.1 + R.slots := hR.2
        refine szd hP hS hB hcc.1 (fun hsz => ?_)
        have hbl : b < h.1 := (show InvH h from hc.2).lt (t := pci z + 7) (by rw [hsh.1]) (by omega)
        have heb := wsO_get (B0 := B0) (cA := cA) hbl
        rw [cellO_obj hsh.1] at heb
        have hpre := py_pre (av := (Value.ref b :: (st.take (pna z)).reverse).map (cv B0 ta)) hE hS hsz hP
        refine call_x (r := q) (mc := q.2.1 - h.1) (ms := q.2.2.1 - h.2.1) (va_runV9 (C := own z) (As := ((st.take (pna z)).reverse).map (cv B0 ta)) (rest := r.map (cv B0 ta)) (b := B0 + b) (Ts := Tg) (own := own y) (n := pna z) ⟨hx, hb, hml, hown, hts⟩ (hcr _ _ _ hc.2 hq)
          (cwV (pna z) hts (gi (hasW_in hw) (gi (hasW_in hins) (gi (hasW_in hsel) (gi (hasW_in hini) (gw CK hz h0z))))) rfl rfl rfl ⟨rfl, hdz.1⟩ ⟨hfr, by show 8 + (pml z + 11) + 60 * d ≤ R.locals; have := hdz.2; omega⟩) (by show 9 + (pml z + 11) + 60 * d ≤ R.locals; have := hdz.2; omega)
          ⟨hpre.1, ?_, hpre.2⟩ rfl ?_ hL.1.1 ?_ ?_ hd ⟨by omega, by omega⟩) hS (fun H1 locs1 hP1 hS1 => ?_)
        · have := va_recv (q0 := b) (D := D) hE.1.1 hP (cls_get hc12) heb
          rw [← hcn] at this
          exact this
        · rw [List.length_map, List.length_reverse, htl]
        · show st.map (cv B0 ta) = _
          rw [List.map_reverse, List.reverse_reverse, show Value.ref (B0 + b) = cv B0 ta (.ref b) from rfl, ← List.map_cons, ← List.map_append, ← hst]
        · exact lv_room9 (m := m) (pc := pc) (ls := lsA) (rest := st.map (cv B0 ta)) (by rw [cats_cv r (fun _ _ => trivial)]; exact hsh.2)
        · have K1 := K H1 locs1 lsA (cells + (q.2.1 - h.1)) (slots + (q.2.2.1 - h.2.1)) hP1 hS1 (hL.kil k) ⟨⟨by show _ = B0 + q.2.1; omega, by show _ = q.2.2.1; omega⟩, hmq.2 hc.2⟩
          have e9 : (q.1.toList ++ r).map (cv B0 ta) = (q.1.map (cv B0 ta)).toList ++ r.map (cv B0 ta) := by rw [List.map_append]; cases q.1 <;> rfl
          rw [← e9]
          exact K1
      · cases hs
    · cases hs
  · cases hk
theorem st_callS (C : Ctx p s m args meth c B0 ta cA D X y) (CK : Chk) (hd : decode (pby y) pc = .ok (raw, n)) {z pl d : Nat} (hk : ck_callS y z raw n pl = true) (hfr : d + 1 ≤ R.frames) (hlo : 60 * d + 60 ≤ R.locals) (hcr : ∀ as h r, InvH h → ev X d z as h = some r → MetY l B0 ta cA D X d z as h r) (hmo : ∀ as h r, ev X d z as h = some r → (h.1 ≤ r.2.1 ∧ h.2.1 ≤ r.2.2.1) ∧ (InvH h → InvH r.2))
    (hs : s_callS (ev X d) z (pc + n) k ls st h = some (.inl c')) (hR : RmB R s B0 h0 c'.2.2.2) (K : Sim p l e R s m args below meth c Q B0 ta cA D y h0 c') : Sim p l e R s m args below meth c Q B0 ta cA D y h0 (pc, ls, st, h) := by
  obtain ⟨⟨hx, hb, hml, hr⟩, ⟨hown, hts, hlk, hnm⟩, hE, hB⟩ := C
  unfold ck_callS at hk
  split at hk
  · rename_i j
    simp only [Bool.and_eq_true, decide_eq_true_eq] at hk
    obtain ⟨⟨hw, rfl⟩, ⟨hz, h0z⟩, hkd⟩ := hk
    have hhk := CK.2.2.1 z hz h0z
    unfold hkB at hhk
    rw [hkd] at hhk
    simp only [Bool.and_eq_true, decide_eq_true_eq] at hhk
    obtain ⟨hini, hsta⟩ := hhk
    have hdz := hd_z CK hz
    unfold s_callS at hs
    split at hs
    · rename_i hsh
      obtain ⟨q, hq, hs⟩ := Option.bind_eq_some_iff.mp hs
      obtain rfl := nx_inv hs
      have htl : (st.take (pna z)).length = pna z := by rw [List.length_take]; omega
      have hmq := hmo _ _ _ hq
      intro H locs lsA cells slots hP hS hL hc
      have hcc : s.heap.size + cells = B0 + h.1 ∧ h0.2.1 + slots = h.2.1 := hc.1
      have hR1 : B0 + q.2.1 ≤ s.heap.size + R.cells := hR.1
      have hR2 : q.2.2.1 ≤ h0.2.1 + R.slots := hR.2
      refine szd hP hS hB hcc.1 (fun hsz => ?_)
      have hpre := py_pre (av := ((st.take (pna z)).reverse).map (cv B0 ta)) hE hS hsz hP
      refine call_x (r := q) (mc := q.2.1 - h.1) (ms := q.2.2.1 - h.2.1) (va_runS (As := ((st.take (pna z)).reverse).map (cv B0 ta)) (rest := (st.drop (pna z)).map (cv B0 ta)) (Ts := Tg) (own := own y) (n := pna z) ⟨hx, hb, hml, hown, hts⟩ (hcr _ _ _ hc.2 hq)
        (va_cwS (pna z) hts (gi (hasW_in hw) (gi (hasW_in hsta) (gi (hasW_in hini) (gw CK hz h0z)))) rfl rfl rfl hdz.1 ⟨hfr, by show 8 + (pml z + 11) + 60 * d ≤ R.locals; have := hdz.2; omega⟩)
        hpre rfl ?_ hL.1.1 ?_ ?_ hd ⟨by omega, by omega⟩) hS (fun H1 locs1 hP1 hS1 => ?_)
      · rw [List.length_map, List.length_reverse, htl]
      · show st.map (cv B0 ta) = _
        rw [List.map_reverse, List.reverse_reverse, ← List.map_append, List.take_append_drop]
      · exact lv_room (m := m) (pc := pc) (ls := lsA) (rest := st.map (cv B0 ta)) (by rw [cats_cv _ (fun _ _ => trivial)]; exact hsh.2)
      · have K1 := K H1 locs1 lsA (cells + (q.2.1 - h.1)) (slots + (q.2.2.1 - h.2.1)) hP1 hS1 (hL.kil k) ⟨⟨by show _ = B0 + q.2.1; omega, by show _ = q.2.2.1; omega⟩, hmq.2 hc.2⟩
        have e9 : (q.1.toList ++ st.drop (pna z)).map (cv B0 ta) = (q.1.map (cv B0 ta)).toList ++ (st.drop (pna z)).map (cv B0 ta) := by rw [List.map_append]; cases q.1 <;> rfl
        rw [← e9]
        exact K1
    · cases hs
  · cases hk
theorem st_callI (C : Ctx p s m args meth c B0 ta cA D X y) (CK : Chk) (hd : decode (pby y) pc = .ok (raw, n)) {z pl d : Nat} (hk : ck_callI y z raw n pl = true) (hfr : d + 1 ≤ R.frames) (hlo : 60 * d + 60 ≤ R.locals) (hcr : ∀ as h r, InvH h → ev X d z as h = some r → MetY l B0 ta cA D X d z as h r) (hmo : ∀ as h r, ev X d z as h = some r → (h.1 ≤ r.2.1 ∧ h.2.1 ≤ r.2.2.1) ∧ (InvH h → InvH r.2))
    (hs : s_callV 8 (ev X d) z (pc + n) k ls st h = some (.inl c')) (hR : RmB R s B0 h0 c'.2.2.2) (K : Sim p l e R s m args below meth c Q B0 ta cA D y h0 c') : Sim p l e R s m args below meth c Q B0 ta cA D y h0 (pc, ls, st, h) := by
  obtain ⟨⟨hx, hb, hml, hr⟩, ⟨hown, hts, hlk, hnm⟩, hE, hB⟩ := C
  unfold ck_callI at hk
  split at hk
  · rename_i j
    simp only [Bool.and_eq_true, decide_eq_true_eq] at hk
    obtain ⟨⟨hw, rfl⟩, ⟨hz, h0z⟩, hkd⟩ := hk
    have hhk := CK.2.2.1 z hz h0z
    unfold hkB at hhk
    rw [hkd] at hhk
    simp only [Bool.and_eq_true, decide_eq_true_eq] at hhk
    obtain ⟨hini, hins, hnmz, -, hret⟩ := hhk
    have hdz := hd_z CK hz
    unfold s_callV at hs
    split at hs
    · rename_i b r hdrop
      split at hs
      · rename_i hsh
        obtain ⟨q, hq, hs⟩ := Option.bind_eq_some_iff.mp hs
        obtain rfl := nx_inv hs
        have hst : st = st.take (pna z) ++ .ref b :: r := by rw [← hdrop, List.take_append_drop]
        have htl : (st.take (pna z)).length = pna z := by
          rw [List.length_take]
          have : (st.drop (pna z)).length = r.length + 1 := by rw [hdrop]; rfl
          rw [List.length_drop] at this
          omega
        have hmq := hmo _ _ _ hq
        intro H locs lsA cells slots hP hS hL hc
        have hcc : s.heap.size + cells = B0 + h.1 ∧ h0.2.1 + slots = h.2.1 := hc.1
        have hR1 : B0 + q.2.1 ≤ s.heap.size + R.cells := hR.1
        have hR2 : q.2.2.1 ≤ h0.2.1 + R.slots := hR.2
        refine szd hP hS hB hcc.1 (fun hsz => ?_)
        have hpre := py_pre (av := (Value.ref b :: (st.take (pna z)).reverse).map (cv B0 ta)) hE hS hsz hP
        have hgw := gw CK hz h0z
        have hM := hcr _ _ _ hc.2 hq
        unfold MetY wsy at hM
        unfold wsy at hgw
        rw [hret] at hM hgw
        refine call_x (r := q) (mc := q.2.1 - h.1) (ms := q.2.2.1 - h.2.1) (va_runI (As := ((st.take (pna z)).reverse).map (cv B0 ta)) (rest := r.map (cv B0 ta)) (b := B0 + b) (Ts := Tg) (own := own y) (n := pna z) ⟨hx, hb, hml, hown, hts⟩ hM
          (cwI (pna z) hts hgw rfl rfl rfl (hts _ (hasW_in hini)) (hts _ (hasW_in hw)) (hts _ (hasW_in hins)) hnmz hdz.1 ⟨hfr, by show 8 + (pml z + 11) + 60 * d ≤ R.locals; have := hdz.2; omega⟩)
          hpre rfl ?_ hL.1.1 ?_ ?_ hd ⟨by omega, by omega⟩) hS (fun H1 locs1 hP1 hS1 => ?_)
        · rw [List.length_map, List.length_reverse, htl]
        · show st.map (cv B0 ta) = _
          rw [List.map_reverse, List.reverse_reverse, show Value.ref (B0 + b) = cv B0 ta (.ref b) from rfl, ← List.map_cons, ← List.map_append, ← hst]
        · exact lv_room (m := m) (pc := pc) (ls := lsA) (rest := st.map (cv B0 ta)) (by rw [cats_cv r (fun _ _ => trivial)]; exact hsh.2)
        · have K1 := K H1 locs1 lsA (cells + (q.2.1 - h.1)) (slots + (q.2.2.1 - h.2.1)) hP1 hS1 (hL.kil k) ⟨⟨by show _ = B0 + q.2.1; omega, by show _ = q.2.2.1; omega⟩, hmq.2 hc.2⟩
          have e9 : (q.1.toList ++ r).map (cv B0 ta) = (q.1.map (cv B0 ta)).toList ++ r.map (cv B0 ta) := by rw [List.map_append]; cases q.1 <;> rfl
          rw [← e9]
          exact K1
      · cases hs
    · cases hs
  · cases hk
theorem st_fadd (C : Ctx p s m args meth c B0 ta cA D X y) (CM : ChkM) (hd : decode (pby y) pc = .ok (raw, n)) {pl : Nat} (hk : ck_math Lib.Math.max.name y raw n pl = true) (hfr : 1 ≤ R.frames) (hlo : 60 ≤ R.locals) (hs : s_mm (fun x y => if x < y then y else x) (pc + n) k ls st h = some (.inl c')) (hR : RmB R s B0 h0 c'.2.2.2) (K : Sim p l e R s m args below meth c Q B0 ta cA D y h0 c') : Sim p l e R s m args below meth c Q B0 ta cA D y h0 (pc, ls, st, h) := by
  obtain ⟨⟨hx, hb, hml, hr⟩, ⟨hown, hts, hlk, hnm⟩, hE, hB⟩ := C
  unfold ck_math at hk
  split at hk
  · simp only [Bool.and_eq_true, decide_eq_true_eq] at hk
    obtain ⟨hw, rfl⟩ := hk
    unfold s_mm at hs
    split at hs
    · split at hs
      · rename_i hcat
        obtain rfl := nx_inv hs
        intro H locs lsA cells slots hP hS hL hc
        have hcc : s.heap.size + cells = B0 + h.1 ∧ h0.2.1 + slots = h.2.1 := hc.1
        have hR1 : B0 + h.1 ≤ s.heap.size + R.cells := hR.1
        have hR2 : h.2.1 ≤ h0.2.1 + R.slots := hR.2
        exact va_mmax hx hb (by rw [hml]; exact hL.1.1.symm) hown (hts _ (hasW_in hw)) (hts _ CM.2.1.1) (hts _ CM.1) (hts _ CM.2.1.2) hfr (by rw [cats_cv _ (fun _ _ => trivial)]; omega) (by omega) (by omega) hd (K H locs lsA cells slots hP hS (hL.kil k) hc)
      · cases hs
    · cases hs
  · cases hk
theorem st_fsub (C : Ctx p s m args meth c B0 ta cA D X y) (CM : ChkM) (hd : decode (pby y) pc = .ok (raw, n)) {pl : Nat} (hk : ck_math Lib.Math.min.name y raw n pl = true) (hfr : 1 ≤ R.frames) (hlo : 60 ≤ R.locals) (hs : s_mm (fun x y => if y < x then y else x) (pc + n) k ls st h = some (.inl c')) (hR : RmB R s B0 h0 c'.2.2.2) (K : Sim p l e R s m args below meth c Q B0 ta cA D y h0 c') : Sim p l e R s m args below meth c Q B0 ta cA D y h0 (pc, ls, st, h) := by
  obtain ⟨⟨hx, hb, hml, hr⟩, ⟨hown, hts, hlk, hnm⟩, hE, hB⟩ := C
  unfold ck_math at hk
  split at hk
  · simp only [Bool.and_eq_true, decide_eq_true_eq] at hk
    obtain ⟨hw, rfl⟩ := hk
    unfold s_mm at hs
    split at hs
    · split at hs
      · rename_i hcat
        obtain rfl := nx_inv hs
        intro H locs lsA cells slots hP hS hL hc
        have hcc : s.heap.size + cells = B0 + h.1 ∧ h0.2.1 + slots = h.2.1 := hc.1
        have hR1 : B0 + h.1 ≤ s.heap.size + R.cells := hR.1
        have hR2 : h.2.1 ≤ h0.2.1 + R.slots := hR.2
        exact va_mmin hx hb (by rw [hml]; exact hL.1.1.symm) hown (hts _ (hasW_in hw)) (hts _ CM.2.2.1.1) (hts _ CM.1) (hts _ CM.2.2.1.2) hfr (by rw [cats_cv _ (fun _ _ => trivial)]; omega) (by omega) (by omega) hd (K H locs lsA cells slots hP hS (hL.kil k) hc)
      · cases hs
    · cases hs
  · cases hk
theorem st_fneg (C : Ctx p s m args meth c B0 ta cA D X y) (CM : ChkM) (hd : decode (pby y) pc = .ok (raw, n)) {pl : Nat} (hk : ck_math Lib.Math.abs.name y raw n pl = true) (hfr : 1 ≤ R.frames) (hlo : 60 ≤ R.locals) (hs : (match st with | .int x :: r => if cats r ≤ 8 then nx (pc + n) k ls (.int (if 0 ≤ x then x else 0 - x) :: r) h else none | _ => none : StpR) = some (.inl c')) (hR : RmB R s B0 h0 c'.2.2.2) (K : Sim p l e R s m args below meth c Q B0 ta cA D y h0 c') : Sim p l e R s m args below meth c Q B0 ta cA D y h0 (pc, ls, st, h) := by
  obtain ⟨⟨hx, hb, hml, hr⟩, ⟨hown, hts, hlk, hnm⟩, hE, hB⟩ := C
  unfold ck_math at hk
  split at hk
  · simp only [Bool.and_eq_true, decide_eq_true_eq] at hk
    obtain ⟨hw, rfl⟩ := hk
    split at hs
    · split at hs
      · rename_i hcat
        obtain rfl := nx_inv hs
        intro H locs lsA cells slots hP hS hL hc
        have hcc : s.heap.size + cells = B0 + h.1 ∧ h0.2.1 + slots = h.2.1 := hc.1
        have hR1 : B0 + h.1 ≤ s.heap.size + R.cells := hR.1
        have hR2 : h.2.1 ≤ h0.2.1 + R.slots := hR.2
        exact va_mabs hx hb (by rw [hml]; exact hL.1.1.symm) hown (hts _ (hasW_in hw)) (hts _ CM.2.2.2.1.1) (hts _ CM.1) (hts _ CM.2.2.2.1.2) hfr (by rw [cats_cv _ (fun _ _ => trivial)]; omega) (by omega) (by omega) hd (K H locs lsA cells slots hP hS (hL.kil k) hc)
      · cases hs
    · cases hs
  · cases hk
theorem st_dadd (C : Ctx p s m args meth c B0 ta cA D X y) (CM : ChkM) (hd : decode (pby y) pc = .ok (raw, n)) {pl : Nat} (hk : ck_math Lib.MathLoose.max_long.x y raw n pl = true) (hfr : 1 ≤ R.frames) (hlo : 60 ≤ R.locals) (hs : s_ml (fun x y => if y < x then x else y) (pc + n) k ls st h = some (.inl c')) (hR : RmB R s B0 h0 c'.2.2.2) (K : Sim p l e R s m args below meth c Q B0 ta cA D y h0 c') : Sim p l e R s m args below meth c Q B0 ta cA D y h0 (pc, ls, st, h) := by
  obtain ⟨⟨hx, hb, hml, hr⟩, ⟨hown, hts, hlk, hnm⟩, hE, hB⟩ := C
  unfold ck_math at hk
  split at hk
  · simp only [Bool.and_eq_true, decide_eq_true_eq] at hk
    obtain ⟨hw, rfl⟩ := hk
    unfold s_ml at hs
    split at hs
    · split at hs
      · rename_i hcat
        obtain rfl := nx_inv hs
        intro H locs lsA cells slots hP hS hL hc
        have hcc : s.heap.size + cells = B0 + h.1 ∧ h0.2.1 + slots = h.2.1 := hc.1
        have hR1 : B0 + h.1 ≤ s.heap.size + R.cells := hR.1
        have hR2 : h.2.1 ≤ h0.2.1 + R.slots := hR.2
        exact va_mmax_long hx hb (by rw [hml]; exact hL.1.1.symm) hown (hts _ (hasW_in hw)) (hts _ CM.2.2.2.2.1.1) (hts _ CM.1) (hts _ CM.2.2.2.2.1.2) hfr (by rw [cats_cv _ (fun _ _ => trivial)]; omega) (by omega) (by omega) hd (K H locs lsA cells slots hP hS (hL.kil k) hc)
      · cases hs
    · cases hs
  · cases hk
theorem st_dsub (C : Ctx p s m args meth c B0 ta cA D X y) (CM : ChkM) (hd : decode (pby y) pc = .ok (raw, n)) {pl : Nat} (hk : ck_math Lib.MathLoose.min_long.x y raw n pl = true) (hfr : 1 ≤ R.frames) (hlo : 60 ≤ R.locals) (hs : s_ml (fun x y => if y < x then y else x) (pc + n) k ls st h = some (.inl c')) (hR : RmB R s B0 h0 c'.2.2.2) (K : Sim p l e R s m args below meth c Q B0 ta cA D y h0 c') : Sim p l e R s m args below meth c Q B0 ta cA D y h0 (pc, ls, st, h) := by
  obtain ⟨⟨hx, hb, hml, hr⟩, ⟨hown, hts, hlk, hnm⟩, hE, hB⟩ := C
  unfold ck_math at hk
  split at hk
  · simp only [Bool.and_eq_true, decide_eq_true_eq] at hk
    obtain ⟨hw, rfl⟩ := hk
    unfold s_ml at hs
    split at hs
    · split at hs
      · rename_i hcat
        obtain rfl := nx_inv hs
        intro H locs lsA cells slots hP hS hL hc
        have hcc : s.heap.size + cells = B0 + h.1 ∧ h0.2.1 + slots = h.2.1 := hc.1
        have hR1 : B0 + h.1 ≤ s.heap.size + R.cells := hR.1
        have hR2 : h.2.1 ≤ h0.2.1 + R.slots := hR.2
        exact va_mmin_long hx hb (by rw [hml]; exact hL.1.1.symm) hown (hts _ (hasW_in hw)) (hts _ CM.2.2.2.2.2.1.1) (hts _ CM.1) (hts _ CM.2.2.2.2.2.1.2) hfr (by rw [cats_cv _ (fun _ _ => trivial)]; omega) (by omega) (by omega) hd (K H locs lsA cells slots hP hS (hL.kil k) hc)
      · cases hs
    · cases hs
  · cases hk
theorem st_dneg (C : Ctx p s m args meth c B0 ta cA D X y) (CM : ChkM) (hd : decode (pby y) pc = .ok (raw, n)) {pl : Nat} (hk : ck_math Lib.MathLoose.abs_long.x y raw n pl = true) (hfr : 1 ≤ R.frames) (hlo : 60 ≤ R.locals) (hs : (match st with | .long x :: r => if cats r ≤ 8 then nx (pc + n) k ls (.long (if 0 < x then x else -x) :: r) h else none | _ => none : StpR) = some (.inl c')) (hR : RmB R s B0 h0 c'.2.2.2) (K : Sim p l e R s m args below meth c Q B0 ta cA D y h0 c') : Sim p l e R s m args below meth c Q B0 ta cA D y h0 (pc, ls, st, h) := by
  obtain ⟨⟨hx, hb, hml, hr⟩, ⟨hown, hts, hlk, hnm⟩, hE, hB⟩ := C
  unfold ck_math at hk
  split at hk
  · simp only [Bool.and_eq_true, decide_eq_true_eq] at hk
    obtain ⟨hw, rfl⟩ := hk
    split at hs
    · split at hs
      · rename_i hcat
        obtain rfl := nx_inv hs
        intro H locs lsA cells slots hP hS hL hc
        have hcc : s.heap.size + cells = B0 + h.1 ∧ h0.2.1 + slots = h.2.1 := hc.1
        have hR1 : B0 + h.1 ≤ s.heap.size + R.cells := hR.1
        have hR2 : h.2.1 ≤ h0.2.1 + R.slots := hR.2
        exact va_mabs_long hx hb (by rw [hml]; exact hL.1.1.symm) hown (hts _ (hasW_in hw)) (hts _ CM.2.2.2.2.2.2.1) (hts _ CM.1) (hts _ CM.2.2.2.2.2.2.2) hfr (by rw [cats_cv _ (fun _ _ => trivial)]; omega) (by omega) (by omega) hd (K H locs lsA cells slots hP hS (hL.kil k) hc)
      · cases hs
    · cases hs
  · cases hk
end STEP
