/-! ARRAYS, NEW CELLS -/
section STEP
variable {p : Program} {l : Launch} {e : Jvm.Env} {R : Room} {s : State} {m : MethodId} {args : Array Value} {below : List Frame} {meth : Method} {c : Code} {Q : State → Prop} {B0 : Nat} {ta : Nat → Nat} {cA : Nat → ClassId} {D : va_G} {X : XX} {y : Nat} {h0 : HP} {pc n : Nat} {k k2 : List Nat} {ls st : List Value} {h : HP} {c' : Cfg} {raw : Instr}
theorem tys_at (cA : Nat → ClassId) {t : Nat} (h3 : 3 ≤ t) (h7 : t < 7) : (tysO cA)[t]? = some (cA t, .object (tnm t)) := by
  rcases (show t = 3 ∨ t = 4 ∨ t = 5 ∨ t = 6 by omega) with rfl | rfl | rfl | rfl <;> rfl
theorem st_iaload (C : Ctx p s m args meth c B0 ta cA D X y) (hd : decode (pby y) pc = .ok (raw, n)) (hk : c1 .iaload raw n = true) (hs : s_iald X (pc + n) k ls st h = some (.inl c')) (K : Sim p l e R s m args below meth c Q B0 ta cA D y h0 c') : Sim p l e R s m args below meth c Q B0 ta cA D y h0 (pc, ls, st, h) := by
  obtain ⟨⟨hx, hb, hml, hr⟩, ⟨hown, hts, hlk, hnm⟩, hE, hB⟩ := C
  unfold c1 at hk
  simp only [Bool.and_eq_true, decide_eq_true_eq] at hk
  obtain ⟨rfl, rfl⟩ := hk
  unfold s_iald at hs
  split at hs
  · rename_i i a r
    split at hs
    · rename_i hsh
      obtain rfl := nx_inv hs
      intro H locs lsA cells slots hP hS hL hc
      have ha : a < h.1 := (show InvH h from hc.2).lt hsh.1 (by omega)
      have he := wsO_get (B0 := B0) (cA := cA) ha
      rw [cellO_0 hsh.1] at he
      exact va_iald hx hb hE.1.1 hP a 0 he rfl hsh.2 hd (K H locs lsA cells slots hP hS (hL.kil k) hc)
    · cases hs
  · rename_i i t r
    split at hs
    · rename_i hsh
      obtain rfl := nx_inv hs
      intro H locs lsA cells slots hP hS hL hc
      exact va_ti hx hb (hE.2.1 t hsh.1) hS hsh.2 rfl hd (K H locs lsA cells slots hP hS (hL.kil k) hc)
    · cases hs
  · cases hs
theorem st_baload (C : Ctx p s m args meth c B0 ta cA D X y) (hd : decode (pby y) pc = .ok (raw, n)) (hk : c1 .baload raw n = true) (hs : s_zald (pc + n) k ls st h = some (.inl c')) (K : Sim p l e R s m args below meth c Q B0 ta cA D y h0 c') : Sim p l e R s m args below meth c Q B0 ta cA D y h0 (pc, ls, st, h) := by
  obtain ⟨⟨hx, hb, hml, hr⟩, ⟨hown, hts, hlk, hnm⟩, hE, hB⟩ := C
  unfold c1 at hk
  simp only [Bool.and_eq_true, decide_eq_true_eq] at hk
  obtain ⟨rfl, rfl⟩ := hk
  unfold s_zald at hs
  split at hs
  · rename_i i a r
    split at hs
    · rename_i hsh
      obtain rfl := nx_inv hs
      intro H locs lsA cells slots hP hS hL hc
      have ha : a < h.1 := (show InvH h from hc.2).lt hsh.1 (by omega)
      have he := wsO_get (B0 := B0) (cA := cA) ha
      rw [cellO_2 hsh.1] at he
      exact va_zald hx hb hE.1.1 hP a 2 he rfl hsh.2 hd (K H locs lsA cells slots hP hS (hL.kil k) hc)
    · cases hs
  · cases hs
theorem st_laload (C : Ctx p s m args meth c B0 ta cA D X y) (hd : decode (pby y) pc = .ok (raw, n)) (hk : c1 .laload raw n = true) (hs : s_lald (pc + n) k ls st h = some (.inl c')) (K : Sim p l e R s m args below meth c Q B0 ta cA D y h0 c') : Sim p l e R s m args below meth c Q B0 ta cA D y h0 (pc, ls, st, h) := by
  obtain ⟨⟨hx, hb, hml, hr⟩, ⟨hown, hts, hlk, hnm⟩, hE, hB⟩ := C
  unfold c1 at hk
  simp only [Bool.and_eq_true, decide_eq_true_eq] at hk
  obtain ⟨rfl, rfl⟩ := hk
  unfold s_lald at hs
  split at hs
  · rename_i i a r
    split at hs
    · rename_i hsh
      obtain rfl := nx_inv hs
      intro H locs lsA cells slots hP hS hL hc
      have ha : a < h.1 := (show InvH h from hc.2).lt hsh.1 (by omega)
      have he := wsO_get (B0 := B0) (cA := cA) ha
      rw [cellO_1 hsh.1] at he
      exact va_lald hx hb hE.1.1 hP a 1 he rfl hsh.2 hd (K H locs lsA cells slots hP hS (hL.kil k) hc)
    · cases hs
  · cases hs
theorem st_aaload (C : Ctx p s m args meth c B0 ta cA D X y) (hd : decode (pby y) pc = .ok (raw, n)) (hk : c1 .aaload raw n = true) (hs : s_aald (pc + n) k ls st h = some (.inl c')) (K : Sim p l e R s m args below meth c Q B0 ta cA D y h0 c') : Sim p l e R s m args below meth c Q B0 ta cA D y h0 (pc, ls, st, h) := by
  obtain ⟨⟨hx, hb, hml, hr⟩, ⟨hown, hts, hlk, hnm⟩, hE, hB⟩ := C
  unfold c1 at hk
  simp only [Bool.and_eq_true, decide_eq_true_eq] at hk
  obtain ⟨rfl, rfl⟩ := hk
  unfold s_aald at hs
  split at hs
  · rename_i i a r
    split at hs
    · rename_i hsh
      obtain rfl := nx_inv hs
      intro H locs lsA cells slots hP hS hL hc
      have ha : a < h.1 := (show InvH h from hc.2).lt rfl (by omega)
      have he := wsO_get (B0 := B0) (cA := cA) ha
      rw [cellO_3 hsh.1.1 hsh.1.2] at he
      have K1 := K H locs lsA cells slots hP hS (hL.kil k) hc
      rw [List.map_cons, rfv_cv] at K1
      exact va_aldq hx hb hE.1.1 hP a _ he (tys_at cA hsh.1.1 hsh.1.2) hsh.2 hd K1
    · cases hs
  · cases hs
theorem st_iastore (C : Ctx p s m args meth c B0 ta cA D X y) (hd : decode (pby y) pc = .ok (raw, n)) (hk : c1 .iastore raw n = true) (hs : s_iast (pc + n) k ls st h = some (.inl c')) (K : Sim p l e R s m args below meth c Q B0 ta cA D y h0 c') : Sim p l e R s m args below meth c Q B0 ta cA D y h0 (pc, ls, st, h) := by
  obtain ⟨⟨hx, hb, hml, hr⟩, ⟨hown, hts, hlk, hnm⟩, hE, hB⟩ := C
  unfold c1 at hk
  simp only [Bool.and_eq_true, decide_eq_true_eq] at hk
  obtain ⟨rfl, rfl⟩ := hk
  unfold s_iast at hs
  split at hs
  · rename_i x i a r
    split at hs
    · rename_i hsh
      obtain rfl := nx_inv hs
      intro H locs lsA cells slots hP hS hL hc
      have ha : a < h.1 := (show InvH h from hc.2).lt hsh.1 (by omega)
      have he := wsO_get (B0 := B0) (cA := cA) ha
      rw [cellO_0 hsh.1] at he
      refine va_iast hx hb hE.1.1 hP wsO_D hS a 0 he rfl hsh.2 hd (fun H1 locs1 hP1 _ hS1 => ?_)
      refine K H1 locs1 lsA cells slots ?_ hS1 (hL.kil k) hc
      rw [← u2_eqI, ← cellO_0 (B0 := B0) (cA := cA) (h := (h.1, h.2.1, h.2.2.1, h.2.2.2.1, u2 h.2.2.2.2.1 a i.toNatClampNeg x, h.2.2.2.2.2)) hsh.1] at hP1
      rw [← wsO_set (h := h) (h' := (h.1, h.2.1, h.2.2.1, h.2.2.2.1, u2 h.2.2.2.2.1 a i.toNatClampNeg x, h.2.2.2.2.2)) rfl (fun j hj => cell_I h hj)]
      exact hP1
    · cases hs
  · cases hs
theorem st_bastore (C : Ctx p s m args meth c B0 ta cA D X y) (hd : decode (pby y) pc = .ok (raw, n)) (hk : c1 .bastore raw n = true) (hs : s_zast (pc + n) k ls st h = some (.inl c')) (K : Sim p l e R s m args below meth c Q B0 ta cA D y h0 c') : Sim p l e R s m args below meth c Q B0 ta cA D y h0 (pc, ls, st, h) := by
  obtain ⟨⟨hx, hb, hml, hr⟩, ⟨hown, hts, hlk, hnm⟩, hE, hB⟩ := C
  unfold c1 at hk
  simp only [Bool.and_eq_true, decide_eq_true_eq] at hk
  obtain ⟨rfl, rfl⟩ := hk
  unfold s_zast at hs
  split at hs
  · rename_i x i a r
    split at hs
    · rename_i hsh
      obtain rfl := nx_inv hs
      intro H locs lsA cells slots hP hS hL hc
      have ha : a < h.1 := (show InvH h from hc.2).lt hsh.1.1 (by omega)
      have he := wsO_get (B0 := B0) (cA := cA) ha
      rw [cellO_2 hsh.1.1] at he
      have hnar : vp_nar .boolean x = x := by rcases hsh.2 with rfl | rfl <;> decide
      refine va_zast hx hb hE.1.1 hP wsO_D hS a 2 he rfl hsh.1.2 hd (fun H1 locs1 hP1 _ hS1 => ?_)
      refine K H1 locs1 lsA cells slots ?_ hS1 (hL.kil k) hc
      rw [hnar, ← u2_eqI, ← cellO_2 (B0 := B0) (cA := cA) (h := (h.1, h.2.1, h.2.2.1, h.2.2.2.1, u2 h.2.2.2.2.1 a i.toNatClampNeg x, h.2.2.2.2.2)) hsh.1.1] at hP1
      rw [← wsO_set (h := h) (h' := (h.1, h.2.1, h.2.2.1, h.2.2.2.1, u2 h.2.2.2.2.1 a i.toNatClampNeg x, h.2.2.2.2.2)) rfl (fun j hj => cell_I h hj)]
      exact hP1
    · cases hs
  · cases hs
theorem st_lastore (C : Ctx p s m args meth c B0 ta cA D X y) (hd : decode (pby y) pc = .ok (raw, n)) (hk : c1 .lastore raw n = true) (hs : s_last (pc + n) k ls st h = some (.inl c')) (K : Sim p l e R s m args below meth c Q B0 ta cA D y h0 c') : Sim p l e R s m args below meth c Q B0 ta cA D y h0 (pc, ls, st, h) := by
  obtain ⟨⟨hx, hb, hml, hr⟩, ⟨hown, hts, hlk, hnm⟩, hE, hB⟩ := C
  unfold c1 at hk
  simp only [Bool.and_eq_true, decide_eq_true_eq] at hk
  obtain ⟨rfl, rfl⟩ := hk
  unfold s_last at hs
  split at hs
  · rename_i x i a r
    split at hs
    · rename_i hsh
      obtain rfl := nx_inv hs
      intro H locs lsA cells slots hP hS hL hc
      have ha : a < h.1 := (show InvH h from hc.2).lt hsh.1 (by omega)
      have he := wsO_get (B0 := B0) (cA := cA) ha
      rw [cellO_1 hsh.1] at he
      refine va_last hx hb hE.1.1 hP wsO_D hS a 1 he rfl hsh.2 hd (fun H1 locs1 hP1 _ hS1 => ?_)
      refine K H1 locs1 lsA cells slots ?_ hS1 (hL.kil k) hc
      rw [← u2_eqJ, ← cellO_1 (B0 := B0) (cA := cA) (h := (h.1, h.2.1, h.2.2.1, h.2.2.2.1, h.2.2.2.2.1, u2 h.2.2.2.2.2 a i.toNatClampNeg x)) hsh.1] at hP1
      rw [← wsO_set (h := h) (h' := (h.1, h.2.1, h.2.2.1, h.2.2.2.1, h.2.2.2.2.1, u2 h.2.2.2.2.2 a i.toNatClampNeg x)) rfl (fun j hj => cell_J h hj)]
      exact hP1
    · cases hs
  · cases hs
theorem tcl_cn {t : Nat} (h3 : 3 ≤ t) (h7 : t < 7) : cn (tcl t) = tnm t ∧ tcl t < 12 := by
  rcases (show t = 3 ∨ t = 4 ∨ t = 5 ∨ t = 6 by omega) with rfl | rfl | rfl | rfl <;> exact ⟨rfl, by decide⟩
theorem st_aastore (C : Ctx p s m args meth c B0 ta cA D X y) (hd : decode (pby y) pc = .ok (raw, n)) (hk : c1 .aastore raw n = true) (hs : s_aast (pc + n) k ls st h = some (.inl c')) (K : Sim p l e R s m args below meth c Q B0 ta cA D y h0 c') : Sim p l e R s m args below meth c Q B0 ta cA D y h0 (pc, ls, st, h) := by
  obtain ⟨⟨hx, hb, hml, hr⟩, ⟨hown, hts, hlk, hnm⟩, hE, hB⟩ := C
  unfold c1 at hk
  simp only [Bool.and_eq_true, decide_eq_true_eq] at hk
  obtain ⟨rfl, rfl⟩ := hk
  unfold s_aast at hs
  split at hs
  · rename_i b i a r
    split at hs
    · rename_i hsh
      obtain rfl := nx_inv hs
      intro H locs lsA cells slots hP hS hL hc
      have h37 := hsh.1.1
      have htc := tcl_cn h37.1 h37.2
      have ha : a < h.1 := (show InvH h from hc.2).lt rfl (by omega)
      have hbb : b < h.1 := (show InvH h from hc.2).lt (t := tcl (h.2.2.1 a).1 + 7) (by rw [hsh.2]) (by omega)
      have he := wsO_get (B0 := B0) (cA := cA) ha
      have hv := wsO_get (B0 := B0) (cA := cA) hbb
      rw [cellO_3 h37.1 h37.2] at he
      rw [cellO_obj hsh.2] at hv
      have hty := tys_at cA h37.1 h37.2
      rw [← htc.1] at hty
      refine va_astq (r := (cn (tcl (h.2.2.1 a).1), cT (tcl (h.2.2.1 a).1), nf (tcl (h.2.2.1 a).1))) hx hb hE.1.1 hP wsO_D hS a _ b _ he hty hv (cls_get htc.2) hsh.1.2 hd (fun H1 locs1 hP1 _ hS1 => ?_)
      refine K H1 locs1 lsA cells slots ?_ hS1 (hL.kil k) hc
      have e1 : va_up (fun j => (h.2.2.2.1 a j).map (fun a => B0 + a)) i.toNatClampNeg (some (B0 + b)) = fun j => (u2 h.2.2.2.1 a i.toNatClampNeg (some b) a j).map (fun a => B0 + a) := by
        funext j
        unfold va_up u2
        by_cases hj : j = i.toNatClampNeg
        · rw [if_pos hj, if_pos ⟨rfl, hj⟩]; rfl
        · rw [if_neg hj, if_neg (fun z => hj z.2)]
      rw [e1, ← cellO_3 (B0 := B0) (cA := cA) (h := (h.1, h.2.1, h.2.2.1, u2 h.2.2.2.1 a i.toNatClampNeg (some b), h.2.2.2.2.1, h.2.2.2.2.2)) h37.1 h37.2] at hP1
      rw [← wsO_set (h := h) (h' := (h.1, h.2.1, h.2.2.1, u2 h.2.2.2.1 a i.toNatClampNeg (some b), h.2.2.2.2.1, h.2.2.2.2.2)) rfl (fun j hj => cell_R h hj)]
      exact hP1
    · cases hs
  · cases hs
theorem st_arraylength (C : Ctx p s m args meth c B0 ta cA D X y) (hd : decode (pby y) pc = .ok (raw, n)) (hk : c1 .arraylength raw n = true) (hs : s_len X (pc + n) k ls st h = some (.inl c')) (K : Sim p l e R s m args below meth c Q B0 ta cA D y h0 c') : Sim p l e R s m args below meth c Q B0 ta cA D y h0 (pc, ls, st, h) := by
  obtain ⟨⟨hx, hb, hml, hr⟩, ⟨hown, hts, hlk, hnm⟩, hE, hB⟩ := C
  unfold c1 at hk
  simp only [Bool.and_eq_true, decide_eq_true_eq] at hk
  obtain ⟨rfl, rfl⟩ := hk
  unfold s_len at hs
  split at hs
  · rename_i a r
    split at hs
    · rename_i hsh
      obtain rfl := nx_inv hs
      intro H locs lsA cells slots hP hS hL hc
      have ha : a < h.1 := (show InvH h from hc.2).lt rfl (by omega)
      have he := wsO_get (B0 := B0) (cA := cA) ha
      have K1 := K H locs lsA cells slots hP hS (hL.kil k) hc
      by_cases z0 : (h.2.2.1 a).1 = 0
      · rw [cellO_0 z0] at he
        exact va_alen hx hb hE.1.1 hP a 0 he rfl rfl hd K1
      · by_cases z1 : (h.2.2.1 a).1 = 1
        · rw [cellO_1 z1] at he
          exact va_alen hx hb hE.1.1 hP a 1 he rfl rfl hd K1
        · by_cases z2 : (h.2.2.1 a).1 = 2
          · rw [cellO_2 z2] at he
            exact va_alen hx hb hE.1.1 hP a 2 he rfl rfl hd K1
          · rw [cellO_3 (by omega) hsh] at he
            exact va_alen hx hb hE.1.1 hP a _ he (tys_at cA (by omega) hsh) rfl hd K1
    · cases hs
  · rename_i t r
    split at hs
    · rename_i hsh
      obtain rfl := nx_inv hs
      intro H locs lsA cells slots hP hS hL hc
      exact va_tlen hx hb (hE.2.1 t hsh) hS rfl hd (K H locs lsA cells slots hP hS (hL.kil k) hc)
    · cases hs
  · cases hs
theorem st_getstatic (C : Ctx p s m args meth c B0 ta cA D X y) (hd : decode (pby y) pc = .ok (raw, n)) {t pl : Nat} (hk : ck_stat y t raw n pl = true) (hs : nx (pc + n) k ls (.retAddr t :: st) h = some (.inl c')) (K : Sim p l e R s m args below meth c Q B0 ta cA D y h0 c') : Sim p l e R s m args below meth c Q B0 ta cA D y h0 (pc, ls, st, h) := by
  obtain ⟨⟨hx, hb, hml, hr⟩, ⟨hown, hts, hlk, hnm⟩, hE, hB⟩ := C
  obtain rfl := nx_inv hs
  intro H locs lsA cells slots hP hS hL hc
  have K1 := K H locs lsA cells slots hP hS (hL.kil k) hc
  unfold ck_stat at hk
  split at hk
  · split at hk <;> try simp only [Bool.and_eq_true, decide_eq_true_eq] at hk
    · obtain ⟨hw, rfl⟩ := hk
      exact va_gets hx hb hE.2.2.1 hS hown (hts _ (hasW_in hw)) (fun _ z => z) hd K1
    · obtain ⟨hw, rfl⟩ := hk
      exact va_gets hx hb hE.2.2.2 hS hown (hts _ (hasW_in hw)) (fun _ z => z) hd K1
    · cases hk
  · cases hk
/-- the heap is just as large as the picture says -/
theorem szd {H : Heap} {locs : List Loc} {cells slots : Nat} {g : JFrame} (hP : va_P D cls (wsO B0 cA h) H) (hS : va_S (A0 B0) s.heap H locs) (hB : B0 ≤ s.heap.size) (hc : s.heap.size + cells = B0 + h.1) (K : H.size = B0 + h.1 → W p l e R s m args below meth c H locs cells slots Q g) : W p l e R s m args below meth c H locs cells slots Q g := by
  intro T hT X
  have h1 : T.heap.size ≤ s.heap.size + cells := X.heapSize
  rw [hT] at h1
  have h2 : B0 + h.1 ≤ H.size := by
    rcases Nat.eq_zero_or_pos h.1 with z | z
    · rw [z]; exact Nat.le_trans hB hS.1
    · have := (hP (h.1 - 1) _ (wsO_get (by omega))).lt
      simp only at this
      omega
  exact K (by omega) T hT X
/-- a new cell has the next address -/
theorem new_at {H1 : Heap} {locs1 : List Loc} {cells slots : Nat} {g : JFrame} {q : Nat} {e0 : va_E} (hP : va_P D cls (wsO B0 cA h ++ [(q, e0)]) H1) (hD : va_D (A0 B0) (wsO B0 cA h ++ [(q, e0)])) (hc : s.heap.size + cells = B0 + (h.1 + 1)) (K : q = B0 + h.1 → W p l e R s m args below meth c H1 locs1 cells slots Q g) : W p l e R s m args below meth c H1 locs1 cells slots Q g := by
  intro T hT X
  have h1 : T.heap.size ≤ s.heap.size + cells := X.heapSize
  rw [hT] at h1
  have hlast : (wsO B0 cA h ++ [(q, e0)])[h.1]? = some (q, e0) := by
    rw [List.getElem?_append_right (by rw [wsO_len]; exact Nat.le_refl _), wsO_len, Nat.sub_self]; rfl
  have h2 := (hP h.1 _ hlast).lt
  simp only at h2
  have h3 : B0 ≤ q := hD.2 h.1 _ hlast
  have h4 : ¬ q < B0 + h.1 := by
    intro z
    have hj : q - B0 < h.1 := by omega
    have hg : (wsO B0 cA h ++ [(q, e0)])[q - B0]? = some (B0 + (q - B0), cellO B0 cA h (q - B0)) := by
      rw [List.getElem?_append_left (by rw [wsO_len]; exact hj)]; exact wsO_get hj
    have := hD.1 h.1 (q - B0) _ _ hlast hg (by show q = B0 + (q - B0); omega)
    omega
  exact K (by omega) T hT X
theorem al_old {h : HP} {sh : Nat × Nat} {n j : Nat} (hj : j ≠ h.1) : cellO B0 cA (al h sh n) j = cellO B0 cA h j := cellO_same (ur_ne hj) (ur_ne hj) (ur_ne hj) (ur_ne hj)
theorem al_inv {h : HP} {sh : Nat × Nat} {n : Nat} (hi : InvH h) : InvH (al h sh n) := by
  intro a ha
  have ha' : h.1 + 1 ≤ a := ha
  show ur h.2.2.1 h.1 sh a = _
  rw [ur_ne (by omega)]
  exact hi a (by omega)
/-- behind the making of a cell -/
theorem made {H1 : Heap} {locs1 : List Loc} {lsA : Array Slot} {cells slots : Nat} {q : Nat} {e0 : va_E} {sh : Nat × Nat} {nn pc' : Nat} {r : List Value} (hP : va_P D cls (wsO B0 cA h ++ [(q, e0)]) H1) (hD : va_D (A0 B0) (wsO B0 cA h ++ [(q, e0)])) (he : e0 = cellO B0 cA (al h sh nn) h.1) (hS : va_S (A0 B0) s.heap H1 locs1) (hL : LOK B0 ta ls lsA (pml y)) (hc : (s.heap.size + cells = B0 + h.1 ∧ h0.2.1 + slots = h.2.1) ∧ InvH h)
    (K : Sim p l e R s m args below meth c Q B0 ta cA D y h0 (pc', kil k ls, .ref h.1 :: r, al h sh nn)) : W p l e R s m args below meth c H1 locs1 (cells + 1) (slots + nn) Q (F0 m pc' lsA (.ref q :: r.map (cv B0 ta))) := by
  have hc1 : s.heap.size + (cells + 1) = B0 + (h.1 + 1) := by omega
  refine new_at hP hD hc1 (fun hq => ?_)
  subst hq
  rw [he, wsO_push (h := h) (h' := al h sh nn) rfl (fun j hj => al_old (by omega))] at hP
  exact K H1 locs1 lsA (cells + 1) (slots + nn) hP hS (hL.kil k) ⟨⟨hc1, by show h0.2.1 + (slots + nn) = h.2.1 + nn; omega⟩, al_inv hc.2⟩
def RmB (R : Room) (s : State) (B0 : Nat) (h0 h : HP) : Prop := B0 + h.1 ≤ s.heap.size + R.cells ∧ h.2.1 ≤ h0.2.1 + R.slots
theorem al_shp {h : HP} {sh : Nat × Nat} {n : Nat} : (al h sh n).2.2.1 h.1 = sh := ur_eq
theorem al_R {h : HP} {sh : Nat × Nat} {n : Nat} : (al h sh n).2.2.2.1 h.1 = fun _ => none := ur_eq
theorem al_I {h : HP} {sh : Nat × Nat} {n : Nat} : (al h sh n).2.2.2.2.1 h.1 = fun _ => 0 := ur_eq
theorem al_J {h : HP} {sh : Nat × Nat} {n : Nat} : (al h sh n).2.2.2.2.2 h.1 = fun _ => 0 := ur_eq
theorem st_newint (C : Ctx p s m args meth c B0 ta cA D X y) (CK : Chk) (hd : decode (pby y) pc = .ok (raw, n)) (hk : ck_newa .int raw n = true) (hs : s_newa 0 (pc + n) k ls st h = some (.inl c')) (hR : RmB R s B0 h0 c'.2.2.2) (K : Sim p l e R s m args below meth c Q B0 ta cA D y h0 c') : Sim p l e R s m args below meth c Q B0 ta cA D y h0 (pc, ls, st, h) := by
  obtain ⟨⟨hx, hb, hml, hr⟩, ⟨hown, hts, hlk, hnm⟩, hE, hB⟩ := C
  unfold ck_newa at hk
  split at hk
  · simp only [Bool.and_eq_true, decide_eq_true_eq] at hk
    obtain ⟨rfl, rfl⟩ := hk
    unfold s_newa at hs
    split at hs
    · rename_i nn r
      split at hs
      · rename_i hn
        obtain rfl := nx_inv hs
        intro H locs lsA cells slots hP hS hL hc
        have hR1 : B0 + (h.1 + 1) ≤ s.heap.size + R.cells := hR.1
        have hR2 : h.2.1 + nn.toNatClampNeg ≤ h0.2.1 + R.slots := hR.2
        have hcc : s.heap.size + cells = B0 + h.1 ∧ h0.2.1 + slots = h.2.1 := hc.1
        refine va_newa (atype := .int) (a0 := (nn.toNatClampNeg, .inl (fun _ => 0))) hx hb (hts _ CK.2.2.2.2.2.2.2.1.1) rfl hE.1.1 hP wsO_D hS (fun q hq => Nat.le_trans hB hq) (fun _ => rfl) hn.1 rfl (show nn.toNatClampNeg * 4 ≤ 536870912 by omega) (by omega) (by omega) hd (fun q cA' H1 hK1 hP1 hD1 hS1 => ?_)
        have hcA : cA' = cA 0 := by
          have a1 := (hK1.2 7 (cA', .int) rfl).2
          have a2 := (hK1.2 0 (cA 0, .int) rfl).2
          exact Option.some.inj ((show s.vm.findClass _ = some cA' from a1).symm.trans (show s.vm.findClass _ = some (cA 0) from a2))
        subst hcA
        exact made hP1 hD1 (by rw [cellO_0 (by rw [al_shp]), al_shp, al_I]) hS1 hL hc K
      · cases hs
    · cases hs
  · cases hk
theorem st_newlong (C : Ctx p s m args meth c B0 ta cA D X y) (CK : Chk) (hd : decode (pby y) pc = .ok (raw, n)) (hk : ck_newa .long raw n = true) (hs : s_newa 1 (pc + n) k ls st h = some (.inl c')) (hR : RmB R s B0 h0 c'.2.2.2) (K : Sim p l e R s m args below meth c Q B0 ta cA D y h0 c') : Sim p l e R s m args below meth c Q B0 ta cA D y h0 (pc, ls, st, h) := by
  obtain ⟨⟨hx, hb, hml, hr⟩, ⟨hown, hts, hlk, hnm⟩, hE, hB⟩ := C
  unfold ck_newa at hk
  split at hk
  · simp only [Bool.and_eq_true, decide_eq_true_eq] at hk
    obtain ⟨rfl, rfl⟩ := hk
    unfold s_newa at hs
    split at hs
    · rename_i nn r
      split at hs
      · rename_i hn
        obtain rfl := nx_inv hs
        intro H locs lsA cells slots hP hS hL hc
        have hR1 : B0 + (h.1 + 1) ≤ s.heap.size + R.cells := hR.1
        have hR2 : h.2.1 + nn.toNatClampNeg ≤ h0.2.1 + R.slots := hR.2
        have hcc : s.heap.size + cells = B0 + h.1 ∧ h0.2.1 + slots = h.2.1 := hc.1
        refine va_newa (atype := .long) (a0 := (nn.toNatClampNeg, .inr (.inl (fun _ => 0)))) hx hb (hts _ CK.2.2.2.2.2.2.2.1.2.1) rfl hE.1.1 hP wsO_D hS (fun q hq => Nat.le_trans hB hq) (fun _ => rfl) hn.1 rfl (show nn.toNatClampNeg * 8 ≤ 536870912 by omega) (by omega) (by omega) hd (fun q cA' H1 hK1 hP1 hD1 hS1 => ?_)
        have hcA : cA' = cA 1 := by
          have a1 := (hK1.2 7 (cA', .long) rfl).2
          have a2 := (hK1.2 1 (cA 1, .long) rfl).2
          exact Option.some.inj ((show s.vm.findClass _ = some cA' from a1).symm.trans (show s.vm.findClass _ = some (cA 1) from a2))
        subst hcA
        exact made hP1 hD1 (by rw [cellO_1 (by rw [al_shp]), al_shp, al_J]) hS1 hL hc K
      · cases hs
    · cases hs
  · cases hk
theorem st_newbool (C : Ctx p s m args meth c B0 ta cA D X y) (CK : Chk) (hd : decode (pby y) pc = .ok (raw, n)) (hk : ck_newa .boolean raw n = true) (hs : s_newa 2 (pc + n) k ls st h = some (.inl c')) (hR : RmB R s B0 h0 c'.2.2.2) (K : Sim p l e R s m args below meth c Q B0 ta cA D y h0 c') : Sim p l e R s m args below meth c Q B0 ta cA D y h0 (pc, ls, st, h) := by
  obtain ⟨⟨hx, hb, hml, hr⟩, ⟨hown, hts, hlk, hnm⟩, hE, hB⟩ := C
  unfold ck_newa at hk
  split at hk
  · simp only [Bool.and_eq_true, decide_eq_true_eq] at hk
    obtain ⟨rfl, rfl⟩ := hk
    unfold s_newa at hs
    split at hs
    · rename_i nn r
      split at hs
      · rename_i hn
        obtain rfl := nx_inv hs
        intro H locs lsA cells slots hP hS hL hc
        have hR1 : B0 + (h.1 + 1) ≤ s.heap.size + R.cells := hR.1
        have hR2 : h.2.1 + nn.toNatClampNeg ≤ h0.2.1 + R.slots := hR.2
        have hcc : s.heap.size + cells = B0 + h.1 ∧ h0.2.1 + slots = h.2.1 := hc.1
        refine va_newa (atype := .boolean) (a0 := (nn.toNatClampNeg, .inl (fun _ => 0))) hx hb (hts _ CK.2.2.2.2.2.2.2.1.2.2) rfl hE.1.1 hP wsO_D hS (fun q hq => Nat.le_trans hB hq) (fun _ => rfl) hn.1 rfl (show nn.toNatClampNeg * 1 ≤ 536870912 by omega) (by omega) (by omega) hd (fun q cA' H1 hK1 hP1 hD1 hS1 => ?_)
        have hcA : cA' = cA 2 := by
          have a1 := (hK1.2 7 (cA', .boolean) rfl).2
          have a2 := (hK1.2 2 (cA 2, .boolean) rfl).2
          exact Option.some.inj ((show s.vm.findClass _ = some cA' from a1).symm.trans (show s.vm.findClass _ = some (cA 2) from a2))
        subst hcA
        exact made hP1 hD1 (by rw [cellO_2 (by rw [al_shp]), al_shp, al_I]) hS1 hL hc K
      · cases hs
    · cases hs
  · cases hk
theorem st_anewarray (C : Ctx p s m args meth c B0 ta cA D X y) (hd : decode (pby y) pc = .ok (raw, n)) {t pl : Nat} (hk : ck_anew y t raw n pl = true) (hs : s_newa t (pc + n) k ls st h = some (.inl c')) (hR : RmB R s B0 h0 c'.2.2.2) (K : Sim p l e R s m args below meth c Q B0 ta cA D y h0 c') : Sim p l e R s m args below meth c Q B0 ta cA D y h0 (pc, ls, st, h) := by
  obtain ⟨⟨hx, hb, hml, hr⟩, ⟨hown, hts, hlk, hnm⟩, hE, hB⟩ := C
  unfold ck_anew at hk
  split at hk
  · simp only [Bool.and_eq_true, decide_eq_true_eq] at hk
    obtain ⟨⟨hw, rfl⟩, h3, h7⟩ := hk
    unfold s_newa at hs
    split at hs
    · rename_i nn r
      split at hs
      · rename_i hn
        obtain rfl := nx_inv hs
        intro H locs lsA cells slots hP hS hL hc
        have hR1 : B0 + (h.1 + 1) ≤ s.heap.size + R.cells := hR.1
        have hR2 : h.2.1 + nn.toNatClampNeg ≤ h0.2.1 + R.slots := hR.2
        have hcc : s.heap.size + cells = B0 + h.1 ∧ h0.2.1 + slots = h.2.1 := hc.1
        refine va_newq (C := tnm t) hx hb hown (hts _ (hasW_in hw)) (hE.1.2 t h3 h7) hE.1.1 hP wsO_D hS (fun q hq => Nat.le_trans hB hq) hn.1 rfl (by omega) (by omega) (by omega) hd (fun q cA' H1 hK1 hP1 hD1 hS1 => ?_)
        have hcA : cA' = cA t := by
          have a1 := (hK1.2 7 (cA', .object (tnm t)) rfl).2
          have a2 := (hE.1.1.2 t _ (tys_at cA h3 h7)).2
          obtain ⟨_, _, _, _, _, b1⟩ := a1
          obtain ⟨_, _, _, _, _, b2⟩ := a2
          exact Option.some.inj (b1.symm.trans b2)
        subst hcA
        exact made hP1 hD1 (by rw [cellO_3 (by rw [al_shp]; exact h3) (by rw [al_shp]; exact h7), al_shp, al_R]; rfl) hS1 hL hc K
      · cases hs
    · cases hs
  · cases hk
theorem fT_le : ∀ f j, f < 12 → j < nf f → fT f j ≠ 0 → fT f j ≠ 1 → fT f j ≠ 2 → fT f j ≠ 3 → False := by
  have h : ∀ f, f < 12 → ∀ j, j < nf f → fT f j < 4 := by decide +kernel
  intro f j hf hj h0 h1 h2 h3
  have := h f hf j hj
  omega
theorem st_new (C : Ctx p s m args meth c B0 ta cA D X y) (CK : Chk) (hd : decode (pby y) pc = .ok (raw, n)) {f pl : Nat} (hk : ck_new y f raw n pl = true) (hs : nx (pc + n) k ls (.ref h.1 :: st) (al h (f + 7, 0) (nf f)) = some (.inl c')) (hR : RmB R s B0 h0 c'.2.2.2) (K : Sim p l e R s m args below meth c Q B0 ta cA D y h0 c') : Sim p l e R s m args below meth c Q B0 ta cA D y h0 (pc, ls, st, h) := by
  obtain ⟨⟨hx, hb, hml, hr⟩, ⟨hown, hts, hlk, hnm⟩, hE, hB⟩ := C
  unfold ck_new at hk
  split at hk
  · simp only [Bool.and_eq_true, decide_eq_true_eq] at hk
    obtain ⟨⟨hw, rfl⟩, hf⟩ := hk
    obtain rfl := nx_inv hs
    intro H locs lsA cells slots hP hS hL hc
    have hR1 : B0 + (h.1 + 1) ≤ s.heap.size + R.cells := hR.1
    have hR2 : h.2.1 + nf f ≤ h0.2.1 + R.slots := hR.2
    have hcc : s.heap.size + cells = B0 + h.1 ∧ h0.2.1 + slots = h.2.1 := hc.1
    have hin := CK.2.2.2.2.2.2.1 f hf (by omega)
    refine va_new (T := cT f) (N := nf f) (C := cn f) (ci := f) (fs := fvs B0 (al h (f + 7, 0) (nf f)) f h.1) hx hb hts (CK.2.2.2.1 f hf) (cty f) (fun k hk => (CK.2.2.2.2.1 f hf k hk).1) hown (hts _ (hasW_in hw)) (hts _ hin.1) (hts _ hin.2) hE.1.1 hP wsO_D hS (fun q hq => Nat.le_trans hB hq) (cls_get hf) ?_ (by omega) (by omega) hd (fun q H1 hP1 hD1 hS1 => ?_)
    · intro j hj
      have hcty := (CK.2.2.2.2.1 f hf j hj).2
      unfold vp_V
      rw [List.getD_eq_getElem?_getD, fvs_get hj]
      show _ = fvl _ _ _ _ _
      unfold fvl
      rw [al_I, al_J, al_R]
      split at hcty
      · rename_i hT; rw [hT, hcty]; rfl
      · rename_i hT; rw [hT, hcty]; rfl
      · rename_i hT; rw [hT, hcty]; rfl
      · rename_i n0 n1 n3
        by_cases h2 : fT f j = 2
        · rw [h2]
          cases hq : cty f j <;> rw [hq] at hcty <;> simp [rfR] at hcty <;> rfl
        · exact absurd (CK.2.2.2.2.1 f hf j hj).2 (by
            exfalso
            exact fT_le f j hf hj n0 n1 h2 n3)
    · exact made hP1 hD1 (by rw [cellO_obj (c := f) al_shp]) hS1 hL hc K
  · cases hk
end STEP
