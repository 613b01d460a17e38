/-! STEPS THAT READ OR CHANGE THE HEAP -/
theorem cls_get {c : Nat} (h : c < 12) : cls[c]? = some (cn c, cT c, nf c) := by
  unfold cls
  rw [List.getElem?_map, List.getElem?_range h]
  rfl
theorem fvs_get {B0 : Nat} {h : HP} {c a k : Nat} (hk : k < nf c) : (fvs B0 h c a)[k]? = some (fvl B0 h c a k) := by
  unfold fvs
  rw [List.getElem?_map, List.getElem?_range hk]
  rfl
theorem fvs_len {B0 : Nat} {h : HP} {c a : Nat} : (fvs B0 h c a).length = nf c := by unfold fvs; rw [List.length_map, List.length_range]
theorem fvs_set {B0 : Nat} {h h' : HP} {c a k : Nat} {v : Value} (hv : fvl B0 h' c a k = v) (ho : ∀ j, j ≠ k → fvl B0 h' c a j = fvl B0 h c a j) : (fvs B0 h c a).set k v = fvs B0 h' c a := by
  apply List.ext_getElem?
  intro j
  rw [List.getElem?_set]
  by_cases hj : k = j
  · subst hj
    rw [if_pos rfl]
    by_cases hk : k < nf c
    · rw [if_pos (by rw [fvs_len]; exact hk), fvs_get hk, hv]
    · rw [if_neg (by rw [fvs_len]; exact hk)]
      symm
      rw [List.getElem?_eq_none_iff, fvs_len]; omega
  · rw [if_neg hj]
    by_cases hk : j < nf c
    · rw [fvs_get hk, fvs_get hk, ho j (Ne.symm hj)]
    · rw [List.getElem?_eq_none_iff.mpr (by rw [fvs_len]; omega), List.getElem?_eq_none_iff.mpr (by rw [fvs_len]; omega)]
theorem cellO_same {B0 : Nat} {cA : Nat → ClassId} {h h' : HP} {k : Nat} (hs : h'.2.2.1 k = h.2.2.1 k) (hR : h'.2.2.2.1 k = h.2.2.2.1 k) (hI : h'.2.2.2.2.1 k = h.2.2.2.2.1 k) (hJ : h'.2.2.2.2.2 k = h.2.2.2.2.2 k) : cellO B0 cA h' k = cellO B0 cA h k := by
  have hf : ∀ c, fvs B0 h' c k = fvs B0 h c k := by
    intro c
    unfold fvs
    congr 1
    funext j
    unfold fvl
    rw [hR, hI, hJ]
  unfold cellO
  rw [hs, hR, hI, hJ, hf]
theorem u2_ne {α : Type} {f : Nat → Nat → α} {a k j : Nat} {x : α} (h : j ≠ a) : u2 f a k x j = f j := by funext q; unfold u2; rw [if_neg (fun z => h z.1)]
theorem u2_eqI {f : Nat → Nat → Int32} {a k : Nat} {x : Int32} : u2 f a k x a = upd (f a) k x := by funext q; unfold u2 upd; simp
theorem u2_eqJ {f : Nat → Nat → Int64} {a k : Nat} {x : Int64} : u2 f a k x a = vp_updL (f a) k x := by funext q; unfold u2 vp_updL; simp
theorem u2_at {α : Type} {f : Nat → Nat → α} {a k : Nat} {x : α} : u2 f a k x a k = x := by unfold u2; rw [if_pos ⟨rfl, rfl⟩]
theorem u2_nk {α : Type} {f : Nat → Nat → α} {a b k j : Nat} {x : α} (h : j ≠ k) : u2 f a k x b j = f b j := by unfold u2; rw [if_neg (fun z => h z.2)]
theorem ur_ne {α : Type} {f : Nat → α} {k j : Nat} {g : α} (h : j ≠ k) : ur f k g j = f j := by unfold ur; rw [if_neg h]
theorem ur_eq {α : Type} {f : Nat → α} {k : Nat} {g : α} : ur f k g k = g := by unfold ur; rw [if_pos rfl]
theorem rfv_cv {B0 : Nat} {ta : Nat → Nat} (r : Option Nat) : cv B0 ta (rfv r) = va_rf (r.map (fun a => B0 + a)) := by cases r <;> rfl
theorem cellO_obj {B0 : Nat} {cA : Nat → ClassId} {h : HP} {a c : Nat} (hs : h.2.2.1 a = (c + 7, 0)) : cellO B0 cA h a = .inr (c, fvs B0 h c a) := by
  unfold cellO
  rw [hs]
  rw [if_neg (by simp), if_neg (by simp), if_neg (by simp), if_neg (by simp)]
  simp
theorem cellO_0 {B0 : Nat} {cA : Nat → ClassId} {h : HP} {a : Nat} (hs : (h.2.2.1 a).1 = 0) : cellO B0 cA h a = .inl (cA 0, (h.2.2.1 a).2, .inl (h.2.2.2.2.1 a)) := by unfold cellO; rw [if_pos hs]
theorem cellO_1 {B0 : Nat} {cA : Nat → ClassId} {h : HP} {a : Nat} (hs : (h.2.2.1 a).1 = 1) : cellO B0 cA h a = .inl (cA 1, (h.2.2.1 a).2, .inr (.inl (h.2.2.2.2.2 a))) := by unfold cellO; rw [if_neg (by omega), if_pos hs]
theorem cellO_2 {B0 : Nat} {cA : Nat → ClassId} {h : HP} {a : Nat} (hs : (h.2.2.1 a).1 = 2) : cellO B0 cA h a = .inl (cA 2, (h.2.2.1 a).2, .inl (h.2.2.2.2.1 a)) := by unfold cellO; rw [if_neg (by omega), if_neg (by omega), if_pos hs]
theorem cellO_3 {B0 : Nat} {cA : Nat → ClassId} {h : HP} {a : Nat} (h3 : 3 ≤ (h.2.2.1 a).1) (h7 : (h.2.2.1 a).1 < 7) : cellO B0 cA h a = .inl (cA (h.2.2.1 a).1, (h.2.2.1 a).2, .inr (.inr (.inr (.inr (fun j => (h.2.2.2.1 a j).map (fun a => B0 + a)))))) := by unfold cellO; rw [if_neg (by omega), if_neg (by omega), if_neg (by omega), if_pos h7]
theorem cell_I {B0 : Nat} {cA : Nat → ClassId} (h : HP) {a g : Nat} {x : Int32} {j : Nat} (hj : j ≠ a) : cellO B0 cA (h.1, h.2.1, h.2.2.1, h.2.2.2.1, u2 h.2.2.2.2.1 a g x, h.2.2.2.2.2) j = cellO B0 cA h j := cellO_same rfl rfl (u2_ne hj) rfl
theorem cell_J {B0 : Nat} {cA : Nat → ClassId} (h : HP) {a g : Nat} {x : Int64} {j : Nat} (hj : j ≠ a) : cellO B0 cA (h.1, h.2.1, h.2.2.1, h.2.2.2.1, h.2.2.2.2.1, u2 h.2.2.2.2.2 a g x) j = cellO B0 cA h j := cellO_same rfl rfl rfl (u2_ne hj)
theorem cell_R {B0 : Nat} {cA : Nat → ClassId} (h : HP) {a g : Nat} {x : Option Nat} {j : Nat} (hj : j ≠ a) : cellO B0 cA (h.1, h.2.1, h.2.2.1, u2 h.2.2.2.1 a g x, h.2.2.2.2.1, h.2.2.2.2.2) j = cellO B0 cA h j := cellO_same rfl (u2_ne hj) rfl rfl
theorem fvl_I {B0 : Nat} (h : HP) {a f g : Nat} {x : Int32} (hT : fT f g ≠ 1 ∧ fT f g ≠ 2) : fvl B0 (h.1, h.2.1, h.2.2.1, h.2.2.2.1, u2 h.2.2.2.2.1 a g x, h.2.2.2.2.2) f a g = .int x := by
  unfold fvl
  split
  · rename_i z; exact absurd z hT.1
  · rename_i z; exact absurd z hT.2
  · show Value.int (u2 _ a g x a g) = _; rw [u2_at]
theorem fvl_J {B0 : Nat} (h : HP) {a f g : Nat} {x : Int64} (hT : fT f g = 1) : fvl B0 (h.1, h.2.1, h.2.2.1, h.2.2.2.1, h.2.2.2.2.1, u2 h.2.2.2.2.2 a g x) f a g = .long x := by
  unfold fvl; rw [hT]; show Value.long (u2 _ a g x a g) = _; rw [u2_at]
theorem fvl_R {B0 : Nat} (h : HP) {a f g : Nat} {x : Option Nat} (hT : fT f g = 2) : fvl B0 (h.1, h.2.1, h.2.2.1, u2 h.2.2.2.1 a g x, h.2.2.2.2.1, h.2.2.2.2.2) f a g = va_rf (x.map fun a => B0 + a) := by
  unfold fvl; rw [hT]; show va_rf ((u2 _ a g x a g).map _) = _; rw [u2_at]
theorem fvl_Io {B0 : Nat} (h : HP) {a f g : Nat} {x : Int32} {j : Nat} (hj : j ≠ g) : fvl B0 (h.1, h.2.1, h.2.2.1, h.2.2.2.1, u2 h.2.2.2.2.1 a g x, h.2.2.2.2.2) f a j = fvl B0 h f a j := by
  unfold fvl; split
  · rfl
  · rfl
  · show Value.int (u2 _ a g x a j) = _; rw [u2_nk hj]
theorem fvl_Jo {B0 : Nat} (h : HP) {a f g : Nat} {x : Int64} {j : Nat} (hj : j ≠ g) : fvl B0 (h.1, h.2.1, h.2.2.1, h.2.2.2.1, h.2.2.2.2.1, u2 h.2.2.2.2.2 a g x) f a j = fvl B0 h f a j := by
  unfold fvl; split
  · show Value.long (u2 _ a g x a j) = _; rw [u2_nk hj]
  · rfl
  · rfl
theorem fvl_Ro {B0 : Nat} (h : HP) {a f g : Nat} {x : Option Nat} {j : Nat} (hj : j ≠ g) : fvl B0 (h.1, h.2.1, h.2.2.1, u2 h.2.2.2.1 a g x, h.2.2.2.2.1, h.2.2.2.2.2) f a j = fvl B0 h f a j := by
  unfold fvl; split
  · rfl
  · show va_rf ((u2 _ a g x a j).map _) = _; rw [u2_nk hj]
  · rfl
theorem InvH.lt {h : HP} (hi : InvH h) {a t : Nat} (hs : (h.2.2.1 a).1 = t) (ht : t < 1000000) : a < h.1 := by
  apply Nat.lt_of_not_le
  intro q
  rw [hi a q] at hs
  simp only at hs
  omega
section STEP
variable {p : Program} {l : Launch} {e : Jvm.Env} {R : Room} {s : State} {m : MethodId} {args : Array Value} {below : List Frame} {meth : Method} {c : Code} {Q : State → Prop} {B0 : Nat} {ta : Nat → Nat} {cA : Nat → ClassId} {D : va_G} {X : XX} {y : Nat} {h0 : HP} {pc n : Nat} {k k2 : List Nat} {ls st : List Value} {h : HP} {c' : Cfg} {raw : Instr}
theorem st_getfield (C : Ctx p s m args meth c B0 ta cA D X y) (CK : Chk) (hd : decode (pby y) pc = .ok (raw, n)) {f g pl : Nat} (hk : ck_get y f g raw n pl = true) (hs : s_get f g (pc + n) k ls st h = some (.inl c')) (K : Sim p l e R s m args below meth c Q B0 ta cA D y h0 c') : Sim p l e R s m args below meth c Q B0 ta cA D y h0 (pc, ls, st, h) := by
  obtain ⟨⟨hx, hb, hml, hr⟩, ⟨hown, hts, hlk, hnm⟩, hE, hB⟩ := C
  unfold ck_get at hk
  split at hk
  · simp only [Bool.and_eq_true, decide_eq_true_eq] at hk
    obtain ⟨⟨hw, rfl⟩, hf, hg⟩ := hk
    unfold s_get at hs
    split at hs
    · rename_i a r
      split at hs
      · rename_i hsh
        intro H locs lsA cells slots hP hS hL hc
        have ha : a < h.1 := hc.2.lt (t := f + 7) (by rw [hsh.1]) (by omega)
        have he := wsO_get (B0 := B0) (cA := cA) ha
        rw [cellO_obj hsh.1] at he
        refine va_get (D := D) (T := cT f) (N := nf f) (C := cn f) (ref := cn f) hx hb hts (CK.2.2.2.1 f hf) hown hE.1.1 hP a he (cls_get hf) g hg (hts _ (hasW_in hw)) (fun _ z => z) (fvs_get hg) hd ?_
        unfold fvl
        split at hs
        · rename_i ht
          rw [ht]
          obtain rfl := nx_inv hs
          exact K H locs lsA cells slots hP hS (hL.kil k) hc
        · rename_i ht
          rw [ht]
          obtain rfl := nx_inv hs
          have := K H locs lsA cells slots hP hS (hL.kil k) hc
          rw [List.map_cons, rfv_cv] at this
          exact this
        · rename_i h1 h2
          obtain rfl := nx_inv hs
          have := K H locs lsA cells slots hP hS (hL.kil k) hc
          split
          · rename_i z; exact absurd z h1
          · rename_i z; exact absurd z h2
          · exact this
      · cases hs
    · cases hs
  · cases hk
/-- a field gets a value -/
theorem put_row (C : Ctx p s m args meth c B0 ta cA D X y) (CK : Chk) (hd : decode (pby y) pc = .ok (raw, n)) {f g pl a : Nat} (hk : ck_put y f g raw n pl = true) {v : Value} {r : List Value} {h' : HP} (hsh : h.2.2.1 a = (f + 7, 0)) (hg : g < nf f)
    (hn : narrow (cty f g) (cv B0 ta v) = cv B0 ta v) (hfit : fits (cty f g) (cv B0 ta v) = true) (h1 : h'.1 = h.1 ∧ h'.2.1 = h.2.1) (hshp : h'.2.2.1 = h.2.2.1) (ho : ∀ j, j ≠ a → cellO B0 cA h' j = cellO B0 cA h j) (hv : fvl B0 h' f a g = cv B0 ta v) (hvo : ∀ j, j ≠ g → fvl B0 h' f a j = fvl B0 h f a j)
    (K : Sim p l e R s m args below meth c Q B0 ta cA D y h0 (pc + n, kil k ls, r, h')) : Sim p l e R s m args below meth c Q B0 ta cA D y h0 (pc, ls, v :: .ref a :: r, h) := by
  obtain ⟨⟨hx, hb, hml, hr⟩, ⟨hown, hts, hlk, hnm⟩, hE, hB⟩ := C
  unfold ck_put at hk
  split at hk
  · simp only [Bool.and_eq_true, decide_eq_true_eq, Bool.or_eq_true, Bool.not_eq_true'] at hk
    obtain ⟨⟨⟨hw, rfl⟩, hf, -⟩, hfin⟩ := hk
    intro H locs lsA cells slots hP hS hL hc
    have ha : a < h.1 := hc.2.lt (t := f + 7) (by rw [hsh]) (by omega)
    have he := wsO_get (B0 := B0) (cA := cA) ha
    rw [cellO_obj hsh] at he
    have e2 : (wsO B0 cA h).set a (B0 + a, .inr (f, (fvs B0 h f a).set g (cv B0 ta v))) = wsO B0 cA h' := by
      rw [fvs_set hv hvo, ← cellO_obj (B0 := B0) (cA := cA) (h := h') (by rw [hshp]; exact hsh)]
      exact wsO_set h1.1 ho
    have kk : ∀ (H1 : Heap) (locs1 : List Loc), va_P D cls ((wsO B0 cA h).set a (B0 + a, .inr (f, (fvs B0 h f a).set g (cv B0 ta v)))) H1 → va_D (A0 B0) ((wsO B0 cA h).set a (B0 + a, .inr (f, (fvs B0 h f a).set g (cv B0 ta v)))) → va_S (A0 B0) s.heap H1 locs1 → W p l e R s m args below meth c H1 locs1 cells slots Q (F0 m (pc + 3) lsA (r.map (cv B0 ta))) := by
      intro H1 locs1 hP1 _ hS1
      rw [e2] at hP1
      exact K H1 locs1 lsA cells slots hP1 hS1 (hL.kil k) ⟨by rw [h1.1, h1.2]; exact hc.1, fun q z => by show h'.2.2.1 q = _; rw [hshp]; exact hc.2 q (by rw [← h1.1]; exact z)⟩
    have hty : ∀ k, k < nf f → parseFieldDescriptor (cT f k).2.2.1 = some (cty f k) := fun k hk => (CK.2.2.2.2.1 f hf k hk).1
    rcases hfin with hfin | ⟨hi, ho2⟩
    · exact va_put (D := D) (T := cT f) (N := nf f) (C := cn f) (ref := cn f) hx hb hts (CK.2.2.2.1 f hf) (cty f) hty (CK.2.2.2.2.2.1 f hf) hown hE.1.1 hP wsO_D hS a he (cls_get hf) g hg (hts _ (hasW_in hw)) (fun _ z => z) hfin (hty g hg) hn hfit (by rw [fvs_len]; exact hg) hd kk
    · by_cases hff : (cT f g).2.2.2 = true
      · have hnm : meth.name = (pnm y).name := by
          rcases hnm with q | q
          · exact q
          · subst q; exact absurd hi (by decide +kernel)
        exact va_putF (D := D) (T := cT f) (N := nf f) (C := cn f) (ref := cn f) hx hb hts (CK.2.2.2.1 f hf) (cty f) hty (CK.2.2.2.2.2.1 f hf) hown hE.1.1 hP wsO_D hS a he (cls_get hf) g hg (hts _ (hasW_in hw)) (fun _ z => z) hff (hnm.trans hi) ho2 (hty g hg) hn hfit (by rw [fvs_len]; exact hg) hd kk
      · exact va_put (D := D) (T := cT f) (N := nf f) (C := cn f) (ref := cn f) hx hb hts (CK.2.2.2.1 f hf) (cty f) hty (CK.2.2.2.2.2.1 f hf) hown hE.1.1 hP wsO_D hS a he (cls_get hf) g hg (hts _ (hasW_in hw)) (fun _ z => z) (by simpa using hff) (hty g hg) hn hfit (by rw [fvs_len]; exact hg) hd kk
  · cases hk
theorem narrow_01 {x : Int32} (h : x = 0 ∨ x = 1) : narrow .boolean (.int x) = .int x ∧ fits .boolean (.int x) = true := by
  rcases h with rfl | rfl <;> exact ⟨by decide, by decide⟩
theorem rfR_ref {t : FieldType} (h : rfR (some t) = true) (v : Value) (hv : v = .null ∨ ∃ a, v = .ref a) : narrow t v = v ∧ fits t v = true := by
  cases t <;> simp [rfR] at h <;> (rcases hv with rfl | ⟨a, rfl⟩ <;> exact ⟨rfl, rfl⟩)
theorem st_putfield (C : Ctx p s m args meth c B0 ta cA D X y) (CK : Chk) (hd : decode (pby y) pc = .ok (raw, n)) {f g pl : Nat} (hk : ck_put y f g raw n pl = true) (hs : s_put f g (pc + n) k ls st h = some (.inl c')) (K : Sim p l e R s m args below meth c Q B0 ta cA D y h0 c') : Sim p l e R s m args below meth c Q B0 ta cA D y h0 (pc, ls, st, h) := by
  have hfg : f < 12 ∧ g < nf f := by
    unfold ck_put at hk
    split at hk
    · simp only [Bool.and_eq_true, decide_eq_true_eq] at hk
      exact hk.1.2
    · cases hk
  have hcty := (CK.2.2.2.2.1 f hfg.1 g hfg.2).2
  unfold s_put at hs
  split at hs
  · rename_i v a r
    split at hs
    · rename_i hsh
      split at hs
      · rename_i x hT
        rw [hT] at hcty
        simp only at hcty
        obtain rfl := nx_inv hs
        refine put_row (v := .int x) (h' := (h.1, h.2.1, h.2.2.1, h.2.2.2.1, u2 h.2.2.2.2.1 a g x, h.2.2.2.2.2)) C CK hd hk hsh.1 hsh.2 (by rw [hcty]; rfl) (by rw [hcty]; rfl) ⟨rfl, rfl⟩ rfl (fun j hj => cell_I h hj) (fvl_I h (by rw [hT]; exact ⟨by decide, by decide⟩)) (fun j hj => fvl_Io h hj) K
      · rename_i x hT
        rw [hT] at hcty
        simp only at hcty
        split at hs
        · rename_i hx01
          obtain rfl := nx_inv hs
          refine put_row (v := .int x) (h' := (h.1, h.2.1, h.2.2.1, h.2.2.2.1, u2 h.2.2.2.2.1 a g x, h.2.2.2.2.2)) C CK hd hk hsh.1 hsh.2 (by rw [hcty]; exact (narrow_01 hx01).1) (by rw [hcty]; exact (narrow_01 hx01).2) ⟨rfl, rfl⟩ rfl (fun j hj => cell_I h hj) (fvl_I h (by rw [hT]; exact ⟨by decide, by decide⟩)) (fun j hj => fvl_Io h hj) K
        · cases hs
      · rename_i x hT
        rw [hT] at hcty
        simp only at hcty
        obtain rfl := nx_inv hs
        refine put_row (v := .long x) (h' := (h.1, h.2.1, h.2.2.1, h.2.2.2.1, h.2.2.2.2.1, u2 h.2.2.2.2.2 a g x)) C CK hd hk hsh.1 hsh.2 (by rw [hcty]; rfl) (by rw [hcty]; rfl) ⟨rfl, rfl⟩ rfl (fun j hj => cell_J h hj) (fvl_J h hT) (fun j hj => fvl_Jo h hj) K
      · rename_i b hT
        rw [hT] at hcty
        simp only at hcty
        obtain rfl := nx_inv hs
        refine put_row (v := .ref b) (h' := (h.1, h.2.1, h.2.2.1, u2 h.2.2.2.1 a g (some b), h.2.2.2.2.1, h.2.2.2.2.2)) C CK hd hk hsh.1 hsh.2 (rfR_ref hcty _ (Or.inr ⟨_, rfl⟩)).1 (rfR_ref hcty _ (Or.inr ⟨_, rfl⟩)).2 ⟨rfl, rfl⟩ rfl (fun j hj => cell_R h hj) (fvl_R h hT) (fun j hj => fvl_Ro h hj) K
      · rename_i hT
        rw [hT] at hcty
        simp only at hcty
        obtain rfl := nx_inv hs
        refine put_row (v := .null) (h' := (h.1, h.2.1, h.2.2.1, u2 h.2.2.2.1 a g none, h.2.2.2.2.1, h.2.2.2.2.2)) C CK hd hk hsh.1 hsh.2 (rfR_ref hcty _ (Or.inl rfl)).1 (rfR_ref hcty _ (Or.inl rfl)).2 ⟨rfl, rfl⟩ rfl (fun j hj => cell_R h hj) (fvl_R h hT) (fun j hj => fvl_Ro h hj) K
      · cases hs
    · cases hs
  · cases hs
end STEP
