/-! LAWS: foot, worth -/
/-- the code e lies in the row C from place i on -/
def cdX (I : Nat → Nat → Int32) (C : Nat) : Nat → List Nat → Prop
  | _, [] => True
  | i, c :: r => I C i = Int32.ofNat c ∧ cdX I C (i + 1) r
theorem cdX_app {I : Nat → Nat → Int32} {C : Nat} : ∀ (a b : List Nat) (i : Nat), cdX I C i (a ++ b) ↔ cdX I C i a ∧ cdX I C (i + a.length) b
  | [], b, i => ⟨fun h => ⟨trivial, h⟩, fun h => h.2⟩
  | c :: r, b, i => by
    have ih := cdX_app (I := I) (C := C) r b (i + 1)
    rw [List.cons_append, List.length_cons, show i + (r.length + 1) = i + 1 + r.length from by omega]
    exact ⟨fun h => ⟨⟨h.1, (ih.mp h.2).1⟩, (ih.mp h.2).2⟩, fun h => ⟨h.1.1, ih.mpr ⟨h.1.2, h.2⟩⟩⟩
theorem cdX.of {I I' : Nat → Nat → Int32} {C : Nat} (h : ∀ k, I' C k = I C k) : ∀ (e : List Nat) (i : Nat), cdX I C i e → cdX I' C i e
  | [], _, _ => trivial
  | c :: r, i, q => ⟨(h i).trans q.1, cdX.of h r (i + 1) q.2⟩
/-- a law's object -/
def LO (sh : Nat → Nat × Nat) (R : Nat → Nat → Option Nat) (L C S N held : Nat) : Prop := sh L = (10, 0) ∧ R L 0 = some C ∧ R L 1 = some S ∧ R L 2 = some N ∧ sh C = (0, held) ∧ sh S = (0, held + 1) ∧ sh N = (0, 7) ∧ C ≠ S ∧ C ≠ N ∧ S ≠ N ∧ held ≤ 241
def mkE (a0 a1 a2 a3 a4 a5 a6 : Int32) : Env := fun k => if k = 0 then a0 else if k = 1 then a1 else if k = 2 then a2 else if k = 3 then a3 else if k = 4 then a4 else if k = 5 then a5 else a6
section FOOT
variable {X : XX} {d : Nat} {sz sl : Nat} {sh : Nat → Nat × Nat} {R : Nat → Nat → Option Nat} {J : Nat → Nat → Int64} {L C S N held : Nat} {E : Env}
theorem s_exX (O : LO sh R L C S N held) : ∀ (e : List Nat) (i n : Nat) (s s' : List Int32) (I : Nat → Nat → Int32), i + e.length = n → cdX I C i e → xE E e s = some s' → s.length ≤ i → n ≤ held → repX I S s → (∀ k, k < 7 → I N k = E k) →
    ∃ I', exe X (d + 1) 59 63 [.ref L, dm, dm, dm, dm, dm, dm, dm, .int (Int32.ofNat s.length), .int 1, .int (Int32.ofNat i), dm] [] (sz, sl, sh, R, I, J) = exe X (d + 1) 59 63 [.ref L, dm, dm, dm, dm, dm, dm, dm, .int (Int32.ofNat s'.length), .int 1, .int (Int32.ofNat n), dm] [] (sz, sl, sh, R, I', J) ∧ repX I' S s' ∧ s'.length ≤ n ∧ (∀ a k, a ≠ S → I' a k = I a k)
  | [], i, n, s, s', I, hn, hc, he, hl, hh, hr, hE => by
    obtain rfl : i = n := hn
    cases he
    exact ⟨I, rfl, hr, hl, fun _ _ _ => rfl⟩
  | c :: r, i, n, s, s', I, hn, hc, he, hl, hh, hr, hE => by
    obtain ⟨o1, o2, o3, o4, o5, o6, o7, o8, o9, o10, o11⟩ := O
    rw [List.length_cons] at hn
    have h0 := hc.1
    have g1 : ¬ held ≤ i := by omega
    have g2 : i < held := by omega
    have g3 : (0 : Nat) < 7 := by decide
    have z1 : ¬ (1 : Int32) = 0 := by decide
    rw [xE] at he
    by_cases h7 : c < 10007
    · have hv : ∃ v, (if c < 10000 then Int32.ofNat c else E (c - 10000)) = v ∧ xE E r (v :: s) = some s' := by
        by_cases h1 : c < 10000
        · rw [if_pos h1] at he ⊢; exact ⟨_, rfl, he⟩
        · rw [if_neg h1, if_pos h7] at he; rw [if_neg h1]; exact ⟨_, rfl, he⟩
      obtain ⟨v, ev', he'⟩ := hv
      have f1 : Int32.ofNat (held + 1) - 1 = Int32.ofNat held := by rw [k_1, n_sub (by omega), Nat.add_sub_cancel]
      have f2 : ¬ held < s.length + 1 := by omega
      have f3 : s.length + 1 < held + 1 := by omega
      have f4 : ¬ 20000 ≤ c := by omega
      have op := s_operand (X := X) (d := d) (sz := sz) (sl := sl) (J := J) (I := I) o1 o4 o7 h7 hE
      rw [ev'] at op
      obtain ⟨I', a1, a2, a3, a4⟩ := s_exX ⟨o1, o2, o3, o4, o5, o6, o7, o8, o9, o10, o11⟩ r (i + 1) n (v :: s) s' (u2 I S (s.length + 1) v) (by omega) (hc.2.of (fun k => u2_pa o8)) he' (by rw [List.length_cons]; omega) hh ⟨u2_at0, repX_u s (by omega) hr⟩ (fun k hk => by rw [u2_pa o10.symm]; exact hE k hk)
      refine ⟨I', ?_, a2, a3, fun a k ha => by rw [a4 a k ha, u2_pa ha]⟩
      rw [← a1, t59_63 o1]
      simp (disch := first | omega | exact ib_r | exact ib_n | exact isB_rfv _ | assumption) only [o2, o3, o5, o6, g1, g2, g3, h0, z1, k_20000, n_le, n_inb, n_cl, f4, op, f1, n_suc, n_lt, f2, f3, ↓reduceIte, eq_self, and_self, and_true, true_and, not_true_eq_false, not_false_eq_true, ob_s, tl_s, tl_n, rf_ref, orf_ref, orf_null, nn_ref, nn_null, rfv_s, rfv_n, if_true, if_false, bi_01, bi_e0, bi_e1, or_t, Classical.not_not, t59_141 o1, List.length_cons]
    · rw [if_neg (by omega), if_neg h7] at he
      by_cases h8 : 20000 ≤ c ∧ isop (c - 20000) = true
      · rw [if_pos h8] at he
        match s, he, hl, hr with
        | [], he, _, _ => cases he
        | [_], he, _, _ => cases he
        | b :: a :: s0, he, hl, hr =>
          have he' : xE E r (opv (c - 20000) a b :: s0) = some s' := he
          have isc := isop_c h8.2
          have f5 : ¬ c = 20063 := by omega
          have f6 : ¬ c = 20059 := by omega
          have f7 : ¬ Int32.ofNat (s0.length + 1 + 1) ≤ 0 := by rw [k_0, n_le (by simp only [List.length_cons] at hl; omega) (by decide)]; omega
          simp only [List.length_cons] at hl
          have f8 : s0.length + 1 < held + 1 := by omega
          have f9 : s0.length + 1 + 1 < held + 1 := by omega
          have ra : I S (s0.length + 1) = a := hr.2.1
          have rb : I S (s0.length + 1 + 1) = b := hr.1
          obtain ⟨I', a1, a2, a3, a4⟩ := s_exX ⟨o1, o2, o3, o4, o5, o6, o7, o8, o9, o10, o11⟩ r (i + 1) n (opv (c - 20000) a b :: s0) s' (u2 I S (s0.length + 1) (opv (c - 20000) a b)) (by omega) (hc.2.of (fun k => u2_pa o8)) he' (by rw [List.length_cons]; omega) hh ⟨u2_at0, repX_u s0 (by omega) hr.2.2⟩ (fun k hk => by rw [u2_pa o10.symm]; exact hE k hk)
          refine ⟨I', ?_, a2, a3, fun a k ha => by rw [a4 a k ha, u2_pa ha]⟩
          rw [← a1, t59_63 o1]
          have h81 := h8.1
          simp (disch := first | omega | exact ib_r | exact ib_n | exact isB_rfv _ | assumption) only [o2, o3, o5, o6, g1, g2, g3, h0, z1, k_20000, k_20063, k_20059, n_le, n_eq, n_sub, n_inb, n_cl, h81, f5, f6, f7, f8, f9, n_m1, n_suc, ra, rb, s_joined h8.2, ↓reduceIte, eq_self, and_self, and_true, true_and, not_true_eq_false, not_false_eq_true, ob_s, tl_s, tl_n, rf_ref, orf_ref, orf_null, nn_ref, nn_null, rfv_s, rfv_n, if_true, if_false, bi_01, bi_e0, bi_e1, or_t, Classical.not_not, t59_241 o1, List.length_cons]
      · rw [if_neg h8] at he; cases he
theorem s_skX (O : LO sh R L C S N held) : ∀ (e : List Nat) (i n : Nat) (I : Nat → Nat → Int32), i + e.length = n → cdX I C i e → (∀ x, x ∈ e → x ≠ 20059 ∧ x < 30000) → n ≤ held →
    exe X (d + 1) 59 63 [.ref L, dm, dm, dm, dm, dm, dm, dm, .int 0, .int 0, .int (Int32.ofNat i), dm] [] (sz, sl, sh, R, I, J) = exe X (d + 1) 59 63 [.ref L, dm, dm, dm, dm, dm, dm, dm, .int 0, .int 0, .int (Int32.ofNat n), dm] [] (sz, sl, sh, R, I, J)
  | [], i, n, I, hn, _, _, _ => by
    obtain rfl : i = n := hn
    rfl
  | c :: r, i, n, I, hn, hc, hx, hh => by
    have O' := O
    obtain ⟨o1, o2, o3, o4, o5, o6, o7, o8, o9, o10, o11⟩ := O
    rw [List.length_cons] at hn
    have h0 := hc.1
    have g1 : ¬ held ≤ i := by omega
    have g2 : i < held := by omega
    have g3 : (0 : Nat) < 7 := by decide
    have hx0 := hx c (List.mem_cons_self ..)
    have hne : ¬ c = 20059 := hx0.1
    have hlt := hx0.2
    rw [← s_skX O' r (i + 1) n I (by omega) hc.2 (fun x h => hx x (List.mem_cons_of_mem _ h)) hh, t59_63 o1]
    simp (disch := first | omega | exact ib_r | exact ib_n | exact isB_rfv _ | assumption) only [o2, o5, g1, g2, g3, h0, k_20059, n_le, n_eq, n_inb, n_cl, hne, n_suc, ↓reduceIte, eq_self, and_self, and_true, true_and, not_true_eq_false, not_false_eq_true, ob_s, tl_s, tl_n, rf_ref, orf_ref, orf_null, nn_ref, nn_null, rfv_s, rfv_n, if_true, if_false, bi_01, bi_e0, bi_e1, or_t, Classical.not_not]
theorem s_ftX (O : LO sh R L C S N held) : ∀ (T : List LN) (i : Nat) (I : Nat → Nat → Int32), (∀ l, l ∈ T → wfl l) → i + (tx T).length = held → cdX I C i (tx T) → (∀ k, k < 7 → I N k = E k) →
    ∃ I', exe X (d + 1) 59 63 [.ref L, dm, dm, dm, dm, dm, dm, dm, .int 0, .int 1, .int (Int32.ofNat i), dm] [] (sz, sl, sh, R, I, J) = some (some (.int (Int32.ofNat (clN (lv E T)))), (sz, sl, sh, R, I', J)) ∧ (∀ a k, a ≠ S → I' a k = I a k)
  | [], i, I, _, hn, _, _ => by
    obtain rfl : i = held := by simpa [tx] using hn
    obtain ⟨o1, o2, o3, o4, o5, o6, o7, o8, o9, o10, o11⟩ := O
    have g3 : (0 : Nat) < 7 := by decide
    refine ⟨I, ?_, fun _ _ _ => rfl⟩
    rw [t59_63 o1, o2, rfv_s, rf_ref, o5]
    exact (if_pos g3).trans (if_pos (Int32.le_refl _))
  | (none, q) :: r, i, I, hw, hn, hc, hE => by
    have O' := O
    obtain ⟨o1, o2, o3, o4, o5, o6, o7, o8, o9, o10, o11⟩ := O
    have hq := (hw _ (List.mem_cons_self ..)).2
    have e0 : tx ((none, q) :: r) = q.1 ++ [20059] ++ tx r := rfl
    rw [e0] at hn hc
    rw [List.length_append, List.length_append, List.length_singleton] at hn
    rw [cdX_app, cdX_app] at hc
    obtain ⟨I', a1, a2, a3, a4⟩ := s_exX (X := X) (d := d) (sz := sz) (sl := sl) (J := J) O' q.1 i (i + q.1.length) [] [q.2.2 E] I rfl hc.1.1 (hq.1 E []) (by simp) (by omega) trivial hE
    refine ⟨I', a1.trans ?_, a4⟩
    have h0 : I' C (i + q.1.length) = Int32.ofNat 20059 := by rw [a4 _ _ o8]; exact hc.1.2.1
    have g1 : ¬ held ≤ i + q.1.length := by omega
    have g2 : i + q.1.length < held := by omega
    have g3 : (0 : Nat) < 7 := by decide
    have g4 : ¬ (20059 : Nat) = 20063 := by decide
    have g5 : (20000 : Nat) ≤ 20059 := by decide
    have g6 : 1 < held + 1 := by omega
    have z1 : ¬ (1 : Int32) = 0 := by decide
    have ra : I' S 1 = q.2.2 E := a2.1
    have ln : ([q.2.2 E] : List Int32).length = 1 := rfl
    rw [t59_63 o1]
    simp (disch := first | omega | exact ib_r | exact ib_n | exact isB_rfv _ | assumption) only [o2, o3, o5, o6, g1, g2, g3, h0, z1, k_20000, k_20063, k_20059, n_le, n_eq, n_inb, n_cl, g4, g5, g6, ln, ra, ↓reduceIte, eq_self, and_self, and_true, true_and, not_true_eq_false, not_false_eq_true, ob_s, tl_s, tl_n, rf_ref, orf_ref, orf_null, nn_ref, nn_null, rfv_s, rfv_n, if_true, if_false, bi_01, bi_e0, bi_e1, or_t, Classical.not_not]
    rw [clN_X]
    rfl
  | (some p, q) :: r, i, I, hw, hn, hc, hE => by
    have O' := O
    obtain ⟨o1, o2, o3, o4, o5, o6, o7, o8, o9, o10, o11⟩ := O
    have hq := (hw _ (List.mem_cons_self ..)).2
    have hp := (hw _ (List.mem_cons_self ..)).1 p rfl
    have e0 : tx ((some p, q) :: r) = p.1 ++ [20063] ++ q.1 ++ [20059] ++ tx r := rfl
    rw [e0] at hn hc
    rw [List.length_append, List.length_append, List.length_append, List.length_append, List.length_singleton, List.length_singleton] at hn
    rw [cdX_app, cdX_app, cdX_app, cdX_app] at hc
    simp only [List.length_append, List.length_singleton] at hc
    obtain ⟨I', a1, a2, a3, a4⟩ := s_exX (X := X) (d := d) (sz := sz) (sl := sl) (J := J) O' p.1 i (i + p.1.length) [] [p.2.2 E] I rfl hc.1.1.1.1 (hp.1 E []) (by simp) (by omega) trivial hE
    have h0 : I' C (i + p.1.length) = Int32.ofNat 20063 := by rw [a4 _ _ o8]; exact hc.1.1.1.2.1
    have g1 : ¬ held ≤ i + p.1.length := by omega
    have g2 : i + p.1.length < held := by omega
    have g3 : (0 : Nat) < 7 := by decide
    have g5 : (20000 : Nat) ≤ 20063 := by decide
    have g6 : 1 < held + 1 := by omega
    have z1 : ¬ (1 : Int32) = 0 := by decide
    have ra : I' S 1 = p.2.2 E := a2.1
    have ln : ([p.2.2 E] : List Int32).length = 1 := rfl
    have cq : cdX I' C (i + p.1.length + 1) q.1 := cdX.of (fun k => a4 _ _ o8) _ _ (by rw [show i + p.1.length + 1 = i + (p.1.length + 1) from rfl]; exact hc.1.1.2)
    have c59 : I' C (i + p.1.length + 1 + q.1.length) = Int32.ofNat 20059 := by
      rw [a4 _ _ o8, show i + p.1.length + 1 + q.1.length = i + (p.1.length + 1 + q.1.length) from by omega]
      exact hc.1.2.1
    have h1 : ¬ held ≤ i + p.1.length + 1 + q.1.length := by omega
    have h2 : i + p.1.length + 1 + q.1.length < held := by omega
    have g4 : ¬ (20059 : Nat) = 20063 := by decide
    have g7 : (20000 : Nat) ≤ 20059 := by decide
    have first : exe X (d + 1) 59 63 [.ref L, dm, dm, dm, dm, dm, dm, dm, .int (Int32.ofNat ([p.2.2 E] : List Int32).length), .int 1, .int (Int32.ofNat (i + p.1.length)), dm] [] (sz, sl, sh, R, I', J) = (if p.2.2 E = 0 then exe X (d + 1) 59 63 [.ref L, dm, dm, dm, dm, dm, dm, dm, .int 0, .int 0, .int (Int32.ofNat (i + p.1.length + 1)), dm] [] (sz, sl, sh, R, I', J) else exe X (d + 1) 59 63 [.ref L, dm, dm, dm, dm, dm, dm, dm, .int 0, .int 1, .int (Int32.ofNat (i + p.1.length + 1)), dm] [] (sz, sl, sh, R, I', J)) := by
      rw [t59_63 o1]
      simp (disch := first | omega | exact ib_r | exact ib_n | exact isB_rfv _ | assumption) only [o2, o3, o5, o6, g1, g2, g3, h0, z1, k_20000, k_20063, n_le, n_eq, n_inb, n_cl, g5, g6, ln, ra, n_suc, ↓reduceIte, eq_self, and_self, and_true, true_and, not_true_eq_false, not_false_eq_true, ob_s, tl_s, tl_n, rf_ref, orf_ref, orf_null, nn_ref, nn_null, rfv_s, rfv_n, if_true, if_false, bi_01, bi_e0, bi_e1, or_t, Classical.not_not]
    by_cases hz : p.2.2 E = 0
    · have sk := s_skX (X := X) (d := d) (sz := sz) (sl := sl) (J := J) O' q.1 (i + p.1.length + 1) (i + p.1.length + 1 + q.1.length) I' rfl cq hq.2.2.1 (by omega)
      have ct : cdX I' C (i + p.1.length + 1 + q.1.length + 1) (tx r) := cdX.of (fun k => a4 _ _ o8) _ _ (by rw [show i + p.1.length + 1 + q.1.length + 1 = i + (p.1.length + 1 + q.1.length + 1) from by omega]; exact hc.2)
      obtain ⟨I2, b1, b2⟩ := s_ftX O' r (i + p.1.length + 1 + q.1.length + 1) I' (fun l hl => hw l (List.mem_cons_of_mem _ hl)) (by omega) ct (fun k hk => by rw [a4 _ _ o10.symm]; exact hE k hk)
      refine ⟨I2, ?_, fun a k ha => by rw [b2 a k ha, a4 a k ha]⟩
      rw [show lv E ((some p, q) :: r) = lv E r from by show (if p.2.2 E = 0 then _ else _) = _; rw [if_pos hz]]
      refine a1.trans (first.trans ?_)
      rw [if_pos hz, sk, ← b1, t59_63 o1]
      simp (disch := first | omega | exact ib_r | exact ib_n | exact isB_rfv _ | assumption) only [o2, o5, h1, h2, g3, c59, k_20059, n_le, n_eq, n_inb, n_cl, n_suc, ↓reduceIte, eq_self, and_self, and_true, true_and, not_true_eq_false, not_false_eq_true, ob_s, tl_s, tl_n, rf_ref, orf_ref, orf_null, nn_ref, nn_null, rfv_s, rfv_n, if_true, if_false, bi_01, bi_e0, bi_e1, or_t, Classical.not_not]
    · obtain ⟨I2, b1, b2, b3, b4⟩ := s_exX (X := X) (d := d) (sz := sz) (sl := sl) (J := J) O' q.1 (i + p.1.length + 1) (i + p.1.length + 1 + q.1.length) [] [q.2.2 E] I' rfl cq (hq.1 E []) (by simp) (by omega) trivial (fun k hk => by rw [a4 _ _ o10.symm]; exact hE k hk)
      refine ⟨I2, ?_, fun a k ha => by rw [b4 a k ha, a4 a k ha]⟩
      rw [show lv E ((some p, q) :: r) = q.2.2 E from by show (if p.2.2 E = 0 then _ else _) = _; rw [if_neg hz]]
      refine a1.trans (first.trans ?_)
      rw [if_neg hz]
      refine b1.trans ?_
      have c59' : I2 C (i + p.1.length + 1 + q.1.length) = Int32.ofNat 20059 := by rw [b4 _ _ o8]; exact c59
      have rb : I2 S 1 = q.2.2 E := b2.1
      have ln2 : ([q.2.2 E] : List Int32).length = 1 := rfl
      rw [t59_63 o1]
      simp (disch := first | omega | exact ib_r | exact ib_n | exact isB_rfv _ | assumption) only [o2, o3, o5, o6, h1, h2, g3, c59', z1, k_20000, k_20063, k_20059, n_le, n_eq, n_inb, n_cl, g4, g6, g7, ln2, rb, ↓reduceIte, eq_self, and_self, and_true, true_and, not_true_eq_false, not_false_eq_true, ob_s, tl_s, tl_n, rf_ref, orf_ref, orf_null, nn_ref, nn_null, rfv_s, rfv_n, if_true, if_false, bi_01, bi_e0, bi_e1, or_t, Classical.not_not]
      rw [clN_X]
theorem s_foot (O : LO sh R L C S N held) {T : List LN} {I : Nat → Nat → Int32} {a0 a1 a2 a3 a4 a5 a6 : Int32} (hw : ∀ l, l ∈ T → wfl l) (hn : (tx T).length = held) (hc : cdX I C 0 (tx T)) : ∃ I', ev X (d + 2) 59 [.ref L, .int a0, .int a1, .int a2, .int a3, .int a4, .int a5, .int a6] (sz, sl, sh, R, I, J) = some (some (.int (Int32.ofNat (clN (lv (mkE a0 a1 a2 a3 a4 a5 a6) T)))), (sz, sl, sh, R, I', J)) ∧ (∀ a k, a ≠ S → a ≠ N → I' a k = I a k) := by
  have O' := O
  obtain ⟨o1, o2, o3, o4, o5, o6, o7, o8, o9, o10, o11⟩ := O
  obtain ⟨I', b1, b2⟩ := s_ftX (X := X) (d := d) (sz := sz) (sl := sl) (J := J) (E := mkE a0 a1 a2 a3 a4 a5 a6) O' T 0 (u2 (u2 (u2 (u2 (u2 (u2 (u2 I N 0 a0) N 1 a1) N 2 a2) N 3 a3) N 4 a4) N 5 a5) N 6 a6) hw (by omega) (hc.of (fun k => by rw [u2_pa o9, u2_pa o9, u2_pa o9, u2_pa o9, u2_pa o9, u2_pa o9, u2_pa o9])) (fun k hk => by
    unfold mkE
    rcases (show k = 0 ∨ k = 1 ∨ k = 2 ∨ k = 3 ∨ k = 4 ∨ k = 5 ∨ k = 6 by omega) with rfl | rfl | rfl | rfl | rfl | rfl | rfl
    · rw [u2_pj (by decide), u2_pj (by decide), u2_pj (by decide), u2_pj (by decide), u2_pj (by decide), u2_pj (by decide), u2_at0]; rfl
    · rw [u2_pj (by decide), u2_pj (by decide), u2_pj (by decide), u2_pj (by decide), u2_pj (by decide), u2_at0]; rfl
    · rw [u2_pj (by decide), u2_pj (by decide), u2_pj (by decide), u2_pj (by decide), u2_at0]; rfl
    · rw [u2_pj (by decide), u2_pj (by decide), u2_pj (by decide), u2_at0]; rfl
    · rw [u2_pj (by decide), u2_pj (by decide), u2_at0]; rfl
    · rw [u2_pj (by decide), u2_at0]; rfl
    · rw [u2_at0]; rfl)
  refine ⟨I', ?_, fun a k h1 h2 => by rw [b2 a k h1, u2_pa h2, u2_pa h2, u2_pa h2, u2_pa h2, u2_pa h2, u2_pa h2, u2_pa h2]⟩
  rw [← b1, n59, t59_0 o1]
  have g0 : inb 0 7 := by decide
  have g1 : inb 1 7 := by decide
  have g2 : inb 2 7 := by decide
  have g3 : inb 3 7 := by decide
  have g4 : inb 4 7 := by decide
  have g5 : inb 5 7 := by decide
  have g6 : inb 6 7 := by decide
  simp (disch := first | omega | exact ib_r | exact ib_n | exact isB_rfv _ | assumption) only [o4, o7, g0, g1, g2, g3, g4, g5, g6, ↓reduceIte, eq_self, and_self, and_true, true_and, not_true_eq_false, not_false_eq_true, ob_s, tl_s, tl_n, rf_ref, orf_ref, orf_null, nn_ref, nn_null, rfv_s, rfv_n, if_true, if_false, bi_01, bi_e0, bi_e1, or_t, Classical.not_not]
  rfl
end FOOT
