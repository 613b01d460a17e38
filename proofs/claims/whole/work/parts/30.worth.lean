/-! LAWS: worth -/
section WORTH
variable {X : XX} {d : Nat} {sz sl : Nat} {sh : Nat → Nat × Nat} {R : Nat → Nat → Option Nat} {J : Nat → Nat → Int64} {l held : Nat} {E : Env}
noncomputable def wAt (X : XX) (d sz sl : Nat) (sh : Nat → Nat × Nat) (R : Nat → Nat → Option Nat) (J : Nat → Nat → Int64) (l t sk i : Nat) (I : Nat → Nat → Int32) : Option Rs := exe X (d + 2) 182 73 [.ref 37, .int (Int32.ofNat l), dm, dm, dm, dm, dm, dm, .int (Int32.ofNat t), .int (Int32.ofNat sk), .int (Int32.ofNat i), dm] [] (sz, sl, sh, R, I, J)
theorem s_exM (hS : SF sh R) (hl4 : l < 4) (hh : held ≤ 129) {sk : Nat} : ∀ (e : List Nat) (i n : Nat) (s s' : List Int32) (I : Nat → Nat → Int32), i + e.length = n → I 47 l = Int32.ofNat held → cdX I 46 (200 * l + i) e → mE E e s = some s' → s.length ≤ i → n ≤ held → repM I s → (∀ k, k < 7 → I 65 k = E k) → (∀ x, x ∈ e → x < 110000) →
    ∃ I', wAt X d sz sl sh R J l s.length sk i I = wAt X d sz sl sh R J l s'.length sk n I' ∧ repM I' s' ∧ s'.length ≤ n ∧ (∀ a k, a ≠ 66 → I' a k = I a k)
  | [], i, n, s, s', I, hn, h47, hc, he, hl, hhn, hr, hE, hx => by
    obtain rfl : i = n := hn
    cases he
    exact ⟨I, rfl, hr, hl, fun _ _ _ => rfl⟩
  | c :: r, i, n, s, s', I, hn, h47, hc, he, hl, hhn, hr, hE, hx => by
    rw [List.length_cons] at hn
    have h0 := hc.1
    have hc2 : cdX I 46 (200 * l + (i + 1)) r := hc.2
    have hxc := hx c (List.mem_cons_self ..)
    have hxr : ∀ x, x ∈ r → x < 110000 := fun x h => hx x (List.mem_cons_of_mem _ h)
    have g1 : ¬ held ≤ i := by omega
    have g2 : 200 * l + i < 800 := by omega
    have g3 : s.length < 130 := by omega
    rw [mE] at he
    by_cases h1 : 100000 ≤ c
    · rw [if_pos h1, if_pos hxc] at he
      obtain ⟨I', a1, a2, a3, a4⟩ := s_exM hS hl4 hh r (i + 1) n (Int32.ofNat (c - 100000) :: s) s' (u2 I 66 s.length (Int32.ofNat (c - 100000))) (by omega) (by rw [u2_pa (by decide)]; exact h47) (hc2.of (fun k => u2_pa (by decide))) he (by rw [List.length_cons]; omega) hhn ⟨u2_at0, repM_u s (Nat.le_refl _) hr⟩ (fun k hk => by rw [u2_pa (by decide)]; exact hE k hk) hxr
      refine ⟨I', ?_, a2, a3, fun a k ha => by rw [a4 a k ha, u2_pa ha]⟩
      have f1 : 8 ≤ c := by omega
      rw [← a1]
      unfold wAt
      rw [t182_73 hS]
      simp (disch := first | omega | exact ib_r | exact ib_n | exact isB_rfv _ | assumption) only [n_inb, n_cl, hl4, h47, n_le, g1, g2, g3, k_200, n_mul, n_add, h0, k_100000, h1, ↓reduceIte, eq_self, and_self, and_true, true_and, not_true_eq_false, not_false_eq_true, ob_s, tl_s, tl_n, rf_ref, orf_ref, orf_null, nn_ref, nn_null, rfv_s, rfv_n, if_true, if_false, bi_01, bi_e0, bi_e1, or_t, Classical.not_not, t182_113 hS, k_8, f1, n_sub, n_suc, List.length_cons]
    rw [if_neg h1] at he
    by_cases h2 : c < 7
    · rw [if_pos h2] at he
      have hEc := hE c h2
      obtain ⟨I', a1, a2, a3, a4⟩ := s_exM hS hl4 hh r (i + 1) n (E c :: s) s' (u2 I 66 s.length (E c)) (by omega) (by rw [u2_pa (by decide)]; exact h47) (hc2.of (fun k => u2_pa (by decide))) he (by rw [List.length_cons]; omega) hhn ⟨u2_at0, repM_u s (Nat.le_refl _) hr⟩ (fun k hk => by rw [u2_pa (by decide)]; exact hE k hk) hxr
      refine ⟨I', ?_, a2, a3, fun a k ha => by rw [a4 a k ha, u2_pa ha]⟩
      have f1 : ¬ 8 ≤ c := by omega
      have f2 : c < 8 := by omega
      rw [← a1]
      unfold wAt
      rw [t182_73 hS]
      simp (disch := first | omega | exact ib_r | exact ib_n | exact isB_rfv _ | assumption) only [n_inb, n_cl, hl4, h47, n_le, g1, g2, g3, k_200, n_mul, n_add, h0, k_100000, h1, ↓reduceIte, eq_self, and_self, and_true, true_and, not_true_eq_false, not_false_eq_true, ob_s, tl_s, tl_n, rf_ref, orf_ref, orf_null, nn_ref, nn_null, rfv_s, rfv_n, if_true, if_false, bi_01, bi_e0, bi_e1, or_t, Classical.not_not, t182_113 hS, k_8, f1, f2, hEc, n_suc, List.length_cons]
    rw [if_neg h2] at he
    by_cases h3 : c = 13
    · subst h3
      rw [if_pos rfl] at he
      match s, he, hl, hr, g3 with
      | [], he, _, _, _ => cases he
      | a :: s0, he, hl, hr, g3 =>
        have he' : mE E r (bi (a = 0) :: s0) = some s' := he
        rw [List.length_cons] at hl g3
        have ra : I 66 s0.length = a := hr.1
        obtain ⟨I', a1, a2, a3, a4⟩ := s_exM hS hl4 hh r (i + 1) n (bi (a = 0) :: s0) s' (u2 I 66 s0.length (bi (a = 0))) (by omega) (by rw [u2_pa (by decide)]; exact h47) (hc2.of (fun k => u2_pa (by decide))) he' (by rw [List.length_cons]; omega) hhn ⟨u2_at0, repM_u s0 (Nat.le_refl _) hr.2⟩ (fun k hk => by rw [u2_pa (by decide)]; exact hE k hk) hxr
        refine ⟨I', ?_, a2, a3, fun a k ha => by rw [a4 a k ha, u2_pa ha]⟩
        have f1 : (8 : Nat) ≤ 13 := by decide
        have f2 : s0.length < 130 := by omega
        have f3 : Int32.ofNat (s0.length + 1) - 1 = Int32.ofNat s0.length := by rw [k_1, n_sub (by omega), Nat.add_sub_cancel]
        rw [← a1]
        unfold wAt
        rw [t182_73 hS]
        by_cases hz : a = 0
        · rw [bi_t hz]
          simp (disch := first | omega | exact ib_r | exact ib_n | exact isB_rfv _ | assumption) only [n_inb, n_cl, hl4, h47, n_le, n_eq, g1, g2, k_200, n_mul, n_add, h0, k_100000, h1, k_8, k_13, f1, f2, f3, ra, hz, s_asOne.2, t182_183, zS66 hS, n_suc, List.length_cons, ↓reduceIte, eq_self, and_self, and_true, true_and, not_true_eq_false, not_false_eq_true, ob_s, tl_s, tl_n, rf_ref, orf_ref, orf_null, nn_ref, nn_null, rfv_s, rfv_n, if_true, if_false, bi_01, bi_e0, bi_e1, or_t, Classical.not_not]
        · rw [bi_f hz]
          simp (disch := first | omega | exact ib_r | exact ib_n | exact isB_rfv _ | assumption) only [n_inb, n_cl, hl4, h47, n_le, n_eq, g1, g2, k_200, n_mul, n_add, h0, k_100000, h1, k_8, k_13, f1, f2, f3, ra, hz, s_asOne.1, t182_183, zS66 hS, n_suc, List.length_cons, ↓reduceIte, eq_self, and_self, and_true, true_and, not_true_eq_false, not_false_eq_true, ob_s, tl_s, tl_n, rf_ref, orf_ref, orf_null, nn_ref, nn_null, rfv_s, rfv_n, if_true, if_false, bi_01, bi_e0, bi_e1, or_t, Classical.not_not]
    rw [if_neg h3] at he
    by_cases h4 : c = 19
    · subst h4
      rw [if_pos rfl] at he
      match s, he, hl, hr, g3 with
      | [], he, _, _, _ => cases he
      | a :: s0, he, hl, hr, g3 =>
        have he' : mE E r (-a :: s0) = some s' := he
        rw [List.length_cons] at hl g3
        have ra : I 66 s0.length = a := hr.1
        obtain ⟨I', a1, a2, a3, a4⟩ := s_exM hS hl4 hh r (i + 1) n (-a :: s0) s' (u2 I 66 s0.length (-a)) (by omega) (by rw [u2_pa (by decide)]; exact h47) (hc2.of (fun k => u2_pa (by decide))) he' (by rw [List.length_cons]; omega) hhn ⟨u2_at0, repM_u s0 (Nat.le_refl _) hr.2⟩ (fun k hk => by rw [u2_pa (by decide)]; exact hE k hk) hxr
        refine ⟨I', ?_, a2, a3, fun a k ha => by rw [a4 a k ha, u2_pa ha]⟩
        have f1 : (8 : Nat) ≤ 19 := by decide
        have f2 : s0.length < 130 := by omega
        have f3 : Int32.ofNat (s0.length + 1) - 1 = Int32.ofNat s0.length := by rw [k_1, n_sub (by omega), Nat.add_sub_cancel]
        have k19 : (19 : Int32) = Int32.ofNat 19 := rfl
        have f4 : ¬ (19 : Nat) = 13 := by decide
        rw [← a1]
        unfold wAt
        rw [t182_73 hS]
        simp (disch := first | omega | exact ib_r | exact ib_n | exact isB_rfv _ | assumption) only [n_inb, n_cl, hl4, h47, n_le, n_eq, g1, g2, k_200, n_mul, n_add, h0, k_100000, h1, k_8, k_13, k19, f1, f2, f3, f4, ra, n_suc, List.length_cons, ↓reduceIte, eq_self, and_self, and_true, true_and, not_true_eq_false, not_false_eq_true, ob_s, tl_s, tl_n, rf_ref, orf_ref, orf_null, nn_ref, nn_null, rfv_s, rfv_n, if_true, if_false, bi_01, bi_e0, bi_e1, or_t, Classical.not_not]
    rw [if_neg h4] at he
    by_cases h5 : isom c = true
    · rw [if_pos h5] at he
      match s, he, hl, hr, g3 with
      | [], he, _, _, _ => cases he
      | [_], he, _, _, _ => cases he
      | b :: a :: s0, he, hl, hr, g3 =>
        have he' : mE E r (opv (om c) a b :: s0) = some s' := he
        simp only [List.length_cons] at hl g3
        have isc := isom_c h5
        have ra : I 66 s0.length = a := hr.2.1
        have rb : I 66 (s0.length + 1) = b := hr.1
        obtain ⟨I', a1, a2, a3, a4⟩ := s_exM hS hl4 hh r (i + 1) n (opv (om c) a b :: s0) s' (u2 I 66 s0.length (opv (om c) a b)) (by omega) (by rw [u2_pa (by decide)]; exact h47) (hc2.of (fun k => u2_pa (by decide))) he' (by rw [List.length_cons]; omega) hhn ⟨u2_at0, repM_u s0 (Nat.le_refl _) hr.2.2⟩ (fun k hk => by rw [u2_pa (by decide)]; exact hE k hk) hxr
        refine ⟨I', ?_, a2, a3, fun a k ha => by rw [a4 a k ha, u2_pa ha]⟩
        have f1 : 8 ≤ c := by omega
        have f2 : s0.length < 130 := by omega
        have f2' : s0.length + 1 < 130 := by omega
        have f3 : Int32.ofNat (s0.length + 1) - 1 = Int32.ofNat s0.length := by rw [k_1, n_sub (by omega), Nat.add_sub_cancel]
        have f4 : ¬ c = 41 := by omega
        have f5 : ¬ c = 40 := by omega
        have f6 : ¬ c = 42 := by omega
        have k19 : (19 : Int32) = Int32.ofNat 19 := rfl
        rw [← a1]
        unfold wAt
        rw [t182_73 hS]
        simp (disch := first | omega | exact ib_r | exact ib_n | exact isB_rfv _ | assumption) only [n_inb, n_cl, hl4, h47, n_le, n_eq, g1, g2, k_200, n_mul, n_add, h0, k_100000, h1, k_8, k_13, k19, k_41, k_40, k_42, f1, f2, f2', f3, f4, f5, f6, h3, h4, ra, rb, n_m1, s_two h5, t182_314, zS66 hS, n_suc, List.length_cons, ↓reduceIte, eq_self, and_self, and_true, true_and, not_true_eq_false, not_false_eq_true, ob_s, tl_s, tl_n, rf_ref, orf_ref, orf_null, nn_ref, nn_null, rfv_s, rfv_n, if_true, if_false, bi_01, bi_e0, bi_e1, or_t, Classical.not_not]
    · rw [if_neg h5] at he; cases he
theorem s_ftM (hS : SF sh R) (hl4 : l < 4) (hh : held ≤ 129) : ∀ (T : List LN) (i : Nat) (I : Nat → Nat → Int32), (∀ q, q ∈ T → wfl q) → i + (tm T).length = held → I 47 l = Int32.ofNat held → cdX I 46 (200 * l + i) (tm T) → (∀ k, k < 7 → I 65 k = E k) →
    ∃ I', wAt X d sz sl sh R J l 0 0 i I = some (some (.int (lv E T)), (sz, sl, sh, R, I', J)) ∧ (∀ a k, a ≠ 66 → I' a k = I a k)
  | [], i, I, _, hn, h47, _, _ => by
    obtain rfl : i = held := by simpa [tm] using hn
    refine ⟨I, ?_, fun _ _ _ => rfl⟩
    unfold wAt
    have h47' : I 47 (Int32.ofNat l).toNatClampNeg = Int32.ofNat i := by rw [n_cl (by omega)]; exact h47
    rw [t182_73 hS]
    exact (if_pos (by rw [n_inb (by omega)]; exact hl4)).trans (if_pos (by rw [h47']; exact Int32.le_refl _))
  | (none, q) :: r, i, I, hw, hn, h47, hc, hE => by
    have hq := (hw _ (List.mem_cons_self ..)).2
    have e0 : tm ((none, q) :: r) = q.2.1 ++ [40] ++ tm r := rfl
    rw [e0] at hn hc
    rw [List.length_append, List.length_append, List.length_singleton] at hn
    rw [cdX_app, cdX_app] at hc
    simp only [List.length_append, List.length_singleton] at hc
    obtain ⟨I', a1, a2, a3, a4⟩ := s_exM (X := X) (d := d) (sz := sz) (sl := sl) (J := J) (sk := 0) hS hl4 hh q.2.1 i (i + q.2.1.length) [] [q.2.2 E] I rfl h47 hc.1.1 (hq.2.1 E []) (by simp) (by omega) trivial hE hq.2.2.2
    refine ⟨I', a1.trans ?_, a4⟩
    have h0 : I' 46 (200 * l + (i + q.2.1.length)) = Int32.ofNat 40 := by rw [a4 _ _ (by decide), ← Nat.add_assoc]; exact hc.1.2.1
    have h47' : I' 47 l = Int32.ofNat held := by rw [a4 _ _ (by decide)]; exact h47
    have g1 : ¬ held ≤ i + q.2.1.length := by omega
    have g2 : 200 * l + (i + q.2.1.length) < 800 := by omega
    have ra : I' 66 0 = q.2.2 E := a2.1
    have ln : ([q.2.2 E] : List Int32).length = 0 + 1 := rfl
    have f0 : ¬ (100000 : Nat) ≤ 40 := by decide
    have f1 : (8 : Nat) ≤ 40 := by decide
    have f2 : ¬ (40 : Nat) = 13 := by decide
    have f3 : ¬ (40 : Nat) = 19 := by decide
    have f4 : ¬ (40 : Nat) = 41 := by decide
    have f5 : (0 : Nat) < 130 := by decide
    have k19 : (19 : Int32) = Int32.ofNat 19 := rfl
    have z0 : Int32.ofNat 0 = 0 := rfl
    unfold wAt
    rw [t182_73 hS]
    simp (disch := first | omega | exact ib_r | exact ib_n | exact isB_rfv _ | assumption) only [n_inb, n_cl, hl4, h47', n_le, n_eq, g1, g2, k_200, n_mul, n_add, h0, k_100000, k_8, k_13, k19, k_41, k_40, f0, f1, f2, f3, f4, ↓reduceIte, eq_self, and_self, and_true, true_and, not_true_eq_false, not_false_eq_true, ob_s, tl_s, tl_n, rf_ref, orf_ref, orf_null, nn_ref, nn_null, rfv_s, rfv_n, if_true, if_false, bi_01, bi_e0, bi_e1, or_t, Classical.not_not]
    rw [t182_260 hS, if_neg (fun z => z z0), ln, n_m1]
    simp (disch := first | omega | exact ib_r | exact ib_n | exact isB_rfv _ | assumption) only [n_inb, n_cl, f5, ra, ↓reduceIte, eq_self, and_self, and_true, true_and, not_true_eq_false, not_false_eq_true, ob_s, tl_s, tl_n, rf_ref, orf_ref, orf_null, nn_ref, nn_null, rfv_s, rfv_n, if_true, if_false, bi_01, bi_e0, bi_e1, or_t, Classical.not_not]
    rfl
  | (some p, q) :: r, i, I, hw, hn, h47, hc, hE => by
    have hq := (hw _ (List.mem_cons_self ..)).2
    have hp := (hw _ (List.mem_cons_self ..)).1 p rfl
    have e0 : tm ((some p, q) :: r) = p.2.1 ++ [41] ++ q.2.1 ++ [42] ++ tm r := rfl
    rw [e0] at hn hc
    rw [List.length_append, List.length_append, List.length_append, List.length_append, List.length_singleton, List.length_singleton] at hn
    rw [cdX_app, cdX_app, cdX_app, cdX_app] at hc
    simp only [List.length_append, List.length_singleton] at hc
    obtain ⟨I', a1, a2, a3, a4⟩ := s_exM (X := X) (d := d) (sz := sz) (sl := sl) (J := J) (sk := 0) hS hl4 hh p.2.1 i (i + p.2.1.length) [] [p.2.2 E] I rfl h47 hc.1.1.1.1 (hp.2.1 E []) (by simp) (by omega) trivial hE hp.2.2.2
    have h0 : I' 46 (200 * l + (i + p.2.1.length)) = Int32.ofNat 41 := by rw [a4 _ _ (by decide), ← Nat.add_assoc]; exact hc.1.1.1.2.1
    have h47' : I' 47 l = Int32.ofNat held := by rw [a4 _ _ (by decide)]; exact h47
    have g1 : ¬ held ≤ i + p.2.1.length := by omega
    have g2 : 200 * l + (i + p.2.1.length) < 800 := by omega
    have ra : I' 66 0 = p.2.2 E := a2.1
    have ln : ([p.2.2 E] : List Int32).length = 0 + 1 := rfl
    have f0 : ¬ (100000 : Nat) ≤ 41 := by decide
    have f1 : (8 : Nat) ≤ 41 := by decide
    have f2 : ¬ (41 : Nat) = 13 := by decide
    have f3 : ¬ (41 : Nat) = 19 := by decide
    have f5 : (0 : Nat) < 130 := by decide
    have k19 : (19 : Int32) = Int32.ofNat 19 := rfl
    have first : ∃ sk, sk ≤ 1 ∧ (sk = 0 ↔ ¬ p.2.2 E = 0) ∧ wAt X d sz sl sh R J l ([p.2.2 E] : List Int32).length 0 (i + p.2.1.length) I' = wAt X d sz sl sh R J l 0 sk (i + p.2.1.length + 1) I' := by
      by_cases hz : p.2.2 E = 0
      · refine ⟨1, by decide, ⟨fun z => absurd z (by decide), fun z => absurd hz z⟩, ?_⟩
        unfold wAt
        rw [t182_73 hS, ln]
        simp (disch := first | omega | exact ib_r | exact ib_n | exact isB_rfv _ | assumption) only [n_inb, n_cl, hl4, h47', n_le, n_eq, g1, g2, k_200, n_mul, n_add, h0, k_100000, k_8, k_13, k19, k_41, f0, f1, f2, f3, f5, n_m1, ra, hz, n_suc, ↓reduceIte, eq_self, and_self, and_true, true_and, not_true_eq_false, not_false_eq_true, ob_s, tl_s, tl_n, rf_ref, orf_ref, orf_null, nn_ref, nn_null, rfv_s, rfv_n, if_true, if_false, bi_01, bi_e0, bi_e1, or_t, Classical.not_not]
        rfl
      · refine ⟨0, by decide, ⟨fun _ => hz, fun _ => rfl⟩, ?_⟩
        unfold wAt
        rw [t182_73 hS, ln]
        simp (disch := first | omega | exact ib_r | exact ib_n | exact isB_rfv _ | assumption) only [n_inb, n_cl, hl4, h47', n_le, n_eq, g1, g2, k_200, n_mul, n_add, h0, k_100000, k_8, k_13, k19, k_41, f0, f1, f2, f3, f5, n_m1, ra, hz, n_suc, ↓reduceIte, eq_self, and_self, and_true, true_and, not_true_eq_false, not_false_eq_true, ob_s, tl_s, tl_n, rf_ref, orf_ref, orf_null, nn_ref, nn_null, rfv_s, rfv_n, if_true, if_false, bi_01, bi_e0, bi_e1, or_t, Classical.not_not]
        rfl
    obtain ⟨sk, hsk, hsk0, hfirst⟩ := first
    have cq : cdX I' 46 (200 * l + (i + p.2.1.length + 1)) q.2.1 := cdX.of (fun k => a4 _ _ (by decide)) _ _ (by rw [show 200 * l + (i + p.2.1.length + 1) = 200 * l + i + (p.2.1.length + 1) from by omega]; exact hc.1.1.2)
    have c42 : I' 46 (200 * l + (i + p.2.1.length + 1 + q.2.1.length)) = Int32.ofNat 42 := by
      rw [a4 _ _ (by decide), show 200 * l + (i + p.2.1.length + 1 + q.2.1.length) = 200 * l + i + (p.2.1.length + 1 + q.2.1.length) from by omega]
      exact hc.1.2.1
    obtain ⟨I2, b1, b2, b3, b4⟩ := s_exM (X := X) (d := d) (sz := sz) (sl := sl) (J := J) (sk := sk) hS hl4 hh q.2.1 (i + p.2.1.length + 1) (i + p.2.1.length + 1 + q.2.1.length) [] [q.2.2 E] I' rfl h47' cq (hq.2.1 E []) (by simp) (by omega) trivial (fun k hk => by rw [a4 _ _ (by decide)]; exact hE k hk) hq.2.2.2
    have h0' : I2 46 (200 * l + (i + p.2.1.length + 1 + q.2.1.length)) = Int32.ofNat 42 := by rw [b4 _ _ (by decide)]; exact c42
    have h47'' : I2 47 l = Int32.ofNat held := by rw [b4 _ _ (by decide)]; exact h47'
    have g1' : ¬ held ≤ i + p.2.1.length + 1 + q.2.1.length := by omega
    have g2' : 200 * l + (i + p.2.1.length + 1 + q.2.1.length) < 800 := by omega
    have rb : I2 66 0 = q.2.2 E := b2.1
    have ln2 : ([q.2.2 E] : List Int32).length = 0 + 1 := rfl
    have e0 : ¬ (100000 : Nat) ≤ 42 := by decide
    have e1 : (8 : Nat) ≤ 42 := by decide
    have e2 : ¬ (42 : Nat) = 13 := by decide
    have e3 : ¬ (42 : Nat) = 19 := by decide
    have e4 : ¬ (42 : Nat) = 41 := by decide
    have e5 : ¬ (42 : Nat) = 40 := by decide
    have second : wAt X d sz sl sh R J l ([q.2.2 E] : List Int32).length sk (i + p.2.1.length + 1 + q.2.1.length) I2 = if ¬ Int32.ofNat sk = 0 then wAt X d sz sl sh R J l 0 0 (i + p.2.1.length + 1 + q.2.1.length + 1) I2 else some (some (.int (q.2.2 E)), (sz, sl, sh, R, I2, J)) := by
      unfold wAt
      rw [t182_73 hS, ln2]
      simp (disch := first | omega | exact ib_r | exact ib_n | exact isB_rfv _ | assumption) only [n_inb, n_cl, hl4, h47'', n_le, n_eq, g1', g2', k_200, n_mul, n_add, h0', k_100000, k_8, k_13, k19, k_41, k_40, k_42, e0, e1, e2, e3, e4, e5, ↓reduceIte, eq_self, and_self, and_true, true_and, not_true_eq_false, not_false_eq_true, ob_s, tl_s, tl_n, rf_ref, orf_ref, orf_null, nn_ref, nn_null, rfv_s, rfv_n, if_true, if_false, bi_01, bi_e0, bi_e1, or_t, Classical.not_not]
      rw [t182_260 hS, n_m1]
      simp (disch := first | omega | exact ib_r | exact ib_n | exact isB_rfv _ | assumption) only [n_inb, n_cl, f5, rb, n_suc, ↓reduceIte, eq_self, and_self, and_true, true_and, not_true_eq_false, not_false_eq_true, ob_s, tl_s, tl_n, rf_ref, orf_ref, orf_null, nn_ref, nn_null, rfv_s, rfv_n, if_true, if_false, bi_01, bi_e0, bi_e1, or_t, Classical.not_not]
      rfl
    by_cases hz : p.2.2 E = 0
    · have s1 : sk = 1 := by
        by_cases h : sk = 0
        · exact absurd hz (hsk0.mp h)
        · omega
      subst s1
      have ct : cdX I2 46 (200 * l + (i + p.2.1.length + 1 + q.2.1.length + 1)) (tm r) := cdX.of (fun k => (b4 _ _ (by decide)).trans (a4 _ _ (by decide))) _ _ (by rw [show 200 * l + (i + p.2.1.length + 1 + q.2.1.length + 1) = 200 * l + i + (p.2.1.length + 1 + q.2.1.length + 1) from by omega]; exact hc.2)
      obtain ⟨I3, d1, d2⟩ := s_ftM hS hl4 hh r (i + p.2.1.length + 1 + q.2.1.length + 1) I2 (fun l hl => hw l (List.mem_cons_of_mem _ hl)) (by omega) h47'' ct (fun k hk => by rw [b4 _ _ (by decide), a4 _ _ (by decide)]; exact hE k hk)
      refine ⟨I3, ?_, fun a k ha => by rw [d2 a k ha, b4 a k ha, a4 a k ha]⟩
      rw [show lv E ((some p, q) :: r) = lv E r from by show (if p.2.2 E = 0 then _ else _) = _; rw [if_pos hz]]
      refine a1.trans (hfirst.trans (b1.trans (second.trans ?_)))
      rw [if_pos (by decide)]
      exact d1
    · have s0 : sk = 0 := hsk0.mpr hz
      subst s0
      refine ⟨I2, ?_, fun a k ha => by rw [b4 a k ha, a4 a k ha]⟩
      rw [show lv E ((some p, q) :: r) = q.2.2 E from by show (if p.2.2 E = 0 then _ else _) = _; rw [if_neg hz]]
      refine a1.trans (hfirst.trans (b1.trans (second.trans ?_)))
      rw [if_neg (fun z => z rfl)]
theorem s_worth (hS : SF sh R) (hl4 : l < 4) {T : List LN} {I : Nat → Nat → Int32} {st : Nat} (hst : st < 40) {a2 a3 a4 a5 a6 : Int32} (hw : ∀ l, l ∈ T → wfl l) (hh : (tm T).length ≤ 129) (h47 : I 47 l = Int32.ofNat (tm T).length) (hc : cdX I 46 (200 * l) (tm T)) : ∃ I', ev X (d + 3) 182 [.ref 37, .int (Int32.ofNat l), .int (Int32.ofNat st), .int a2, .int a3, .int a4, .int a5, .int a6] (sz, sl, sh, R, I, J) = some (some (.int (lv (mkE (I 38 st) (I 39 st) a2 a3 a4 a5 a6) T)), (sz, sl, sh, R, I', J)) ∧ (∀ a k, a ≠ 65 → a ≠ 66 → I' a k = I a k) := by
  obtain ⟨I', b1, b2⟩ := s_ftM (X := X) (d := d) (sz := sz) (sl := sl) (J := J) (E := mkE (I 38 st) (I 39 st) a2 a3 a4 a5 a6) hS hl4 hh T 0 (u2 (u2 (u2 (u2 (u2 (u2 (u2 I 65 0 (I 38 st)) 65 1 (I 39 st)) 65 2 a2) 65 3 a3) 65 4 a4) 65 5 a5) 65 6 a6) hw (by omega) (by rw [u2_pa (by decide), u2_pa (by decide), u2_pa (by decide), u2_pa (by decide), u2_pa (by decide), u2_pa (by decide), u2_pa (by decide)]; exact h47) (hc.of (fun k => by rw [u2_pa (by decide), u2_pa (by decide), u2_pa (by decide), u2_pa (by decide), u2_pa (by decide), u2_pa (by decide), u2_pa (by decide)])) (fun k hk => by
    unfold mkE
    rcases (show k = 0 ∨ k = 1 ∨ k = 2 ∨ k = 3 ∨ k = 4 ∨ k = 5 ∨ k = 6 by omega) with rfl | rfl | rfl | rfl | rfl | rfl | rfl
    · rw [u2_pj (by decide), u2_pj (by decide), u2_pj (by decide), u2_pj (by decide), u2_pj (by decide), u2_pj (by decide), u2_at0]; rfl
    · rw [u2_pj (by decide), u2_pj (by decide), u2_pj (by decide), u2_pj (by decide), u2_pj (by decide), u2_at0]; rfl
    · rw [u2_pj (by decide), u2_pj (by decide), u2_pj (by decide), u2_pj (by decide), u2_at0]; rfl
    · rw [u2_pj (by decide), u2_pj (by decide), u2_pj (by decide), u2_at0]; rfl
    · rw [u2_pj (by decide), u2_pj (by decide), u2_at0]; rfl
    · rw [u2_pj (by decide), u2_at0]; rfl
    · rw [u2_at0]; rfl)
  refine ⟨I', ?_, fun a k h1 h2 => by rw [b2 a k h2, u2_pa h1, u2_pa h1, u2_pa h1, u2_pa h1, u2_pa h1, u2_pa h1, u2_pa h1]⟩
  rw [← b1, n182, t182_0 hS]
  simp (disch := first | omega | exact ib_r | exact ib_n | exact isB_rfv _ | assumption) only [n_inb, n_cl, hst, ↓reduceIte, eq_self, and_self, and_true, true_and, not_true_eq_false, not_false_eq_true, ob_s, tl_s, tl_n, rf_ref, orf_ref, orf_null, nn_ref, nn_null, rfv_s, rfv_n, if_true, if_false, bi_01, bi_e0, bi_e1, or_t, Classical.not_not, u2_pa (show (39 : Nat) ≠ 65 by decide)]
  rfl
end WORTH
