/-- both traces are alike -/
def EqT (r : Nat) (I J : Nat → Nat → Int32) : Prop := I 21 4 = Int32.ofNat r ∧ J 37 30 = Int32.ofNat r ∧ ∀ k, k < 24 → I 23 k = J 60 k
theorem EqT.step {r b : Nat} {I J : Nat → Nat → Int32} (hr : r < 2000) (h : EqT r I J) : EqT (r + 1) (nX I b) (nM J b) := by
  obtain ⟨h1, h2, h3⟩ := h
  refine ⟨by rw [nX_4, h1, n_suc], by rw [nM_4, h2, n_suc], fun k hk => ?_⟩
  unfold nX nM
  rw [h1, h2, n_cl (by omega)]
  by_cases h : 24 ≤ r
  · rw [if_pos h, if_pos h, u2_pa (by decide), u2_pa (by decide)]; exact h3 k hk
  · rw [if_neg h, if_neg h, u2_pa (show (23 : Nat) ≠ 21 by decide), u2_pa (show (60 : Nat) ≠ 37 by decide)]
    by_cases e : k = r
    · rw [e, u2_at0, u2_at0]
    · rw [u2_pj e, u2_pj e]; exact h3 k hk
theorem EqT.steps : ∀ (l : List Nat) {r : Nat} {I J : Nat → Nat → Int32}, r + l.length < 2000 → EqT r I J → EqT (r + l.length) (nXs l I) (nMs l J)
  | [], _, _, _, _, h => h
  | b :: l, r, I, J, hr, h => by
    rw [List.length_cons] at hr
    have := EqT.steps l (r := r + 1) (by omega) (h.step (b := b) (by omega))
    rw [List.length_cons, show r + (l.length + 1) = r + 1 + l.length from by omega]
    exact this
theorem nXs_n : ∀ (l : List Nat) {I : Nat → Nat → Int32} {a k : Nat}, a ≠ 23 → ¬ (a = 21 ∧ k = 4) → nXs l I a k = I a k
  | [], _, _, _, _, _ => rfl
  | b :: l, I, a, k, h1, h2 => by rw [nXs, nXs_n l h1 h2, nX_n h1 h2]
theorem nMs_n : ∀ (l : List Nat) {I : Nat → Nat → Int32} {a k : Nat}, a ≠ 60 → ¬ (a = 37 ∧ k = 30) → nMs l I a k = I a k
  | [], _, _, _, _, _ => rfl
  | b :: l, I, a, k, h1, h2 => by rw [nMs, nMs_n l h1 h2, nM_n h1 h2]
section ACTS
variable {X : XX} {d : Nat} {sz sl : Nat} {sh : Nat → Nat × Nat} {R : Nat → Nat → Option Nat} {I : Nat → Nat → Int32} {J : Nat → Nat → Int64} {W : WW}
theorem o_act (hS : SF sh R) {B : Nat → Nat} {nb rn : Nat} (GBB : GB B nb I) (GRR : GR rn I) {v w x : Int32} : ∃ y I1 I2, ev X (d + 20) 119 [.ref 0, .int v, .int w, .int x] (sz, sl, sh, R, I, J) = some (some (.int y), (sz, sl, sh, R, I1, J)) ∧ ev X (d + 20) 218 [.ref 37, .int v, .int w, .int x] (sz, sl, sh, R, I1, J) = some (some (.int y), (sz, sl, sh, R, I2, J)) ∧ (∃ rn', GR rn' I2) ∧ eqO (CC W 4) I I2 := by
  obtain ⟨h50, e1, e2, hk⟩ := GBB
  obtain ⟨hrn, r1, r2, r3⟩ := GRR
  -- nothing runs
  have none_ : (∃ rn', GR rn' (u2 (u2 I 21 4 0) 37 30 0)) ∧ eqO (CC W 4) I (u2 (u2 I 21 4 0) 37 30 0) := by
    refine ⟨⟨0, by omega, ?_, u2_at0, fun k hk => ?_⟩, (eqO.refl.u2 (Or.inl rfl)).u2 (Or.inl rfl)⟩
    · rw [u2_pa (by decide), u2_at0]; rfl
    · rw [u2_pa (by decide), u2_pa (by decide), u2_pa (by decide), u2_pa (by decide)]; exact r3 k hk
  have m3 : (-1 : Int32) < 0 := by decide
  by_cases hv : ∃ a, a < nb ∧ v = Int32.ofNat a
  · obtain ⟨a, ha, rfl⟩ := hv
    have hka := hk a ha
    have f1 : ¬ Int32.ofNat a < 0 := Int32.not_lt.mpr (n_ge (by omega))
    have f2 : ¬ nb ≤ a := by omega
    have f3 : ¬ 50 ≤ a := by omega
    have f4 : a < 50 := by omega
    have f5 : ¬ Int32.ofNat (B a) < 0 := Int32.not_lt.mpr (n_ge (by omega))
    have hin : (0 : Int32) ≤ Int32.ofNat a ∧ Int32.ofNat a ≤ Int32.ofNat nb - 1 := by rw [idx (by omega)]; exact ⟨a, ha, rfl⟩
    have ko : ev X (d + 18) 121 [.ref 21, .int (Int32.ofNat a)] (sz, sl, sh, R, u2 I 21 4 0, J) = some (some (.int (Int32.ofNat (B a))), (sz, sl, sh, R, u2 I 21 4 0, J)) := by
      have e1' : u2 I 21 4 0 21 3 = Int32.ofNat nb := by rw [u2_pj (by decide)]; exact e1
      have e2' : u2 I 21 4 0 22 a = Int32.ofNat (B a) := by rw [u2_pa (by decide)]; exact hka.1
      simp (disch := first | omega | exact ib_r | exact ib_n | exact isB_rfv _ | assumption) only [n121, t121_0 hS, f1, e1', k_50, n_le, n_inb, n_cl, f2, f3, f4, e2', ↓reduceIte, eq_self, and_self, and_true, true_and, not_true_eq_false, not_false_eq_true, ob_s, tl_s, tl_n, rf_ref, orf_ref, orf_null, nn_ref, nn_null, rfv_s, rfv_n, if_true, if_false, bi_01, bi_e0, bi_e1, or_t, Classical.not_not]
    have P0 : ev X (d + 19) 120 [.ref 21, .int (Int32.ofNat a), .int w, .int x] (sz, sl, sh, R, I, J) = exe X (d + 18) 120 10 [.ref 21, .int (Int32.ofNat a), .int w, .int x] [.int (Int32.ofNat (B a))] (sz, sl, sh, R, u2 I 21 4 0, J) := by
      rw [n120, t120_0 hS, ko, ob_s]
      rfl
    by_cases hw : 0 ≤ w ∧ w ≤ 3
    · obtain ⟨act, -, hact, rfl⟩ := n_in (a := 0) (b := 3) (by decide) hw.1 hw.2 (by decide)
      have g1 : ¬ Int32.ofNat act < 0 := Int32.not_lt.mpr (n_ge (by omega))
      have g2 : Int32.ofNat act < 4 := by rw [k_4, n_lt (by omega) (by decide)]; omega
      have H : HX a nb (B a) 0 (u2 (u2 I 21 4 0) 21 2 (Int32.ofNat a)) := ⟨ha, h50, hka.2.2, by omega, u2_at0, by rw [u2_pj (by decide), u2_pj (by decide)]; exact e1, by rw [u2_pa (by decide), u2_pa (by decide)]; exact hka.1, by rw [u2_pj (by decide), u2_at0]; rfl⟩
      have fin : ∀ y l, l.length ≤ 17 → ev X (d + 18) 122 [.ref 21, .int (Int32.ofNat act), .int x, .int 0] (sz, sl, sh, R, u2 (u2 I 21 4 0) 21 2 (Int32.ofNat a), J) = some (some (.int y), (sz, sl, sh, R, nXs l (u2 (u2 I 21 4 0) 21 2 (Int32.ofNat a)), J)) → (∀ I1, HM a nb (B a) 0 (u2 I1 37 48 (Int32.ofNat a)) → exe X (d + 19) 218 25 [.ref 37, .int (Int32.ofNat a), .int (Int32.ofNat act), .int x, dm] [.int 1] (sz, sl, sh, R, I1, J) = some (some (.int y), (sz, sl, sh, R, nMs l (u2 I1 37 48 (Int32.ofNat a)), J))) → ∃ y I1 I2, ev X (d + 20) 119 [.ref 0, .int (Int32.ofNat a), .int (Int32.ofNat act), .int x] (sz, sl, sh, R, I, J) = some (some (.int y), (sz, sl, sh, R, I1, J)) ∧ ev X (d + 20) 218 [.ref 37, .int (Int32.ofNat a), .int (Int32.ofNat act), .int x] (sz, sl, sh, R, I1, J) = some (some (.int y), (sz, sl, sh, R, I2, J)) ∧ (∃ rn', GR rn' I2) ∧ eqO (CC W 4) I I2 := by
        intro y l hl hx hm
        have n37 : ∀ k, nXs l (u2 (u2 I 21 4 0) 21 2 (Int32.ofNat a)) 37 k = I 37 k := fun k => by rw [nXs_n l (by decide) (by omega), u2_pa (by decide), u2_pa (by decide)]
        have n59 : ∀ k, nXs l (u2 (u2 I 21 4 0) 21 2 (Int32.ofNat a)) 59 k = I 59 k := fun k => by rw [nXs_n l (by decide) (by omega), u2_pa (by decide), u2_pa (by decide)]
        have HMh : HM a nb (B a) 0 (u2 (u2 (nXs l (u2 (u2 I 21 4 0) 21 2 (Int32.ofNat a))) 37 30 0) 37 48 (Int32.ofNat a)) := ⟨ha, h50, hka.2.2, by omega, u2_at0, by rw [u2_pa (by decide), u2_pa (by decide), n59]; exact hka.2.1, by rw [u2_pj (by decide), u2_at0]; rfl⟩
        have q := hm _ HMh
        have eq0 : EqT 0 (u2 (u2 I 21 4 0) 21 2 (Int32.ofNat a)) (u2 (u2 (nXs l (u2 (u2 I 21 4 0) 21 2 (Int32.ofNat a))) 37 30 0) 37 48 (Int32.ofNat a)) := ⟨by rw [u2_pj (by decide), u2_at0]; rfl, by rw [u2_pj (by decide), u2_at0]; rfl, fun k hk => by rw [u2_pa (by decide), u2_pa (by decide), u2_pa (by decide), u2_pa (by decide), nXs_n l (by decide) (by omega), u2_pa (by decide), u2_pa (by decide)]; exact r3 k hk⟩
        have eq1 := EqT.steps l (by omega) eq0
        rw [Nat.zero_add] at eq1
        refine ⟨y, nXs l (u2 (u2 I 21 4 0) 21 2 (Int32.ofNat a)), nMs l (u2 (u2 (nXs l (u2 (u2 I 21 4 0) 21 2 (Int32.ofNat a))) 37 30 0) 37 48 (Int32.ofNat a)), ?_, ?_, ⟨l.length, by omega, ?_, eq1.2.1, fun k hk => ?_⟩, fun c k hc => ?_⟩
        · rw [n119, t119_0 hS, P0, t120_10 hS, if_neg f5, if_neg g1, if_pos g2, hx, ob_s]
          show ((exe X (d + 18) 120 36 _ [.int y] _).bind _) = _
          rw [t120_36, ob_s]
          exact t119_10
        · have hin' : (0 : Int32) ≤ Int32.ofNat a ∧ Int32.ofNat a ≤ nXs l (u2 (u2 I 21 4 0) 21 2 (Int32.ofNat a)) 37 28 - 1 := by rw [n37, e2]; exact hin
          rw [n218, t218_0 hS, s_in, bi_t hin', ob_s]
          show exe X (d + 19) 218 16 _ [.int 1] _ = _
          rw [t218_16, if_neg (by decide), s_in, bi_t hw, ob_s]
          exact q
        · rw [nMs_n l (by decide) (by omega), u2_pa (by decide), u2_pa (by decide)]
          exact eq1.1
        · rw [nMs_n l (by decide) (by omega), u2_pa (by decide), u2_pa (by decide)]
          exact eq1.2.2 k hk
        · have na : ∀ b j, cI W b j = 4 ∨ cI W b j = 0 → ¬ (c = b ∧ k = j) := fun b j hb z => hc (by rw [z.1, z.2]; exact hb)
          rw [nMs_n l (fun z => na 60 k (Or.inl rfl) ⟨z, rfl⟩) (na 37 30 (Or.inl rfl))]
          show (if c = 37 ∧ k = 48 then _ else if c = 37 ∧ k = 30 then _ else nXs l _ c k) = _
          rw [if_neg (na 37 48 (Or.inr rfl)), if_neg (na 37 30 (Or.inl rfl)), nXs_n l (fun z => na 23 k (Or.inl rfl) ⟨z, rfl⟩) (na 21 4 (Or.inl rfl))]
          show (if c = 21 ∧ k = 2 then _ else if c = 21 ∧ k = 4 then _ else I c k) = _
          rw [if_neg (na 21 2 (Or.inr rfl)), if_neg (na 21 4 (Or.inl rfl))]
      have h50' : inb (Int32.ofNat a) 50 := by rw [n_inb (by omega)]; exact f4
      have cla : (Int32.ofNat a).toNatClampNeg = a := n_cl (by omega)
      rcases (show act = 0 ∨ act = 1 ∨ act = 2 ∨ act = 3 by omega) with rfl | rfl | rfl | rfl
      · refine fin (lieV (Int32.ofNat a) (B a) x) (lieL (B a)) (Nat.le_trans lieL_le (by decide)) ?_ (fun I1 HI => ?_)
        · exact s_own (o := 0) hS (by omega) H (c_lie hS H (by omega) hka.2.2 (by omega) (by omega))
        · rw [t218_25 hS, if_pos (by decide), if_pos h50', if_neg (by decide), cla, HI.2.2.2.2.2.1, m_lie hS HI (by omega) hka.2.2, ob_s]
          exact t218_54.trans t218_94
      · refine fin (weaV (Int32.ofNat a) (B a) (B a) x) (weaL (B a) (B a)) (Nat.le_trans weaL_le (by decide)) ?_ (fun I1 HI => ?_)
        · exact s_own (o := 0) hS (by omega) H (c_wea hS H (by omega) hka.2.2 (by omega) (by omega))
        · rw [t218_25 hS, if_pos (by decide), if_pos h50', if_pos (by decide), if_neg (by decide), cla, HI.2.2.2.2.2.1, m_wea hS HI (by omega) hka.2.2, ob_s]
          exact t218_69.trans t218_94
      · refine fin (couV (Int32.ofNat a) (B a) (B a) x) (couL (B a) (B a)) (Nat.le_trans couL_le (by decide)) ?_ (fun I1 HI => ?_)
        · exact s_own (o := 0) hS (by omega) H (c_cou hS H (by omega) hka.2.2 (by omega) (by omega))
        · rw [t218_25 hS, if_pos (by decide), if_pos h50', if_pos (by decide), if_pos (by decide), if_neg (by decide), cla, HI.2.2.2.2.2.1, m_cou hS HI (by omega) hka.2.2, ob_s]
          exact t218_84.trans t218_94
      · refine fin (telV (Int32.ofNat a) (B a) (B a) x) (telL (B a) (B a)) telL_le ?_ (fun I1 HI => ?_)
        · exact s_own (o := 0) hS (by omega) H (c_tel hS H (by omega) hka.2.2 (by omega) (by omega))
        · rw [t218_25 hS, if_pos (by decide), if_pos h50', if_pos (by decide), if_pos (by decide), if_pos (by decide), cla, HI.2.2.2.2.2.1, m_tel hS HI (by omega) hka.2.2, ob_s]
          exact t218_94
    · refine ⟨0, u2 I 21 4 0, u2 (u2 I 21 4 0) 37 30 0, ?_, ?_, none_⟩
      · rw [n119, t119_0 hS, P0, t120_10 hS, if_neg f5]
        by_cases w0 : w < 0
        · rw [if_pos w0, ob_s]
          exact t119_10
        · obtain ⟨u, hu, rfl⟩ := n_of (Int32.not_lt.mp w0)
          have w4 : ¬ Int32.ofNat u < 4 := by
            rw [k_4, n_lt hu (by decide)]
            intro z
            exact hw ⟨n_ge hu, by rw [k_3, n_le hu (by decide)]; omega⟩
          rw [if_neg w0, if_neg w4, ob_s]
          exact t119_10
      · have hin' : (0 : Int32) ≤ Int32.ofNat a ∧ Int32.ofNat a ≤ u2 I 21 4 0 37 28 - 1 := by rw [u2_pa (by decide), e2]; exact hin
        rw [n218, t218_0 hS, s_in, bi_t hin', ob_s]
        show exe X (d + 19) 218 16 _ [.int 1] _ = _
        rw [t218_16, if_neg (by decide), s_in, bi_f hw, ob_s]
        show exe X (d + 19) 218 25 _ [.int 0] _ = _
        rw [t218_25 hS, if_neg (fun z => z rfl)]
  · have hin : ¬ ((0 : Int32) ≤ v ∧ v ≤ u2 I 21 4 0 37 28 - 1) := by rw [u2_pa (by decide), e2, idx (by omega)]; exact hv
    have ko : ev X (d + 18) 121 [.ref 21, .int v] (sz, sl, sh, R, u2 I 21 4 0, J) = some (some (.int (-1)), (sz, sl, sh, R, u2 I 21 4 0, J)) := by
      have e1' : u2 I 21 4 0 21 3 = Int32.ofNat nb := by rw [u2_pj (by decide)]; exact e1
      by_cases v0 : v < 0
      · simp (disch := first | omega | exact ib_r | exact ib_n | exact isB_rfv _ | assumption) only [n121, t121_0 hS, v0, ↓reduceIte, eq_self, and_self, and_true, true_and, not_true_eq_false, not_false_eq_true, ob_s, tl_s, tl_n, rf_ref, orf_ref, orf_null, nn_ref, nn_null, rfv_s, rfv_n, if_true, if_false, bi_01, bi_e0, bi_e1, or_t, Classical.not_not]
      · obtain ⟨u, hu, rfl⟩ := n_of (Int32.not_lt.mp v0)
        have g : nb ≤ u := Nat.not_lt.mp (fun z => hv ⟨u, z, rfl⟩)
        simp (disch := first | omega | exact ib_r | exact ib_n | exact isB_rfv _ | assumption) only [n121, t121_0 hS, v0, e1', n_le, g, ↓reduceIte, eq_self, and_self, and_true, true_and, not_true_eq_false, not_false_eq_true, ob_s, tl_s, tl_n, rf_ref, orf_ref, orf_null, nn_ref, nn_null, rfv_s, rfv_n, if_true, if_false, bi_01, bi_e0, bi_e1, or_t, Classical.not_not]
    refine ⟨0, u2 I 21 4 0, u2 (u2 I 21 4 0) 37 30 0, ?_, ?_, none_⟩
    · rw [n119, t119_0 hS, n120, t120_0 hS, ko, ob_s]
      show ((exe X (d + 18) 120 10 _ [.int (-1)] _).bind _) = _
      rw [t120_10 hS, if_pos m3, ob_s]
      exact t119_10
    · rw [n218, t218_0 hS, s_in, bi_f hin, ob_s]
      show exe X (d + 19) 218 16 _ [.int 0] _ = _
      rw [t218_16, if_pos rfl]
end ACTS
