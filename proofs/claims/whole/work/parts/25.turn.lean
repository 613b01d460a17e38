/-! depths, turn -/
/-- a row's part filled -/
def fil {α : Type} (f : Nat → Nat → α) (a o c : Nat) (v : Nat → α) : Nat → Nat → α := fun b k => if b = a ∧ o ≤ k ∧ k < o + c then v (k - o) else f b k
theorem fil_0 {α : Type} {f : Nat → Nat → α} {a o : Nat} {v : Nat → α} : fil f a o 0 v = f := by funext b k; unfold fil; rw [if_neg (by omega)]
theorem fil_s {α : Type} {f : Nat → Nat → α} {a o c : Nat} {v : Nat → α} : u2 (fil f a o c v) a (o + c) (v c) = fil f a o (c + 1) v := by
  funext b k
  show (if b = a ∧ k = o + c then v c else fil f a o c v b k) = fil f a o (c + 1) v b k
  unfold fil
  by_cases h : b = a ∧ k = o + c
  · rw [if_pos h, if_pos (by omega), h.2, Nat.add_sub_cancel_left]
  · rw [if_neg h]
    by_cases h2 : b = a ∧ o ≤ k ∧ k < o + c
    · rw [if_pos h2, if_pos (by omega)]
    · rw [if_neg h2, if_neg (by omega)]
theorem fil_a {α : Type} {f : Nat → Nat → α} {a o c b k : Nat} {v : Nat → α} (h : b ≠ a) : fil f a o c v b k = f b k := if_neg (fun z => h z.1)
/-- the rows that tell steps -/
def sameS (W W' : WW) : Prop := ∀ r k, ¬ rwS r → W' r k = W r k
theorem sameW.S {W W' : WW} (h : sameW W W') : sameS W W' := fun r k hr => h r k (fun z => hr (Or.inr z))
theorem sameS.refl {W : WW} : sameS W W := fun _ _ _ => rfl
section TURN
variable {X : XX} {d : Nat} {sz sl : Nat} {sh : Nat → Nat × Nat} {R : Nat → Nat → Option Nat} {I : Nat → Nat → Int32} {J : Nat → Nat → Int64} {W : WW} {ns : Nat}
/-- measures told from a row -/
theorem GS.fill (G : GS W ns sh R I) {st : Nat} (hst : st < ns) {vs : Nat → Int32} {u : Nat → Nat} : ∀ c : Nat, c ≤ 8 → (∀ j, j < c → vs j = Int32.ofNat (u j) ∧ u j ≤ 99999) → GS (fil W 15 (8 * st) c u) ns sh R (fil (fil I (W 1 st) 0 c vs) 42 (8 * st) c vs)
  | 0, _, _ => by rw [fil_0, fil_0, fil_0]; exact G
  | c + 1, h8, hv => by
    have ih := GS.fill G hst c (by omega) (fun j hj => hv j (by omega))
    have hc := hv c (by omega)
    have m1 := (G.ne hst hst).2.2.2.2.2.2.2.1
    have e1 : (10 * st + c) % 10 = c := by omega
    have e2 : (10 * st + c) / 10 = st := by omega
    have c8 : (10 * st + c) % 10 < 8 := by omega
    have hpr : pr_ (10 * st + c) = 15 := if_pos c8
    have hpk : pk_ (10 * st + c) = 8 * st + c := by unfold pk_; rw [if_pos c8, e1, e2]
    have hpa : pa_ (10 * st + c) = 42 := if_pos c8
    have hxa : xa_ (fil W 15 (8 * st) c u) (10 * st + c) = W 1 st := by unfold xa_; rw [if_pos c8, e2, fil_a (by decide)]
    have hxk : xk_ (10 * st + c) = c := by unfold xk_; rw [if_pos c8, e1]
    have ok : okv ns (10 * st + c) (u c) := ⟨by omega, fun _ => hc.2, fun z => by omega, fun z => by omega⟩
    have q := ih.become ok (I' := fil (fil I (W 1 st) 0 (c + 1) vs) 42 (8 * st) (c + 1) vs) ?_ ?_ (fun a k hck n1 n2 => ?_)
    · rw [hpr, hpk, fil_s] at q; exact q
    · rw [hxa, hxk, fil_a (by omega)]
      unfold fil
      rw [if_pos ⟨rfl, by omega, by omega⟩, Nat.sub_zero, hc.1]
    · rw [hpa, hpk]
      unfold fil
      rw [if_pos ⟨rfl, by omega, by omega⟩, Nat.add_sub_cancel_left, hc.1]
    · rw [hxa, hxk] at n1
      rw [hpa, hpk] at n2
      unfold fil
      by_cases h1 : a = 42 ∧ 8 * st ≤ k ∧ k < 8 * st + c
      · rw [if_pos h1, if_pos ⟨h1.1, h1.2.1, by omega⟩]
      · rw [if_neg h1, if_neg (fun z => h1 ⟨z.1, z.2.1, by omega⟩)]
        by_cases h2 : a = W 1 st ∧ 0 ≤ k ∧ k < 0 + c
        · rw [if_pos h2, if_pos ⟨h2.1, h2.2.1, by omega⟩]
        · rw [if_neg h2, if_neg (fun z => h2 ⟨z.1, z.2.1, by omega⟩)]
theorem s_becomeC {a b c : Nat} (h1 : sh a = (15, 0)) (h2 : R a 6 = some b) (h3 : sh b = (0, 8)) (hc : c < 8) {v : Int32} : ev X (d + 1) 21 [.ref a, .int (Int32.ofNat c), .int v] (sz, sl, sh, R, I, J) = some (some (.int (I b c)), (sz, sl, sh, R, u2 I b c v, J)) := by
  have e1 : ¬ c = 8 := by omega
  have e2 : ¬ c = 9 := by omega
  have e3 : ¬ Int32.ofNat c < 0 := Int32.not_lt.mpr (n_ge (by omega))
  have e4 : ¬ 8 ≤ c := by omega
  have e5 : (0 : Nat) < 7 := by decide
  rw [n21, t21_0 h1]
  simp (disch := first | omega | exact ib_r | exact ib_n | exact isB_rfv _ | assumption) only [h2, h3, e3, ↓reduceIte, eq_self, and_self, and_true, true_and, not_true_eq_false, not_false_eq_true, ob_s, tl_s, tl_n, rf_ref, orf_ref, orf_null, nn_ref, nn_null, rfv_s, rfv_n, if_true, if_false, bi_01, bi_e0, bi_e1, or_t, Classical.not_not, e5]
  simp (disch := first | omega | exact ib_r | exact ib_n | exact isB_rfv _ | assumption) only [k_0, k_1, k_2, k_3, k_4, k_5, k_6, k_7, k_8, k_9, k_10, k_11, k_12, k_13, k_14, k_15, k_16, k_17, k_18, k_19, k_20, k_21, k_22, k_24, k_30, k_32, k_33, k_37, k_38, k_39, k_40, k_41, k_42, k_43, k_45, k_47, k_48, k_50, k_57, k_59, k_60, k_61, k_62, k_63, k_70, k_79, k_80, k_81, k_99, k_100, k_120, k_124, k_130, k_200, k_241, k_255, k_256, k_320, k_360, k_799, k_800, k_1000, k_2000, k_3200, k_7999, k_9999, k_10000, k_12345, k_20000, k_20045, k_20059, k_20061, k_20063, k_99999, k_100000, k_999999, k_252645135, k_858993459, k_1103515245, k_1431655765, k_2000000000, n_cl, n_lt, n_le, n_eq, n_rem, n_rem', n_add, n_mul, n_sub, n_div, n_inb, n_64, e1, e2, e4, hc, ↓reduceIte, eq_self, and_self, and_true, true_and, not_true_eq_false, not_false_eq_true, ob_s, tl_s, tl_n, rf_ref, orf_ref, orf_null, nn_ref, nn_null, rfv_s, rfv_n, if_true, if_false, bi_01, bi_e0, bi_e1, or_t, Classical.not_not]
/-- how many come, from c on, n at most -/
def dn (N : Nat) (g : Nat → Bool) : Nat → Nat → Nat
  | 0, c => c
  | f + 1, c => if N ≤ c then c else if g c = true then dn N g f (c + 1) else c
theorem dn_ok {N : Nat} {g : Nat → Bool} : ∀ f c : Nat, c + f = N → dn N g f c ≤ N ∧ ∀ j, c ≤ j → j < dn N g f c → g j = true
  | 0, c, h => ⟨by unfold dn; omega, fun j h1 h2 => by unfold dn at h2; omega⟩
  | f + 1, c, h => by
    unfold dn
    rw [if_neg (by omega)]
    by_cases hg : g c = true
    · rw [if_pos hg]
      have ih := dn_ok (N := N) (g := g) f (c + 1) (by omega)
      exact ⟨ih.1, fun j h1 h2 => if e : j = c then e ▸ hg else ih.2 j (by omega) h2⟩
    · rw [if_neg hg]
      exact ⟨by omega, fun j h1 h2 => by omega⟩
theorem i64_le {a b : Int32} : (a.toInt64 ≤ b.toInt64) = (a ≤ b) := by rw [Int64.le_iff_toInt_le, Int32.le_iff_toInt_le, Int32.toInt_toInt64, Int32.toInt_toInt64]
theorem s_isDepth {x : Int32} : ev X (d + 1) 32 [.long x.toInt64] (sz, sl, sh, R, I, J) = some (some (.int (bi (0 ≤ x ∧ x ≤ 99999))), (sz, sl, sh, R, I, J)) := by
  have z0 : (0 : Int64) = (0 : Int32).toInt64 := by decide
  have z9 : (99999 : Int64) = (99999 : Int32).toInt64 := by decide
  rw [n32, t32_0]
  by_cases h1 : (0 : Int32) ≤ x
  · rw [if_neg (by rw [c_lt, Int64.not_lt, z0, i64_le]; exact h1)]
    by_cases h2 : x ≤ 99999
    · rw [if_neg (by rw [c_gt, Int64.not_lt, z9, i64_le]; exact h2), bi_t ⟨h1, h2⟩]
    · rw [if_pos (by rw [c_gt, ← Int64.not_le, z9, i64_le]; exact h2), bi_f (fun z => h2 z.2)]
  · rw [if_pos (by rw [c_lt, ← Int64.not_le, z0, i64_le]; exact h1), bi_f (fun z => h1 z.1)]
/-- is the row's element at place c good? -/
def gd (x : Nat → Int32) (k0 n c : Nat) : Bool := decide (k0 + c < n ∧ 0 ≤ x (k0 + c) ∧ x (k0 + c) ≤ 99999)
theorem s_dpX (hS : SF sh R) {s n k0 N a b : Nat} (hs : s < 6) (hn : n ≤ 60) (hk : k0 < n) (hN : N ≤ 8) (h1 : sh a = (15, 0)) (h2 : R a 6 = some b) (h3 : sh b = (0, 8)) (hb : 71 ≤ b) (e2 : I (25 + 2 * s) 2 = Int32.ofNat n) {x : Nat → Int32} (hx : ∀ k, k < n → J (26 + 2 * s) k = (x k).toInt64) :
    ∀ f c : Nat, c + f = N → exe X (d + 3) 25 61 [dm, dm, dm, .int (Int32.ofNat k0), .int (Int32.ofNat N), .ref a, .ref (25 + 2 * s), .int (Int32.ofNat c)] [] (sz, sl, sh, R, fil I b 0 c (fun j => x (k0 + j)), J) = some (some (.int (Int32.ofNat (dn N (gd x k0 n) f c))), (sz, sl, sh, R, fil I b 0 (dn N (gd x k0 n) f c) (fun j => x (k0 + j)), J))
  | 0, c, h => by
    have e : N ≤ c := by omega
    rw [t25_61 rfl rfl, if_pos (by rw [n_le (by omega) (by omega)]; exact e)]
    rfl
  | f + 1, c, h => by
    have hsh := sh24 hS hs
    have e : ¬ N ≤ c := by omega
    have e2' : fil I b 0 c (fun j => x (k0 + j)) (25 + 2 * s) 2 = Int32.ofNat n := by rw [fil_a (by omega)]; exact e2
    have ih := s_dpX hS hs hn hk hN h1 h2 h3 hb e2 hx f (c + 1) (by omega)
    have z1 : ¬ (1 : Int32) = 0 := by decide
    rw [t25_61 rfl rfl, if_neg (by rw [n_le (by omega) (by omega)]; exact e), dn, if_neg e]
    simp (disch := first | omega | exact ib_r | exact ib_n | exact isB_rfv _ | assumption) only [rf_ref, hsh.2.1, s_hasPlace hS hs hn e2' hk, t25_74, z1, n_add, ↓reduceIte, eq_self, and_self, and_true, true_and, not_true_eq_false, not_false_eq_true, ob_s, tl_s, tl_n, rf_ref, orf_ref, orf_null, nn_ref, nn_null, rfv_s, rfv_n, if_true, if_false, bi_01, bi_e0, bi_e1, or_t, Classical.not_not]
    by_cases hkc : k0 + c < n
    · have hx' := hx (k0 + c) hkc
      simp (disch := first | omega | exact ib_r | exact ib_n | exact isB_rfv _ | assumption) only [s_hasPlace hS hs hn e2' hkc, t25_86, z1, hsh.2.1, n_add, ↓reduceIte, eq_self, and_self, and_true, true_and, not_true_eq_false, not_false_eq_true, ob_s, tl_s, tl_n, rf_ref, orf_ref, orf_null, nn_ref, nn_null, rfv_s, rfv_n, if_true, if_false, bi_01, bi_e0, bi_e1, or_t, Classical.not_not, s_at hS hs hn e2' hkc, hx', t25_98, s_isDepth, t25_101]
      by_cases hg : 0 ≤ x (k0 + c) ∧ x (k0 + c) ≤ 99999
      · have hgg : gd x k0 n c = true := decide_eq_true ⟨hkc, hg⟩
        have c8 : c < 8 := by omega
        have q := fil_s (f := I) (a := b) (o := 0) (c := c) (v := fun j => x (k0 + j))
        rw [Nat.zero_add] at q
        rw [if_pos hgg]
        simp (disch := first | omega | exact ib_r | exact ib_n | exact isB_rfv _ | assumption) only [hg, z1, ↓reduceIte, eq_self, and_self, and_true, true_and, not_true_eq_false, not_false_eq_true, ob_s, tl_s, tl_n, rf_ref, orf_ref, orf_null, nn_ref, nn_null, rfv_s, rfv_n, if_true, if_false, bi_01, bi_e0, bi_e1, or_t, Classical.not_not, t25_117, h1, s_becomeC h1 h2 h3 c8, Int32.toInt32_toInt64, t25_121, n_suc]
        rw [q]
        exact ih
      · have hgg : ¬ gd x k0 n c = true := fun z => hg (of_decide_eq_true z).2
        rw [if_neg hgg]
        simp (disch := first | omega | exact ib_r | exact ib_n | exact isB_rfv _ | assumption) only [hg, ↓reduceIte, eq_self, and_self, and_true, true_and, not_true_eq_false, not_false_eq_true, ob_s, tl_s, tl_n, rf_ref, orf_ref, orf_null, nn_ref, nn_null, rfv_s, rfv_n, if_true, if_false, bi_01, bi_e0, bi_e1, or_t, Classical.not_not]
    · have hgg : ¬ gd x k0 n c = true := fun z => hkc (of_decide_eq_true z).1
      have hno : ¬ ∃ k, k < n ∧ Int32.ofNat (k0 + c) = Int32.ofNat k := by
        rintro ⟨k, hk, e⟩
        rw [n_eq (by omega) (by omega)] at e
        omega
      rw [if_neg hgg]
      simp (disch := first | omega | exact ib_r | exact ib_n | exact isB_rfv _ | assumption) only [s_hasPlace_no hS hs hn e2' hno, t25_86, ↓reduceIte, eq_self, and_self, and_true, true_and, not_true_eq_false, not_false_eq_true, ob_s, tl_s, tl_n, rf_ref, orf_ref, orf_null, nn_ref, nn_null, rfv_s, rfv_n, if_true, if_false, bi_01, bi_e0, bi_e1, or_t, Classical.not_not]
theorem s_dpM (hS : SF sh R) {s n k0 N st : Nat} (hs : s < 6) (hst : st < 40) (hn : n ≤ 60) (hk : k0 < n) (hN : N ≤ 8) (e2 : I 63 s = Int32.ofNat n) {x : Nat → Int32} (hx : ∀ k, k < n → J 64 (60 * s + k) = (x k).toInt64) :
    ∀ f c : Nat, c + f = N → exe X (d + 3) 159 70 [.ref 37, .int (Int32.ofNat st), .int (Int32.ofNat s), dm, .int (Int32.ofNat N), .int (Int32.ofNat c), .int (Int32.ofNat (k0 + c))] [] (sz, sl, sh, R, fil I 42 (8 * st) c (fun j => x (k0 + j)), J) = some (some (.int (Int32.ofNat (dn N (gd x k0 n) f c))), (sz, sl, sh, R, fil I 42 (8 * st) (dn N (gd x k0 n) f c) (fun j => x (k0 + j)), J))
  | 0, c, h => by
    have e : N ≤ c := by omega
    rw [t159_70 hS, if_pos (by rw [n_le (by omega) (by omega)]; exact e)]
    rfl
  | f + 1, c, h => by
    have e : ¬ N ≤ c := by omega
    have e2' : fil I 42 (8 * st) c (fun j => x (k0 + j)) 63 s = Int32.ofNat n := by rw [fil_a (by omega)]; exact e2
    have ih := s_dpM hS hs hst hn hk hN e2 hx f (c + 1) (by omega)
    have e0 : ¬ Int32.ofNat (k0 + c) < 0 := Int32.not_lt.mpr (n_ge (by omega))
    rw [t159_70 hS, if_neg (by rw [n_le (by omega) (by omega)]; exact e), dn, if_neg e, if_neg e0]
    by_cases hkc : k0 + c < n
    · have hx' := hx (k0 + c) hkc
      have g1 : ¬ n ≤ k0 + c := by omega
      have g2 : 60 * s + (k0 + c) < 360 := by omega
      have g3 : 8 * st + c < 320 := by omega
      simp (disch := first | omega | exact ib_r | exact ib_n | exact isB_rfv _ | assumption) only [n_inb, n_cl, hs, e2', n_le, g1, k_60, n_mul, n_add, g2, hx', Int32.toInt32_toInt64, s_in, t159_112 hS, ↓reduceIte, eq_self, and_self, and_true, true_and, not_true_eq_false, not_false_eq_true, ob_s, tl_s, tl_n, rf_ref, orf_ref, orf_null, nn_ref, nn_null, rfv_s, rfv_n, if_true, if_false, bi_01, bi_e0, bi_e1, or_t, Classical.not_not]
      by_cases hg : 0 ≤ x (k0 + c) ∧ x (k0 + c) ≤ 99999
      · have hgg : gd x k0 n c = true := decide_eq_true ⟨hkc, hg⟩
        rw [if_pos hgg]
        simp (disch := first | omega | exact ib_r | exact ib_n | exact isB_rfv _ | assumption) only [hg, n_inb, n_cl, k_60, k_8, n_mul, n_add, g2, g3, hx', Int32.toInt32_toInt64, n_suc, ↓reduceIte, eq_self, and_self, and_true, true_and, not_true_eq_false, not_false_eq_true, ob_s, tl_s, tl_n, rf_ref, orf_ref, orf_null, nn_ref, nn_null, rfv_s, rfv_n, if_true, if_false, bi_01, bi_e0, bi_e1, or_t, Classical.not_not]
        rw [fil_s]
        exact ih
      · have hgg : ¬ gd x k0 n c = true := fun z => hg (of_decide_eq_true z).2
        rw [if_neg hgg]
        simp (disch := first | omega | exact ib_r | exact ib_n | exact isB_rfv _ | assumption) only [hg, ↓reduceIte, eq_self, and_self, and_true, true_and, not_true_eq_false, not_false_eq_true, ob_s, tl_s, tl_n, rf_ref, orf_ref, orf_null, nn_ref, nn_null, rfv_s, rfv_n, if_true, if_false, bi_01, bi_e0, bi_e1, or_t, Classical.not_not]
    · have hgg : ¬ gd x k0 n c = true := fun z => hkc (of_decide_eq_true z).1
      have g1 : n ≤ k0 + c := by omega
      rw [if_neg hgg]
      simp (disch := first | omega | exact ib_r | exact ib_n | exact isB_rfv _ | assumption) only [n_inb, n_cl, hs, e2', n_le, g1, ↓reduceIte, eq_self, and_self, and_true, true_and, not_true_eq_false, not_false_eq_true, ob_s, tl_s, tl_n, rf_ref, orf_ref, orf_null, nn_ref, nn_null, rfv_s, rfv_n, if_true, if_false, bi_01, bi_e0, bi_e1, or_t, Classical.not_not]
theorem s_isRowOfInts {a : Nat} (ha : sh a = (14, 0)) : ev X (d + 2) 28 [.ref a] (sz, sl, sh, R, I, J) = some (some (.int (bi (I a 1 = 2 ∧ I a 4 = 2))), (sz, sl, sh, R, I, J)) := by
  rw [n28, t28_0 ha, s_isRow ha, ob_s]
  show exe X (d + 1) 28 4 _ [.int _] _ = _
  rw [t28_4 ha]
  by_cases h : I a 1 = 2
  · by_cases h2 : I a 4 = 2
    · rw [if_neg (by rw [bi_e0]; exact fun z => z h), if_neg (fun z => z h2), bi_t ⟨h, h2⟩]
    · rw [if_neg (by rw [bi_e0]; exact fun z => z h), if_pos h2, bi_f (fun z => h2 z.2)]
  · rw [if_pos (by rw [bi_e0]; exact h), bi_f (fun z => h z.1)]
theorem o_depths (hS : SF sh R) (G : GS W ns sh R I) {B : Nat → Nat} {nb : Nat} (h50 : nb ≤ 50) (H : GH B nb I J) {v w i z : Int32} : ∃ x I1 I2 W', ev X (d + 4) 25 [.ref 0, .int v, .int w, .int i, .int z] (sz, sl, sh, R, I, J) = some (some (.int x), (sz, sl, sh, R, I1, J)) ∧ ev X (d + 4) 159 [.ref 37, .int v, .int w, .int i, .int z] (sz, sl, sh, R, I1, J) = some (some (.int x), (sz, sl, sh, R, I2, J)) ∧ sameS W W' ∧ GS W' ns sh R I2 ∧ eqO (CC W 1) I I2 := by
  have h40 := G.1
  by_cases hv : ∃ j, j < ns ∧ v = Int32.ofNat j
  · obtain ⟨j, hj, rfl⟩ := hv
    have h := G.2.2.2.1 j hj
    have hi : (0 : Int32) ≤ Int32.ofNat j ∧ Int32.ofNat j ≤ I 37 0 - 1 := by rw [G.n2, idx (by omega)]; exact ⟨j, hj, rfl⟩
    by_cases hw : 0 ≤ w ∧ w ≤ 5
    · obtain ⟨s, hs, rfl⟩ := sv_ok hw
      have hh := sh24 hS hs
      by_cases hz : 1 ≤ z ∧ z ≤ 8
      · have y1 : ¬ (-2 : Int32) = -1 := by decide
        rcases H s hs with q | ⟨b, hb, q⟩ | ⟨n, so, hn, hso, q⟩
        · refine ⟨0, I, I, W, ?_, ?_, sameS.refl, G, eqO.refl⟩
          · simp (disch := first | omega | exact ib_r | exact ib_n | exact isB_rfv _ | assumption) only [n25, t25_0 hS, t25_5 hS, t25_12, t25_32, t25_42, s_stepAt hS G hj, s_shelfAt hS hs, s_within, hz, hh.2.1, s_isEmpty hh.2.1, q.2, ↓reduceIte, eq_self, and_self, and_true, true_and, not_true_eq_false, not_false_eq_true, ob_s, tl_s, tl_n, rf_ref, orf_ref, orf_null, nn_ref, nn_null, rfv_s, rfv_n, if_true, if_false, bi_01, bi_e0, bi_e1, or_t, Classical.not_not]
          · simp (disch := first | omega | exact ib_r | exact ib_n | exact isB_rfv _ | assumption) only [n159, t159_0 hS, t159_5, t159_12, t159_23 hS, s_isStep hS, hi, s_isShelf, hw, s_in, hz, n_inb, n_cl, hs, q.1, ↓reduceIte, eq_self, and_self, and_true, true_and, not_true_eq_false, not_false_eq_true, ob_s, tl_s, tl_n, rf_ref, orf_ref, orf_null, nn_ref, nn_null, rfv_s, rfv_n, if_true, if_false, bi_01, bi_e0, bi_e1, or_t, Classical.not_not]
        · have y2 : ¬ Int32.ofNat b = -1 := neg_ne (by omega) (by decide)
          have y3 : ¬ Int32.ofNat b = -2 := neg_ne (by omega) (by decide)
          have z1 : ¬ (1 : Int32) = 0 := by decide
          have z3 : ¬ ((1 : Int32) = 2 ∧ I (25 + 2 * s) 4 = 2) := fun z => absurd z.1 (by decide)
          refine ⟨-12, I, I, W, ?_, ?_, sameS.refl, G, eqO.refl⟩
          · simp (disch := first | omega | exact ib_r | exact ib_n | exact isB_rfv _ | assumption) only [n25, t25_0 hS, t25_5 hS, t25_12, t25_32, t25_42, t25_52, s_stepAt hS G hj, s_shelfAt hS hs, s_within, hz, hh.2.1, s_isEmpty hh.2.1, s_isRowOfInts hh.2.1, q.2.1, z1, z3, ↓reduceIte, eq_self, and_self, and_true, true_and, not_true_eq_false, not_false_eq_true, ob_s, tl_s, tl_n, rf_ref, orf_ref, orf_null, nn_ref, nn_null, rfv_s, rfv_n, if_true, if_false, bi_01, bi_e0, bi_e1, or_t, Classical.not_not]
          · simp (disch := first | omega | exact ib_r | exact ib_n | exact isB_rfv _ | assumption) only [n159, t159_0 hS, t159_5, t159_12, t159_23 hS, s_isStep hS, hi, s_isShelf, hw, s_in, hz, n_inb, n_cl, hs, q.1, y2, y3, ↓reduceIte, eq_self, and_self, and_true, true_and, not_true_eq_false, not_false_eq_true, ob_s, tl_s, tl_n, rf_ref, orf_ref, orf_null, nn_ref, nn_null, rfv_s, rfv_n, if_true, if_false, bi_01, bi_e0, bi_e1, or_t, Classical.not_not]
        · have z2 : ¬ (2 : Int32) = 0 := by decide
          by_cases hso2 : so = 2
          · subst hso2
            have e22 : Int32.ofNat 2 = 2 := rfl
            have X0 : ev X (d + 4) 25 [.ref 0, .int (Int32.ofNat j), .int (Int32.ofNat s), .int i, .int z] (sz, sl, sh, R, I, J) = exe X (d + 3) 25 61 [dm, dm, dm, .int i, .int z, .ref (W 0 j), .ref (25 + 2 * s), .int 0] [] (sz, sl, sh, R, I, J) := by
              simp (disch := first | omega | exact ib_r | exact ib_n | exact isB_rfv _ | assumption) only [n25, t25_0 hS, t25_5 hS, t25_12, t25_32, t25_42, t25_52, s_stepAt hS G hj, s_shelfAt hS hs, s_within, hz, hh.2.1, s_isEmpty hh.2.1, s_isRowOfInts hh.2.1, q.2.1, q.2.2.2.2.1, e22, z2, ↓reduceIte, eq_self, and_self, and_true, true_and, not_true_eq_false, not_false_eq_true, ob_s, tl_s, tl_n, rf_ref, orf_ref, orf_null, nn_ref, nn_null, rfv_s, rfv_n, if_true, if_false, bi_01, bi_e0, bi_e1, or_t, Classical.not_not]
            have M0 : ∀ I1 : Nat → Nat → Int32, I1 37 0 = I 37 0 → I1 61 s = I 61 s → I1 62 s = I 62 s → ev X (d + 4) 159 [.ref 37, .int (Int32.ofNat j), .int (Int32.ofNat s), .int i, .int z] (sz, sl, sh, R, I1, J) = exe X (d + 3) 159 70 [.ref 37, .int (Int32.ofNat j), .int (Int32.ofNat s), dm, .int z, .int 0, .int i] [] (sz, sl, sh, R, I1, J) := by
              intro I1 a1 a2 a3
              simp (disch := first | omega | exact ib_r | exact ib_n | exact isB_rfv _ | assumption) only [n159, t159_0 hS, t159_5, t159_12, t159_23 hS, s_isStep hS, a1, a2, a3, hi, s_isShelf, hw, s_in, hz, n_inb, n_cl, hs, q.1, q.2.2.2.2.2.1, e22, y1, ↓reduceIte, eq_self, and_self, and_true, true_and, not_true_eq_false, not_false_eq_true, ob_s, tl_s, tl_n, rf_ref, orf_ref, orf_null, nn_ref, nn_null, rfv_s, rfv_n, if_true, if_false, bi_01, bi_e0, bi_e1, or_t, Classical.not_not]
            obtain ⟨N, hN1, hN, rfl⟩ := n_in (a := 1) (b := 8) (by decide) hz.1 hz.2 (by decide)
            have eN0 : ¬ N ≤ 0 := by omega
            by_cases hp : ∃ k, k < n ∧ i = Int32.ofNat k
            · obtain ⟨k0, hk0, rfl⟩ := hp
              have hxs : ∃ x : Nat → Int32, ∀ k, k < n → J (26 + 2 * s) k = (x k).toInt64 := by
                have := fun k (hk : k < n) => (q.2.2.2.2.2.2 k hk).2 rfl
                exact ⟨fun k => (J (26 + 2 * s) k).toInt32, fun k hk => by obtain ⟨y, hy⟩ := this k hk; show _ = ((J (26 + 2 * s) k).toInt32).toInt64; rw [hy, Int32.toInt32_toInt64]⟩
              obtain ⟨x, hx⟩ := hxs
              have hbm := G.ne hj hj
              have dx := s_dpX (X := X) (d := d) (sz := sz) (sl := sl) hS hs hn hk0 hN h.2.1 h.2.2.2.1 h.2.2.2.2.2.1 hbm.2.2.2.2.2.2.2.1 q.2.2.1 hx N 0 (by omega)
              have dmm := s_dpM (X := X) (d := d) (sz := sz) (sl := sl) (I := fil I (W 1 j) 0 (dn N (gd x k0 n) N 0) (fun j => x (k0 + j))) (J := J) (st := j) (k0 := k0) hS hs (by omega) hn hk0 hN (by rw [fil_a (by omega)]; exact q.2.2.2.1) (fun k hk => by rw [← (q.2.2.2.2.2.2 k hk).1]; exact hx k hk) N 0 (by omega)
              rw [fil_0, ← k_0] at dx dmm
              have ok := dn_ok (N := N) (g := gd x k0 n) N 0 (by omega)
              have hu : ∀ c, c < dn N (gd x k0 n) N 0 → x (k0 + c) = Int32.ofNat (x (k0 + c)).toNatClampNeg ∧ (x (k0 + c)).toNatClampNeg ≤ 99999 := by
                intro c hc
                have g := of_decide_eq_true (ok.2 c (by omega) hc)
                obtain ⟨y, -, hy, e⟩ := n_in (a := 0) (b := 99999) (by decide) g.2.1 g.2.2 (by decide)
                rw [e, n_cl (by omega)]
                exact ⟨rfl, hy⟩
              refine ⟨Int32.ofNat (dn N (gd x k0 n) N 0), fil I (W 1 j) 0 (dn N (gd x k0 n) N 0) (fun j => x (k0 + j)), fil (fil I (W 1 j) 0 (dn N (gd x k0 n) N 0) (fun j => x (k0 + j))) 42 (8 * j) (dn N (gd x k0 n) N 0) (fun j => x (k0 + j)), _, ?_, ?_, ?_, GS.fill G hj (u := fun c => (x (k0 + c)).toNatClampNeg) (dn N (gd x k0 n) N 0) (by omega) hu, fun a k hn' => ?_⟩
              · rw [X0]; exact dx
              · rw [M0 _ (fil_a (by omega)) (fil_a (by omega)) (fil_a (by omega))]; exact dmm
              · exact fun r k hr => fil_a (fun z => hr (by rw [z]; exact Or.inr (by decide)))
              · have c1 := xa_c G (p := 10 * j) (by omega)
                rw [fil_a (fun z => hn' (Or.inl (by rw [z]; rfl))), fil_a (fun z => hn' (Or.inl ?_))]
                rw [z]
                rcases (G.2.2.2.2.1 j hj).2 with y | y
                · rw [y.1.cI, dyc1 (by omega)]
                · rw [y.1.cI, dyc1 (by omega)]
            · refine ⟨0, I, I, W, ?_, ?_, sameS.refl, G, eqO.refl⟩
              · rw [X0, t25_61 rfl rfl, if_neg (by rw [k_0, n_le (by omega) (by omega)]; exact eN0)]
                simp (disch := first | omega | exact ib_r | exact ib_n | exact isB_rfv _ | assumption) only [rf_ref, hh.2.1, s_hasPlace_no hS hs hn q.2.2.1 hp, t25_74, ↓reduceIte, eq_self, and_self, and_true, true_and, not_true_eq_false, not_false_eq_true, ob_s, tl_s, tl_n, rf_ref, orf_ref, orf_null, nn_ref, nn_null, rfv_s, rfv_n, if_true, if_false, bi_01, bi_e0, bi_e1, or_t, Classical.not_not]
              · rw [M0 I rfl rfl rfl, t159_70 hS, if_neg (by rw [k_0, n_le (by omega) (by omega)]; exact eN0)]
                by_cases i0 : i < 0
                · rw [if_pos i0]
                · obtain ⟨y, hy, rfl⟩ := n_of (Int32.not_lt.mp i0)
                  have g1 : n ≤ y := Nat.not_lt.mp (fun z => hp ⟨y, z, rfl⟩)
                  simp (disch := first | omega | exact ib_r | exact ib_n | exact isB_rfv _ | assumption) only [i0, n_inb, n_cl, hs, q.2.2.2.1, n_le, g1, ↓reduceIte, eq_self, and_self, and_true, true_and, not_true_eq_false, not_false_eq_true, ob_s, tl_s, tl_n, rf_ref, orf_ref, orf_null, nn_ref, nn_null, rfv_s, rfv_n, if_true, if_false, bi_01, bi_e0, bi_e1, or_t, Classical.not_not]
          · have z4 : ¬ Int32.ofNat so = 2 := by rw [k_2, n_eq (by omega) (by omega)]; exact hso2
            have z3 : ¬ ((2 : Int32) = 2 ∧ Int32.ofNat so = 2) := fun z => z4 z.2
            refine ⟨-12, I, I, W, ?_, ?_, sameS.refl, G, eqO.refl⟩
            · simp (disch := first | omega | exact ib_r | exact ib_n | exact isB_rfv _ | assumption) only [n25, t25_0 hS, t25_5 hS, t25_12, t25_32, t25_42, t25_52, s_stepAt hS G hj, s_shelfAt hS hs, s_within, hz, hh.2.1, s_isEmpty hh.2.1, s_isRowOfInts hh.2.1, q.2.1, q.2.2.2.2.1, z2, z4, ↓reduceIte, eq_self, and_self, and_true, true_and, not_true_eq_false, not_false_eq_true, ob_s, tl_s, tl_n, rf_ref, orf_ref, orf_null, nn_ref, nn_null, rfv_s, rfv_n, if_true, if_false, bi_01, bi_e0, bi_e1, or_t, Classical.not_not]
            · simp (disch := first | omega | exact ib_r | exact ib_n | exact isB_rfv _ | assumption) only [n159, t159_0 hS, t159_5, t159_12, t159_23 hS, s_isStep hS, hi, s_isShelf, hw, s_in, hz, n_inb, n_cl, hs, q.1, q.2.2.2.2.2.1, y1, z4, ↓reduceIte, eq_self, and_self, and_true, true_and, not_true_eq_false, not_false_eq_true, ob_s, tl_s, tl_n, rf_ref, orf_ref, orf_null, nn_ref, nn_null, rfv_s, rfv_n, if_true, if_false, bi_01, bi_e0, bi_e1, or_t, Classical.not_not]
      · refine ⟨-1, I, I, W, ?_, ?_, sameS.refl, G, eqO.refl⟩
        · simp (disch := first | omega | exact ib_r | exact ib_n | exact isB_rfv _ | assumption) only [n25, t25_0 hS, t25_5 hS, t25_12, t25_32, s_stepAt hS G hj, s_shelfAt hS hs, s_within, hz, ↓reduceIte, eq_self, and_self, and_true, true_and, not_true_eq_false, not_false_eq_true, ob_s, tl_s, tl_n, rf_ref, orf_ref, orf_null, nn_ref, nn_null, rfv_s, rfv_n, if_true, if_false, bi_01, bi_e0, bi_e1, or_t, Classical.not_not]
        · simp (disch := first | omega | exact ib_r | exact ib_n | exact isB_rfv _ | assumption) only [n159, t159_0 hS, t159_5, t159_12, t159_23 hS, s_isStep hS, hi, s_isShelf, hw, s_in, hz, ↓reduceIte, eq_self, and_self, and_true, true_and, not_true_eq_false, not_false_eq_true, ob_s, tl_s, tl_n, rf_ref, orf_ref, orf_null, nn_ref, nn_null, rfv_s, rfv_n, if_true, if_false, bi_01, bi_e0, bi_e1, or_t, Classical.not_not]
    · refine ⟨-1, I, I, W, ?_, ?_, sameS.refl, G, eqO.refl⟩
      · simp (disch := first | omega | exact ib_r | exact ib_n | exact isB_rfv _ | assumption) only [n25, t25_0 hS, t25_5 hS, t25_12, s_stepAt hS G hj, s_shelfAt_no hS hw, ↓reduceIte, eq_self, and_self, and_true, true_and, not_true_eq_false, not_false_eq_true, ob_s, tl_s, tl_n, rf_ref, orf_ref, orf_null, nn_ref, nn_null, rfv_s, rfv_n, if_true, if_false, bi_01, bi_e0, bi_e1, or_t, Classical.not_not]
      · simp (disch := first | omega | exact ib_r | exact ib_n | exact isB_rfv _ | assumption) only [n159, t159_0 hS, t159_5, t159_12, s_isStep hS, hi, s_isShelf, hw, ↓reduceIte, eq_self, and_self, and_true, true_and, not_true_eq_false, not_false_eq_true, ob_s, tl_s, tl_n, rf_ref, orf_ref, orf_null, nn_ref, nn_null, rfv_s, rfv_n, if_true, if_false, bi_01, bi_e0, bi_e1, or_t, Classical.not_not]
  · have hi : ¬ ((0 : Int32) ≤ v ∧ v ≤ I 37 0 - 1) := by rw [G.n2, idx (by omega)]; exact hv
    refine ⟨-1, I, I, W, ?_, ?_, sameS.refl, G, eqO.refl⟩
    · by_cases hw : 0 ≤ w ∧ w ≤ 5
      · obtain ⟨s, hs, rfl⟩ := sv_ok hw
        simp (disch := first | omega | exact ib_r | exact ib_n | exact isB_rfv _ | assumption) only [n25, t25_0 hS, t25_5 hS, t25_12, s_stepAt_no hS G hv, s_shelfAt hS hs, ↓reduceIte, eq_self, and_self, and_true, true_and, not_true_eq_false, not_false_eq_true, ob_s, tl_s, tl_n, rf_ref, orf_ref, orf_null, nn_ref, nn_null, rfv_s, rfv_n, if_true, if_false, bi_01, bi_e0, bi_e1, or_t, Classical.not_not]
      · simp (disch := first | omega | exact ib_r | exact ib_n | exact isB_rfv _ | assumption) only [n25, t25_0 hS, t25_5 hS, t25_12, s_stepAt_no hS G hv, s_shelfAt_no hS hw, ↓reduceIte, eq_self, and_self, and_true, true_and, not_true_eq_false, not_false_eq_true, ob_s, tl_s, tl_n, rf_ref, orf_ref, orf_null, nn_ref, nn_null, rfv_s, rfv_n, if_true, if_false, bi_01, bi_e0, bi_e1, or_t, Classical.not_not]
    · simp (disch := first | omega | exact ib_r | exact ib_n | exact isB_rfv _ | assumption) only [n159, t159_0 hS, t159_5, s_isStep hS, hi, ↓reduceIte, eq_self, and_self, and_true, true_and, not_true_eq_false, not_false_eq_true, ob_s, tl_s, tl_n, rf_ref, orf_ref, orf_null, nn_ref, nn_null, rfv_s, rfv_n, if_true, if_false, bi_01, bi_e0, bi_e1, or_t, Classical.not_not]
/-- two rows of the reference change about -/
def swf (I : Nat → Nat → Int32) (o c : Nat) : Nat → Nat → Int32 := fun b k => if (o ≤ k ∧ k < o + c) ∧ b = 42 then I 43 k else if (o ≤ k ∧ k < o + c) ∧ b = 43 then I 42 k else I b k
theorem swf_0 {I : Nat → Nat → Int32} {o : Nat} : swf I o 0 = I := by funext b k; unfold swf; rw [if_neg (by omega), if_neg (by omega)]
theorem swf_s {I : Nat → Nat → Int32} {o c : Nat} : u2 (u2 (swf I o c) 43 (o + c) (I 42 (o + c))) 42 (o + c) (I 43 (o + c)) = swf I o (c + 1) := by
  funext b k
  show (if b = 42 ∧ k = o + c then I 43 (o + c) else if b = 43 ∧ k = o + c then I 42 (o + c) else swf I o c b k) = swf I o (c + 1) b k
  unfold swf
  by_cases h : b = 42 ∧ k = o + c
  · rw [if_pos h, if_pos (by omega), h.2]
  · rw [if_neg h]
    by_cases h2 : b = 43 ∧ k = o + c
    · rw [if_pos h2, if_neg (by omega), if_pos (by omega), h2.2]
    · rw [if_neg h2]
      by_cases h3 : (o ≤ k ∧ k < o + c) ∧ b = 42
      · rw [if_pos h3, if_pos (by omega)]
      · rw [if_neg h3, if_neg (show ¬ ((o ≤ k ∧ k < o + (c + 1)) ∧ b = 42) by omega)]
        by_cases h4 : (o ≤ k ∧ k < o + c) ∧ b = 43
        · rw [if_pos h4, if_pos (by omega)]
        · rw [if_neg h4, if_neg (by omega)]
theorem swf_n {I : Nat → Nat → Int32} {o c b k : Nat} (h1 : b ≠ 42) (h2 : b ≠ 43) : swf I o c b k = I b k := by unfold swf; rw [if_neg (fun z => h1 z.2), if_neg (fun z => h2 z.2)]
theorem s_turnM (hS : SF sh R) {i : Nat} (hi : i < 40) (h0 : I 44 i = 0 → ∀ c, c < 8 → I 43 (8 * i + c) = 0) {y a : Int32} : ∀ n c : Nat, c + n = 8 → exe X d 161 50 [.ref 37, .int (Int32.ofNat i), .int y, .int a, .int (Int32.ofNat (8 * i + c)), dm] [] (sz, sl, sh, R, swf I (8 * i) c, J) = some (some (.int a), (sz, sl, sh, R, u2 (u2 (swf I (8 * i) 8) 44 i 1) 40 i y, J))
  | 0, c, h => by
    obtain rfl : c = 8 := by omega
    have e1 : 8 * i + 8 ≤ 8 * i + 8 := Nat.le_refl _
    rw [t161_50 hS]
    simp (disch := first | omega | exact ib_r | exact ib_n | exact isB_rfv _ | assumption) only [k_8, n_mul, n_add, n_le, e1, n_inb, n_cl, hi, ↓reduceIte, eq_self, and_self, and_true, true_and, not_true_eq_false, not_false_eq_true, ob_s, tl_s, tl_n, rf_ref, orf_ref, orf_null, nn_ref, nn_null, rfv_s, rfv_n, if_true, if_false, bi_01, bi_e0, bi_e1, or_t, Classical.not_not]
  | n + 1, c, h => by
    have e1 : ¬ 8 * i + 8 ≤ 8 * i + c := by omega
    have e2 : 8 * i + c < 320 := by omega
    have ih := s_turnM (y := y) (a := a) hS hi h0 n (c + 1) (by omega)
    have f42 : swf I (8 * i) c 42 (8 * i + c) = I 42 (8 * i + c) := by unfold swf; rw [if_neg (by omega), if_neg (by omega)]
    have f43 : swf I (8 * i) c 43 (8 * i + c) = I 43 (8 * i + c) := by unfold swf; rw [if_neg (by omega), if_neg (by omega)]
    have f44 : swf I (8 * i) c 44 i = I 44 i := swf_n (by decide) (by decide)
    rw [t161_50 hS]
    simp (disch := first | omega | exact ib_r | exact ib_n | exact isB_rfv _ | assumption) only [k_8, n_mul, n_add, n_le, e1, e2, n_inb, n_cl, hi, f43, f44, f42, ↓reduceIte, eq_self, and_self, and_true, true_and, not_true_eq_false, not_false_eq_true, ob_s, tl_s, tl_n, rf_ref, orf_ref, orf_null, nn_ref, nn_null, rfv_s, rfv_n, if_true, if_false, bi_01, bi_e0, bi_e1, or_t, Classical.not_not, t161_82 hS, n_suc]
    by_cases hz : I 44 i = 0
    · rw [if_pos hz, ← h0 hz c (by omega), swf_s]
      exact ih
    · rw [if_neg hz, swf_s]
      exact ih
/-- a step turned over, told anew -/
def Wt (W : WW) (i y : Nat) : WW := fun r k => if r = 1 ∧ k = i then W 2 i else if r = 2 ∧ k = i then W 1 i else if r = 12 ∧ k = i then y else if r = 14 ∧ k = i then 1 else if r = 15 ∧ 8 * i ≤ k ∧ k < 8 * i + 8 then W 16 k else if r = 16 ∧ 8 * i ≤ k ∧ k < 8 * i + 8 then W 15 k else W r k
theorem GS.turn (G : GS W ns sh R I) {i y : Nat} (hi : i < ns) (hy : y ≤ 2000) {R' : Nat → Nat → Option Nat} {I' : Nat → Nat → Int32} (hR : R' = u2 (u2 R (W 0 i) 6 (some (W 2 i))) (W 0 i) 7 (some (W 1 i))) (hI : I' = u2 (u2 (swf (u2 (u2 I (W 0 i) 3 (Int32.ofNat y)) (W 0 i) 5 1) (8 * i) 8) 44 i 1) 40 i (Int32.ofNat y)) : GS (Wt W i y) ns sh R' I' := by
  have G' := G
  obtain ⟨h40, e1, e2, g1, g2, g3, g4, g5, g6, g7, g8⟩ := G
  have ne := fun j (hj : j < ns) => G'.ne hj hi
  have w0 : ∀ k, Wt W i y 0 k = W 0 k := fun k => rfl
  have w8 : ∀ k, Wt W i y 8 k = W 8 k := fun k => rfl
  have w10 : ∀ k, Wt W i y 10 k = W 10 k := fun k => rfl
  have w11 : ∀ k, Wt W i y 11 k = W 11 k := fun k => rfl
  have w13 : ∀ k, Wt W i y 13 k = W 13 k := fun k => rfl
  have w1 : ∀ k, Wt W i y 1 k = if k = i then W 2 i else W 1 k := fun k => by
    unfold Wt
    by_cases h : k = i
    · rw [if_pos ⟨rfl, h⟩, if_pos h]
    · rw [if_neg (fun z => h z.2), if_neg h]; rfl
  have w2 : ∀ k, Wt W i y 2 k = if k = i then W 1 i else W 2 k := fun k => by
    unfold Wt
    by_cases h : k = i
    · rw [if_neg (by omega), if_pos ⟨rfl, h⟩, if_pos h]
    · rw [if_neg (by omega), if_neg (fun z => h z.2), if_neg h]; rfl
  have w12 : ∀ k, Wt W i y 12 k = if k = i then y else W 12 k := fun k => by
    unfold Wt
    by_cases h : k = i
    · rw [if_neg (by omega), if_neg (by omega), if_pos ⟨rfl, h⟩, if_pos h]
    · rw [if_neg (by omega), if_neg (by omega), if_neg (fun z => h z.2), if_neg h]; rfl
  have w14 : ∀ k, Wt W i y 14 k = if k = i then 1 else W 14 k := fun k => by
    unfold Wt
    by_cases h : k = i
    · rw [if_neg (by omega), if_neg (by omega), if_neg (by omega), if_pos ⟨rfl, h⟩, if_pos h]
    · rw [if_neg (by omega), if_neg (by omega), if_neg (by omega), if_neg (fun z => h z.2), if_neg h]; rfl
  have w15 : ∀ j c, c < 8 → Wt W i y 15 (8 * j + c) = if j = i then W 16 (8 * j + c) else W 15 (8 * j + c) := fun j c hc => by
    unfold Wt
    by_cases h : j = i
    · rw [if_neg (by omega), if_neg (by omega), if_neg (by omega), if_neg (by omega), if_pos ⟨rfl, by omega⟩, if_pos h]
    · rw [if_neg (by omega), if_neg (by omega), if_neg (by omega), if_neg (by omega), if_neg (by omega), if_neg (by omega), if_neg h]
  have w16 : ∀ j c, c < 8 → Wt W i y 16 (8 * j + c) = if j = i then W 15 (8 * j + c) else W 16 (8 * j + c) := fun j c hc => by
    unfold Wt
    by_cases h : j = i
    · rw [if_neg (by omega), if_neg (by omega), if_neg (by omega), if_neg (by omega), if_neg (by omega), if_pos ⟨rfl, by omega⟩, if_pos h]
    · rw [if_neg (by omega), if_neg (by omega), if_neg (by omega), if_neg (by omega), if_neg (by omega), if_neg (by omega), if_neg h]
  have mk' : ∀ a m, mk W a m → mk (Wt W i y) a m := fun a m z => z
  have R0 : ∀ a k, (a ≠ W 0 i ∨ k < 6) → R' a k = R a k := fun a k h => by
    rw [hR]
    show (if a = W 0 i ∧ k = 7 then _ else if a = W 0 i ∧ k = 6 then _ else R a k) = R a k
    rw [if_neg (by omega), if_neg (by omega)]
  -- cells of I'
  have dyn : ∀ a k, 71 ≤ a → I' a k = u2 (u2 I (W 0 i) 3 (Int32.ofNat y)) (W 0 i) 5 1 a k := fun a k ha => by
    rw [hI, u2_pa (by omega), u2_pa (by omega), swf_n (by omega) (by omega)]
  have sta : ∀ a k, a < 71 → a ≠ 40 → a ≠ 42 → a ≠ 43 → a ≠ 44 → I' a k = I a k := fun a k ha n1 n2 n3 n4 => by
    have := (ne i hi).2.2.2.2.2.2.1
    rw [hI, u2_pa n1, u2_pa n4, swf_n n2 n3, u2_pa (by omega), u2_pa (by omega)]
  have m42 : ∀ a k, a = 42 ∨ a = 43 → I' a k = swf I (8 * i) 8 a k := fun a k ha => by
    have := (ne i hi).2.2.2.2.2.2.1
    have q : ∀ b j, b < 71 → u2 (u2 I (W 0 i) 3 (Int32.ofNat y)) (W 0 i) 5 1 b j = I b j := fun b j hb => by rw [u2_pa (by omega), u2_pa (by omega)]
    rw [hI, u2_pa (by omega), u2_pa (by omega)]
    unfold swf
    rw [q 43 k (by decide), q 42 k (by decide), q a k (by omega)]
  refine ⟨h40, ?_, ?_, fun j hj => ?_, fun j hj => ?_, fun j hj => ?_, fun j hj => ?_, fun j hj => ?_, fun j c hj hc => ?_, fun k h1 h2 => ?_, fun j h1 h2 => ?_⟩
  · rw [sta 0 1 (by decide) (by decide) (by decide) (by decide) (by decide)]; exact e1
  · rw [sta 37 0 (by decide) (by decide) (by decide) (by decide) (by decide)]; exact e2
  · have q := g1 j hj
    have := (ne j hj).2.2.2.2.2.2.1
    rw [w0, w1, w2, R0 1 j (Or.inl (by have := (ne i hi).2.2.2.2.2.2.1; omega)), R0 (W 0 j) 0 (Or.inr (by decide)), w0]
    by_cases e : j = i
    · subst e
      rw [if_pos rfl, if_pos rfl]
      refine ⟨q.1, q.2.1, q.2.2.1, ?_, ?_, q.2.2.2.2.2.2, q.2.2.2.2.2.1⟩
      · rw [hR, u2_pj (by decide), u2_at0]
      · rw [hR, u2_at0]
    · have nj : W 0 j ≠ W 0 i := fun z => e ((ne j hj).1 z)
      rw [if_neg e, if_neg e, R0 _ 6 (Or.inl nj), R0 _ 7 (Or.inl nj)]
      exact q
  · have q := g2 j hj
    rw [w0, w1, w2]
    refine ⟨mk' _ _ q.1, ?_⟩
    by_cases e : j = i
    · subst e
      rw [if_pos rfl, if_pos rfl]
      exact q.2.elim (fun z => Or.inr ⟨mk' _ _ z.2, mk' _ _ z.1⟩) (fun z => Or.inl ⟨mk' _ _ z.2, mk' _ _ z.1⟩)
    · rw [if_neg e, if_neg e]
      exact q.2.elim (fun z => Or.inl ⟨mk' _ _ z.1, mk' _ _ z.2⟩) (fun z => Or.inr ⟨mk' _ _ z.1, mk' _ _ z.2⟩)
  · have q := g3 j hj
    have h71 := (ne j hj).2.2.2.2.2.2.1
    rw [w0, w10, w11, w12, w13, w14, dyn _ _ h71, dyn _ _ h71, dyn _ _ h71, dyn _ _ h71, dyn _ _ h71]
    by_cases e : j = i
    · subst e
      rw [if_pos rfl, if_pos rfl, u2_pj (by decide), u2_pj (by decide), u2_pj (by decide), u2_pj (by decide), u2_pj (show 3 ≠ 5 by decide), u2_at0, u2_pj (by decide), u2_pj (by decide), u2_at0]
      exact ⟨q.1, q.2.1, rfl, q.2.2.2.1, rfl⟩
    · have nj : W 0 j ≠ W 0 i := fun z => e ((ne j hj).1 z)
      rw [if_neg e, if_neg e, u2_pa nj, u2_pa nj, u2_pa nj, u2_pa nj, u2_pa nj, u2_pa nj, u2_pa nj, u2_pa nj, u2_pa nj, u2_pa nj]
      exact q
  · have q := g4 j hj
    have h71 := (ne i hi).2.2.2.2.2.2.1
    rw [w10, w11, w12, w13, w14, sta 38 j (by decide) (by decide) (by decide) (by decide) (by decide), sta 39 j (by decide) (by decide) (by decide) (by decide) (by decide), sta 41 j (by decide) (by decide) (by decide) (by decide) (by decide)]
    by_cases e : j = i
    · subst e
      rw [if_pos rfl, if_pos rfl, hI, u2_at0, u2_pa (by decide), u2_at0]
      exact ⟨q.1, q.2.1, rfl, q.2.2.2.1, rfl⟩
    · rw [if_neg e, if_neg e, hI, u2_pj e, u2_pa (by decide), swf_n (by decide) (by decide), u2_pa (by omega), u2_pa (by omega), u2_pa (by decide), u2_pj e, swf_n (by decide) (by decide), u2_pa (by omega), u2_pa (by omega)]
      exact q
  · have q := g5 j hj
    rw [w10, w11, w12, w13, w14]
    by_cases e : j = i
    · rw [if_pos e, if_pos e]; exact ⟨q.1, q.2.1, hy, q.2.2.2.1, Nat.le_refl 1⟩
    · rw [if_neg e, if_neg e]; exact q
  · have q := g6 j c hj hc
    have nn := ne j hj
    have nm := G'.ne hi hj
    rw [w1, w2, w14, w15 j c hc, w16 j c hc, m42 42 _ (Or.inl rfl), m42 43 _ (Or.inr rfl)]
    unfold swf
    by_cases e : j = i
    · subst e
      rw [if_pos rfl, if_pos rfl, if_pos rfl, if_pos rfl, if_pos rfl, dyn _ _ nn.2.2.2.2.2.2.2.2, dyn _ _ nn.2.2.2.2.2.2.2.1, u2_pa nm.2.2.2.2.1.symm, u2_pa nm.2.2.2.2.1.symm, u2_pa nm.2.2.2.1.symm, u2_pa nm.2.2.2.1.symm, if_pos (by omega), if_neg (by omega), if_pos (by omega)]
      exact ⟨q.2.1, q.1, q.2.2.2.1, q.2.2.1, q.2.2.2.2.2.1, q.2.2.2.2.1, fun z => absurd z (by decide)⟩
    · rw [if_neg e, if_neg e, if_neg e, if_neg e, if_neg e, dyn _ _ nn.2.2.2.2.2.2.2.1, dyn _ _ nn.2.2.2.2.2.2.2.2, u2_pa nm.2.2.2.1.symm, u2_pa nm.2.2.2.1.symm, u2_pa nm.2.2.2.2.1.symm, u2_pa nm.2.2.2.2.1.symm, if_neg (by omega), if_neg (by omega), if_neg (by omega), if_neg (by omega)]
      exact q
  · rw [m42 42 _ (Or.inl rfl), m42 43 _ (Or.inr rfl)]
    unfold swf
    rw [if_neg (by omega), if_neg (by omega), if_neg (by omega), if_neg (by omega)]
    exact g7 k h1 h2
  · have h71 := (ne i hi).2.2.2.2.2.2.1
    rw [hI, u2_pa (by decide), u2_pj (by omega), swf_n (by decide) (by decide), u2_pa (by omega), u2_pa (by omega)]
    exact g8 j h1 h2
theorem o_turn (hS : SF sh R) (G : GS W ns sh R I) {v y : Int32} : ∃ x R1 I1 I2 W', ev X (d + 4) 33 [.ref 0, .int v, .int y] (sz, sl, sh, R, I, J) = some (some (.int x), (sz, sl, sh, R1, I1, J)) ∧ ev X (d + 4) 161 [.ref 37, .int v, .int y] (sz, sl, sh, R1, I1, J) = some (some (.int x), (sz, sl, sh, R1, I2, J)) ∧ sameS W W' ∧ GS W' ns sh R1 I2 ∧ eqO (CC W 1) I I2 ∧ ∀ a k, cR W a ≠ 1 → R1 a k = R a k := by
  have h40 := G.1
  by_cases hv : ∃ j, j < ns ∧ v = Int32.ofNat j
  · obtain ⟨j, hj, rfl⟩ := hv
    have h := G.2.2.2.1 j hj
    have g3 := G.2.2.2.2.2.1 j hj
    have g4 := G.2.2.2.2.2.2.1 j hj
    have g5 := G.2.2.2.2.2.2.2.1 j hj
    have ej : j < 40 := by omega
    have hi : (0 : Int32) ≤ Int32.ofNat j ∧ Int32.ofNat j ≤ I 37 0 - 1 := by rw [G.n2, idx (by omega)]; exact ⟨j, hj, rfl⟩
    have z1 : ¬ (1 : Int32) = 0 := by decide
    by_cases hy : 0 ≤ y ∧ y ≤ 2000
    · obtain ⟨u, -, hu, rfl⟩ := n_in (a := 0) (b := 2000) (by decide) hy.1 hy.2 (by decide)
      by_cases hs : W 12 j ≤ u
      · have n0 := (G.ne hj hj).2.2.2.2.2.2.1
        have cr0 : cR W (W 0 j) = 1 := by rw [(G.2.2.2.2.1 j hj).1.cR, dyc1 (by omega)]
        have hS' : SF sh (u2 (u2 R (W 0 j) 6 (some (W 2 j))) (W 0 j) 7 (some (W 1 j))) := hS.fr (W := W) (fun _ _ => rfl) (fun a k hc => by rw [u2_pa (fun z => by rw [z, cr0] at hc; omega), u2_pa (fun z => by rw [z, cr0] at hc; omega)])
        have st : ∀ a k, a < 71 → u2 (u2 I (W 0 j) 3 (Int32.ofNat u)) (W 0 j) 5 1 a k = I a k := fun a k ha => by rw [u2_pa (by omega), u2_pa (by omega)]
        have tm := s_turnM (X := X) (d := d + 3) (sz := sz) (sl := sl) (I := u2 (u2 I (W 0 j) 3 (Int32.ofNat u)) (W 0 j) 5 1) (J := J) (y := Int32.ofNat u) (a := Int32.ofNat (sumf (fun c => W 15 (8 * j + c)) 0 8)) hS' ej (fun z c hc => by
          rw [st 44 j (by decide), g4.2.2.2.2, k_0, n_eq (by omega) (by decide)] at z
          have q := G.2.2.2.2.2.2.2.2.1 j c hj hc
          rw [st 43 _ (by decide), q.2.2.2.1, q.2.2.2.2.2.2 z]; rfl) 8 0 rfl
        rw [swf_0, Nat.add_zero] at tm
        refine ⟨Int32.ofNat (sumf (fun c => W 15 (8 * j + c)) 0 8), _, u2 (u2 I (W 0 j) 3 (Int32.ofNat u)) (W 0 j) 5 1, _, _, ?_, ?_, ?_, G.turn hj hu rfl rfl, fun a k hn => ?_, fun a k hc => ?_⟩
        · have t1 : sh (W 0 j) = (15, 0) := h.2.1
          have e6 : u2 R (W 0 j) 6 (some (W 2 j)) = u2 R (W 0 j) 6 (some (W 2 j)) := rfl
          have eo : ∀ {v' : Nat} {f : Nat → Option Rs}, True := fun {_ _} => trivial
          simp (disch := first | omega | exact ib_r | exact ib_n | exact isB_rfv _ | assumption) only [n33, t33_0 hS, t33_5, t33_14, t33_31, t33_38, s_stepAt hS G hj, s_isYear, hy, h.2.1, g3.2.2.1, n_le, hs, ↓reduceIte, eq_self, and_self, and_true, true_and, not_true_eq_false, not_false_eq_true, ob_s, tl_s, tl_n, rf_ref, orf_ref, orf_null, nn_ref, nn_null, rfv_s, rfv_n, if_true, if_false, bi_01, bi_e0, bi_e1, or_t, Classical.not_not, s_together G hj, n36, t36_0 h.2.1, t36_13 h.2.1, t36_18 h.2.1, h.2.2.2.1, h.2.2.2.2.1]
        · have hi' : (0 : Int32) ≤ Int32.ofNat j ∧ Int32.ofNat j ≤ u2 (u2 I (W 0 j) 3 (Int32.ofNat u)) (W 0 j) 5 1 37 0 - 1 := by rw [st 37 0 (by decide)]; exact hi
          have e40 : u2 (u2 I (W 0 j) 3 (Int32.ofNat u)) (W 0 j) 5 1 40 j = Int32.ofNat (W 12 j) := by rw [st 40 j (by decide)]; exact g4.2.2.1
          have hr : Int32.ofNat (W 12 j) ≤ Int32.ofNat u ∧ Int32.ofNat u ≤ 2000 := ⟨by rw [n_le (by omega) (by omega)]; exact hs, hy.2⟩
          have sm : ev X (d + 3) 162 [.ref 37, .int (Int32.ofNat j)] (sz, sl, sh, u2 (u2 R (W 0 j) 6 (some (W 2 j))) (W 0 j) 7 (some (W 1 j)), u2 (u2 I (W 0 j) 3 (Int32.ofNat u)) (W 0 j) 5 1, J) = some (some (.int (Int32.ofNat (sumf (fun c => W 15 (8 * j + c)) 0 8))), (sz, sl, sh, u2 (u2 R (W 0 j) 6 (some (W 2 j))) (W 0 j) 7 (some (W 1 j)), u2 (u2 I (W 0 j) 3 (Int32.ofNat u)) (W 0 j) 5 1, J)) := by
            have sg : ∀ n k acc : Nat, k + n = 8 → exe X (d + 2) 162 4 [.ref 37, .int (Int32.ofNat j), .int (Int32.ofNat acc), .int (Int32.ofNat k)] [] (sz, sl, sh, u2 (u2 R (W 0 j) 6 (some (W 2 j))) (W 0 j) 7 (some (W 1 j)), u2 (u2 I (W 0 j) 3 (Int32.ofNat u)) (W 0 j) 5 1, J) = some (some (.int (Int32.ofNat (acc + sumf (fun c => W 15 (8 * j + c)) k n))), (sz, sl, sh, u2 (u2 R (W 0 j) 6 (some (W 2 j))) (W 0 j) 7 (some (W 1 j)), u2 (u2 I (W 0 j) 3 (Int32.ofNat u)) (W 0 j) 5 1, J)) := by
              intro n
              induction n with
              | zero =>
                intro k acc hk
                have e : 8 ≤ k := by omega
                simp (disch := first | omega | exact ib_r | exact ib_n | exact isB_rfv _ | assumption) only [t162_4 hS', k_8, n_le, e, ↓reduceIte, eq_self, and_self, and_true, true_and, not_true_eq_false, not_false_eq_true, ob_s, tl_s, tl_n, rf_ref, orf_ref, orf_null, nn_ref, nn_null, rfv_s, rfv_n, if_true, if_false, bi_01, bi_e0, bi_e1, or_t, Classical.not_not, sumf_z, Nat.add_zero]
              | succ n ih =>
                intro k acc hk
                have e2 : ¬ 8 ≤ k := by omega
                have e3 : k < 8 := by omega
                have e4 : 8 * j + k < 320 := by omega
                have hm := (G.2.2.2.2.2.2.2.2.1 j k hj e3).2.2.1
                rw [← st 42 _ (by decide)] at hm
                have ih' := ih (k + 1) (acc + W 15 (8 * j + k)) (by omega)
                rw [t162_4 hS']
                simp (disch := first | omega | exact ib_r | exact ib_n | exact isB_rfv _ | assumption) only [k_8, n_suc, n_le, e2, n_mul, n_add, n_inb, n_cl, e4, hm, ↓reduceIte, eq_self, and_self, and_true, true_and, not_true_eq_false, not_false_eq_true, ob_s, tl_s, tl_n, rf_ref, orf_ref, orf_null, nn_ref, nn_null, rfv_s, rfv_n, if_true, if_false, bi_01, bi_e0, bi_e1, or_t, Classical.not_not]
                rw [ih', sumf_s, Nat.add_assoc]
            rw [n162, t162_0, k_0, sg 8 0 0 rfl, Nat.zero_add]
          simp (disch := first | omega | exact ib_r | exact ib_n | exact isB_rfv _ | assumption) only [n161, t161_0 hS', t161_5 hS', t161_18, t161_33 hS', t161_43, s_isStep hS', hi', z1, zS40 hS, n_inb, n_cl, ej, e40, s_in, hr, sm, ↓reduceIte, eq_self, and_self, and_true, true_and, not_true_eq_false, not_false_eq_true, ob_s, tl_s, tl_n, rf_ref, orf_ref, orf_null, nn_ref, nn_null, rfv_s, rfv_n, if_true, if_false, bi_01, bi_e0, bi_e1, or_t, Classical.not_not, k_8, n_mul]
          exact tm
        · intro r k hr
          unfold Wt
          unfold rwS at hr
          rw [if_neg (by omega), if_neg (by omega), if_neg (by omega), if_neg (by omega), if_neg (by omega), if_neg (by omega)]
        · have c0 : ∀ k, cI W (W 0 j) k = 1 := fun k => by rw [(G.2.2.2.2.1 j hj).1.cI, dyc1 (by omega)]
          have na : ∀ b, cI W b k = 1 → a ≠ b := fun b hb z => hn (Or.inl (by rw [z]; exact hb))
          rw [u2_pa (na 40 rfl), u2_pa (na 44 rfl), swf_n (na 42 rfl) (na 43 rfl), u2_pa (na _ (c0 k)), u2_pa (na _ (c0 k))]
        · rw [u2_pa (fun z => hc (by rw [z]; exact cr0)), u2_pa (fun z => hc (by rw [z]; exact cr0))]
      · have hr : ¬ (Int32.ofNat (W 12 j) ≤ Int32.ofNat u ∧ Int32.ofNat u ≤ 2000) := fun z => hs (by have := z.1; rw [n_le (by omega) (by omega)] at this; exact this)
        refine ⟨-1, R, I, I, W, ?_, ?_, sameS.refl, G, eqO.refl, fun _ _ _ => rfl⟩
        · simp (disch := first | omega | exact ib_r | exact ib_n | exact isB_rfv _ | assumption) only [n33, t33_0 hS, t33_5, t33_14, s_stepAt hS G hj, s_isYear, hy, h.2.1, g3.2.2.1, n_le, hs, ↓reduceIte, eq_self, and_self, and_true, true_and, not_true_eq_false, not_false_eq_true, ob_s, tl_s, tl_n, rf_ref, orf_ref, orf_null, nn_ref, nn_null, rfv_s, rfv_n, if_true, if_false, bi_01, bi_e0, bi_e1, or_t, Classical.not_not]
        · simp (disch := first | omega | exact ib_r | exact ib_n | exact isB_rfv _ | assumption) only [n161, t161_0 hS, t161_5 hS, t161_18, t161_33 hS, s_isStep hS, hi, z1, zS40 hS, n_inb, n_cl, ej, g4.2.2.1, s_in, hr, ↓reduceIte, eq_self, and_self, and_true, true_and, not_true_eq_false, not_false_eq_true, ob_s, tl_s, tl_n, rf_ref, orf_ref, orf_null, nn_ref, nn_null, rfv_s, rfv_n, if_true, if_false, bi_01, bi_e0, bi_e1, or_t, Classical.not_not]
    · have hr : ¬ (Int32.ofNat (W 12 j) ≤ y ∧ y ≤ 2000) := fun z => hy ⟨Int32.le_trans (n_ge (by omega)) z.1, z.2⟩
      refine ⟨-1, R, I, I, W, ?_, ?_, sameS.refl, G, eqO.refl, fun _ _ _ => rfl⟩
      · simp (disch := first | omega | exact ib_r | exact ib_n | exact isB_rfv _ | assumption) only [n33, t33_0 hS, t33_5, t33_14, s_stepAt hS G hj, s_isYear, hy, ↓reduceIte, eq_self, and_self, and_true, true_and, not_true_eq_false, not_false_eq_true, ob_s, tl_s, tl_n, rf_ref, orf_ref, orf_null, nn_ref, nn_null, rfv_s, rfv_n, if_true, if_false, bi_01, bi_e0, bi_e1, or_t, Classical.not_not]
      · simp (disch := first | omega | exact ib_r | exact ib_n | exact isB_rfv _ | assumption) only [n161, t161_0 hS, t161_5 hS, t161_18, t161_33 hS, s_isStep hS, hi, z1, zS40 hS, n_inb, n_cl, ej, g4.2.2.1, s_in, hr, ↓reduceIte, eq_self, and_self, and_true, true_and, not_true_eq_false, not_false_eq_true, ob_s, tl_s, tl_n, rf_ref, orf_ref, orf_null, nn_ref, nn_null, rfv_s, rfv_n, if_true, if_false, bi_01, bi_e0, bi_e1, or_t, Classical.not_not]
  · have hi : ¬ ((0 : Int32) ≤ v ∧ v ≤ I 37 0 - 1) := by rw [G.n2, idx (by omega)]; exact hv
    refine ⟨-1, R, I, I, W, ?_, ?_, sameS.refl, G, eqO.refl, fun _ _ _ => rfl⟩
    · simp (disch := first | omega | exact ib_r | exact ib_n | exact isB_rfv _ | assumption) only [n33, t33_0 hS, t33_5, s_stepAt_no hS G hv, ↓reduceIte, eq_self, and_self, and_true, true_and, not_true_eq_false, not_false_eq_true, ob_s, tl_s, tl_n, rf_ref, orf_ref, orf_null, nn_ref, nn_null, rfv_s, rfv_n, if_true, if_false, bi_01, bi_e0, bi_e1, or_t, Classical.not_not]
    · simp (disch := first | omega | exact ib_r | exact ib_n | exact isB_rfv _ | assumption) only [n161, t161_0 hS, t161_5 hS, s_isStep hS, hi, ↓reduceIte, eq_self, and_self, and_true, true_and, not_true_eq_false, not_false_eq_true, ob_s, tl_s, tl_n, rf_ref, orf_ref, orf_null, nn_ref, nn_null, rfv_s, rfv_n, if_true, if_false, bi_01, bi_e0, bi_e1, or_t, Classical.not_not]
end TURN
