/-! LAW: the call -/
def Wl (W : WW) (sz nl : Nat) : WW := fun r k => if r = 3 ∧ k = nl then sz else if r = 4 ∧ k = nl then sz + 2 else if r = 5 ∧ k = nl then sz + 3 else if r = 6 ∧ k = nl then sz + 1 else if r = 8 ∧ k = sz then 1000 + 10 * nl else if r = 8 ∧ k = sz + 2 then 1000 + 10 * nl + 1 else if r = 8 ∧ k = sz + 3 then 1000 + 10 * nl + 2 else if r = 8 ∧ k = sz + 1 then 1000 + 10 * nl + 3 else W r k
section OLAW
variable {X : XX} {d : Nat} {sz sl : Nat} {sh : Nat → Nat × Nat} {R : Nat → Nat → Option Nat} {I : Nat → Nat → Int32} {J : Nat → Nat → Int64} {T : Nat → Nat} {nt nl ns ny : Nat} {W : WW} {Tl : Nat → List LN}
theorem Wl_n {r k : Nat} (h : ¬ (3 ≤ r ∧ r ≤ 6 ∧ k = nl)) (h8 : ¬ (r = 8 ∧ sz ≤ k)) : Wl W sz nl r k = W r k := by
  unfold Wl
  rw [if_neg (by omega), if_neg (by omega), if_neg (by omega), if_neg (by omega), if_neg (by omega), if_neg (by omega), if_neg (by omega), if_neg (by omega)]
theorem Wl_8 {k : Nat} : Wl W sz nl 8 k = if k = sz then 1000 + 10 * nl else if k = sz + 2 then 1000 + 10 * nl + 1 else if k = sz + 3 then 1000 + 10 * nl + 2 else if k = sz + 1 then 1000 + 10 * nl + 3 else W 8 k := by
  unfold Wl
  rw [if_neg (by omega), if_neg (by omega), if_neg (by omega), if_neg (by omega)]
  by_cases h1 : k = sz
  · rw [if_pos ⟨rfl, h1⟩, if_pos h1]
  rw [if_neg (by omega), if_neg h1]
  by_cases h2 : k = sz + 2
  · rw [if_pos ⟨rfl, h2⟩, if_pos h2]
  rw [if_neg (by omega), if_neg h2]
  by_cases h3 : k = sz + 3
  · rw [if_pos ⟨rfl, h3⟩, if_pos h3]
  rw [if_neg (by omega), if_neg h3]
  by_cases h4 : k = sz + 1
  · rw [if_pos ⟨rfl, h4⟩, if_pos h4]
  rw [if_neg (by omega), if_neg h4]
/-- the laws that stood, where a law was read -/
theorem GL.old {W' : WW} {Tl' : Nat → List LN} {sh' : Nat → Nat × Nat} {R' : Nat → Nat → Option Nat} {I' : Nat → Nat → Int32} (L : GL Tl W nl sh R I) (hlt : ∀ a, W 8 a < 3000 → a < sz) (h47 : 71 ≤ sz)
    (hW : ∀ r l, 3 ≤ r → r ≤ 6 → l < nl → W' r l = W r l) (h8 : ∀ a, W 8 a < 3000 → W' 8 a = W 8 a) (hT : ∀ l, l < nl → Tl' l = Tl l)
    (hs : ∀ a, a < sz → sh' a = sh a) (hR : ∀ a k, a < sz → ¬ (a = 5 ∧ k = nl) → R' a k = R a k)
    (hI : ∀ a k, 71 ≤ a → a < sz → I' a k = I a k) (h46 : ∀ k, k < 200 * nl → I' 46 k = I 46 k) (h47' : ∀ k, k < nl → I' 47 k = I 47 k) :
    ∀ l, l < nl → R' 5 l = some (W' 3 l) ∧ mk W' (W' 3 l) (1000 + 10 * l) ∧ mk W' (W' 4 l) (1000 + 10 * l + 1) ∧ mk W' (W' 5 l) (1000 + 10 * l + 2) ∧ mk W' (W' 6 l) (1000 + 10 * l + 3) ∧
    LO sh' R' (W' 3 l) (W' 4 l) (W' 5 l) (W' 6 l) (tx (Tl' l)).length ∧ (∀ q, q ∈ Tl' l → wfl q) ∧ cdX I' (W' 4 l) 0 (tx (Tl' l)) ∧ (tm (Tl' l)).length ≤ 129 ∧ I' 47 l = Int32.ofNat (tm (Tl' l)).length ∧ cdX I' 46 (200 * l) (tm (Tl' l)) := by
  intro l hl
  obtain ⟨h4, e1, e2, g⟩ := L
  obtain ⟨q1, m3, m4, m5, m6, O, hw, c1, hm, e47, c2⟩ := g l hl
  obtain ⟨o1, o2, o3, o4, o5, o6, o7, o8, o9, o10, o11⟩ := O
  have mk' : ∀ a m, m < 3000 → mk W a m → mk W' a m := fun a m hm z => ⟨z.1, by rw [h8 a (by rw [z.2]; exact hm)]; exact z.2⟩
  have lt : ∀ a m, m < 3000 → mk W a m → a < sz := fun a m hm z => hlt a (by rw [z.2]; exact hm)
  have l3 := lt _ _ (by omega) m3
  have l4 := lt _ _ (by omega) m4
  have l5 := lt _ _ (by omega) m5
  have l6 := lt _ _ (by omega) m6
  have g3 := m3.1
  rw [hW 3 l (by decide) (by decide) hl, hW 4 l (by decide) (by decide) hl, hW 5 l (by decide) (by decide) hl, hW 6 l (by decide) (by decide) hl, hT l hl]
  refine ⟨(hR 5 l (by omega) (by omega)).trans q1, mk' _ _ (by omega) m3, mk' _ _ (by omega) m4, mk' _ _ (by omega) m5, mk' _ _ (by omega) m6, ⟨(hs _ l3).trans o1, (hR _ _ l3 (by omega)).trans o2, (hR _ _ l3 (by omega)).trans o3, (hR _ _ l3 (by omega)).trans o4, (hs _ l4).trans o5, (hs _ l5).trans o6, (hs _ l6).trans o7, o8, o9, o10, o11⟩, hw, c1.of (fun k => hI _ k m4.1 l4), hm, (h47' l hl).trans e47, cdX_low _ _ (fun j hj => h46 j (by omega)) c2⟩
theorem o_law (hS : SF sh R) (L : GL Tl W nl sh R I) (Q : GT T nt I) (Z : GZ W sz sl ns nl ny) : (∃ x sz' sl' sh' R1 I1 J1 I2 W' Tl' nl', ev X (d + 60) 41 [.ref 0] (sz, sl, sh, R, I, J) = some (some (.int x), (sz', sl', sh', R1, I1, J1)) ∧ ev X (d + 60) 165 [.ref 37] (sz', sl', sh', R1, I1, J1) = some (some (.int x), (sz', sl', sh', R1, I2, J1)) ∧ (∀ r k, ¬ (3 ≤ r ∧ r ≤ 6) → r ≠ 8 → W' r k = W r k) ∧ (∀ a, W 8 a < 3000 → W' 8 a = W 8 a) ∧ GL Tl' W' nl' sh' R1 I2 ∧ GZ W' sz' sl' ns nl' ny ∧ (∃ T' nt', GT T' nt' I2) ∧ (∀ a, a < sz → sh' a = sh a) ∧ (∀ a k, a < sz → cI W a k ≠ 0 → cI W a k ≠ 7 → cI W a k ≠ 8 → I2 a k = I a k) ∧ (∀ a k, a < sz → cR W a ≠ 8 → R1 a k = R a k) ∧ (∀ a k, a < sz → J1 a k = J a k)) := by
  have L' := L
  obtain ⟨h4, e04, e12, g⟩ := L
  have h71 := Z.1
  have hlt : ∀ a, W 8 a < 3000 → a < sz := fun a h => Z.lt h
  by_cases hl : nl < 4
  rotate_left
  · obtain rfl : nl = 4 := by omega
    refine ⟨-3, sz, sl, sh, R, I, J, I, W, Tl, 4, ?_, ?_, fun _ _ _ _ => rfl, fun _ _ => rfl, L', Z, ⟨T, nt, Q⟩, fun _ _ => rfl, fun _ _ _ _ _ _ => rfl, fun _ _ _ _ => rfl, fun _ _ _ => rfl⟩
    · rw [n41, t41_0 hS, e04, if_neg (by decide)]
    · rw [n165, t165_0 hS, e12, if_neg (fun z => z rfl)]
  obtain ⟨hn, t1, t2, t3⟩ := Q
  have h2 : ∀ j, j < nt → T j ≤ 255 := fun j hj => (t3 j hj).2.2
  obtain ⟨ok, p', cx, cm, r1, r2, r3, rx, rm, rs⟩ := p_read X hn h2
  have hx := rx (d + 58) sz sl sh R I J (by omega) hS ⟨hn, h2, t1, fun j hj => (t3 j hj).1⟩
  have avoid : ∀ a k, cI W a k ≠ 0 → cI W a k ≠ 7 → cI W a k ≠ 8 → a ≠ 4 ∧ ¬ (a = 2 ∧ 2 ≤ k ∧ k ≤ 4) ∧ ¬ (a = 0 ∧ k = 4) ∧ a ≠ 46 ∧ a ≠ 47 ∧ ¬ (a = 37 ∧ (k = 9 ∨ k = 12 ∨ 36 ≤ k ∧ k ≤ 39)) := by
    intro a k h0 h7 h8
    refine ⟨fun z => h0 (by rw [z]; rfl), ?_, ?_, fun z => h8 (by rw [z]; rfl), fun z => h8 (by rw [z]; rfl), ?_⟩
    · rintro ⟨rfl, x, y⟩
      rcases (show k = 2 ∨ k = 3 ∨ k = 4 by omega) with rfl | rfl | rfl
      · exact h0 rfl
      · exact h7 rfl
      · exact h0 rfl
    · rintro ⟨rfl, rfl⟩
      exact h8 rfl
    · rintro ⟨rfl, x⟩
      rcases (show k = 9 ∨ k = 12 ∨ k = 36 ∨ k = 37 ∨ k = 38 ∨ k = 39 by omega) with rfl | rfl | rfl | rfl | rfl | rfl
      · exact h7 rfl
      · exact h8 rfl
      · exact h0 rfl
      · exact h0 rfl
      · exact h0 rfl
      · exact h0 rfl
  by_cases gd : ok = true ∧ p' = nt
  · obtain ⟨rfl, rfl⟩ := gd
    obtain ⟨Tn, w1, w2, w3⟩ := rs rfl
    obtain ⟨sh1, R1, I1, J1, a1, a2, a3, a4, a5, a6, a7, a8, a9, a10⟩ := s_lawX1 hS h71 hl e04 hn (by omega) hx
    have hS1 : SF sh1 R1 := hS.up (fun a ha => a7 a (by omega)) (fun a k ha _ h5 _ => a8 a k (by omega) (by omega))
    have i12 : I1 37 12 = Int32.ofNat nl := (a5 37 12 (by omega) (by omega) (by omega) (by omega)).trans e12
    have hm := rm (d + 58) (sz + 4) (sl + 11 + 2 * cx.length) sh1 R1 I1 J1 nl hl (by omega) hS1 ⟨hn, h2, (a5 37 9 (by omega) (by omega) (by omega) (by omega)).trans t2, fun j hj => (a5 45 j (by omega) (by omega) (by omega) (by omega)).trans (t3 j hj).2.1⟩
    obtain ⟨I2, b1, b2, b3, b4, b5, b6⟩ := s_lawM (ok := true) hS1 hl i12 (Nat.le_refl p') hn hm
    rw [if_pos ⟨rfl, rfl⟩] at b1 b5
    have c0 : I2 2 3 = 0 := (b6 2 3 (by omega) (by omega) (by omega)).trans a2
    have c4 : I2 0 4 = Int32.ofNat (nl + 1) := (b6 0 4 (by omega) (by omega) (by omega)).trans a3
    have hT : ∀ l, l < nl → (fun l => if l = nl then Tn else Tl l) l = Tl l := fun l h => if_neg (by omega)
    have old := GL.old (sz := sz) (W' := Wl W sz nl) (Tl' := fun l => if l = nl then Tn else Tl l) (sh' := sh1) (R' := R1) (I' := I2) L' hlt h71 (fun r l _ _ h => Wl_n (by omega) (by omega)) (fun a h => Wl_n (by omega) (by have := hlt a h; omega)) hT a7 a8 (fun a k x y => (b6 a k (by omega) (by omega) (by omega)).trans (a5 a k y (by omega) (by omega) (by omega))) (fun k hk => (b6 46 k (by omega) (by omega) (by omega)).trans (a5 46 k (by omega) (by omega) (by omega) (by omega))) (fun k hk => (b6 47 k (by omega) (by omega) (by omega)).trans (a5 47 k (by omega) (by omega) (by omega) (by omega)))
    have w3' : Wl W sz nl 3 nl = sz := if_pos ⟨rfl, rfl⟩
    have w4' : Wl W sz nl 4 nl = sz + 2 := by unfold Wl; rw [if_neg (by omega), if_pos ⟨rfl, rfl⟩]
    have w5' : Wl W sz nl 5 nl = sz + 3 := by unfold Wl; rw [if_neg (by omega), if_neg (by omega), if_pos ⟨rfl, rfl⟩]
    have w6' : Wl W sz nl 6 nl = sz + 1 := by unfold Wl; rw [if_neg (by omega), if_neg (by omega), if_neg (by omega), if_pos ⟨rfl, rfl⟩]
    refine ⟨Int32.ofNat nl, sz + 4, sl + 11 + 2 * cx.length, sh1, R1, I1, J1, I2, Wl W sz nl, fun l => if l = nl then Tn else Tl l, nl + 1, a1, b1, fun r k x y => Wl_n (by omega) (by omega), fun a h => Wl_n (by omega) (by have := hlt a h; omega), ⟨by omega, c4, b5, fun l hl' => ?_⟩, ⟨by omega, fun a ha => ?_, by have := Z.2.2.1; omega, by have := Z.2.2.2; omega⟩, ⟨T, 0, by omega, c0, b4, fun k hk => absurd hk (by omega)⟩, a7, fun a k ha x y z => ?_, fun a k ha hc => ?_, a6⟩
    · by_cases q : l < nl
      · exact old l q
      · obtain rfl : l = nl := by omega
        have tn : (fun j => if j = l then Tn else Tl j) l = Tn := if_pos rfl
        rw [tn, w3', w4', w5', w6', w2, w3]
        refine ⟨a9, ⟨by omega, ?_⟩, ⟨by omega, ?_⟩, ⟨by omega, ?_⟩, ⟨by omega, ?_⟩, a10, w1, ?_, by omega, b2, b3⟩
        · rw [Wl_8, if_pos rfl]
        · rw [Wl_8, if_neg (by omega), if_pos rfl]
        · rw [Wl_8, if_neg (by omega), if_neg (by omega), if_pos rfl]
        · rw [Wl_8, if_neg (by omega), if_neg (by omega), if_neg (by omega), if_pos rfl]
        · exact cdX.of (I := I1) (I' := I2) (C := sz + 2) (fun k => b6 _ k (by omega) (by omega) (by omega)) _ _ a4
    · rw [Wl_8, if_neg (by omega), if_neg (by omega), if_neg (by omega), if_neg (by omega)]
      exact Z.2.1 a (by omega)
    · obtain ⟨n1, n2, n3, n4, n5, n6⟩ := avoid a k x y z
      exact (b6 a k (by omega) (by omega) n6).trans (a5 a k ha n1 n2 n3)
    · exact a8 a k ha (fun z => hc (by rw [z.1]; rfl))
  · obtain ⟨I1, a1, a2, a3⟩ := s_lawX0 hS hl e04 r1 hn gd hx
    have i12 : I1 37 12 = Int32.ofNat nl := (a3 37 12 (by omega) (by omega)).trans e12
    have hm := rm (d + 58) sz sl sh R I1 J nl hl (by omega) hS ⟨hn, h2, (a3 37 9 (by omega) (by omega)).trans t2, fun j hj => (a3 45 j (by omega) (by omega)).trans (t3 j hj).2.1⟩
    obtain ⟨I2, b1, b2, b3, b4, b5, b6⟩ := s_lawM hS hl i12 r1 hn hm
    rw [if_neg gd] at b1 b5
    have c0 : I2 2 3 = 0 := (b6 2 3 (by omega) (by omega) (by omega)).trans a2
    have c4 : I2 0 4 = Int32.ofNat nl := (b6 0 4 (by omega) (by omega) (by omega)).trans ((a3 0 4 (by omega) (by omega)).trans e04)
    have old := GL.old (sz := sz) (W' := W) (Tl' := Tl) (sh' := sh) (R' := R) (I' := I2) L' hlt h71 (fun _ _ _ _ _ => rfl) (fun _ _ => rfl) (fun _ _ => rfl) (fun _ _ => rfl) (fun _ _ _ _ => rfl) (fun a k x y => (b6 a k (by omega) (by omega) (by omega)).trans (a3 a k (by omega) (by omega))) (fun k hk => (b6 46 k (by omega) (by omega) (by omega)).trans (a3 46 k (by omega) (by omega))) (fun k hk => (b6 47 k (by omega) (by omega) (by omega)).trans (a3 47 k (by omega) (by omega)))
    refine ⟨-100 - Int32.ofNat p', sz, sl, sh, R, I1, J, I2, W, Tl, nl, a1, b1, fun _ _ _ _ => rfl, fun _ _ => rfl, ⟨h4, c4, b5, old⟩, Z, ⟨T, 0, by omega, c0, b4, fun k hk => absurd hk (by omega)⟩, fun _ _ => rfl, fun a k ha x y z => ?_, fun _ _ _ _ => rfl, fun _ _ _ => rfl⟩
    obtain ⟨n1, n2, n3, n4, n5, n6⟩ := avoid a k x y z
    exact (b6 a k (by omega) (by omega) n6).trans (a3 a k n1 n2)
end OLAW
