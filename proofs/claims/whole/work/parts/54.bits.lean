/-! FITS, BEST: bits -/
/-- the masks within B, in the order of their index -/
def Lm (B : Nat) : Nat → List Nat
  | 0 => [0]
  | t + 1 => if B.testBit t then Lm B t ++ (Lm B t).map (fun s => s + 2 ^ t) else Lm B t
def pop (B : Nat) : Nat := sumf (fun t => if B.testBit t then 1 else 0) 0 10
def bcX (l0 : Int32) : Int32 := let a := l0 - ((ush l0 1) &&& 1431655765); let b := (a &&& 858993459) + ((ush a 2) &&& 858993459); let c := (b + (ush b 4)) &&& 252645135; ((c + (ush c 8)) + (ush (c + (ush c 8)) 16)) &&& 63
def onM (l0 : Int32) : Nat → Nat → Int32 → Int32
  | 0, _, acc => acc
  | n + 1, t, acc => onM l0 n (t + 1) (acc + ((l0 >>> (Int32.ofNat t &&& 31)) &&& 1))
theorem bc_pop : ∀ B, B < 1024 → bcX (Int32.ofNat B) = Int32.ofNat (pop B) := by decide +kernel
theorem on_pop : ∀ B, B < 1024 → onM (Int32.ofNat B) 10 0 0 = Int32.ofNat (pop B) := by decide +kernel
section BITS
variable {X : XX} {d : Nat} {sz sl : Nat} {sh : Nat → Nat × Nat} {R : Nat → Nat → Option Nat} {I : Nat → Nat → Int32} {J : Nat → Nat → Int64}
theorem s_bitCount {v : Int32} : ev X (d + 1) 86 [.int v] (sz, sl, sh, R, I, J) = some (some (.int (bcX v)), (sz, sl, sh, R, I, J)) := by
  rw [n86, t86_0, t86_10, t86_24, t86_34]
  rfl
theorem s_onM {v : Int32} : ∀ (n t : Nat) (acc : Int32), t + n = 10 → exe X d 204 4 [.int v, .int acc, .int (Int32.ofNat t)] [] (sz, sl, sh, R, I, J) = some (some (.int (onM v n t acc)), (sz, sl, sh, R, I, J))
  | 0, t, acc, h => by
    obtain rfl : t = 10 := h
    rw [t204_4, if_pos (by decide), onM]
  | n + 1, t, acc, h => by
    rw [t204_4, if_neg (by rw [k_10, n_le (by decide) (by omega)]; omega), n_suc, onM]
    exact s_onM n (t + 1) _ (by omega)
theorem s_ones {v : Int32} : ev X (d + 1) 204 [.int v] (sz, sl, sh, R, I, J) = some (some (.int (onM v 10 0 0)), (sz, sl, sh, R, I, J)) := by
  rw [n204, t204_0]
  exact s_onM 10 0 0 rfl
end BITS
