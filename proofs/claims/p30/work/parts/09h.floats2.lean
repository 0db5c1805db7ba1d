theorem fb_mul {e t : Nat} (h1 : 1 ≤ e) (h2 : e ≤ 252) (ht : t < 8388608) : FP.Core.mul FP.Core.b32 (e * 8388608 + t) 1073741824 = (e + 1) * 8388608 + t := by
  have d2 : FP.Core.decode FP.Core.b32 1073741824 = .fin false 8388608 (-22) := by decide +kernel
  have a : FP.Core.b32.tails = 8388608 := rfl
  have c : FP.Core.b32.qmin = -149 := rfl
  have c2 : FP.Core.b32.qmax = 104 := rfl
  have lg : Nat.log2 ((8388608 + t) * 8388608) = 46 := (Nat.log2_eq_iff (by omega)).mpr ⟨by omega, by omega⟩
  have le : FP.Core.leading ((8388608 + t) * 8388608) 1 = 46 := by
    unfold FP.Core.leading
    rw [lg]
    exact if_pos (by show 1 * 2 ^ (46 - 0) ≤ (8388608 + t) * 8388608 * 2 ^ 0; omega)
  have qu : FP.Core.quantum FP.Core.b32 ((8388608 + t) * 8388608) 1 ((e : Int) - 150 + -22) = (e : Int) - 149 := by
    unfold FP.Core.quantum
    rw [le, c]
    show max (-149) (46 + ((e : Int) - 150 + -22) - ((24 : Nat) - 1 : Int)) = _
    omega
  have un : FP.Core.unitsNum ((8388608 + t) * 8388608) ((e : Int) - 150 + -22) ((e : Int) - 149) = (8388608 + t) * 8388608 := by
    unfold FP.Core.unitsNum
    rw [show ((e : Int) - 150 + -22 - ((e : Int) - 149)).toNat = 0 by omega, Nat.pow_zero, Nat.mul_one]
  have ud : FP.Core.unitsDen 1 ((e : Int) - 150 + -22) ((e : Int) - 149) = 8388608 := by
    unfold FP.Core.unitsDen
    rw [show ((e : Int) - 149 - ((e : Int) - 150 + -22)).toNat = 23 by omega]
  have ne : FP.Core.nearest ((8388608 + t) * 8388608) 8388608 = 8388608 + t := by
    unfold FP.Core.nearest
    rw [if_pos (by omega)]
    omega
  unfold FP.Core.mul
  rw [fb_d h1 (by omega) ht, d2]
  show FP.Core.encode FP.Core.b32 (FP.Core.roundRatio FP.Core.b32 (false != false) ((8388608 + t) * 8388608) 1 ((e : Int) - 150 + -22)) = _
  unfold FP.Core.roundRatio
  rw [if_neg (by omega), qu]
  unfold FP.Core.roundAt
  rw [un, ud, ne]
  unfold FP.Core.settle
  rw [if_pos (by show 8388608 + t < 2 ^ 24; omega)]
  unfold FP.Core.bound
  rw [if_pos (by rw [c2]; omega)]
  show (if 8388608 + t < FP.Core.b32.tails then _ else FP.Core.assemble FP.Core.b32 _ (((e : Int) - 149 - FP.Core.b32.qmin).toNat + 1) (8388608 + t - FP.Core.b32.tails)) = _
  rw [a, c, if_neg (by omega), show ((e : Int) - 149 - -149).toNat + 1 = e + 1 by omega, show 8388608 + t - 8388608 = t by omega]
  show (0 * 256 + (e + 1)) * FP.Core.b32.tails + t = _
  rw [a]
  omega
