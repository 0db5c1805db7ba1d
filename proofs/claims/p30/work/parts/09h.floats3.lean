theorem fb_dbl {x : UInt32} {e t : Nat} (hx : x.toNat = e * 8388608 + t) (h1 : 1 ≤ e) (h2 : e ≤ 252) (ht : t < 8388608) : (FP.fmul x FP.fconst2).toNat = (e + 1) * 8388608 + t := by
  unfold FP.fmul FP.Core.fmul
  rw [hx, show FP.fconst2.toNat = 1073741824 from rfl, fb_mul h1 h2 ht]
  rw [UInt32.toNat_ofNat']
  omega
theorem fb_ok {x : UInt32} (h : x.toNat ≤ 2139095040) : f_ok x = true := by
  unfold f_ok
  refine decide_eq_true ?_
  rw [UInt32.le_iff_toNat_le, UInt32.toNat_and]
  exact Nat.le_trans Nat.and_le_left h
theorem fb_lt {x : UInt32} {e t : Nat} (hx : x.toNat = e * 8388608 + t) (h1 : 1 ≤ e) (h2 : e < 150) (ht : t < 8388608) : f_cmp .g x 1258291200 = -1 := by
  have d2 : FP.Core.decode FP.Core.b32 1258291200 = .fin false 8388608 0 := by decide +kernel
  have o : FP.fcmp x 1258291200 = some .lt := by
    unfold FP.fcmp FP.Core.fcmp FP.Core.cmp
    rw [hx, fb_d h1 (by omega) ht, show (1258291200 : UInt32).toNat = 1258291200 from rfl, d2]
    show some (compare (FP.Core.signed false (FP.Core.inUnits (8388608 + t) ((e : Int) - 150) (min ((e : Int) - 150) 0))) (FP.Core.signed false (FP.Core.inUnits 8388608 0 (min ((e : Int) - 150) 0)))) = _
    rw [show min ((e : Int) - 150) 0 = (e : Int) - 150 by omega]
    unfold FP.Core.inUnits FP.Core.signed
    rw [show ((e : Int) - 150 - ((e : Int) - 150)).toNat = 0 by omega, show (0 - ((e : Int) - 150)).toNat = (149 - e) + 1 by omega, Nat.pow_succ]
    have p := Nat.one_le_two_pow (n := 149 - e)
    generalize 2 ^ (149 - e) = z at p
    have lt : (8388608 + t) * 2 ^ 0 < 8388608 * (z * 2) := by omega
    generalize (8388608 + t) * 2 ^ 0 = a at lt
    generalize 8388608 * (z * 2) = b at lt
    show some (compare (a : Int) (b : Int)) = _
    rw [Int.compare_eq_ite_lt, if_pos (by omega)]
  unfold f_cmp
  rw [o]
  rfl
theorem fb_ge {x : UInt32} {t : Nat} (hx : x.toNat = 150 * 8388608 + t) (ht : t < 8388608) : 0 ≤ f_cmp .g x 1258291200 := by
  have d2 : FP.Core.decode FP.Core.b32 1258291200 = .fin false 8388608 0 := by decide +kernel
  have o : FP.fcmp x 1258291200 = some (compare ((8388608 + t : Nat) : Int) 8388608) := by
    unfold FP.fcmp FP.Core.fcmp FP.Core.cmp
    rw [hx, fb_d (by omega) (by omega) ht, show (1258291200 : UInt32).toNat = 1258291200 from rfl, d2]
    show some (compare (FP.Core.signed false (FP.Core.inUnits (8388608 + t) (((150 : Nat) : Int) - 150) (min (((150 : Nat) : Int) - 150) 0))) (FP.Core.signed false (FP.Core.inUnits 8388608 0 (min (((150 : Nat) : Int) - 150) 0)))) = _
    unfold FP.Core.inUnits FP.Core.signed
    rw [show (((150 : Nat) : Int) - 150 - min (((150 : Nat) : Int) - 150) 0).toNat = 0 by omega, show (0 - min (((150 : Nat) : Int) - 150) 0).toNat = 0 by omega, Nat.pow_zero, Nat.mul_one]
    rfl
  unfold f_cmp
  rw [o, Int.compare_eq_ite_lt, if_neg (by omega)]
  by_cases h : ((8388608 + t : Nat) : Int) = 8388608
  · rw [if_neg (by omega)]; decide
  · rw [if_pos (by omega)]; decide
theorem fb_i {x : UInt32} {t : Nat} (hx : x.toNat = 150 * 8388608 + t) (ht : t < 8388608) : f_f2i x = 8388608 + t := by
  have o : FP.f2i x = FP.Core.toI (.fin false (8388608 + t) (((150 : Nat) : Int) - 150)) := by
    unfold FP.f2i FP.Core.f2i
    rw [hx, fb_d (by omega) (by omega) ht]
  unfold f_f2i
  rw [o]
  have tr : FP.Core.truncate false (8388608 + t) (((150 : Nat) : Int) - 150) = ((8388608 + t : Nat) : Int) := by
    unfold FP.Core.truncate
    rw [show (((150 : Nat) : Int) - 150).toNat = 0 by omega, show (-(((150 : Nat) : Int) - 150)).toNat = 0 by omega, Nat.pow_zero, Nat.mul_one, Nat.div_one]
    rfl
  unfold FP.Core.toI
  rw [Int32.toInt_ofInt]
  have ti : FP.Core.toInt (-2 ^ 31) (2 ^ 31 - 1) (.fin false (8388608 + t) (((150 : Nat) : Int) - 150)) = max (-2 ^ 31) (min (2 ^ 31 - 1) (FP.Core.truncate false (8388608 + t) (((150 : Nat) : Int) - 150))) := rfl
  have e1 : (-2 : Int) ^ 31 = -2147483648 := by decide
  have e2 : -(2 : Int) ^ 31 = -2147483648 := by decide
  have e3 : (2 : Int) ^ 31 = 2147483648 := by decide
  have e4 : max (-2 ^ 31 : Int) (min (2 ^ 31 - 1) ((8388608 + t : Nat) : Int)) = ((8388608 + t : Nat) : Int) := by omega
  have fin : FP.Core.toInt (-2 ^ 31) (2 ^ 31 - 1) (.fin false (8388608 + t) (((150 : Nat) : Int) - 150)) = ((8388608 + t : Nat) : Int) := ti.trans (by rw [tr]; exact e4)
  rw [fin]
  have w := w32_id (x := ((8388608 + t : Nat) : Int)) (by omega) (by omega)
  unfold w32 at w
  exact w.trans (by omega)
