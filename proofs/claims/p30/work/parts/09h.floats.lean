/-! MARKS AS FLOATS: doubling, comparing, cutting, of positive floats e * 2^23 + t -/
theorem fb_d {e t : Nat} (h1 : 1 ≤ e) (h2 : e ≤ 254) (ht : t < 8388608) : FP.Core.decode FP.Core.b32 (e * 8388608 + t) = .fin false (8388608 + t) ((e : Int) - 150) := by
  have a : FP.Core.b32.tails = 8388608 := rfl
  have b : FP.Core.b32.exps = 256 := rfl
  have c : FP.Core.b32.qmin = -149 := rfl
  have e1 : (e * 8388608 + t) / 8388608 = e := by omega
  have e2 : (e * 8388608 + t) % 8388608 = t := by omega
  unfold FP.Core.decode FP.Core.fieldE FP.Core.fieldT FP.Core.fieldS
  rw [a, b, c, e1, e2, Nat.mod_eq_of_lt (show e < 256 by omega), if_neg (by omega), if_neg (by omega), show e / 256 = 0 by omega]
  congr 1
  omega
