theorem unJ_I (x : Int) : unJ (vI x) = vI x := rfl
theorem unJ_J (x : Int) : unJ (vJ x) = vU := rfl
theorem unJ_F (x : UInt32) : unJ (vF x) = vF x := rfl
theorem unJ_R (t x : Nat) : unJ (vR t x) = vR t x := rfl
theorem unJ_N : unJ vN = vN := rfl
theorem unJ_U : unJ vU = vU := rfl
theorem pushR_I (x : Int) (st : List AV) : pushR (vI x) st = vI x :: st := rfl
theorem pushR_J (x : Int) (st : List AV) : pushR (vJ x) st = vJ x :: st := rfl
theorem pushR_F (x : UInt32) (st : List AV) : pushR (vF x) st = vF x :: st := rfl
theorem pushR_R (t x : Nat) (st : List AV) : pushR (vR t x) st = vR t x :: st := rfl
theorem pushR_N (st : List AV) : pushR vN st = vN :: st := rfl
theorem pushR_U (st : List AV) : pushR vU st = st := rfl
theorem rfV_s (t x : Nat) : rfV t (some x) = vR t x := rfl
theorem rfV_n (t : Nat) : rfV t none = vN := rfl
theorem lx13 (n k : Nat) : LX n 13 k = rowLen k := rfl
theorem rowLen_le (k : Nat) : rowLen k ≤ 200 := by
  unfold rowLen
  repeat' split
  all_goals first | decide | skip
  rcases Nat.lt_or_ge (k - 246) 17 with h | h
  · have : ∀ j, j < 17 → ([200, 200, 8, 200, 200, 12, 12, 200, 200, 8, 100, 8, 8, 8, 200, 200, 8] : List Nat).getD j 0 ≤ 200 := by decide
    exact this _ h
  · rw [List.getD_eq_getElem?_getD, List.getElem?_eq_none (by simpa using h)]; decide
def rget (A : M2) (k : Nat) (i : Int) : Int := if 0 ≤ i ∧ i < (rowLen k : Int) then A k i.toNat else 0
def rput (A : M2) (k : Nat) (i v : Int) : M2 := if 0 ≤ i ∧ i < (rowLen k : Int) then up2 A k i.toNat v else A
section
variable (q : Nat × (Nat → Int)) (I A : M2) (L P : Nat → Nat → Option Nat) (F G : Nat → Nat → UInt32) (D : MD)
/-- Row.get -/
theorem c_get (k : Nat) (i : Int) : rs 402 0 [vR 4 k, vI i] [] (SX q, (I, A, L, P, F, G), D) = some (vI (rget A k i), (SX q, (I, A, L, P, F, G), D)) := by
  have h := rowLen_le k
  have h2 : rowLen k < 2147483648 := by omega
  simp only [s402_0, s402_1, s402_4, s402_5, s402_6, s402_9, s402_10, s402_13, s402_14, s402_17, s402_18, s402_19, s402_22, s402_23, unJ_I, unJ_J, unJ_F, unJ_R, unJ_N, unJ_U, pushR_I, pushR_J, pushR_F, pushR_R, pushR_N, pushR_U, rfV_s, rfV_n, Option.bind_some, lx13, rget]
  by_cases h1 : i < 0
  · rw [if_pos h1, if_neg (by omega)]
  · rw [if_neg h1, if_pos h2]
    by_cases h3 : (rowLen k : Int) ≤ i
    · rw [if_pos h3, if_neg (by omega)]
    · rw [if_neg h3, if_pos (by omega), if_pos (by omega)]
theorem c_put (k : Nat) (i v : Int) : rs 403 0 [vR 4 k, vI i, vI v] [] (SX q, (I, A, L, P, F, G), D) = some (vU, (SX q, (I, rput A k i v, L, P, F, G), D)) := by
  have h := rowLen_le k
  have h2 : rowLen k < 2147483648 := by omega
  simp only [s403_0, s403_1, s403_4, s403_5, s403_6, s403_9, s403_10, s403_13, s403_14, s403_17, s403_18, s403_19, s403_20, unJ_I, unJ_J, unJ_F, unJ_R, unJ_N, unJ_U, pushR_I, pushR_J, pushR_F, pushR_R, pushR_N, pushR_U, rfV_s, rfV_n, Option.bind_some, lx13, rput]
  by_cases h1 : i < 0
  · rw [if_pos h1, if_neg (by omega)]
  · rw [if_neg h1, if_pos h2]
    by_cases h3 : (rowLen k : Int) ≤ i
    · rw [if_pos h3, if_neg (by omega)]
    · rw [if_neg h3, if_pos (by omega), if_pos (by omega)]
theorem c_add (k : Nat) (i v : Int) : rs 404 0 [vR 4 k, vI i, vI v] [] (SX q, (I, A, L, P, F, G), D) = some (vU, (SX q, (I, rput A k i (w32 (rget A k i + v)), L, P, F, G), D)) := by
  simp only [s404_0, s404_1, s404_2, s404_3, s404_4, s404_7, s404_8, s404_9, s404_12, unJ_I, unJ_J, unJ_F, unJ_R, unJ_N, unJ_U, pushR_I, pushR_J, pushR_F, pushR_R, pushR_N, pushR_U, rfV_s, rfV_n, Option.bind_some, c_get, c_put]
end
