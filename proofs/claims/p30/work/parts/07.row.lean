/-! TOOLS: 32-bit numbers, loops; THE ROWS: get, put, add, copy -/
theorem w32_id {x : Int} (h1 : -2147483648 ≤ x) (h2 : x < 2147483648) : w32 x = x := Int.bmod_eq_of_le (by omega) (by omega)
theorem w64_id {x : Int} (h1 : -9223372036854775808 ≤ x) (h2 : x < 9223372036854775808) : w64 x = x := Int.bmod_eq_of_le (by omega) (by omega)
theorem w32_r (x : Int) : r32 (w32 x) := by
  have h1 := Int.le_bmod (x := x) (m := 4294967296) (by omega)
  have h2 := Int.bmod_lt (x := x) (m := 4294967296) (by omega)
  exact ⟨by unfold w32; omega, by unfold w32; omega⟩
/-- a loop whose states are known -/
theorem rs_loop {m pc : Nat} (ls : Nat → List AV) (μ : Nat → Mem) (n : Nat) (h : ∀ i, i < n → rs m pc (ls i) [] (μ i) = rs m pc (ls (i + 1)) [] (μ (i + 1))) : rs m pc (ls 0) [] (μ 0) = rs m pc (ls n) [] (μ n) := by
  induction n with
  | zero => rfl
  | succ n ih => rw [ih (fun i hi => h i (by omega)), h n (by omega)]
/-- a loop that keeps something -/
theorem rs_loopP {m pc : Nat} (P : Nat → List AV → Mem → Prop) (n : Nat) {ls : List AV} {μ : Mem} (h0 : P 0 ls μ) (h : ∀ i, i < n → ∀ ls μ, P i ls μ → ∃ ls' μ', rs m pc ls [] μ = rs m pc ls' [] μ' ∧ P (i + 1) ls' μ') : ∃ ls' μ', rs m pc ls [] μ = rs m pc ls' [] μ' ∧ P n ls' μ' := by
  induction n with
  | zero => exact ⟨ls, μ, rfl, h0⟩
  | succ n ih =>
    obtain ⟨l1, μ1, e1, p1⟩ := ih (fun i hi => h i (by omega))
    obtain ⟨l2, μ2, e2, p2⟩ := h n (by omega) l1 μ1 p1
    exact ⟨l2, μ2, e1.trans e2, p2⟩
theorem unJ_I (x : Int) : unJ (vI x) = vI x := rfl
theorem unJ_J (x : Int) : unJ (vJ x) = vU := rfl
theorem unJ_F (x : UInt32) : unJ (vF x) = vF x := rfl
theorem unJ_R (t x : Nat) : unJ (vR t x) = vR t x := rfl
theorem unJ_N : unJ vN = vN := rfl
theorem unJ_U : unJ vU = vU := rfl
theorem pushR_I (x : Int) (st : List AV) : pushR (vI x) st = vI x :: st := rfl
theorem pushR_J (x : Int) (st : List AV) : pushR (vJ x) st = vJ x :: st := rfl
theorem pushR_F (x : UInt32) (st : List AV) : pushR (vF x) st = vF x :: st := rfl
theorem pushR_R (t x : Nat) (st : List AV) : pushR (vR t x) st = vR t x :: st := rfl
theorem pushR_N (st : List AV) : pushR vN st = vN :: st := rfl
theorem pushR_U (st : List AV) : pushR vU st = st := rfl
theorem rfV_s (t x : Nat) : rfV t (some x) = vR t x := rfl
theorem rfV_n (t : Nat) : rfV t none = vN := rfl
theorem lx13 (n k : Nat) : LX n 13 k = rowLen k := rfl
theorem rlX_le (a : Nat) : rlX a ≤ 200 := by
  unfold rlX
  repeat' split
  all_goals decide
theorem rl1_le (k : Nat) : rl1 k ≤ 200 := by
  unfold rl1
  split
  · exact rlX_le _
  · split
    · exact rlX_le _
    · generalize (if k < 97 then k - 95 else k - 114) = j
      rcases Nat.lt_or_ge j 15 with h | h
      · have : ∀ j, j < 15 → ([200, 200, 200, 200, 8, 12, 12, 8, 100, 8, 8, 8, 1, 1, 8] : List Nat).getD j 0 ≤ 200 := by decide
        exact this _ h
      · rw [List.getD_eq_getElem?_getD, List.getElem?_eq_none (by simpa using h)]; decide
theorem rowLen_le (k : Nat) : rowLen k ≤ 200 := rl1_le _
def rget (A : M2) (k : Nat) (i : Int) : Int := if 0 ≤ i ∧ i < (rowLen k : Int) then A k i.toNat else 0
def rput (A : M2) (k : Nat) (i v : Int) : M2 := if 0 ≤ i ∧ i < (rowLen k : Int) then up2 A k i.toNat v else A
def rcpy (A : M2) (f t : Nat) (n : Nat) : M2 := fun k j => if k = t ∧ j < n then A f j else A k j
theorem cpy_eq (A : M2) (f t : Nat) (n : Nat) {m : Int} (hm : m = n) : cpyA A f t 0 0 m = rcpy A f t n := by
  subst hm
  funext k j
  unfold cpyA rcpy
  by_cases h : k = t ∧ j < n
  · rw [if_pos h, if_pos ⟨h.1, by omega, by omega⟩]
    congr 1 <;> omega
  · rw [if_neg h, if_neg (fun z => h ⟨z.1, by omega⟩)]
section
variable (q : Nat × (Nat → Int)) (I A : M2) (L P : Nat → Nat → Option Nat) (F G : Nat → Nat → UInt32) (D : MD)
/-- Row.get -/
theorem c_get (k : Nat) (i : Int) : rs 402 0 [vR 4 k, vI i] [] (SX q, (I, A, L, P, F, G), D) = some (vI (rget A k i), (SX q, (I, A, L, P, F, G), D)) := by
  have h := rowLen_le k
  have h2 : rowLen k < 2147483648 := by omega
  simp only [s402_0, s402_1, s402_4, s402_5, s402_6, s402_9, s402_10, s402_13, s402_14, s402_17, s402_18, s402_19, s402_22, s402_23, unJ_I, unJ_J, unJ_F, unJ_R, unJ_N, unJ_U, pushR_I, pushR_J, pushR_F, pushR_R, pushR_N, pushR_U, rfV_s, rfV_n, Option.bind_some, true_or, or_true, if_true, lx13, rget]
  by_cases h1 : i < 0
  · rw [if_pos h1, if_neg (by omega)]
  · rw [if_neg h1, if_pos h2]
    by_cases h3 : (rowLen k : Int) ≤ i
    · rw [if_pos h3, if_neg (by omega)]
    · rw [if_neg h3, if_pos (by omega), if_pos (by omega)]
theorem c_put (k : Nat) (i v : Int) : rs 403 0 [vR 4 k, vI i, vI v] [] (SX q, (I, A, L, P, F, G), D) = some (vU, (SX q, (I, rput A k i v, L, P, F, G), D)) := by
  have h := rowLen_le k
  have h2 : rowLen k < 2147483648 := by omega
  simp only [s403_0, s403_1, s403_4, s403_5, s403_6, s403_9, s403_10, s403_13, s403_14, s403_17, s403_18, s403_19, s403_20, unJ_I, unJ_J, unJ_F, unJ_R, unJ_N, unJ_U, pushR_I, pushR_J, pushR_F, pushR_R, pushR_N, pushR_U, rfV_s, rfV_n, Option.bind_some, true_or, or_true, if_true, lx13, rput]
  by_cases h1 : i < 0
  · rw [if_pos h1, if_neg (by omega)]
  · rw [if_neg h1, if_pos h2]
    by_cases h3 : (rowLen k : Int) ≤ i
    · rw [if_pos h3, if_neg (by omega)]
    · rw [if_neg h3, if_pos (by omega), if_pos (by omega)]
theorem c_add (k : Nat) (i v : Int) : rs 404 0 [vR 4 k, vI i, vI v] [] (SX q, (I, A, L, P, F, G), D) = some (vU, (SX q, (I, rput A k i (w32 (rget A k i + v)), L, P, F, G), D)) := by
  simp only [s404_0, s404_1, s404_2, s404_3, s404_4, s404_7, s404_8, s404_9, s404_12, unJ_I, unJ_J, unJ_F, unJ_R, unJ_N, unJ_U, pushR_I, pushR_J, pushR_F, pushR_R, pushR_N, pushR_U, rfV_s, rfV_n, Option.bind_some, true_or, or_true, if_true, c_get, c_put]
theorem c_copy {k f : Nat} {n : Nat} (h1 : n ≤ rowLen k) (h2 : n ≤ rowLen f) : rs 405 0 [vR 4 k, vR 4 f, vI n, vU] [] (SX q, (I, A, L, P, F, G), D) = some (vU, (SX q, (I, rcpy A f k n, L, P, F, G), D)) := by
  have hk := rowLen_le k
  have hf := rowLen_le f
  have a1 : rowLen k < 2147483648 := by omega
  have a2 : rowLen f < 2147483648 := by omega
  simp only [s405_0, s405_1, s405_4, s405_5, s405_6, s405_9, s405_10, s405_13, s405_14, s405_15, s405_18, s405_19, s405_20, s405_23, s405_24, s405_25, s405_26, s405_27, s405_30, s405_33, s405_36, unJ_I, unJ_J, unJ_F, unJ_R, unJ_N, unJ_U, pushR_I, pushR_J, pushR_F, pushR_R, pushR_N, pushR_U, rfV_s, rfV_n, Option.bind_some, true_or, or_true, if_true, lx13, if_pos a1, if_pos a2]
  have e : (if (0 : Int) < (if (if (rowLen f : Int) < (rowLen k : Int) then (rowLen f : Int) else (rowLen k : Int)) < (n : Int) then (if (rowLen f : Int) < (rowLen k : Int) then (rowLen f : Int) else (rowLen k : Int)) else (n : Int)) then (if (if (rowLen f : Int) < (rowLen k : Int) then (rowLen f : Int) else (rowLen k : Int)) < (n : Int) then (if (rowLen f : Int) < (rowLen k : Int) then (rowLen f : Int) else (rowLen k : Int)) else (n : Int)) else 0) = (n : Int) := by
    repeat' split
    all_goals omega
  rw [e, if_pos (by omega), cpy_eq A f k n rfl]
end
theorem rget_n (A : M2) {k j : Nat} (h : j < rowLen k) : rget A k j = A k j := by
  unfold rget
  rw [if_pos (by omega)]; simp
theorem rput_n (A : M2) {k j : Nat} (v : Int) (h : j < rowLen k) : rput A k j v = up2 A k j v := by
  unfold rput
  rw [if_pos (by omega)]; simp
/-- rows of lots, of rules: which they are not -/
theorem sr_ne2 : ∀ l, l < 74 → ∀ l', l' < 74 → l ≠ l' → sr l ≠ sr l' := by decide +kernel
theorem sr_ne {l l' : Nat} (h : l < 74) (h' : l' < 74) (hn : l ≠ l') : sr l ≠ sr l' := sr_ne2 l h l' h' hn
theorem sr_lr2 : ∀ l, l < 74 → ∀ l', l' < 74 → sr l ≠ lr l' ∧ sr l ≠ lr l' + 1 ∧ lr l ≠ lr l' + 1 := by decide +kernel
theorem sr_lr {l l' : Nat} (h : l < 74) (h' : l' < 74) : sr l ≠ lr l' ∧ sr l ≠ lr l' + 1 ∧ lr l ≠ lr l' + 1 := sr_lr2 l h l' h'
theorem rw_l2 : ∀ l, l < 74 → (lr l + 1 < 95 ∨ (97 ≤ lr l ∧ lr l ≤ 116) ∨ lr l = 126) ∧ (sr l < 95 ∨ (97 ≤ sr l ∧ sr l ≤ 118) ∨ sr l = 128) := by decide +kernel
theorem rw_l {l : Nat} (h : l < 74) : (lr l + 1 < 95 ∨ (97 ≤ lr l ∧ lr l ≤ 116) ∨ lr l = 126) ∧ (sr l < 95 ∨ (97 ≤ sr l ∧ sr l ≤ 118) ∨ sr l = 128) := rw_l2 l h
theorem rw_722 : ∀ l, l < 72 → lr l ≠ 116 ∧ lr l ≠ 117 ∧ lr l + 1 ≠ 116 ∧ lr l + 1 ≠ 117 ∧ sr l ≠ 116 ∧ sr l ≠ 117 ∧ sr l ≠ 118 := by decide +kernel
theorem rw_72 {l : Nat} (h : l < 72) : lr l ≠ 116 ∧ lr l ≠ 117 ∧ lr l + 1 ≠ 116 ∧ lr l + 1 ≠ 117 ∧ sr l ≠ 116 ∧ sr l ≠ 117 ∧ sr l ≠ 118 := rw_722 l h
theorem len_l : ∀ l, l < 74 → rowLen (lr l) ≤ 200 ∧ rowLen (lr l + 1) = rowLen (lr l) ∧ rowLen (sr l) = 8 := by decide +kernel
theorem len_k : ∀ l, l < 73 → rowLen (lr l) = 200 := by decide +kernel
theorem len_r : ∀ r, r < 7 → rowLen (rr r) = 8 ∧ rowLen (rr r + 1) = 8 ∧ rowLen (rr r + 2) = 8 := by decide +kernel
theorem len_c : ∀ c, c < 6 → rowLen (19 * c + 2 * (c / 5) + 5) = 4 ∧ rowLen (19 * c + 2 * (c / 5) + 6) = 8 := by decide +kernel
theorem len_g : ∀ c, c < 6 → rowLen (19 * c + 2 * (c / 5)) = 200 ∧ rowLen (19 * c + 2 * (c / 5) + 1) = 200 := by decide +kernel
