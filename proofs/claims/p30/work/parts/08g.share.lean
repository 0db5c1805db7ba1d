/-! LITRES ARE SHARED OUT: by rank -/
def fS (n : Int) (W : Nat → Int) (m : Nat) (j : Nat) : Int := n * W j / sumU W m
def fR (n : Int) (W : Nat → Int) (m : Nat) (j : Nat) : Int := n * W j % sumU W m
/-- what is left behind the whole parts -/
def fL (n : Int) (W : Nat → Int) (m : Nat) : Int := n - sumU (fS n W m) m
/-- how many come before -/
def fK (n : Int) (W : Nat → Int) (m : Nat) (j : Nat) : Int := cntU (fun i => fR n W m j < fR n W m i ∨ (fR n W m i = fR n W m j ∧ i < j)) m
def shr (n : Int) (W : Nat → Int) (m : Nat) (j : Nat) : Int := fS n W m j + b01 (fK n W m j < fL n W m)
section
variable (q : Nat × (Nat → Int)) {I A : M2} {L P : Nat → Nat → Option Nat} {F G : Nat → Nat → UInt32} {D : MD} {x : Nat}
theorem len_sh : ∀ x, x < 2 → rowLen (95) = 200 ∧ rowLen (96) = 200 := by decide
theorem c_reaching (hx : x < 2) {m : Nat} (hm : m ≤ 200) (v : Int) : rs 705 0 [vR 7 x, vI v, vI m, vU, vU] [] (SX q, (I, A, L, P, F, G), D) = some (vI (cntU (fun j => v ≤ A (96) j) m), (SX q, (I, A, L, P, F, G), D)) := by
  have hlen := (len_sh x hx).2
  have loop := rs_loop (m := 705) (pc := 5) (fun i => [vR 7 x, vI v, vI m, vI (cntU (fun j => v ≤ A (96) j) i), vI i]) (fun _ => (SX q, (I, A, L, P, F, G), D)) m (fun i hi => by
    have r := cntU_r (fun j => v ≤ A (96) j) i
    rw [s705_5]
    simp only [s705_7, s705_8, s705_11, s705_12, s705_15, s705_17, s705_20, s705_21, s705_24, s705_27, s705_30, unJ_I, unJ_J, unJ_F, unJ_R, unJ_N, unJ_U, pushR_I, pushR_J, pushR_F, pushR_R, pushR_N, pushR_U, rfV_s, rfV_n, Option.bind_some, true_or, or_true, if_true, c_get]
    rw [if_neg (by omega), rget_n A (by omega), cntU, w32_id (x := (i : Int) + 1) (by omega) (by omega), w32_id (x := cntU _ i + 1) (by omega) (by omega), show (i : Int) + 1 = ((i + 1 : Nat) : Int) by omega]
    by_cases hz : v ≤ A (96) i
    · rw [if_neg (by omega), if_pos hz]
    · rw [if_pos (by omega), if_neg hz, Int.add_zero])
  simp only [s705_0, s705_1, s705_2, s705_3, unJ_I, unJ_J, unJ_F, unJ_R, unJ_N, unJ_U, pushR_I, pushR_J, pushR_F, pushR_R, pushR_N, pushR_U, rfV_s, rfV_n, Option.bind_some, true_or, or_true, if_true]
  refine loop.trans ?_
  rw [s705_5]
  simp only [s705_7, s705_8, s705_11, s705_12, s705_15, s705_17, s705_20, s705_21, s705_24, s705_27, s705_30, s705_33, s705_34, unJ_I, unJ_J, unJ_F, unJ_R, unJ_N, unJ_U, pushR_I, pushR_J, pushR_F, pushR_R, pushR_N, pushR_U, rfV_s, rfV_n, Option.bind_some, true_or, or_true, if_true]
  rw [if_pos (by omega)]
theorem c_bound (hx : x < 2) {m : Nat} (hm : m ≤ 200) {k s : Int} (h0 : k ≤ cntU (fun j => 0 ≤ A (96) j) m) (hs : cntU (fun j => s ≤ A (96) j) m < k) (s0 : 0 < s) (s1 : s ≤ 1000000000) :
    ∃ b, rs 704 0 [vR 7 x, vI k, vI s, vI m, vU, vU, vU, vU] [] (SX q, (I, A, L, P, F, G), D) = some (vI b, (SX q, (I, A, L, P, F, G), D)) ∧ 0 ≤ b ∧ b < s ∧ k ≤ cntU (fun j => b ≤ A (96) j) m ∧ cntU (fun j => b + 1 ≤ A (96) j) m < k := by
  have main : ∀ (d : Nat) (lo hi : Int), d ≤ 31 → 0 ≤ lo → lo < hi → hi ≤ s → hi - lo ≤ 2 ^ d → k ≤ cntU (fun j => lo ≤ A (96) j) m → cntU (fun j => hi ≤ A (96) j) m < k →
      ∃ b, rs 704 9 [vR 7 x, vI k, vU, vI m, vI lo, vI hi, vI ((31 - d : Nat) : Int), vU] [] (SX q, (I, A, L, P, F, G), D) = some (vI b, (SX q, (I, A, L, P, F, G), D)) ∧ 0 ≤ b ∧ b < s ∧ k ≤ cntU (fun j => b ≤ A (96) j) m ∧ cntU (fun j => b + 1 ≤ A (96) j) m < k := by
    intro d
    induction d with
    | zero =>
      intro lo hi hd l0 l1 l2 l3 l4 l5
      refine ⟨lo, ?_, l0, by omega, l4, by rw [show lo + 1 = hi by omega]; exact l5⟩
      rw [s704_9]
      simp only [s704_11, s704_13, s704_16, s704_18, s704_20, s704_21, s704_22, s704_62, s704_64, unJ_I, unJ_J, unJ_F, unJ_R, unJ_N, unJ_U, pushR_I, pushR_J, pushR_F, pushR_R, pushR_N, pushR_U, rfV_s, rfV_n, Option.bind_some, true_or, or_true, if_true]
      rw [if_neg (by omega), w32_id (by omega) (by omega), if_pos (by omega)]
    | succ d ih =>
      intro lo hi hd l0 l1 l2 l3 l4 l5
      rw [s704_9]
      simp only [s704_11, s704_13, s704_16, s704_18, s704_20, s704_21, s704_22, s704_62, s704_64, unJ_I, unJ_J, unJ_F, unJ_R, unJ_N, unJ_U, pushR_I, pushR_J, pushR_F, pushR_R, pushR_N, pushR_U, rfV_s, rfV_n, Option.bind_some, true_or, or_true, if_true]
      rw [if_neg (by omega), w32_id (by omega) (by omega)]
      by_cases hz : hi - lo ≤ 1
      · rw [if_pos hz]
        exact ⟨lo, rfl, l0, by omega, l4, by rw [show lo + 1 = hi by omega]; exact l5⟩
      · rw [if_neg hz]
        have e2 : Int.tdiv (w32 (lo + hi)) 2 = (lo + hi) / 2 := by rw [w32_id (by omega) (by omega), Int.tdiv_eq_ediv_of_nonneg (by omega)]
        have e3 : w32 (((31 - (d + 1) : Nat) : Int) + 1) = ((31 - d : Nat) : Int) := by rw [w32_id (by omega) (by omega)]; omega
        have ep : (2 : Int) ^ (d + 1) = 2 * 2 ^ d := by rw [Int.pow_succ]; omega
        rw [ep] at l3
        generalize (2 : Int) ^ d = z at l3 ih
        simp only [s704_25, s704_27, s704_29, s704_30, s704_31, s704_32, s704_34, s704_35, s704_37, s704_38, s704_41, s704_42, s704_45, s704_47, s704_49, s704_52, s704_54, s704_56, s704_59, unJ_I, unJ_J, unJ_F, unJ_R, unJ_N, unJ_U, pushR_I, pushR_J, pushR_F, pushR_R, pushR_N, pushR_U, rfV_s, rfV_n, Option.bind_some, true_or, or_true, if_true, c_reaching q hx hm, e2, e3]
        rw [if_neg (by omega), w32_id (by omega) (by omega)]
        by_cases hr : cntU (fun j => (lo + hi) / 2 ≤ A (96) j) m < k
        · rw [if_pos hr]
          exact ih lo ((lo + hi) / 2) (by omega) l0 (by omega) (by omega) (by omega) l4 hr
        · rw [if_neg hr]
          exact ih ((lo + hi) / 2) hi (by omega) (by omega) (by omega) l2 (by omega) (by omega) l5
  simp only [s704_0, s704_1, s704_3, s704_4, s704_6, s704_7, unJ_I, unJ_J, unJ_F, unJ_R, unJ_N, unJ_U, pushR_I, pushR_J, pushR_F, pushR_R, pushR_N, pushR_U, rfV_s, rfV_n, Option.bind_some, true_or, or_true, if_true]
  exact main 31 0 s (by omega) (by omega) s0 (by omega) (by have : (2 : Int) ^ 31 = 2147483648 := by decide
                                                            omega) h0 hs
end
