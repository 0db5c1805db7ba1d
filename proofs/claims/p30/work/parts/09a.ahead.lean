section
variable (q : Nat × (Nat → Int)) {I A : M2} {L P : Nat → Nat → Option Nat} {F G : Nat → Nat → UInt32} {D : MD}
/-- Panel.aheadOf -/
theorem c_ahead {i : Nat} (hi : i < 12) : rs 306 0 [vR 3 0, vI i, vU, vU] [] (SX q, (I, A, L, P, F, G), D) = some (vI (cntU (fun k => 0 < f_cmp .l (F 0 k) (F 0 i) ∨ (k < i ∧ f_cmp .l (F 0 k) (F 0 i) = 0)) 12), (SX q, (I, A, L, P, F, G), D)) := by
  have loop := rs_loop (m := 306) (pc := 19) (fun k => [vR 3 0, vI i, vI (cntU (fun k => 0 < f_cmp .l (F 0 k) (F 0 i) ∨ (k < i ∧ f_cmp .l (F 0 k) (F 0 i) = 0)) k), vI k]) (fun _ => (SX q, (I, A, L, P, F, G), D)) 12 (fun k hk => by
    have r := cntU_r (fun k => 0 < f_cmp .l (F 0 k) (F 0 i) ∨ (k < i ∧ f_cmp .l (F 0 k) (F 0 i) = 0)) k
    have ek : Unit → w32 ((k : Int) + 1) = ((k + 1 : Nat) : Int) := fun _ => by rw [w32_id (by omega) (by omega)]; omega
    have ec : Unit → w32 (cntU (fun k => 0 < f_cmp .l (F 0 k) (F 0 i) ∨ (k < i ∧ f_cmp .l (F 0 k) (F 0 i) = 0)) k + 1) = cntU (fun k => 0 < f_cmp .l (F 0 k) (F 0 i) ∨ (k < i ∧ f_cmp .l (F 0 k) (F 0 i) = 0)) k + 1 := fun _ => w32_id (by omega) (by omega)
    rw [s306_19]
    simp only [s306_20, s306_21, s306_24, s306_25, s306_28, s306_29, s306_32, s306_33, s306_34, s306_35, s306_38, s306_39, s306_40, s306_41, s306_44, s306_45, s306_46, s306_49, s306_50, s306_53, s306_54, s306_55, s306_56, s306_59, s306_60, s306_61, s306_62, s306_65, s306_68, s306_71, unJ_I, unJ_J, unJ_F, unJ_R, unJ_N, unJ_U, pushR_I, pushR_J, pushR_F, pushR_R, pushR_N, pushR_U, rfV_s, rfV_n, Option.bind_some, true_or, or_true, if_true, lx17, Int.toNat_natCast, ek (), ec ()]
    rw [if_pos (by omega), if_neg (by omega), if_pos (by omega), if_pos (by omega), cntU]
    by_cases h1 : 0 < f_cmp .l (F 0 k) (F 0 i)
    · rw [if_pos h1, if_pos (Or.inl h1)]
    · rw [if_neg h1]
      by_cases h2 : (i : Int) ≤ (k : Int)
      · rw [if_pos h2, if_neg (by omega), Int.add_zero]
      · rw [if_neg h2, if_pos (by omega), if_pos (by omega)]
        by_cases h3 : f_cmp .l (F 0 k) (F 0 i) = 0
        · rw [if_pos h3, if_pos (Or.inr ⟨by omega, h3⟩)]
        · rw [if_neg h3, if_neg (by omega), Int.add_zero])
  simp only [s306_0, s306_1, s306_4, s306_5, s306_6, s306_9, s306_10, unJ_I, unJ_J, unJ_F, unJ_R, unJ_N, unJ_U, pushR_I, pushR_J, pushR_F, pushR_R, pushR_N, pushR_U, rfV_s, rfV_n, Option.bind_some, true_or, or_true, if_true, lx17]
  rw [if_neg (by omega), if_pos (by omega), if_pos (by omega)]
  simp only [s306_15, s306_16, s306_17, s306_18, unJ_I, unJ_J, unJ_F, unJ_R, unJ_N, unJ_U, pushR_I, pushR_J, pushR_F, pushR_R, pushR_N, pushR_U, rfV_s, rfV_n, Option.bind_some, true_or, or_true, if_true]
  refine loop.trans ?_
  rw [s306_19]
  simp only [s306_20, s306_21, s306_24, s306_25, s306_74, s306_75, unJ_I, unJ_J, unJ_F, unJ_R, unJ_N, unJ_U, pushR_I, pushR_J, pushR_F, pushR_R, pushR_N, pushR_U, rfV_s, rfV_n, Option.bind_some, true_or, or_true, if_true, lx17]
  rw [if_pos (by omega), if_pos (by omega)]
end
