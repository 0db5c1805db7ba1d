/-! THE MODEL CALLS: measures cleared, parts copied -/
section
variable (q : Nat × (Nat → Int)) {C : MC} {J M T : M2}
theorem w_bcopy {m : Nat} (hm : m ≤ 6) (hJ : J 219 0 = m) {P : Nat → Int} (hP : ∀ j, j < m → M 6 j = P j) {n num slot : Int} :
    ∃ M' T', rs 1039 27 [vR 10 0, vI n, vU, vI num, vI slot, vI 0, vU, vU] [] (SX q, C, (J, M, T)) = rs 1039 82 [vR 10 0, vI n, vU, vI num, vI slot, vI 0, vU, vU] [] (SX q, C, (J, M', T')) ∧ (∀ y, y < 3 → T' 0 y = 0) ∧ (∀ j, j < m → M' 11 j = P j) ∧ ∀ r, r ≠ 11 → M' r = M r := by
  have loop1 := rs_loop (m := 1039) (pc := 27) (fun i => [vR 10 0, vI n, vU, vI num, vI slot, vI (i : Int), vU, vU]) (fun i => (SX q, C, (J, M, cpF T 0 (fun _ => 0) 0 i))) 3 (fun i hi => by
    have ei : Unit → w32 ((i : Int) + 1) = ((i + 1 : Nat) : Int) := fun _ => by rw [w32_id (by omega) (by omega)]; omega
    have st := cpF_s T 0 (fun _ => 0) 0 i
    rw [Nat.zero_add] at st
    rw [s1039_27]
    simp only [s1039_29, s1039_30, s1039_33, s1039_34, s1039_37, s1039_39, s1039_40, unJ_I, unJ_J, unJ_F, unJ_R, unJ_N, unJ_U, pushR_I, pushR_J, pushR_F, pushR_R, pushR_N, pushR_U, rfV_s, rfV_n, Option.bind_some, true_or, or_true, if_true, lx18, Int.toNat_natCast, st]
    rw [if_neg (by omega), if_pos (by omega)]
    simp only [s1039_41, s1039_44, unJ_I, unJ_J, unJ_F, unJ_R, unJ_N, unJ_U, pushR_I, pushR_J, pushR_F, pushR_R, pushR_N, pushR_U, rfV_s, rfV_n, Option.bind_some, true_or, or_true, if_true, ei ()])
  have loop2 := rs_loop (m := 1039) (pc := 50) (fun i => [vR 10 0, vI n, vU, vI num, vI slot, vI (i : Int), vU, vU]) (fun i => (SX q, C, (J, cpF M 11 (fun j => M 6 j) 0 i, cpF T 0 (fun _ => 0) 0 3))) m (fun i hi => by
    have ei : Unit → w32 ((i : Int) + 1) = ((i + 1 : Nat) : Int) := fun _ => by rw [w32_id (by omega) (by omega)]; omega
    have st := cpF_s M 11 (fun j => M 6 j) 0 i
    rw [Nat.zero_add] at st
    have rd : cpF M 11 (fun j => M 6 j) 0 i 6 i = M 6 i := cpF_no (by omega)
    rw [s1039_50]
    simp only [s1039_52, s1039_53, s1039_56, s1039_59, s1039_60, s1039_63, s1039_65, s1039_66, s1039_69, s1039_71, unJ_I, unJ_J, unJ_F, unJ_R, unJ_N, unJ_U, pushR_I, pushR_J, pushR_F, pushR_R, pushR_N, pushR_U, rfV_s, rfV_n, Option.bind_some, true_or, or_true, if_true, hJ, lm6, Int.toNat_natCast, rd]
    rw [if_neg (by omega), if_pos (by omega)]
    simp only [s1039_72, s1039_73, s1039_76, unJ_I, unJ_J, unJ_F, unJ_R, unJ_N, unJ_U, pushR_I, pushR_J, pushR_F, pushR_R, pushR_N, pushR_U, rfV_s, rfV_n, Option.bind_some, true_or, or_true, if_true, lm11, Int.toNat_natCast, st, ei ()]
    rw [if_pos (by omega)])
  have a0 : rs 1039 27 [vR 10 0, vI n, vU, vI num, vI slot, vI 0, vU, vU] [] (SX q, C, (J, M, T)) = rs 1039 27 [vR 10 0, vI n, vU, vI num, vI slot, vI ((0 : Nat) : Int), vU, vU] [] (SX q, C, (J, M, cpF T 0 (fun _ => 0) 0 0)) := by rw [cpF_0]; rfl
  have b0 : rs 1039 50 [vR 10 0, vI n, vU, vI num, vI slot, vI 0, vU, vU] [] (SX q, C, (J, M, cpF T 0 (fun _ => 0) 0 3)) = rs 1039 50 [vR 10 0, vI n, vU, vI num, vI slot, vI ((0 : Nat) : Int), vU, vU] [] (SX q, C, (J, cpF M 11 (fun j => M 6 j) 0 0, cpF T 0 (fun _ => 0) 0 3)) := by rw [cpF_0]; rfl
  refine ⟨cpF M 11 (fun j => M 6 j) 0 m, cpF T 0 (fun _ => 0) 0 3, ?_, fun y hy => ?_, fun j hj => ?_, fun r hr => by funext y; exact cpF_no (by omega)⟩
  · refine (a0.trans loop1).trans ?_
    rw [s1039_27]
    simp only [s1039_29, s1039_30, s1039_47, s1039_48, unJ_I, unJ_J, unJ_F, unJ_R, unJ_N, unJ_U, pushR_I, pushR_J, pushR_F, pushR_R, pushR_N, pushR_U, rfV_s, rfV_n, Option.bind_some, true_or, or_true, if_true]
    rw [if_pos (by omega)]
    refine (b0.trans loop2).trans ?_
    rw [s1039_50]
    simp only [s1039_52, s1039_53, s1039_56, s1039_79, s1039_80, unJ_I, unJ_J, unJ_F, unJ_R, unJ_N, unJ_U, pushR_I, pushR_J, pushR_F, pushR_R, pushR_N, pushR_U, rfV_s, rfV_n, Option.bind_some, true_or, or_true, if_true, hJ]
    rw [if_pos (by omega)]
  · have := cpF_in (M := T) (a := 0) (g := fun _ => 0) (off := 0) hy
    rw [Nat.zero_add] at this
    exact this
  · have := cpF_in (M := M) (a := 11) (g := fun j => M 6 j) (off := 0) hj
    rw [Nat.zero_add] at this
    exact this.trans (hP j hj)
end
