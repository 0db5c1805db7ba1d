/-! THE MODEL CALLS: what is measured of a lot for a blend -/
section
variable (q : Nat × (Nat → Int)) {C : MC} {J M T : M2} {σ : St} {gs : List Gx}
theorem w_meas (h : MRow (M 0) σ gs) {i k : Nat} (hi : i < σ.1.length) (hk : k < 6) {n num slot g : Int} (hg : M 11 k = g) (g0 : 0 ≤ g ∧ g ≤ 100000) (ht : ∀ y, y < 3 → 0 ≤ T 0 y ∧ T 0 y ≤ 1000000000) (hw : ∀ y, y < 3 → 0 ≤ (lt σ.1 i).1 (1 + y) ∧ (lt σ.1 i).1 (1 + y) ≤ 2000) :
    ∃ T', rs 1039 104 [vR 10 0, vI n, vU, vI num, vI slot, vI (k : Int), vI (i : Int), vU] [] (SX q, C, (J, M, T)) = rs 1039 149 [vR 10 0, vI n, vU, vI num, vI slot, vI (k : Int), vI (i : Int), vI 3] [] (SX q, C, (J, M, T')) ∧ ∀ y, y < 3 → T' 0 y = T 0 y + g * (lt σ.1 i).1 (1 + y) := by
  obtain ⟨ls', μ', e, Ta, rfl, rfl, k1, k2⟩ := rs_loopP (m := 1039) (pc := 107) (ls := [vR 10 0, vI n, vU, vI num, vI slot, vI (k : Int), vI (i : Int), vI 0]) (μ := (SX q, C, (J, M, T))) (fun m ls μ => ∃ T', μ = (SX q, C, (J, M, T')) ∧ ls = [vR 10 0, vI n, vU, vI num, vI slot, vI (k : Int), vI (i : Int), vI (m : Int)] ∧
      (∀ y, y < m → T' 0 y = T 0 y + g * (lt σ.1 i).1 (1 + y)) ∧ ∀ y, m ≤ y → T' 0 y = T 0 y) 3
    ⟨T, rfl, rfl, fun y hy => absurd hy (Nat.not_lt_zero _), fun _ _ => rfl⟩ (fun m hm ls μ ⟨T', e1, e2, k1, k2⟩ => by
      subst e1 e2
      have em : Unit → w32 ((m : Int) + 1) = ((m + 1 : Nat) : Int) := fun _ => by rw [w32_id (by omega) (by omega)]; omega
      have e1m : Unit → w32 (1 + (m : Int)) = ((1 + m : Nat) : Int) := fun _ => by rw [w32_id (by omega) (by omega)]; omega
      have a := w_at q (C := C) (J := J) (T := T') h hi (show 1 + m < 14 by omega)
      have w := hw m hm
      have tm := ht m hm
      have pb := mulB (x := g) (y := (lt σ.1 i).1 (1 + m)) (a := 100000) (b := 2000) (by omega) (by omega) rfl
      have t0 : T' 0 m = T 0 m := k2 m (Nat.le_refl _)
      have j1 : Unit → w64 (g * (lt σ.1 i).1 (1 + m)) = g * (lt σ.1 i).1 (1 + m) := fun _ => w64_id (by omega) (by omega)
      have j2 : Unit → w64 (T 0 m + g * (lt σ.1 i).1 (1 + m)) = T 0 m + g * (lt σ.1 i).1 (1 + m) := fun _ => w64_id (by omega) (by omega)
      refine ⟨[vR 10 0, vI n, vU, vI num, vI slot, vI (k : Int), vI (i : Int), vI ((m + 1 : Nat) : Int)], (SX q, C, (J, M, up2 T' 0 m (T 0 m + g * (lt σ.1 i).1 (1 + m)))), ?_, _, rfl, rfl, fun y hy => ?_, fun y hy => (up2_ne (by omega)).trans (k2 y (by omega))⟩
      · rw [s1039_107]
        simp only [s1039_109, s1039_110, s1039_113, s1039_114, s1039_117, s1039_119, s1039_120, unJ_I, unJ_J, unJ_F, unJ_R, unJ_N, unJ_U, pushR_I, pushR_J, pushR_F, pushR_R, pushR_N, pushR_U, rfV_s, rfV_n, Option.bind_some, true_or, or_true, if_true, lx18, Int.toNat_natCast]
        rw [if_neg (by omega), if_pos (by omega), t0]
        simp only [s1039_121, s1039_122, s1039_125, s1039_127, unJ_I, unJ_J, unJ_F, unJ_R, unJ_N, unJ_U, pushR_I, pushR_J, pushR_F, pushR_R, pushR_N, pushR_U, rfV_s, rfV_n, Option.bind_some, true_or, or_true, if_true, lm11, Int.toNat_natCast]
        rw [if_pos (by omega), hg]
        simp only [s1039_128, s1039_129, s1039_130, s1039_132, s1039_133, s1039_135, s1039_136, unJ_I, unJ_J, unJ_F, unJ_R, unJ_N, unJ_U, pushR_I, pushR_J, pushR_F, pushR_R, pushR_N, pushR_U, rfV_s, rfV_n, Option.bind_some, true_or, or_true, if_true, e1m (), a]
        simp only [s1039_139, s1039_140, s1039_141, s1039_142, unJ_I, unJ_J, unJ_F, unJ_R, unJ_N, unJ_U, pushR_I, pushR_J, pushR_F, pushR_R, pushR_N, pushR_U, rfV_s, rfV_n, Option.bind_some, true_or, or_true, if_true, j1 (), j2 (), lx18, Int.toNat_natCast]
        rw [if_pos (by omega)]
        simp only [s1039_143, s1039_146, unJ_I, unJ_J, unJ_F, unJ_R, unJ_N, unJ_U, pushR_I, pushR_J, pushR_F, pushR_R, pushR_N, pushR_U, rfV_s, rfV_n, Option.bind_some, true_or, or_true, if_true, em ()]
      · by_cases c : y = m
        · subst c; exact up2_eq
        · exact (up2_ne (by omega)).trans (k1 y (by omega)))
  refine ⟨Ta, ?_, k1⟩
  simp only [s1039_104, s1039_105, unJ_I, unJ_J, unJ_F, unJ_R, unJ_N, unJ_U, pushR_I, pushR_J, pushR_F, pushR_R, pushR_N, pushR_U, rfV_s, rfV_n, Option.bind_some, true_or, or_true, if_true]
  refine e.trans ?_
  rw [s1039_107]
  simp only [s1039_109, s1039_110, unJ_I, unJ_J, unJ_F, unJ_R, unJ_N, unJ_U, pushR_I, pushR_J, pushR_F, pushR_R, pushR_N, pushR_U, rfV_s, rfV_n, Option.bind_some, true_or, or_true, if_true]
  rw [if_pos (by omega)]
  rfl
end
