section
variable (q : Nat × (Nat → Int)) {I A : M2} {L P : Nat → Nat → Option Nat} {F G : Nat → Nat → UInt32} {D : MD} {l c x : Nat} {w : Lt} {σ : St} {sl : Nat → Nat}
/-- Trial.greatest -/
theorem c_greatestB (hc : c < 6) (hL : LoS L c sl) (h : CelAt I A c sl σ) (ho : okLs σ.1) (hS : 0 < sumU (wtL σ.1) σ.1.length) :
    ∃ A', rs 806 0 [vR 8 0, vR 0 c, vU] [] (SX q, (I, A, L, P, F, G), D) = some (vI (mostU (por σ.1) 10000), (SX q, (I, A', L, P, F, G), D)) ∧ ∀ r j, (r < 95 ∨ 96 < r) ∧ (r < 119 ∨ 120 < r) → A' r j = A r j := by
  have hsl : ∀ i, i < 12 → 12 * c ≤ sl i ∧ sl i < 12 * c + 12 := fun i hi => (hL.1 i hi).2
  obtain ⟨z, e1, z1, z2⟩ := c_ceiling q (I := I) (A := A) (L := L) (P := P) (F := F) (G := G) (D := D) hL h ho hS
  have main : ∀ (n : Nat), n ≤ 10000 → ∀ A1 : M2, CelAt I A1 c sl σ → ∃ A', rs 806 6 [vR 8 0, vR 0 c, vI (n : Int)] [] (SX q, (I, A1, L, P, F, G), D) = some (vI (mostU (por σ.1) n), (SX q, (I, A', L, P, F, G), D)) ∧ ∀ r j, (r < 95 ∨ 96 < r) ∧ (r < 119 ∨ 120 < r) → A' r j = A1 r j := by
    intro n
    induction n with
    | zero =>
      intro _ A1 _
      refine ⟨A1, ?_, fun _ _ _ => rfl⟩
      rw [s806_6]
      simp only [s806_7, s806_8, s806_28, s806_30, unJ_I, unJ_J, unJ_F, unJ_R, unJ_N, unJ_U, pushR_I, pushR_J, pushR_F, pushR_R, pushR_N, pushR_U, rfV_s, rfV_n, Option.bind_some, true_or, or_true, if_true]
      rw [if_pos (by omega)]
      rfl
    | succ n ih =>
      intro hn A1 hA
      obtain ⟨A2, v, e2, v1, v2, -, f2⟩ := c_portion q (I := I) (A := A1) (L := L) (P := P) (F := F) (G := G) (D := D) hc hL hA ho (n := ((n + 1 : Nat) : Int)) (by omega) hS
      have en : Unit → w32 (((n + 1 : Nat) : Int) + -1) = (n : Int) := fun _ => by rw [w32_id (by omega) (by omega)]; omega
      rw [s806_6]
      simp only [s806_7, s806_8, s806_11, s806_12, s806_13, s806_14, s806_17, s806_20, s806_21, s806_22, s806_25, unJ_I, unJ_J, unJ_F, unJ_R, unJ_N, unJ_U, pushR_I, pushR_J, pushR_F, pushR_R, pushR_N, pushR_U, rfV_s, rfV_n, Option.bind_some, true_or, or_true, if_true, e2, en ()]
      rw [if_neg (by omega)]
      by_cases hv : v = 0
      · rw [if_pos hv]
        obtain ⟨A3, e3, f3⟩ := ih (by omega) A2 (hA.rows hc hsl (fun r j hr => f2 r j hr))
        refine ⟨A3, ?_, fun r j hr => (f3 r j hr).trans (f2 r j hr)⟩
        rw [mostU_f (fun z => by have := v2.mpr z; omega)]
        exact e3
      · rw [if_neg hv]
        refine ⟨A2, ?_, f2⟩
        rw [mostU_t (v2.mp (by omega))]
  obtain ⟨A2, e2, f2⟩ := main z z1 A h
  refine ⟨A2, ?_, f2⟩
  simp only [s806_0, s806_1, s806_2, s806_5, unJ_I, unJ_J, unJ_F, unJ_R, unJ_N, unJ_U, pushR_I, pushR_J, pushR_F, pushR_R, pushR_N, pushR_U, rfV_s, rfV_n, Option.bind_some, true_or, or_true, if_true, e1]
  rw [mostU_up z1 (fun k a b => z2 k (by omega) (by omega))]
  exact e2
end
