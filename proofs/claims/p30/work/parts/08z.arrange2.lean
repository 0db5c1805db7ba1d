def arrU (d : Nat → Int) : Nat → Nat × (Nat → Int)
  | 0 => (0, fun _ => 0)
  | t + 1 => if d (6 + t) = -1 then arrU d t else ((arrU d t).1 + 1, insF (arrU d t).2 (arrU d t).1 (d (6 + t)))
theorem arrU_le (d : Nat → Int) (t : Nat) : (arrU d t).1 ≤ t := by
  induction t with
  | zero => exact Nat.le_refl _
  | succ t ih =>
    unfold arrU
    split
    · omega
    · show (arrU d t).1 + 1 ≤ t + 1
      omega
theorem arrU_n (d : Nat → Int) (t : Nat) : ((arrU d t).1 : Int) = cntU (fun t => d (6 + t) ≠ -1) t := by
  induction t with
  | zero => rfl
  | succ t ih =>
    unfold arrU cntU
    by_cases h : d (6 + t) = -1
    · rw [if_pos h, if_neg (fun z => z h), ih, Int.add_zero]
    · rw [if_neg h, if_pos h, ← ih]; rfl
section
variable (q : Nat × (Nat → Int)) {I A : M2} {L P : Nat → Nat → Option Nat} {F G : Nat → Nat → UInt32} {D : MD} {l : Nat} {w : Lt}
/-- Panel.arrange -/
theorem c_arrange (h : LotAt I A l w) (hl : l < 74) : ∃ A', rs 303 0 [vR 3 0, vR 2 l, vU, vU, vU, vU] [] (SX q, (I, A, L, P, F, G), D) = some (vI ((arrU w.1 8).1 : Int), (SX q, (I, A', L, P, F, G), D)) ∧ (∀ j, j < (arrU w.1 8).1 → A' 121 j = (arrU w.1 8).2 j) ∧ ∀ r j, r ≠ 121 → A' r j = A r j := by
  have hlen := (len_l l hl).2.2
  have nl : sr l ≠ 121 := by have := (rw_l hl).2; omega
  obtain ⟨ls', μ', e, A1, rfl, rfl, k1, k2⟩ := rs_loopP (m := 303) (pc := 4) (ls := [vR 3 0, vR 2 l, vI 0, vI 0, vU, vU]) (μ := (SX q, (I, A, L, P, F, G), D)) (fun t ls μ => ∃ A', μ = (SX q, (I, A', L, P, F, G), D) ∧ ls = [vR 3 0, vR 2 l, vI ((arrU w.1 t).1 : Int), vI (t : Int), vU, vU] ∧
      (∀ j, j < (arrU w.1 t).1 → A' 121 j = (arrU w.1 t).2 j) ∧ ∀ r j, r ≠ 121 → A' r j = A r j) 8
    ⟨_, rfl, rfl, fun j hj => absurd hj (Nat.not_lt_zero _), fun _ _ _ => rfl⟩ (fun t ht ls μ ⟨A', e1, e2, k1, k2⟩ => by
      subst e1 e2
      have sc : A' (sr l) t = w.1 (6 + t) := (k2 _ _ nl).trans (h.2.2.2.2.2.2.1 t ht)
      have na := arrU_le w.1 t
      have et : Unit → w32 ((t : Int) + 1) = ((t + 1 : Nat) : Int) := fun _ => by rw [w32_id (by omega) (by omega)]; omega
      have en : Unit → w32 (((arrU w.1 t).1 : Int) + 1) = (((arrU w.1 t).1 + 1 : Nat) : Int) := fun _ => by rw [w32_id (by omega) (by omega)]; omega
      rw [s303_4]
      simp only [s303_5, s303_7, s303_10, s303_11, s303_14, s303_15, s303_18, s303_20, s303_22, s303_23, s303_26, s303_29, s303_30, unJ_I, unJ_J, unJ_F, unJ_R, unJ_N, unJ_U, pushR_I, pushR_J, pushR_F, pushR_R, pushR_N, pushR_U, rfV_s, rfV_n, Option.bind_some, true_or, or_true, if_true, c_get]
      rw [if_neg (by omega), rget_n _ (by omega), sc]
      by_cases hz : w.1 (6 + t) = -1
      · rw [if_pos hz]
        simp only [s303_93, s303_96, unJ_I, unJ_J, unJ_F, unJ_R, unJ_N, unJ_U, pushR_I, pushR_J, pushR_F, pushR_R, pushR_N, pushR_U, rfV_s, rfV_n, Option.bind_some, true_or, or_true, if_true, et ()]
        exact ⟨_, _, rfl, A', rfl, by rw [arrU, if_pos hz], by rw [arrU, if_pos hz]; exact k1, k2⟩
      · rw [if_neg hz]
        obtain ⟨A2, e3, f1, f2⟩ := arr_in q (I := I) (A := A') (L := L) (P := P) (F := F) (G := G) (D := D) (l := l) (t := t) (show (arrU w.1 t).1 < 8 by omega) k1 (w.1 (6 + t))
        rw [e3]
        simp only [s303_90, s303_93, s303_96, unJ_I, unJ_J, unJ_F, unJ_R, unJ_N, unJ_U, pushR_I, pushR_J, pushR_F, pushR_R, pushR_N, pushR_U, rfV_s, rfV_n, Option.bind_some, true_or, or_true, if_true, et (), en ()]
        exact ⟨_, _, rfl, A2, rfl, by rw [arrU, if_neg hz], by rw [arrU, if_neg hz]; exact f1, fun r j hr => (f2 r j hr).trans (k2 r j hr)⟩)
  refine ⟨A1, ?_, k1, k2⟩
  simp only [s303_0, s303_1, s303_2, s303_3, unJ_I, unJ_J, unJ_F, unJ_R, unJ_N, unJ_U, pushR_I, pushR_J, pushR_F, pushR_R, pushR_N, pushR_U, rfV_s, rfV_n, Option.bind_some, true_or, or_true, if_true]
  refine e.trans ?_
  rw [s303_4]
  simp only [s303_5, s303_7, s303_99, s303_100, unJ_I, unJ_J, unJ_F, unJ_R, unJ_N, unJ_U, pushR_I, pushR_J, pushR_F, pushR_R, pushR_N, pushR_U, rfV_s, rfV_n, Option.bind_some, true_or, or_true, if_true]
  rw [if_pos (by omega)]
end
