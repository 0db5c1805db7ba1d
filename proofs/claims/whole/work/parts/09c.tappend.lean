section
variable (q : Nat × (Nat → Int)) {I A : M2} {L P : Nat → Nat → Option Nat} {F G : Nat → Nat → UInt32} {D : MD} {tx : List Int}
/-- Script.append -/
theorem c_tappend (h : TxAt I A tx) (h9 : tx.length < 100) (v : Int) : rs 602 0 [vR 6 0, vI v] [] (SX q, (I, A, L, P, F, G), D) = some (vU, (SX q, (up2 I 122 0 ((tx.length + 1 : Nat) : Int), up2 A 122 tx.length v, L, P, F, G), D)) ∧ TxAt (up2 I 122 0 ((tx.length + 1 : Nat) : Int)) (up2 A 122 tx.length v) (tx ++ [v]) := by
  obtain ⟨h1, h2, h3⟩ := h
  have l6 : rowLen 122 = 100 := by decide
  have e1 : Unit → w32 ((tx.length : Int) + 1) = ((tx.length + 1 : Nat) : Int) := fun _ => by rw [w32_id (by omega) (by omega)]; omega
  refine ⟨?_, ⟨by rw [up2_eq]; simp, by simp; omega, fun j hj => ?_⟩⟩
  · simp only [s602_0, s602_1, s602_4, s602_5, s602_8, s602_9, s602_12, s602_13, s602_13r, s602_14, s602_17, s602_18, s602_19, s602_22, unJ_I, unJ_J, unJ_F, unJ_R, unJ_N, unJ_U, pushR_I, pushR_J, pushR_F, pushR_R, pushR_N, pushR_U, rfV_s, rfV_n, Option.bind_some, true_or, or_true, if_true, c_put, h1, e1 ()]
    rw [rput_n _ _ (by omega)]
  · by_cases e : j = tx.length
    · subst e
      rw [up2_eq]; simp [List.getD_eq_getElem?_getD]
    · have hj2 : j < tx.length := by simp at hj; omega
      rw [up2_ne (by omega), h3 j hj2, List.getD_eq_getElem?_getD, List.getD_eq_getElem?_getD, List.getElem?_append_left hj2]
end
