/-! THE TEXT: the code at a place, one character passed, one appended -/
def txC (tx : List Int) (i : Int) : Int := if 0 ≤ i ∧ i < tx.length then tx.getD i.toNat 0 else 0
/-- the text of the class -/
def TxAt (I A : M2) (tx : List Int) : Prop := I 122 0 = tx.length ∧ tx.length ≤ 100 ∧ ∀ j, j < tx.length → A 122 j = tx.getD j 0
section
variable (q : Nat × (Nat → Int)) {I A : M2} {L P : Nat → Nat → Option Nat} {F G : Nat → Nat → UInt32} {D : MD} {tx : List Int}
theorem c_codeAt (h : TxAt I A tx) {i : Int} (hi : 0 ≤ i) : rs 613 0 [vR 6 0, vI i] [] (SX q, (I, A, L, P, F, G), D) = some (vI (txC tx i), (SX q, (I, A, L, P, F, G), D)) := by
  obtain ⟨h1, h2, h3⟩ := h
  have l6 : rowLen 122 = 100 := by decide
  simp only [s613_0, s613_1, s613_2, s613_5, s613_8, s613_9, s613_12, s613_13, s613_16, s613_19, s613_20, unJ_I, unJ_J, unJ_F, unJ_R, unJ_N, unJ_U, pushR_I, pushR_J, pushR_F, pushR_R, pushR_N, pushR_U, rfV_s, rfV_n, Option.bind_some, true_or, or_true, if_true, c_get, h1]
  unfold txC
  by_cases hz : i < tx.length
  · rw [if_neg (by omega), if_pos ⟨hi, hz⟩]
    have e : rget A 122 i = tx.getD i.toNat 0 := by
      unfold rget
      rw [if_pos (by omega)]
      exact h3 _ (by omega)
    rw [e]
  · rw [if_pos (by omega), if_neg (fun z => hz z.2)]
end
