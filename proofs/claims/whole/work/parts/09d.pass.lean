section
variable (q : Nat × (Nat → Int)) {I A : M2} {L P : Nat → Nat → Option Nat} {F G : Nat → Nat → UInt32} {D : MD} {tx : List Int}
/-- Script.pass -/
theorem c_pass (h : TxAt I A tx) {i : Int} (hi : 0 ≤ i ∧ i ≤ 100000) (hc : I 126 0 = i) (v : Int) : rs 612 0 [vR 6 0, vI v] [] (SX q, (I, A, L, P, F, G), D) = some (vI (b01 (txC tx i = v)), (SX q, ((if txC tx i = v then up2 I 126 0 (i + 1) else I), A, L, P, F, G), D)) := by
  have e1 : Unit → w32 (i + 1) = i + 1 := fun _ => w32_id (by omega) (by omega)
  simp only [s612_0, s612_1, s612_2, s612_5, s612_8, s612_9, s612_12, s612_13, s612_14, s612_15, s612_15r, s612_16, s612_19, s612_20, s612_21, s612_24, s612_25, unJ_I, unJ_J, unJ_F, unJ_R, unJ_N, unJ_U, pushR_I, pushR_J, pushR_F, pushR_R, pushR_N, pushR_U, rfV_s, rfV_n, Option.bind_some, true_or, or_true, if_true, hc, c_codeAt q h hi.1, e1 ()]
  unfold b01
  by_cases hz : txC tx i = v
  · rw [if_pos hz, if_pos hz, if_pos hz]
  · rw [if_neg hz, if_neg hz, if_neg hz]
end
