/-! TOPICS, RANGES: no memory -/
def tpAt (i : Int) : Nat := if i = 0 then 0 else if i = 1 then 1 else if i = 2 then 2 else if i = 3 then 3 else if i = 4 then 4 else 5
def tpOf (k : Int) : Nat := if k ≤ 1 then 0 else if k = 2 then 1 else if k = 3 then 2 else if k ≤ 5 then 3 else if k ≤ 7 then 4 else 5
def ofG (t : Nat) (k : Int) : Int := if t = 0 then w32 (Int.tdiv k 640) else if t = 1 then w32 (2000 + Int.tmod (w32 (Int.tdiv k 10)) 64) else Int.tmod k 10
def b01 (c : Prop) [Decidable c] : Int := if c then 1 else 0
theorem b01_t {c : Prop} [Decidable c] (h : c) : b01 c = 1 := if_pos h
theorem b01_f {c : Prop} [Decidable c] (h : ¬ c) : b01 c = 0 := if_neg h
theorem b01_0 {c : Prop} [Decidable c] : b01 c = 0 ↔ ¬ c := by unfold b01; split <;> simp [*]
theorem b01_1 {c : Prop} [Decidable c] : b01 c = 1 ↔ c := by unfold b01; split <;> simp [*]
section
variable (μ : Mem)
theorem c_within (v lo hi : Int) : rs 929 0 [vI v, vI lo, vI hi] [] μ = some (vI (b01 (lo ≤ v ∧ v ≤ hi)), μ) := by
  simp only [s929_0, s929_1, s929_2, s929_5, s929_6, s929_7, s929_10, s929_11, s929_14, s929_15, unJ_I, unJ_J, unJ_F, unJ_R, unJ_N, unJ_U, pushR_I, pushR_J, pushR_F, pushR_R, pushR_N, pushR_U, rfV_s, rfV_n, Option.bind_some, true_or, or_true, if_true, b01]
  repeat' split
  all_goals first | rfl | (exfalso; omega)
theorem c_tpAt (i : Int) : rs 1101 0 [vI i] [] μ = some (vR 11 (tpAt i), μ) := by
  simp only [s1101_0, s1101_1, s1101_36, s1101_39, s1101_39n, s1101_40, s1101_43, s1101_43n, s1101_44, s1101_47, s1101_47n, s1101_48, s1101_51, s1101_51n, s1101_52, s1101_55, s1101_55n, s1101_56, s1101_59, s1101_59n, unJ_I, unJ_J, unJ_F, unJ_R, unJ_N, unJ_U, pushR_I, pushR_J, pushR_F, pushR_R, pushR_N, pushR_U, rfV_s, rfV_n, Option.bind_some, true_or, or_true, if_true, tpAt]
  repeat' split
  all_goals first | rfl | (exfalso; omega)
theorem c_isOf (t : Nat) : rs 1105 0 [vR 11 t] [] μ = some (vI (b01 (t ≤ 2)), μ) := by
  simp only [s1105_0, s1105_1, s1105_4, s1105_7, s1105_8, s1105_11, s1105_14, s1105_15, s1105_18, s1105_21, s1105_22, s1105_25, s1105_26, unJ_I, unJ_J, unJ_F, unJ_R, unJ_N, unJ_U, pushR_I, pushR_J, pushR_F, pushR_R, pushR_N, pushR_U, rfV_s, rfV_n, Option.bind_some, true_or, or_true, if_true, b01]
  repeat' split
  all_goals first | rfl | (exfalso; omega)
theorem c_holds (t : Nat) (v : Int) : rs 1106 0 [vR 11 t, vI v] [] μ = some (vI (b01 (tpI 0 t ≤ v ∧ v ≤ tpI 1 t)), μ) := by
  simp only [s1106_0, s1106_1, s1106_2, s1106_5, s1106_6, s1106_9, s1106_12, unJ_I, unJ_J, unJ_F, unJ_R, unJ_N, unJ_U, pushR_I, pushR_J, pushR_F, pushR_R, pushR_N, pushR_U, rfV_s, rfV_n, Option.bind_some, true_or, or_true, if_true, c_within]
  unfold b01
  split <;> simp
theorem c_ofGrain (t : Nat) (k : Int) : rs 1104 0 [vR 11 t, vI k] [] μ = some (vI (ofG t k), μ) := by
  simp only [s1104_0, s1104_1, s1104_4, s1104_7, s1104_8, s1104_11, s1104_12, s1104_13, s1104_14, s1104_17, s1104_20, s1104_23, s1104_24, s1104_26, s1104_27, s1104_29, s1104_30, s1104_31, s1104_34, s1104_35, s1104_37, s1104_38, unJ_I, unJ_J, unJ_F, unJ_R, unJ_N, unJ_U, pushR_I, pushR_J, pushR_F, pushR_R, pushR_N, pushR_U, rfV_s, rfV_n, Option.bind_some, true_or, or_true, if_true, ofG]
  repeat' split
  all_goals first | rfl | (exfalso; omega)
theorem c_keyOf (o y v : Int) : rs 1103 0 [vI o, vI y, vI v] [] μ = some (vI (w32 (w32 (w32 (w32 (o * 64) + w32 (y - 2000)) * 10) + v)), μ) := by
  simp only [s1103_0, s1103_1, s1103_3, s1103_4, s1103_5, s1103_8, s1103_9, s1103_10, s1103_12, s1103_13, s1103_14, s1103_15, unJ_I, unJ_J, unJ_F, unJ_R, unJ_N, unJ_U, pushR_I, pushR_J, pushR_F, pushR_R, pushR_N, pushR_U, rfV_s, rfV_n, Option.bind_some, true_or, or_true, if_true]
theorem c_ofKind (k : Int) (h0 : 0 ≤ k) (h8 : k ≤ 8) : rs 1102 0 [vI k, vU, vU] [] μ = some (vR 11 (tpOf k), μ) := by
  have h : k = 0 ∨ k = 1 ∨ k = 2 ∨ k = 3 ∨ k = 4 ∨ k = 5 ∨ k = 6 ∨ k = 7 ∨ k = 8 := by omega
  rcases h with rfl | rfl | rfl | rfl | rfl | rfl | rfl | rfl | rfl <;>
    simp [s1102_0, s1102_1, s1102_2, s1102_3, s1102_5, s1102_8, s1102_9, s1102_12, s1102_12n, s1102_13, s1102_13n, s1102_14, s1102_17, s1102_18, s1102_21, s1102_21n, s1102_22, s1102_25, s1102_26, s1102_29, s1102_29n, s1102_30, s1102_30n, s1102_31, s1102_34, s1102_37, s1102_40, s1102_40n, unJ_I, unJ_J, unJ_F, unJ_R, unJ_N, unJ_U, pushR_I, pushR_J, pushR_F, pushR_R, pushR_N, pushR_U, rfV_s, rfV_n, Option.bind_some, true_or, or_true, if_true, c_tpAt, tpAt, tpI, tpOf, w32, Int.bmod]
theorem c_measureTopic (i : Int) : rs 930 0 [vI i] [] μ = some (vR 11 (tpAt (w32 (i + 3))), μ) := by
  simp only [s930_0, s930_1, s930_2, s930_3, s930_6, s930_6n, unJ_I, unJ_J, unJ_F, unJ_R, unJ_N, unJ_U, pushR_I, pushR_J, pushR_F, pushR_R, pushR_N, pushR_U, rfV_s, rfV_n, Option.bind_some, true_or, or_true, if_true, c_tpAt]
theorem c_greatest (i : Int) : rs 931 0 [vI i] [] μ = some (vI (if i = 1 then 200 else if i = 3 then 1000 else 100), μ) := by
  simp only [s931_0, s931_1, s931_28, s931_31, s931_32, s931_35, s931_36, s931_38, unJ_I, unJ_J, unJ_F, unJ_R, unJ_N, unJ_U, pushR_I, pushR_J, pushR_F, pushR_R, pushR_N, pushR_U, rfV_s, rfV_n, Option.bind_some, true_or, or_true, if_true]
  repeat' split
  all_goals first | rfl | (exfalso; omega)
end
