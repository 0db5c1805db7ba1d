/-! THE MODEL CALLS: kindOf, isRight, isSaid -/
def kdW (t : Nat) (s : Int) : Int := if s = 6 then tpI 2 t else if s = 7 then tpI 3 t else -1
section
variable (q : Nat × (Nat → Int)) {C : MC} {J M T : M2} {tx : List Int}
theorem c_kindW {μ : Mem} {t : Nat} (ht : t < 6) {s : Int} (hs : s ≤ 7) : rs 1064 0 [vI (t : Int), vI s, vU] [] μ = some (vI (kdW t s), μ) := by
  unfold kdW
  by_cases h6 : s = 6
  · subst h6
    have hx : t = 0 ∨ t = 1 ∨ t = 2 ∨ t = 3 ∨ t = 4 ∨ t = 5 := by omega
    rcases hx with rfl | rfl | rfl | rfl | rfl | rfl
    all_goals simp [s1064_0, s1064_1, s1064_3, s1064_6, s1064_7, s1064_8, s1064_9, s1064_12, s1064_13, s1064_14, s1064_17, s1064_18, s1064_19, s1064_22, s1064_23, s1064_26, s1064_27, s1064_30, s1064_31, s1064_32, s1064_35, s1064_36, s1064_39, s1064_41, s1064_42, s1064_43, s1064_44, s1064_45, s1064_47, s1064_48, s1064_49, s1064_50, s1064_51, s1064_54, s1064_55, s1064_57, s1064_60, s1064_62, s1064_65, s1064_66, s1064_67, s1064_68, s1064_70, s1064_73, s1064_74, s1064_75, s1064_76, s1064_79, s1064_80, unJ_I, unJ_J, unJ_F, unJ_R, unJ_N, unJ_U, pushR_I, pushR_J, pushR_F, pushR_R, pushR_N, pushR_U, rfV_s, rfV_n, Option.bind_some, true_or, or_true, if_true, tpI, w32]
  · by_cases h7 : s = 7
    · subst h7
      have hx : t = 0 ∨ t = 1 ∨ t = 2 ∨ t = 3 ∨ t = 4 ∨ t = 5 := by omega
      rcases hx with rfl | rfl | rfl | rfl | rfl | rfl
      all_goals simp [s1064_0, s1064_1, s1064_3, s1064_6, s1064_7, s1064_8, s1064_9, s1064_12, s1064_13, s1064_14, s1064_17, s1064_18, s1064_19, s1064_22, s1064_23, s1064_26, s1064_27, s1064_30, s1064_31, s1064_32, s1064_35, s1064_36, s1064_39, s1064_41, s1064_42, s1064_43, s1064_44, s1064_45, s1064_47, s1064_48, s1064_49, s1064_50, s1064_51, s1064_54, s1064_55, s1064_57, s1064_60, s1064_62, s1064_65, s1064_66, s1064_67, s1064_68, s1064_70, s1064_73, s1064_74, s1064_75, s1064_76, s1064_79, s1064_80, unJ_I, unJ_J, unJ_F, unJ_R, unJ_N, unJ_U, pushR_I, pushR_J, pushR_F, pushR_R, pushR_N, pushR_U, rfV_s, rfV_n, Option.bind_some, true_or, or_true, if_true, tpI, w32]
    · rw [if_neg h6, if_neg h7]
      simp only [s1064_0, s1064_1, s1064_3, s1064_6, s1064_7, unJ_I, unJ_J, unJ_F, unJ_R, unJ_N, unJ_U, pushR_I, pushR_J, pushR_F, pushR_R, pushR_N, pushR_U, rfV_s, rfV_n, Option.bind_some, true_or, or_true, if_true]
      rw [if_neg (by omega)]
theorem w_right {k s b : Int} (h1 : J 210 0 = k) (h2 : J 211 0 = s) (h3 : J 212 0 = b) (hk : 0 ≤ k ∧ k ≤ 8) : rs 1065 0 [vR 10 0, vU] [] (SX q, C, (J, M, T)) = some (vI (b01 (rngU k s b)), (SX q, C, (J, M, T))) := by
  have go : ∀ (u : Prop) [Decidable u] (v lim : Int), v = b01 u → (k < 4 → lim = 100) → (4 ≤ k → k < 6 → lim = 2000) → (6 ≤ k → k < 8 → lim = 200) → (8 ≤ k → lim = 500) → rs 1065 41 [vR 10 0, vU] [vI v] (SX q, C, (J, M, T)) = some (vI (b01 (u ∧ 0 ≤ b ∧ b ≤ lim)), (SX q, C, (J, M, T))) := fun u _ v lim hv l1 l2 l3 l4 => by
    rw [hv]
    by_cases hu : u
    · simp only [b01_t hu, s1065_41, s1065_42, s1065_43, unJ_I, unJ_J, unJ_F, unJ_R, unJ_N, unJ_U, pushR_I, pushR_J, pushR_F, pushR_R, pushR_N, pushR_U, rfV_s, rfV_n, Option.bind_some, true_or, or_true, if_true]
      rw [if_neg (by omega)]
      have fin : rs 1065 99 [vR 10 0, vI 1] [vJ lim, vJ 0, vJ b] (SX q, C, (J, M, T)) = some (vI (b01 (u ∧ 0 ≤ b ∧ b ≤ lim)), (SX q, C, (J, M, T))) := by
        simp only [s1065_99, unJ_I, unJ_J, unJ_F, unJ_R, unJ_N, unJ_U, pushR_I, pushR_J, pushR_F, pushR_R, pushR_N, pushR_U, rfV_s, rfV_n, Option.bind_some, true_or, or_true, if_true, c_in]
        by_cases z : 0 ≤ b ∧ b ≤ lim
        · simp only [b01_t z, b01_t (show u ∧ 0 ≤ b ∧ b ≤ lim from ⟨hu, z⟩), s1065_102, s1065_105, s1065_106, s1065_109, s1065_110, unJ_I, unJ_J, unJ_F, unJ_R, unJ_N, unJ_U, pushR_I, pushR_J, pushR_F, pushR_R, pushR_N, pushR_U, rfV_s, rfV_n, Option.bind_some, true_or, or_true, if_true]
          try simp
        · simp only [b01_f z, b01_f (show ¬ (u ∧ 0 ≤ b ∧ b ≤ lim) from fun y => z y.2), s1065_102, s1065_105, s1065_106, s1065_109, s1065_110, unJ_I, unJ_J, unJ_F, unJ_R, unJ_N, unJ_U, pushR_I, pushR_J, pushR_F, pushR_R, pushR_N, pushR_U, rfV_s, rfV_n, Option.bind_some, true_or, or_true, if_true]
          try simp
      refine Eq.trans ?_ fin
      by_cases c1 : k < 4
      · rw [l1 c1]
        simp only [s1065_46, s1065_47, s1065_50, s1065_51, s1065_52, s1065_53, s1065_56, s1065_57, unJ_I, unJ_J, unJ_F, unJ_R, unJ_N, unJ_U, pushR_I, pushR_J, pushR_F, pushR_R, pushR_N, pushR_U, rfV_s, rfV_n, Option.bind_some, true_or, or_true, if_true, h1, h3]
        rw [if_neg (by omega)]
        simp only [s1065_60, s1065_63, unJ_I, unJ_J, unJ_F, unJ_R, unJ_N, unJ_U, pushR_I, pushR_J, pushR_F, pushR_R, pushR_N, pushR_U, rfV_s, rfV_n, Option.bind_some, true_or, or_true, if_true]
      · by_cases c2 : k < 6
        · rw [l2 (by omega) c2]
          simp only [s1065_46, s1065_47, s1065_50, s1065_51, s1065_52, s1065_53, s1065_56, s1065_57, unJ_I, unJ_J, unJ_F, unJ_R, unJ_N, unJ_U, pushR_I, pushR_J, pushR_F, pushR_R, pushR_N, pushR_U, rfV_s, rfV_n, Option.bind_some, true_or, or_true, if_true, h1, h3]
          rw [if_pos (by omega)]
          simp only [s1065_66, s1065_67, s1065_70, s1065_72, unJ_I, unJ_J, unJ_F, unJ_R, unJ_N, unJ_U, pushR_I, pushR_J, pushR_F, pushR_R, pushR_N, pushR_U, rfV_s, rfV_n, Option.bind_some, true_or, or_true, if_true, h1]
          rw [if_neg (by omega)]
          simp only [s1065_75, s1065_78, unJ_I, unJ_J, unJ_F, unJ_R, unJ_N, unJ_U, pushR_I, pushR_J, pushR_F, pushR_R, pushR_N, pushR_U, rfV_s, rfV_n, Option.bind_some, true_or, or_true, if_true]
        · by_cases c3 : k < 8
          · rw [l3 (by omega) c3]
            simp only [s1065_46, s1065_47, s1065_50, s1065_51, s1065_52, s1065_53, s1065_56, s1065_57, unJ_I, unJ_J, unJ_F, unJ_R, unJ_N, unJ_U, pushR_I, pushR_J, pushR_F, pushR_R, pushR_N, pushR_U, rfV_s, rfV_n, Option.bind_some, true_or, or_true, if_true, h1, h3]
            rw [if_pos (by omega)]
            simp only [s1065_66, s1065_67, s1065_70, s1065_72, unJ_I, unJ_J, unJ_F, unJ_R, unJ_N, unJ_U, pushR_I, pushR_J, pushR_F, pushR_R, pushR_N, pushR_U, rfV_s, rfV_n, Option.bind_some, true_or, or_true, if_true, h1]
            rw [if_pos (by omega)]
            simp only [s1065_81, s1065_82, s1065_85, s1065_87, unJ_I, unJ_J, unJ_F, unJ_R, unJ_N, unJ_U, pushR_I, pushR_J, pushR_F, pushR_R, pushR_N, pushR_U, rfV_s, rfV_n, Option.bind_some, true_or, or_true, if_true, h1]
            rw [if_neg (by omega)]
            simp only [s1065_90, s1065_93, unJ_I, unJ_J, unJ_F, unJ_R, unJ_N, unJ_U, pushR_I, pushR_J, pushR_F, pushR_R, pushR_N, pushR_U, rfV_s, rfV_n, Option.bind_some, true_or, or_true, if_true]
          · rw [l4 (by omega)]
            simp only [s1065_46, s1065_47, s1065_50, s1065_51, s1065_52, s1065_53, s1065_56, s1065_57, unJ_I, unJ_J, unJ_F, unJ_R, unJ_N, unJ_U, pushR_I, pushR_J, pushR_F, pushR_R, pushR_N, pushR_U, rfV_s, rfV_n, Option.bind_some, true_or, or_true, if_true, h1, h3]
            rw [if_pos (by omega)]
            simp only [s1065_66, s1065_67, s1065_70, s1065_72, unJ_I, unJ_J, unJ_F, unJ_R, unJ_N, unJ_U, pushR_I, pushR_J, pushR_F, pushR_R, pushR_N, pushR_U, rfV_s, rfV_n, Option.bind_some, true_or, or_true, if_true, h1]
            rw [if_pos (by omega)]
            simp only [s1065_81, s1065_82, s1065_85, s1065_87, unJ_I, unJ_J, unJ_F, unJ_R, unJ_N, unJ_U, pushR_I, pushR_J, pushR_F, pushR_R, pushR_N, pushR_U, rfV_s, rfV_n, Option.bind_some, true_or, or_true, if_true, h1]
            rw [if_pos (by omega)]
            simp only [s1065_96, unJ_I, unJ_J, unJ_F, unJ_R, unJ_N, unJ_U, pushR_I, pushR_J, pushR_F, pushR_R, pushR_N, pushR_U, rfV_s, rfV_n, Option.bind_some, true_or, or_true, if_true]
    · simp only [b01_f hu, b01_f (show ¬ (u ∧ 0 ≤ b ∧ b ≤ lim) from fun y => hu y.1), s1065_41, s1065_42, s1065_43, s1065_109, s1065_110, unJ_I, unJ_J, unJ_F, unJ_R, unJ_N, unJ_U, pushR_I, pushR_J, pushR_F, pushR_R, pushR_N, pushR_U, rfV_s, rfV_n, Option.bind_some, true_or, or_true, if_true]
      try simp
  by_cases hk3 : 3 < k
  · have st : rs 1065 0 [vR 10 0, vU] [] (SX q, C, (J, M, T)) = rs 1065 41 [vR 10 0, vU] [vI 1] (SX q, C, (J, M, T)) := by
      simp only [s1065_0, s1065_1, s1065_4, s1065_5, unJ_I, unJ_J, unJ_F, unJ_R, unJ_N, unJ_U, pushR_I, pushR_J, pushR_F, pushR_R, pushR_N, pushR_U, rfV_s, rfV_n, Option.bind_some, true_or, or_true, if_true, h1]
      rw [if_pos (by omega)]
      simp only [s1065_36, s1065_37, unJ_I, unJ_J, unJ_F, unJ_R, unJ_N, unJ_U, pushR_I, pushR_J, pushR_F, pushR_R, pushR_N, pushR_U, rfV_s, rfV_n, Option.bind_some, true_or, or_true, if_true]
    have hx : k = 4 ∨ k = 5 ∨ k = 6 ∨ k = 7 ∨ k = 8 := by omega
    rcases hx with rfl | rfl | rfl | rfl | rfl
    · rw [st, go True 1 2000 (b01_t trivial).symm (by omega) (by omega) (by omega) (by omega)]
      simp [rngU, tpOf, tpI]
    · rw [st, go True 1 2000 (b01_t trivial).symm (by omega) (by omega) (by omega) (by omega)]
      simp [rngU, tpOf, tpI]
    · rw [st, go True 1 200 (b01_t trivial).symm (by omega) (by omega) (by omega) (by omega)]
      simp [rngU, tpOf, tpI]
    · rw [st, go True 1 200 (b01_t trivial).symm (by omega) (by omega) (by omega) (by omega)]
      simp [rngU, tpOf, tpI]
    · rw [st, go True 1 500 (b01_t trivial).symm (by omega) (by omega) (by omega) (by omega)]
      simp [rngU, tpOf, tpI]
  · have st : ∀ p : Int, p = (if k < 2 then 0 else k - 1) → rs 1065 0 [vR 10 0, vU] [] (SX q, C, (J, M, T)) = rs 1065 41 [vR 10 0, vU] [vI (b01 (shOk p s))] (SX q, C, (J, M, T)) := fun p hp => by
      have e1 : Unit → w32 (k - 1) = k - 1 := fun _ => w32_id (by omega) (by omega)
      have a : rs 1065 26 [vR 10 0, vU] [vI p] (SX q, C, (J, M, T)) = rs 1065 41 [vR 10 0, vU] [vI (b01 (shOk p s))] (SX q, C, (J, M, T)) := by
        simp only [s1065_26, s1065_27, s1065_30, unJ_I, unJ_J, unJ_F, unJ_R, unJ_N, unJ_U, pushR_I, pushR_J, pushR_F, pushR_R, pushR_N, pushR_U, rfV_s, rfV_n, Option.bind_some, true_or, or_true, if_true, h2, w_isPart]
        by_cases z : shOk p s
        · simp only [b01_t z, s1065_33, s1065_36, s1065_37, unJ_I, unJ_J, unJ_F, unJ_R, unJ_N, unJ_U, pushR_I, pushR_J, pushR_F, pushR_R, pushR_N, pushR_U, rfV_s, rfV_n, Option.bind_some, true_or, or_true, if_true]
          rw [if_neg (by omega)]
        · simp only [b01_f z, s1065_33, s1065_36, s1065_37, s1065_40, unJ_I, unJ_J, unJ_F, unJ_R, unJ_N, unJ_U, pushR_I, pushR_J, pushR_F, pushR_R, pushR_N, pushR_U, rfV_s, rfV_n, Option.bind_some, true_or, or_true, if_true]
      refine Eq.trans ?_ a
      rw [hp]
      simp only [s1065_0, s1065_1, s1065_4, s1065_5, s1065_8, s1065_9, s1065_12, s1065_13, unJ_I, unJ_J, unJ_F, unJ_R, unJ_N, unJ_U, pushR_I, pushR_J, pushR_F, pushR_R, pushR_N, pushR_U, rfV_s, rfV_n, Option.bind_some, true_or, or_true, if_true, h1]
      rw [if_neg (by omega)]
      by_cases c : k < 2
      · rw [if_neg (by omega), if_pos c]
        simp only [s1065_16, s1065_17, unJ_I, unJ_J, unJ_F, unJ_R, unJ_N, unJ_U, pushR_I, pushR_J, pushR_F, pushR_R, pushR_N, pushR_U, rfV_s, rfV_n, Option.bind_some, true_or, or_true, if_true]
      · rw [if_pos (by omega), if_neg c]
        simp only [s1065_20, s1065_21, s1065_24, s1065_25, unJ_I, unJ_J, unJ_F, unJ_R, unJ_N, unJ_U, pushR_I, pushR_J, pushR_F, pushR_R, pushR_N, pushR_U, rfV_s, rfV_n, Option.bind_some, true_or, or_true, if_true, h1, e1 ()]
    have hx : k = 0 ∨ k = 1 ∨ k = 2 ∨ k = 3 := by omega
    rcases hx with rfl | rfl | rfl | rfl
    · rw [st 0 rfl, go (shOk 0 s) _ 100 rfl (by omega) (by omega) (by omega) (by omega)]
      simp [rngU, tpOf, tpI, shOk]
    · rw [st 0 rfl, go (shOk 0 s) _ 100 rfl (by omega) (by omega) (by omega) (by omega)]
      simp [rngU, tpOf, tpI, shOk]
    · rw [st 1 rfl, go (shOk 1 s) _ 100 rfl (by omega) (by omega) (by omega) (by omega)]
      simp [rngU, tpOf, tpI, shOk]
    · rw [st 2 rfl, go (shOk 2 s) _ 100 rfl (by omega) (by omega) (by omega) (by omega)]
      simp [rngU, tpOf, tpI, shOk]
/-- isSaid -/
theorem w_said {r : Ru} (h1 : J 210 0 = r.1) (h2 : J 211 0 = r.2.1) (h3 : J 212 0 = r.2.2) {a f : Nat} {l : List Ru} (hl : l.length ≤ 8) (hf : f ≤ 100) (hL : f + 3 * l.length ≤ LX q.1 14 a)
    (hr : ∀ k, k < l.length → M a (f + 3 * k) = (rg l k).1 ∧ M a (f + 3 * k + 1) = (rg l k).2.1 ∧ M a (f + 3 * k + 2) = (rg l k).2.2) : rs 1066 0 [vR 10 0, vR 14 a, vI (f : Int), vI (l.length : Int), vU, vU, vU] [] (SX q, C, (J, M, T)) = some (vI (b01 (r ∈ l)), (SX q, C, (J, M, T))) := by
  have loop := rs_loop (m := 1066) (pc := 6) (fun k => [vR 10 0, vR 14 a, vI (f : Int), vI (l.length : Int), vI (b01 (r ∈ l.take k)), vI (k : Int), vU]) (fun _ => (SX q, C, (J, M, T))) l.length (fun k hk => by
    obtain ⟨r1, r2, r3⟩ := hr k hk
    have ek : Unit → w32 ((k : Int) + 1) = ((k + 1 : Nat) : Int) := fun _ => by rw [w32_id (by omega) (by omega)]; omega
    have e3 : Unit → w32 (3 * (k : Int)) = ((3 * k : Nat) : Int) := fun _ => by rw [w32_id (by omega) (by omega)]; omega
    have ef : Unit → w32 ((f : Int) + ((3 * k : Nat) : Int)) = ((f + 3 * k : Nat) : Int) := fun _ => by rw [w32_id (by omega) (by omega)]; omega
    have ef1 : Unit → w32 (((f + 3 * k : Nat) : Int) + 1) = ((f + 3 * k + 1 : Nat) : Int) := fun _ => by rw [w32_id (by omega) (by omega)]; omega
    have ef2 : Unit → w32 (((f + 3 * k : Nat) : Int) + 2) = ((f + 3 * k + 2 : Nat) : Int) := fun _ => by rw [w32_id (by omega) (by omega)]; omega
    have tk : l.take (k + 1) = l.take k ++ [rg l k] := by
      rw [List.take_add_one, List.getElem?_eq_getElem hk, show rg l k = l[k] by unfold rg; rw [List.getD_eq_getElem?_getD, List.getElem?_eq_getElem hk]; rfl]; rfl
    have mem : (r ∈ l.take (k + 1)) ↔ (r ∈ l.take k ∨ r = rg l k) := by rw [tk, List.mem_append, List.mem_singleton]
    have go : ∀ v : Int, v = b01 (r ∈ l.take (k + 1)) → ∀ l6 : AV, rs 1066 67 [vR 10 0, vR 14 a, vI (f : Int), vI (l.length : Int), vI (b01 (r ∈ l.take k)), vI (k : Int), vI ((f + 3 * k : Nat) : Int)] [vI v] (SX q, C, (J, M, T)) = rs 1066 6 [vR 10 0, vR 14 a, vI (f : Int), vI (l.length : Int), vI (b01 (r ∈ l.take (k + 1))), vI ((k + 1 : Nat) : Int), vU] [] (SX q, C, (J, M, T)) := fun v hv _ => by
      rw [hv]
      simp only [s1066_67, s1066_69, s1066_72, unJ_I, unJ_J, unJ_F, unJ_R, unJ_N, unJ_U, pushR_I, pushR_J, pushR_F, pushR_R, pushR_N, pushR_U, rfV_s, rfV_n, Option.bind_some, true_or, or_true, if_true, ek ()]
    rw [s1066_6]
    simp only [s1066_8, s1066_9, s1066_12, s1066_13, s1066_14, s1066_16, s1066_17, s1066_18, unJ_I, unJ_J, unJ_F, unJ_R, unJ_N, unJ_U, pushR_I, pushR_J, pushR_F, pushR_R, pushR_N, pushR_U, rfV_s, rfV_n, Option.bind_some, true_or, or_true, if_true, e3 (), ef ()]
    rw [if_neg (by omega)]
    simp only [s1066_20, unJ_I, unJ_J, unJ_F, unJ_R, unJ_N, unJ_U, pushR_I, pushR_J, pushR_F, pushR_R, pushR_N, pushR_U, rfV_s, rfV_n, Option.bind_some, true_or, or_true, if_true]
    rw [s1066_22]
    by_cases z : r ∈ l.take k
    · rw [if_neg (by rw [b01_0]; exact fun y => y z)]
      simp only [s1066_62, s1066_63, unJ_I, unJ_J, unJ_F, unJ_R, unJ_N, unJ_U, pushR_I, pushR_J, pushR_F, pushR_R, pushR_N, pushR_U, rfV_s, rfV_n, Option.bind_some, true_or, or_true, if_true]
      exact go 1 (b01_t (mem.mpr (Or.inl z))).symm vU
    · rw [if_pos (b01_0.mpr z)]
      simp only [s1066_25, s1066_26, s1066_28, unJ_I, unJ_J, unJ_F, unJ_R, unJ_N, unJ_U, pushR_I, pushR_J, pushR_F, pushR_R, pushR_N, pushR_U, rfV_s, rfV_n, Option.bind_some, true_or, or_true, if_true, Int.toNat_natCast]
      rw [if_pos (by omega)]
      simp only [s1066_29, s1066_30, s1066_33, unJ_I, unJ_J, unJ_F, unJ_R, unJ_N, unJ_U, pushR_I, pushR_J, pushR_F, pushR_R, pushR_N, pushR_U, rfV_s, rfV_n, Option.bind_some, true_or, or_true, if_true, h1, r1]
      by_cases c1 : (rg l k).1 = r.1
      · rw [if_pos c1]
        simp only [s1066_36, s1066_37, s1066_39, s1066_40, s1066_41, unJ_I, unJ_J, unJ_F, unJ_R, unJ_N, unJ_U, pushR_I, pushR_J, pushR_F, pushR_R, pushR_N, pushR_U, rfV_s, rfV_n, Option.bind_some, true_or, or_true, if_true, ef1 (), Int.toNat_natCast]
        rw [if_pos (by omega)]
        simp only [s1066_42, s1066_43, s1066_46, unJ_I, unJ_J, unJ_F, unJ_R, unJ_N, unJ_U, pushR_I, pushR_J, pushR_F, pushR_R, pushR_N, pushR_U, rfV_s, rfV_n, Option.bind_some, true_or, or_true, if_true, h2, r2]
        by_cases c2 : (rg l k).2.1 = r.2.1
        · rw [if_pos c2]
          simp only [s1066_49, s1066_50, s1066_52, s1066_53, s1066_54, unJ_I, unJ_J, unJ_F, unJ_R, unJ_N, unJ_U, pushR_I, pushR_J, pushR_F, pushR_R, pushR_N, pushR_U, rfV_s, rfV_n, Option.bind_some, true_or, or_true, if_true, ef2 (), Int.toNat_natCast]
          rw [if_pos (by omega)]
          simp only [s1066_55, s1066_56, s1066_59, unJ_I, unJ_J, unJ_F, unJ_R, unJ_N, unJ_U, pushR_I, pushR_J, pushR_F, pushR_R, pushR_N, pushR_U, rfV_s, rfV_n, Option.bind_some, true_or, or_true, if_true, h3, r3]
          by_cases c3 : (rg l k).2.2 = r.2.2
          · rw [if_pos c3]
            simp only [s1066_62, s1066_63, unJ_I, unJ_J, unJ_F, unJ_R, unJ_N, unJ_U, pushR_I, pushR_J, pushR_F, pushR_R, pushR_N, pushR_U, rfV_s, rfV_n, Option.bind_some, true_or, or_true, if_true]
            exact go 1 (b01_t (mem.mpr (Or.inr (Prod.ext c1.symm (Prod.ext c2.symm c3.symm))))).symm vU
          · rw [if_neg c3]
            simp only [s1066_66, unJ_I, unJ_J, unJ_F, unJ_R, unJ_N, unJ_U, pushR_I, pushR_J, pushR_F, pushR_R, pushR_N, pushR_U, rfV_s, rfV_n, Option.bind_some, true_or, or_true, if_true]
            exact go 0 (b01_f (fun y => by rcases mem.mp y with x | x; exact z x; exact c3 (by rw [x]))).symm vU
        · rw [if_neg c2]
          simp only [s1066_66, unJ_I, unJ_J, unJ_F, unJ_R, unJ_N, unJ_U, pushR_I, pushR_J, pushR_F, pushR_R, pushR_N, pushR_U, rfV_s, rfV_n, Option.bind_some, true_or, or_true, if_true]
          exact go 0 (b01_f (fun y => by rcases mem.mp y with x | x; exact z x; exact c2 (by rw [x]))).symm vU
      · rw [if_neg c1]
        simp only [s1066_66, unJ_I, unJ_J, unJ_F, unJ_R, unJ_N, unJ_U, pushR_I, pushR_J, pushR_F, pushR_R, pushR_N, pushR_U, rfV_s, rfV_n, Option.bind_some, true_or, or_true, if_true]
        exact go 0 (b01_f (fun y => by rcases mem.mp y with x | x; exact z x; exact c1 (by rw [x]))).symm vU)
  have e0 : rs 1066 0 [vR 10 0, vR 14 a, vI (f : Int), vI (l.length : Int), vU, vU, vU] [] (SX q, C, (J, M, T)) = rs 1066 6 [vR 10 0, vR 14 a, vI (f : Int), vI (l.length : Int), vI (b01 (r ∈ l.take 0)), vI ((0 : Nat) : Int), vU] [] (SX q, C, (J, M, T)) := by
    simp only [s1066_0, s1066_1, s1066_3, s1066_4, unJ_I, unJ_J, unJ_F, unJ_R, unJ_N, unJ_U, pushR_I, pushR_J, pushR_F, pushR_R, pushR_N, pushR_U, rfV_s, rfV_n, Option.bind_some, true_or, or_true, if_true]
    rw [b01_f (show ¬ r ∈ l.take 0 by simp)]
    rfl
  refine e0.trans (loop.trans ?_)
  rw [List.take_length, s1066_6]
  simp only [s1066_8, s1066_9, s1066_75, s1066_77, unJ_I, unJ_J, unJ_F, unJ_R, unJ_N, unJ_U, pushR_I, pushR_J, pushR_F, pushR_R, pushR_N, pushR_U, rfV_s, rfV_n, Option.bind_some, true_or, or_true, if_true]
  rw [if_pos (by omega), if_pos (by unfold b01; split <;> omega)]
end
