/-! THE MODEL: its small methods -/
theorem lm0 (n : Nat) : LX n 14 0 = 1422 := id rfl
theorem lm1 (n : Nat) : LX n 14 1 = 1422 := id rfl
theorem lm2 (n : Nat) : LX n 14 2 = 5688 := id rfl
theorem lm3 (n : Nat) : LX n 14 3 = 100 := id rfl
theorem lm4 (n : Nat) : LX n 14 4 = 24 := id rfl
theorem lm5 (n : Nat) : LX n 14 5 = 400 := id rfl
theorem lm6 (n : Nat) : LX n 14 6 = 400 := id rfl
theorem lm7 (n : Nat) : LX n 14 7 = 400 := id rfl
theorem lm8 (n : Nat) : LX n 14 8 = 400 := id rfl
theorem lm9 (n : Nat) : LX n 14 9 = 6 := id rfl
theorem lm10 (n : Nat) : LX n 14 10 = 8 := id rfl
theorem lm11 (n : Nat) : LX n 14 11 = 6 := id rfl
theorem jc_lt (x y : Int) : j_cmp x y < 0 ↔ x < y := by unfold j_cmp; split <;> (try split) <;> omega
theorem jc_gt (x y : Int) : 0 < j_cmp x y ↔ y < x := by unfold j_cmp; split <;> (try split) <;> omega
theorem c_in {μ : Mem} (v lo hi : Int) : rs 1002 0 [vJ v, vU, vJ lo, vU, vJ hi, vU] [] μ = some (vI (b01 (lo ≤ v ∧ v ≤ hi)), μ) := by
  simp only [s1002_0, s1002_1, s1002_2, s1002_3, s1002_6, s1002_7, s1002_9, s1002_10, s1002_13, s1002_14, s1002_17, s1002_18, unJ_I, unJ_J, unJ_F, unJ_R, unJ_N, unJ_U, pushR_I, pushR_J, pushR_F, pushR_R, pushR_N, pushR_U, rfV_s, rfV_n, Option.bind_some, true_or, or_true, if_true, jc_lt, jc_gt]
  unfold b01
  repeat' split
  all_goals first | rfl | (exfalso; omega)
/-- a row's places from off on are g's -/
def cpF (M : M2) (a : Nat) (g : Nat → Int) (off n : Nat) : M2 := fun r k => if r = a ∧ off ≤ k ∧ k < off + n then g (k - off) else M r k
theorem cpF_0 (M : M2) (a : Nat) (g : Nat → Int) (off : Nat) : cpF M a g off 0 = M := by
  funext r k
  exact if_neg (by omega)
theorem cpF_s (M : M2) (a : Nat) (g : Nat → Int) (off i : Nat) : up2 (cpF M a g off i) a (off + i) (g i) = cpF M a g off (i + 1) := by
  funext r k
  unfold up2 cpF
  by_cases h : r = a ∧ k = off + i
  · obtain ⟨rfl, rfl⟩ := h
    rw [if_pos ⟨rfl, rfl⟩, if_pos (by omega), show off + i - off = i by omega]
  · rw [if_neg h]
    by_cases h2 : r = a ∧ off ≤ k ∧ k < off + i
    · rw [if_pos h2, if_pos (by omega)]
    · rw [if_neg h2, if_neg (by omega)]
theorem cpF_in {M : M2} {a : Nat} {g : Nat → Int} {off n k : Nat} (h : k < n) : cpF M a g off n a (off + k) = g k := by
  unfold cpF
  rw [if_pos (by omega), show off + k - off = k by omega]
theorem cpF_no {M : M2} {a : Nat} {g : Nat → Int} {off n r k : Nat} (h : ¬ (r = a ∧ off ≤ k ∧ k < off + n)) : cpF M a g off n r k = M r k := if_neg h
section
variable (q : Nat × (Nat → Int)) {C : MC} {J M T : M2}
theorem c_mat {s w : Nat} (hs : s < 13) (hw : w < 14) : rs 1008 0 [vR 10 0, vI s, vI w] [] (SX q, C, (J, M, T)) = some (vI (M 0 (40 + 14 * s + w)), (SX q, C, (J, M, T))) := by
  have e1 : Unit → w32 (14 * (s : Int)) = 14 * s := fun _ => w32_id (by omega) (by omega)
  have e2 : Unit → w32 (40 + 14 * (s : Int)) = 40 + 14 * s := fun _ => w32_id (by omega) (by omega)
  have e3 : Unit → w32 (40 + 14 * (s : Int) + w) = ((40 + 14 * s + w : Nat) : Int) := fun _ => by rw [w32_id (by omega) (by omega)]; omega
  simp only [s1008_0, s1008_1, s1008_4, s1008_6, s1008_8, s1008_9, s1008_10, s1008_11, s1008_12, s1008_13, s1008_14, unJ_I, unJ_J, unJ_F, unJ_R, unJ_N, unJ_U, pushR_I, pushR_J, pushR_F, pushR_R, pushR_N, pushR_U, rfV_s, rfV_n, Option.bind_some, true_or, or_true, if_true, lm0, e1 (), e2 (), e3 (), Int.toNat_natCast]
  rw [if_pos (by omega)]
theorem c_mput {s w : Nat} (hs : s < 13) (hw : w < 14) (v : Int) : rs 1009 0 [vR 10 0, vI s, vI w, vI v] [] (SX q, C, (J, M, T)) = some (vU, (SX q, C, (J, up2 M 0 (40 + 14 * s + w) v, T))) := by
  have e1 : Unit → w32 (14 * (s : Int)) = 14 * s := fun _ => w32_id (by omega) (by omega)
  have e2 : Unit → w32 (40 + 14 * (s : Int)) = 40 + 14 * s := fun _ => w32_id (by omega) (by omega)
  have e3 : Unit → w32 (40 + 14 * (s : Int) + w) = ((40 + 14 * s + w : Nat) : Int) := fun _ => by rw [w32_id (by omega) (by omega)]; omega
  simp only [s1009_0, s1009_1, s1009_4, s1009_6, s1009_8, s1009_9, s1009_10, s1009_11, s1009_12, s1009_13, s1009_14, s1009_15, unJ_I, unJ_J, unJ_F, unJ_R, unJ_N, unJ_U, pushR_I, pushR_J, pushR_F, pushR_R, pushR_N, pushR_U, rfV_s, rfV_n, Option.bind_some, true_or, or_true, if_true, lm0, e1 (), e2 (), e3 (), Int.toNat_natCast]
  rw [if_pos (by omega)]
theorem c_mcell {s w : Nat} (hs : s < 400) (hw : w < 3) : rs 1010 0 [vR 10 0, vI s, vI w] [] (SX q, C, (J, M, T)) = some (vI (M 0 (222 + 3 * s + w)), (SX q, C, (J, M, T))) := by
  have e1 : Unit → w32 (3 * (s : Int)) = 3 * s := fun _ => w32_id (by omega) (by omega)
  have e2 : Unit → w32 (222 + 3 * (s : Int)) = 222 + 3 * s := fun _ => w32_id (by omega) (by omega)
  have e3 : Unit → w32 (222 + 3 * (s : Int) + w) = ((222 + 3 * s + w : Nat) : Int) := fun _ => by rw [w32_id (by omega) (by omega)]; omega
  simp only [s1010_0, s1010_1, s1010_4, s1010_7, s1010_8, s1010_9, s1010_10, s1010_11, s1010_12, s1010_13, s1010_14, unJ_I, unJ_J, unJ_F, unJ_R, unJ_N, unJ_U, pushR_I, pushR_J, pushR_F, pushR_R, pushR_N, pushR_U, rfV_s, rfV_n, Option.bind_some, true_or, or_true, if_true, lm0, e1 (), e2 (), e3 (), Int.toNat_natCast]
  rw [if_pos (by omega)]
theorem c_lays : rs 1003 0 [vR 10 0, vU] [] (SX q, C, (J, M, T)) = some (vU, (SX q, C, (J, cpF M 1 (M 0) 0 1422, T))) := by
  have loop := rs_loop (m := 1003) (pc := 2) (fun i => [vR 10 0, vI (i : Int)]) (fun i => (SX q, C, (J, cpF M 1 (M 0) 0 i, T))) 1422 (fun i hi => by
    have ei : Unit → w32 ((i : Int) + 1) = ((i + 1 : Nat) : Int) := fun _ => by rw [w32_id (by omega) (by omega)]; omega
    have rd : cpF M 1 (M 0) 0 i 0 i = M 0 i := cpF_no (by omega)
    have st := cpF_s M 1 (M 0) 0 i
    rw [Nat.zero_add] at st
    rw [s1003_2]
    simp only [s1003_3, s1003_6, s1003_9, s1003_10, s1003_13, s1003_14, s1003_15, s1003_18, s1003_19, s1003_20, s1003_21, s1003_24, unJ_I, unJ_J, unJ_F, unJ_R, unJ_N, unJ_U, pushR_I, pushR_J, pushR_F, pushR_R, pushR_N, pushR_U, rfV_s, rfV_n, Option.bind_some, true_or, or_true, if_true, lm0, lm1, Int.toNat_natCast, ei (), rd]
    rw [if_neg (by omega), if_pos (by omega), if_pos (by omega), st])
  simp only [s1003_0, s1003_1, unJ_I, unJ_J, unJ_F, unJ_R, unJ_N, unJ_U, pushR_I, pushR_J, pushR_F, pushR_R, pushR_N, pushR_U, rfV_s, rfV_n, Option.bind_some, true_or, or_true, if_true]
  have e0 : rs 1003 2 [vR 10 0, vI 0] [] (SX q, C, (J, M, T)) = rs 1003 2 [vR 10 0, vI ((0 : Nat) : Int)] [] (SX q, C, (J, cpF M 1 (M 0) 0 0, T)) := by rw [cpF_0]; rfl
  refine e0.trans (loop.trans ?_)
  rw [s1003_2]
  simp only [s1003_3, s1003_6, s1003_27, unJ_I, unJ_J, unJ_F, unJ_R, unJ_N, unJ_U, pushR_I, pushR_J, pushR_F, pushR_R, pushR_N, pushR_U, rfV_s, rfV_n, Option.bind_some, true_or, or_true, if_true]
  rw [if_pos (by omega)]
theorem c_takesB : rs 1004 0 [vR 10 0, vU] [] (SX q, C, (J, M, T)) = some (vU, (SX q, C, (J, cpF M 0 (M 1) 0 1422, T))) := by
  have loop := rs_loop (m := 1004) (pc := 2) (fun i => [vR 10 0, vI (i : Int)]) (fun i => (SX q, C, (J, cpF M 0 (M 1) 0 i, T))) 1422 (fun i hi => by
    have ei : Unit → w32 ((i : Int) + 1) = ((i + 1 : Nat) : Int) := fun _ => by rw [w32_id (by omega) (by omega)]; omega
    have rd : cpF M 0 (M 1) 0 i 1 i = M 1 i := cpF_no (by omega)
    have st := cpF_s M 0 (M 1) 0 i
    rw [Nat.zero_add] at st
    rw [s1004_2]
    simp only [s1004_3, s1004_6, s1004_9, s1004_10, s1004_13, s1004_14, s1004_15, s1004_18, s1004_19, s1004_20, s1004_21, s1004_24, unJ_I, unJ_J, unJ_F, unJ_R, unJ_N, unJ_U, pushR_I, pushR_J, pushR_F, pushR_R, pushR_N, pushR_U, rfV_s, rfV_n, Option.bind_some, true_or, or_true, if_true, lm0, lm1, Int.toNat_natCast, ei (), rd]
    rw [if_neg (by omega), if_pos (by omega), if_pos (by omega), st])
  simp only [s1004_0, s1004_1, unJ_I, unJ_J, unJ_F, unJ_R, unJ_N, unJ_U, pushR_I, pushR_J, pushR_F, pushR_R, pushR_N, pushR_U, rfV_s, rfV_n, Option.bind_some, true_or, or_true, if_true]
  have e0 : rs 1004 2 [vR 10 0, vI 0] [] (SX q, C, (J, M, T)) = rs 1004 2 [vR 10 0, vI ((0 : Nat) : Int)] [] (SX q, C, (J, cpF M 0 (M 1) 0 0, T)) := by rw [cpF_0]; rfl
  refine e0.trans (loop.trans ?_)
  rw [s1004_2]
  simp only [s1004_3, s1004_6, s1004_27, unJ_I, unJ_J, unJ_F, unJ_R, unJ_N, unJ_U, pushR_I, pushR_J, pushR_F, pushR_R, pushR_N, pushR_U, rfV_s, rfV_n, Option.bind_some, true_or, or_true, if_true]
  rw [if_pos (by omega)]
/-- the row aside is put behind the states -/
theorem keep2 (l1 : AV) {n : Nat} (hn : n < 4) (hJ : J 203 0 = n) : rs 1005 49 [vR 10 0, l1] [] (SX q, C, (J, M, T)) = some (vU, (SX q, C, (up2 J 203 0 ((n + 1 : Nat) : Int), cpF M 2 (M 1) (1422 * n) 1422, T))) := by
  have en : Unit → w32 ((n : Int) * 1422) = 1422 * n := fun _ => by rw [w32_id (by omega) (by omega)]; omega
  have loop := rs_loop (m := 1005) (pc := 51) (fun i => [vR 10 0, vI (i : Int)]) (fun i => (SX q, C, (J, cpF M 2 (M 1) (1422 * n) i, T))) 1422 (fun i hi => by
    have ei : Unit → w32 ((i : Int) + 1) = ((i + 1 : Nat) : Int) := fun _ => by rw [w32_id (by omega) (by omega)]; omega
    have es : Unit → w32 (1422 * (n : Int) + i) = ((1422 * n + i : Nat) : Int) := fun _ => by rw [w32_id (by omega) (by omega)]; omega
    have rd : cpF M 2 (M 1) (1422 * n) i 1 i = M 1 i := cpF_no (by omega)
    have st := cpF_s M 2 (M 1) (1422 * n) i
    rw [s1005_51]
    simp only [s1005_52, s1005_55, s1005_58, s1005_59, s1005_62, s1005_63, s1005_66, s1005_69, s1005_70, s1005_71, s1005_72, s1005_73, s1005_76, s1005_77, s1005_78, s1005_79, s1005_82, unJ_I, unJ_J, unJ_F, unJ_R, unJ_N, unJ_U, pushR_I, pushR_J, pushR_F, pushR_R, pushR_N, pushR_U, rfV_s, rfV_n, Option.bind_some, true_or, or_true, if_true, lm2, lm1, Int.toNat_natCast, ei (), hJ, en (), es (), rd]
    rw [if_neg (by omega), if_pos (by omega), if_pos (by omega), st])
  simp only [s1005_49, s1005_50, unJ_I, unJ_J, unJ_F, unJ_R, unJ_N, unJ_U, pushR_I, pushR_J, pushR_F, pushR_R, pushR_N, pushR_U, rfV_s, rfV_n, Option.bind_some, true_or, or_true, if_true]
  have e0 : rs 1005 51 [vR 10 0, vI 0] [] (SX q, C, (J, M, T)) = rs 1005 51 [vR 10 0, vI ((0 : Nat) : Int)] [] (SX q, C, (J, cpF M 2 (M 1) (1422 * n) 0, T)) := by rw [cpF_0]; rfl
  have e1 : Unit → w32 ((n : Int) + 1) = ((n + 1 : Nat) : Int) := fun _ => by rw [w32_id (by omega) (by omega)]; omega
  refine e0.trans (loop.trans ?_)
  rw [s1005_51]
  simp only [s1005_52, s1005_55, s1005_85, s1005_86, s1005_86r, s1005_87, s1005_90, s1005_91, s1005_92, s1005_95, unJ_I, unJ_J, unJ_F, unJ_R, unJ_N, unJ_U, pushR_I, pushR_J, pushR_F, pushR_R, pushR_N, pushR_U, rfV_s, rfV_n, Option.bind_some, true_or, or_true, if_true, hJ, e1 ()]
  rw [if_pos (by omega)]
/-- keepsAside -/
theorem c_keeps {n : Nat} (hn : n ≤ 4) (hJ : J 203 0 = n) : ∃ J' M', rs 1005 0 [vR 10 0, vU] [] (SX q, C, (J, M, T)) = some (vU, (SX q, C, (J', M', T))) ∧ J' 203 0 = (if n = 4 then 4 else ((n + 1 : Nat) : Int)) ∧ (∀ f y, f ≠ 203 → J' f y = J f y) ∧ (∀ r, r ≠ 2 → M' r = M r) ∧
    (∀ i k, i < (if n = 4 then 3 else n) → k < 1422 → M' 2 (1422 * i + k) = M 2 (1422 * (if n = 4 then i + 1 else i) + k)) ∧ ∀ k, k < 1422 → M' 2 (1422 * (if n = 4 then 3 else n) + k) = M 1 k := by
  by_cases h4 : n = 4
  · subst h4
    have loop := rs_loop (m := 1005) (pc := 10) (fun i => [vR 10 0, vI (i : Int)]) (fun i => (SX q, C, (J, cpF M 2 (fun k => M 2 (k + 1422)) 0 i, T))) 4266 (fun i hi => by
      have ei : Unit → w32 ((i : Int) + 1) = ((i + 1 : Nat) : Int) := fun _ => by rw [w32_id (by omega) (by omega)]; omega
      have es : Unit → w32 ((i : Int) + 1422) = ((i + 1422 : Nat) : Int) := fun _ => by rw [w32_id (by omega) (by omega)]; omega
      have rd : cpF M 2 (fun k => M 2 (k + 1422)) 0 i 2 (i + 1422) = M 2 (i + 1422) := cpF_no (by omega)
      have st := cpF_s M 2 (fun k => M 2 (k + 1422)) 0 i
      rw [Nat.zero_add] at st
      rw [s1005_10]
      simp only [s1005_11, s1005_14, s1005_17, s1005_18, s1005_21, s1005_22, s1005_23, s1005_26, s1005_27, s1005_30, s1005_31, s1005_32, s1005_33, s1005_36, unJ_I, unJ_J, unJ_F, unJ_R, unJ_N, unJ_U, pushR_I, pushR_J, pushR_F, pushR_R, pushR_N, pushR_U, rfV_s, rfV_n, Option.bind_some, true_or, or_true, if_true, lm2, Int.toNat_natCast, ei (), es (), rd]
      rw [if_neg (by omega), if_pos (by omega), if_pos (by omega), st])
    have e0 : rs 1005 10 [vR 10 0, vI 0] [] (SX q, C, (J, M, T)) = rs 1005 10 [vR 10 0, vI ((0 : Nat) : Int)] [] (SX q, C, (J, cpF M 2 (fun k => M 2 (k + 1422)) 0 0, T)) := by rw [cpF_0]; rfl
    have e1 : Unit → w32 ((4 : Int) - 1) = ((3 : Nat) : Int) := fun _ => by rw [w32_id (by omega) (by omega)]; rfl
    have hJ' : J 203 0 = 4 := hJ
    have k2 := keep2 q (vI ((4266 : Nat) : Int)) (C := C) (J := up2 J 203 0 ((3 : Nat) : Int)) (M := cpF M 2 (fun k => M 2 (k + 1422)) 0 4266) (T := T) (n := 3) (by omega) up2_eq
    refine ⟨up2 (up2 J 203 0 ((3 : Nat) : Int)) 203 0 ((3 + 1 : Nat) : Int), cpF (cpF M 2 (fun k => M 2 (k + 1422)) 0 4266) 2 (cpF M 2 (fun k => M 2 (k + 1422)) 0 4266 1) (1422 * 3) 1422, ?_, ?_, fun f y z => (up2_ne (by omega)).trans (up2_ne (by omega)), fun r hr => ?_, fun i k hi hk => ?_, fun k hk => ?_⟩
    · simp only [s1005_0, s1005_1, s1005_4, s1005_5, s1005_8, s1005_9, unJ_I, unJ_J, unJ_F, unJ_R, unJ_N, unJ_U, pushR_I, pushR_J, pushR_F, pushR_R, pushR_N, pushR_U, rfV_s, rfV_n, Option.bind_some, true_or, or_true, if_true, hJ']
      refine e0.trans (loop.trans ?_)
      rw [s1005_10]
      simp only [s1005_11, s1005_14, s1005_39, s1005_40, s1005_40r, s1005_41, s1005_44, s1005_45, s1005_46, unJ_I, unJ_J, unJ_F, unJ_R, unJ_N, unJ_U, pushR_I, pushR_J, pushR_F, pushR_R, pushR_N, pushR_U, rfV_s, rfV_n, Option.bind_some, true_or, or_true, if_true, hJ', e1 ()]
      rw [if_pos (by omega)]
      exact k2
    · rw [up2_eq]; rfl
    · funext k
      rw [cpF_no (by omega), cpF_no (by omega)]
    · simp only [if_pos] at hi
      rw [cpF_no (by omega), if_pos rfl]
      have := cpF_in (M := M) (a := 2) (g := fun k => M 2 (k + 1422)) (off := 0) (n := 4266) (k := 1422 * i + k) (by omega)
      rw [Nat.zero_add] at this
      rw [this]
      show M 2 (1422 * i + k + 1422) = _
      congr 1; omega
    · rw [if_pos rfl, cpF_in hk, cpF_no (by omega)]
  · have k2 := keep2 q vU (C := C) (J := J) (M := M) (T := T) (n := n) (by omega) hJ
    refine ⟨up2 J 203 0 ((n + 1 : Nat) : Int), cpF M 2 (M 1) (1422 * n) 1422, ?_, ?_, fun f y z => up2_ne (by omega), fun r hr => ?_, fun i k hi hk => ?_, fun k hk => ?_⟩
    · simp only [s1005_0, s1005_1, s1005_4, s1005_5, unJ_I, unJ_J, unJ_F, unJ_R, unJ_N, unJ_U, pushR_I, pushR_J, pushR_F, pushR_R, pushR_N, pushR_U, rfV_s, rfV_n, Option.bind_some, true_or, or_true, if_true, hJ]
      rw [if_neg (by omega)]
      exact k2
    · rw [up2_eq, if_neg h4]
    · funext k
      rw [cpF_no (by omega)]
    · rw [if_neg h4] at hi
      rw [if_neg h4, cpF_no (by omega)]
    · rw [if_neg h4, cpF_in hk]
end
