/-! THE LAW'S isBottled -/
theorem acB_v (a : Nat → Int) (n z r : Int) : acB a n z r 3 = w32 (a 3 + n) ∧ acB a n z r 5 = w32 (a 5 + (fulU n z - brkU n z r)) ∧ acB a n z r 6 = w32 (a 6 + brkU n z r) ∧ acB a n z r 7 = w32 (a 7 + n * 100 % z) := by
  unfold acB adA
  refine ⟨?_, ?_, ?_, ?_⟩
  · rw [sup_n (by decide), sup_n (by decide), sup_n (by decide), sup_e]
  · rw [sup_n (by decide), sup_n (by decide), sup_e, sup_n (by decide)]
  · rw [sup_n (by decide), sup_e, sup_n (by decide), sup_n (by decide)]
  · rw [sup_e, sup_n (by decide), sup_n (by decide), sup_n (by decide)]
section
variable {q : Nat × (Nat → Int)} {μ : Mem} {X : XS} {T B : Int}
theorem p_bottled (h : Bl q 0 μ X) (hI : Inv T B X) (hB : B ≤ 900000000) {c : Int} (hc : 0 ≤ c ∧ c < 2147483648) :
    ∃ μ' X', rs 1606 0 [vR 9 0, vI c, vU, vU, vU, vU, vU, vU, vU, vU, vU, vU, vU, vU, vU] [] μ = some (vI 1, μ') ∧ Bl q 0 μ' X' ∧ Inv T (B + 1000000) X' ∧ Fra 0 μ μ' ∧ Still μ μ' := by
  obtain ⟨ho, hy, ha, hr, hx⟩ := hI
  have c0 := p_count (k := 0) (by omega) h ho
  have a0 := p_account (k := 0) (by omega) h ho
  have l0 := p_lot (k := 0) (by omega) h ho
  obtain ⟨l, el⟩ : ∃ l, l = Int.tmod c X.1.2.2.2.2 := ⟨_, rfl⟩
  have hl : 0 ≤ l := by rw [el]; exact (tmod_r hc.1 hx).1
  have run0 : rs 1606 0 [vR 9 0, vI c, vU, vU, vU, vU, vU, vU, vU, vU, vU, vU, vU, vU, vU] [] μ = rs 1606 17 [vR 9 0, vI c, vI l, vI (aLot X l 0), vU, vU, vU, vU, vU, vU, vU, vU, vU, vU, vU] [vI (aLot X l 0)] μ := by
    simp only [s1606_0, s1606_1, s1606_2, s1606_4, unJ_I, unJ_J, unJ_F, unJ_R, unJ_N, unJ_U, pushR_I, pushR_J, pushR_F, pushR_R, pushR_N, pushR_U, rfV_s, rfV_n, Option.bind_some, true_or, or_true, if_true, c0, cnt_6, Option.bind_some]
    rw [s1606_7, if_neg (by omega), ← el]
    simp only [s1606_8, s1606_9, s1606_10, s1606_11, s1606_12, s1606_15, s1606_16, unJ_I, unJ_J, unJ_F, unJ_R, unJ_N, unJ_U, pushR_I, pushR_J, pushR_F, pushR_R, pushR_N, pushR_U, rfV_s, rfV_n, Option.bind_some, true_or, or_true, if_true, l0, Option.bind_some]
  by_cases hf : fnd X.1.1 l < X.1.1.length
  case neg =>
    have v0 : aLot X l 0 = -4 := by
      unfold aLot; rw [if_pos (by omega), if_neg hf]
    have ab : aBottle X l 1 75 = (-4, X) := by
      unfold aBottle; rw [if_pos (by omega), if_neg hf]
    obtain ⟨μ1, e1, b1, f1, s1⟩ := p_bottle (k := 0) (by omega) h ho l 1 75
    rw [ab] at e1 b1
    refine ⟨μ1, X, ?_, b1, ⟨ho, hy, ha.wk (by omega), hr, hx⟩, f1, s1⟩
    rw [run0, v0, s1606_17, if_neg (by decide)]
    simp only [s1606_20, s1606_21, s1606_22, s1606_23, s1606_25, s1606_28, unJ_I, unJ_J, unJ_F, unJ_R, unJ_N, unJ_U, pushR_I, pushR_J, pushR_F, pushR_R, pushR_N, pushR_U, rfV_s, rfV_n, Option.bind_some, true_or, or_true, if_true, e1, Option.bind_some]
    rw [s1606_30, if_pos rfl]
    simp only [s1606_33, s1606_34, s1606_38, unJ_I, unJ_J, unJ_F, unJ_R, unJ_N, unJ_U, pushR_I, pushR_J, pushR_F, pushR_R, pushR_N, pushR_U, rfV_s, rfV_n, Option.bind_some, true_or, or_true, if_true]
  obtain ⟨H, eH⟩ : ∃ H, H = gsum (lt X.1.1 (fnd X.1.1 l)).2 := ⟨_, rfl⟩
  have lo := ho.lot hf
  have hH : 1 ≤ H ∧ H ≤ 10000 := by omega
  have v0 : aLot X l 0 = H := by
    unfold aLot; rw [if_pos (by omega), if_pos hf, eH]; rfl
  obtain ⟨r, er⟩ : ∃ r, r = Int.tmod (i_shr c 4) 30 := ⟨_, rfl⟩
  obtain ⟨z, ez⟩ : ∃ z, z = w32 (10 + Int.tmod (i_shr c 5) 291) := ⟨_, rfl⟩
  obtain ⟨n, en⟩ : ∃ n, n = w32 (1 + Int.tmod (i_shr c 6) H) := ⟨_, rfl⟩
  have hr0 := tmod_r (shr_nn hc 4).1 (n := 30) (by decide)
  rw [← er] at hr0
  have hz0 := tmod_r (shr_nn hc 5).1 (n := 291) (by decide)
  have hn0 := tmod_r (shr_nn hc 6).1 (n := H) (by omega)
  have hz : 10 ≤ z ∧ z ≤ 300 := by rw [ez, w32_id (by omega) (by omega)]; omega
  have hn : 1 ≤ n ∧ n ≤ H := by rw [en, w32_id (by omega) (by omega)]; omega
  have as : aSet X 3 r = (X.1.2.2.1 3, chg X (X.1.1, X.1.2.1, sup X.1.2.2.1 3 r, X.1.2.2.2)) := by
    unfold aSet
    rw [if_pos ⟨by omega, by omega, by show r ≤ 1000; omega⟩]
    rfl
  obtain ⟨μ1, e1, b1, f1, s1⟩ := p_set (k := 0) (by omega) h ho 3 r
  have ok1 := ok_set ho 3 r
  have ky1 := ky_set hy 3 r
  rw [as] at e1 b1 ok1 ky1
  obtain ⟨X1, eX⟩ : ∃ X1, X1 = chg X (X.1.1, X.1.2.1, sup X.1.2.2.1 3 r, X.1.2.2.2) := ⟨_, rfl⟩
  have g1 : X1.1.1 = X.1.1 := by rw [eX]; rfl
  have g2 : X1.1.2.1 = [] := by rw [eX]; exact hr
  have g3 : X1.1.2.2.1 3 = r := by rw [eX]; show sup X.1.2.2.1 3 r 3 = r; exact sup_e _ _ _
  have g4 : X1.1.2.2.2.1 = X.1.2.2.2.1 := by rw [eX]; rfl
  have g5 : X1.1.2.2.2.2 = X.1.2.2.2.2 := by rw [eX]; rfl
  have ha1 : accO B X1.1 := by
    rw [eX]
    exact accO.same (ls := X.1.1) (r := X.1.2.1) (s := X.1.2.2.1) (a := X.1.2.2.2.1) (nx := X.1.2.2.2.2) ha rfl
  have e1' : rs 919 0 [vR 9 0, vI 3, vI r, vU] [] μ = some (vI (X.1.2.2.1 3), μ1) := e1
  replace b1 : Bl q 0 μ1 X1 := by rw [eX]; exact b1
  replace ok1 : okX T X1 := by rw [eX]; exact ok1
  replace ky1 : okY X1 := by rw [eX]; exact ky1
  have hf1 : fnd X1.1.1 l < X1.1.1.length := by rw [g1]; exact hf
  have hg1 : gsum (lt X1.1.1 (fnd X1.1.1 l)).2 = H := by rw [g1, eH]
  have q3 : aAccount X 3 = X.1.2.2.2.1 3 := rfl
  have q5 : aAccount X 5 = X.1.2.2.2.1 5 := rfl
  have q6 : aAccount X 6 = X.1.2.2.2.1 6 := rfl
  have q7 : aAccount X 7 = X.1.2.2.2.1 7 := rfl
  have run1 : rs 1606 17 [vR 9 0, vI c, vI l, vI (aLot X l 0), vU, vU, vU, vU, vU, vU, vU, vU, vU, vU, vU] [vI (aLot X l 0)] μ = rs 1606 107 [vR 9 0, vI c, vI l, vI H, vI r, vI z, vI n, vI (X.1.2.2.2.1 3), vI (X.1.2.2.2.1 5), vI (X.1.2.2.2.1 6), vI (X.1.2.2.2.1 7), vU, vU, vU, vU] [] μ1 := by
    rw [v0, s1606_17, if_pos (by omega)]
    simp only [s1606_39, s1606_40, s1606_41, s1606_42, unJ_I, unJ_J, unJ_F, unJ_R, unJ_N, unJ_U, pushR_I, pushR_J, pushR_F, pushR_R, pushR_N, pushR_U, rfV_s, rfV_n, Option.bind_some, true_or, or_true, if_true]
    rw [s1606_44, if_neg (by decide), ← er]
    simp only [s1606_45, s1606_47, s1606_49, s1606_50, s1606_51, s1606_52, unJ_I, unJ_J, unJ_F, unJ_R, unJ_N, unJ_U, pushR_I, pushR_J, pushR_F, pushR_R, pushR_N, pushR_U, rfV_s, rfV_n, Option.bind_some, true_or, or_true, if_true]
    rw [s1606_55, if_neg (by decide)]
    simp only [s1606_56, s1606_57, s1606_59, s1606_60, s1606_61, s1606_63, s1606_64, unJ_I, unJ_J, unJ_F, unJ_R, unJ_N, unJ_U, pushR_I, pushR_J, pushR_F, pushR_R, pushR_N, pushR_U, rfV_s, rfV_n, Option.bind_some, true_or, or_true, if_true, ← ez]
    rw [s1606_65, if_neg (by omega)]
    simp only [s1606_66, s1606_67, s1606_69, s1606_70, s1606_71, unJ_I, unJ_J, unJ_F, unJ_R, unJ_N, unJ_U, pushR_I, pushR_J, pushR_F, pushR_R, pushR_N, pushR_U, rfV_s, rfV_n, Option.bind_some, true_or, or_true, if_true, ← en, a0, q3, Option.bind_some]
    simp only [s1606_74, s1606_76, s1606_77, s1606_78, unJ_I, unJ_J, unJ_F, unJ_R, unJ_N, unJ_U, pushR_I, pushR_J, pushR_F, pushR_R, pushR_N, pushR_U, rfV_s, rfV_n, Option.bind_some, true_or, or_true, if_true, a0, q5, Option.bind_some]
    simp only [s1606_81, s1606_83, s1606_84, s1606_86, unJ_I, unJ_J, unJ_F, unJ_R, unJ_N, unJ_U, pushR_I, pushR_J, pushR_F, pushR_R, pushR_N, pushR_U, rfV_s, rfV_n, Option.bind_some, true_or, or_true, if_true, a0, q6, Option.bind_some]
    simp only [s1606_89, s1606_91, s1606_92, s1606_94, unJ_I, unJ_J, unJ_F, unJ_R, unJ_N, unJ_U, pushR_I, pushR_J, pushR_F, pushR_R, pushR_N, pushR_U, rfV_s, rfV_n, Option.bind_some, true_or, or_true, if_true, a0, q7, Option.bind_some]
    simp only [s1606_97, s1606_99, s1606_100, s1606_101, s1606_103, unJ_I, unJ_J, unJ_F, unJ_R, unJ_N, unJ_U, pushR_I, pushR_J, pushR_F, pushR_R, pushR_N, pushR_U, rfV_s, rfV_n, Option.bind_some, true_or, or_true, if_true, e1', Option.bind_some]
    simp only [s1606_106]
  obtain ⟨μ2, run2, b2, f2, s2⟩ : ∃ μ2, rs 1606 107 [vR 9 0, vI c, vI l, vI H, vI r, vI z, vI n, vI (X.1.2.2.2.1 3), vI (X.1.2.2.2.1 5), vI (X.1.2.2.2.1 6), vI (X.1.2.2.2.1 7), vU, vU, vU, vU] [] μ1 = rs 1606 134 [vR 9 0, vI c, vI l, vI H, vI r, vI z, vI n, vI (X.1.2.2.2.1 3), vI (X.1.2.2.2.1 5), vI (X.1.2.2.2.1 6), vI (X.1.2.2.2.1 7), vU, vU, vU, vU] [vI 1] μ2 ∧ Bl q 0 μ2 X1 ∧ Fra 0 μ1 μ2 ∧ Still μ1 μ2 := by
    by_cases y : H = 10000
    · refine ⟨μ1, ?_, b1, Fra.rf _ _, rfl, rfl⟩
      simp only [s1606_107, s1606_108, unJ_I, unJ_J, unJ_F, unJ_R, unJ_N, unJ_U, pushR_I, pushR_J, pushR_F, pushR_R, pushR_N, pushR_U, rfV_s, rfV_n, Option.bind_some, true_or, or_true, if_true]
      rw [s1606_111, if_pos y]
      simp only [s1606_129, s1606_130, unJ_I, unJ_J, unJ_F, unJ_R, unJ_N, unJ_U, pushR_I, pushR_J, pushR_F, pushR_R, pushR_N, pushR_U, rfV_s, rfV_n, Option.bind_some, true_or, or_true, if_true]
    · obtain ⟨μ2, e2, b2, f2, s2⟩ := p_bottle (k := 0) (by omega) b1 ok1 l (H + 1) z
      have ab : aBottle X1 l (H + 1) z = (-2, X1) := by
        unfold aBottle
        rw [if_pos (by omega), if_pos hf1, if_neg (fun w => by have := w.1; omega)]
      rw [ab] at e2 b2
      have w1 : w32 (H + 1) = H + 1 := w32_id (by omega) (by omega)
      refine ⟨μ2, ?_, b2, f2, s2⟩
      simp only [s1606_107, s1606_108, unJ_I, unJ_J, unJ_F, unJ_R, unJ_N, unJ_U, pushR_I, pushR_J, pushR_F, pushR_R, pushR_N, pushR_U, rfV_s, rfV_n, Option.bind_some, true_or, or_true, if_true]
      rw [s1606_111, if_neg y]
      simp only [s1606_114, s1606_115, s1606_116, s1606_117, s1606_118, s1606_119, s1606_121, s1606_124, unJ_I, unJ_J, unJ_F, unJ_R, unJ_N, unJ_U, pushR_I, pushR_J, pushR_F, pushR_R, pushR_N, pushR_U, rfV_s, rfV_n, Option.bind_some, true_or, or_true, if_true, w1, e2, Option.bind_some]
      rw [s1606_126, if_pos rfl]
      simp only [s1606_129, s1606_130, unJ_I, unJ_J, unJ_F, unJ_R, unJ_N, unJ_U, pushR_I, pushR_J, pushR_F, pushR_R, pushR_N, pushR_U, rfV_s, rfV_n, Option.bind_some, true_or, or_true, if_true]
  have ful := ful_r (n := n) (z := z) (by omega) hz
  have brk := brk_r (n := n) (z := z) (r := r) ful.1
  have w100 : w32 (n * 100) = n * 100 := w32_id (by omega) (by omega)
  have LL : rs 1606 149 [vR 9 0, vU, vI l, vI H, vI r, vI z, vI n, vI (X.1.2.2.2.1 3), vI (X.1.2.2.2.1 5), vI (X.1.2.2.2.1 6), vI (X.1.2.2.2.1 7), vI 1, vI ((0 : Nat) : Int), vI (badU r 0), vI (n * 100 - ((0 : Nat) : Int) * z)] [] μ2 = rs 1606 149 [vR 9 0, vU, vI l, vI H, vI r, vI z, vI n, vI (X.1.2.2.2.1 3), vI (X.1.2.2.2.1 5), vI (X.1.2.2.2.1 6), vI (X.1.2.2.2.1 7), vI 1, vI (((fulU n z).toNat : Nat) : Int), vI (badU r (fulU n z).toNat), vI (n * 100 - (((fulU n z).toNat : Nat) : Int) * z)] [] μ2 := by
    refine rs_loop (fun i => [vR 9 0, vU, vI l, vI H, vI r, vI z, vI n, vI (X.1.2.2.2.1 3), vI (X.1.2.2.2.1 5), vI (X.1.2.2.2.1 6), vI (X.1.2.2.2.1 7), vI 1, vI (i : Int), vI (badU r i), vI (n * 100 - (i : Int) * z)]) (fun _ => μ2) (fulU n z).toNat (fun i hi => ?_)
    have m1 : ((i : Int) + 1) * z ≤ fulU n z * z := Int.mul_le_mul_of_nonneg_right (by omega) (by omega)
    rw [Int.add_mul, Int.one_mul] at m1
    have m2 : 0 ≤ (i : Int) * z := Int.mul_nonneg (by omega) (by omega)
    have m3 : w32 (n * 100 - (i : Int) * z - z) = n * 100 - ((i + 1 : Nat) : Int) * z := by
      rw [show ((i + 1 : Nat) : Int) = (i : Int) + 1 by omega, Int.add_mul, Int.one_mul, w32_id (by omega) (by omega)]
      omega
    have bi := badU_r (r := r) i
    have bs := badU_r (r := r) (i + 1)
    rw [s1606_149]
    simp only [s1606_151, unJ_I, unJ_J, unJ_F, unJ_R, unJ_N, unJ_U, pushR_I, pushR_J, pushR_F, pushR_R, pushR_N, pushR_U, rfV_s, rfV_n, Option.bind_some, true_or, or_true, if_true]
    rw [s1606_153, if_neg (show ¬ n * 100 - (i : Int) * z < z by omega)]
    simp only [s1606_156, s1606_159, s1606_161, unJ_I, unJ_J, unJ_F, unJ_R, unJ_N, unJ_U, pushR_I, pushR_J, pushR_F, pushR_R, pushR_N, pushR_U, rfV_s, rfV_n, Option.bind_some, true_or, or_true, if_true]
    rw [w32_s hi (by omega), s1606_163]
    by_cases y : r ≤ 0
    · have eb : badU r (i + 1) = badU r i := by
        unfold badU; rw [if_neg (by omega), if_neg (by omega)]
      have eb2 : w32 (badU r i + 0) = badU r (i + 1) := by rw [eb, Int.add_zero]; exact w32_id (by omega) (by omega)
      rw [if_pos y]
      simp only [s1606_178, s1606_179, s1606_180, s1606_182, s1606_184, s1606_186, s1606_187, s1606_189, unJ_I, unJ_J, unJ_F, unJ_R, unJ_N, unJ_U, pushR_I, pushR_J, pushR_F, pushR_R, pushR_N, pushR_U, rfV_s, rfV_n, Option.bind_some, true_or, or_true, if_true, eb2, m3]
    · have dv := div_step (r := r) (by omega) i
      have eb : badU r (i + 1) = badU r i + (if ((i + 1 : Nat) : Int) % r = 0 then 1 else 0) := by
        unfold badU; rw [if_pos (by omega), if_pos (by omega)]; exact dv
      have tm : Int.tmod ((i + 1 : Nat) : Int) r = ((i + 1 : Nat) : Int) % r := Int.tmod_eq_emod_of_nonneg (by omega)
      rw [if_neg y]
      simp only [s1606_166, s1606_168, unJ_I, unJ_J, unJ_F, unJ_R, unJ_N, unJ_U, pushR_I, pushR_J, pushR_F, pushR_R, pushR_N, pushR_U, rfV_s, rfV_n, Option.bind_some, true_or, or_true, if_true]
      rw [s1606_170, if_neg (by omega), s1606_171, tm]
      by_cases x : ((i + 1 : Nat) : Int) % r = 0
      · rw [if_pos x] at eb ⊢
        have eb2 : w32 (badU r i + 1) = badU r (i + 1) := by rw [eb]; exact w32_id (by omega) (by omega)
        simp only [s1606_174, s1606_175, s1606_179, s1606_180, s1606_182, s1606_184, s1606_186, s1606_187, s1606_189, unJ_I, unJ_J, unJ_F, unJ_R, unJ_N, unJ_U, pushR_I, pushR_J, pushR_F, pushR_R, pushR_N, pushR_U, rfV_s, rfV_n, Option.bind_some, true_or, or_true, if_true, eb2, m3]
      · rw [if_neg x] at eb ⊢
        have eb2 : w32 (badU r i + 0) = badU r (i + 1) := by rw [eb]; exact w32_id (by omega) (by omega)
        simp only [s1606_178, s1606_179, s1606_180, s1606_182, s1606_184, s1606_186, s1606_187, s1606_189, unJ_I, unJ_J, unJ_F, unJ_R, unJ_N, unJ_U, pushR_I, pushR_J, pushR_F, pushR_R, pushR_N, pushR_U, rfV_s, rfV_n, Option.bind_some, true_or, or_true, if_true, eb2, m3]
  have z0 : badU r 0 = 0 := by unfold badU; split <;> simp
  have z1 : n * 100 - ((0 : Nat) : Int) * z = n * 100 := by simp
  have z2 : (((fulU n z).toNat : Nat) : Int) = fulU n z := Int.toNat_of_nonneg ful.1
  rw [z0, z1, z2, ← brk.1] at LL
  have bI := bot_is (X := X1) (l := l) (n := n) (z := z) hl (by omega) hz g2 hf1 (by omega)
  rw [g3, g4] at bI
  obtain ⟨μ3, e3, b3, f3, s3⟩ := p_bottle (k := 0) (by omega) b2 ok1 l n z
  have ok3 := ok_bottle ok1 l n z
  have ky3 := ky_bottle ky1 l n z
  rw [bI] at e3 b3 ok3 ky3
  obtain ⟨X2, eX2⟩ : ∃ X2, X2 = chg X1 (dropL (setG X1 (fnd X1.1.1 l) n), X1.1.2.1, X1.1.2.2.1, acB X.1.2.2.2.1 n z r, X1.1.2.2.2.2) := ⟨_, rfl⟩
  have bl := bot_left (X := X1) ok1 (l := l) (n := n) (ru := X1.1.2.1) (s := X1.1.2.2.1) (a := acB X.1.2.2.2.1 n z r) (nx := X1.1.2.2.2.2) (hs := recH X1.2.1 X1.1) (tx := X1.2.2) hl hf1 (by omega)
  rw [hg1] at bl
  have ac3 : accO (B + 1000000) X2.1 := by
    have := bot_acc (X := X1) ok1 ha1 hB (n := n) (z := z) (r := r) hf1 (by omega) hz
    rw [g4] at this
    rw [eX2]
    exact this
  have e3' : rs 918 0 [vR 9 0, vI l, vI n, vI z, vU] [] μ2 = some (vI (fulU n z - brkU n z r), μ3) := e3
  have bl' : aLot X2 l 0 = if n = H then -4 else H - n := by rw [eX2]; exact bl
  replace b3 : Bl q 0 μ3 X2 := by rw [eX2]; exact b3
  replace ok3 : okX T X2 := by rw [eX2]; exact ok3
  replace ky3 : okY X2 := by rw [eX2]; exact ky3
  have a3 := p_account (k := 0) (by omega) b3 ok3
  have l3 := p_lot (k := 0) (by omega) b3 ok3
  obtain ⟨j3, j5, j6, j7⟩ := acB_v X.1.2.2.2.1 n z r
  have k3 : aAccount X2 3 = w32 (X.1.2.2.2.1 3 + n) := by rw [eX2]; exact j3
  have k5 : aAccount X2 5 = w32 (X.1.2.2.2.1 5 + (fulU n z - brkU n z r)) := by rw [eX2]; exact j5
  have k6 : aAccount X2 6 = w32 (X.1.2.2.2.1 6 + brkU n z r) := by rw [eX2]; exact j6
  have k7 : aAccount X2 7 = w32 (X.1.2.2.2.1 7 + n * 100 % z) := by rw [eX2]; exact j7
  have p5 := ha.2 5 (by decide)
  have p7 := ha.2 7 (by decide)
  have fz : 0 ≤ fulU n z * z := Int.mul_nonneg ful.1 (by omega)
  have y1 : w32 (fulU n z - brkU n z r) = fulU n z - brkU n z r := w32_id (by omega) (by omega)
  have y5 : w32 (w32 (X.1.2.2.2.1 5 + fulU n z) - brkU n z r) = w32 (X.1.2.2.2.1 5 + (fulU n z - brkU n z r)) := by
    rw [w32_id (x := X.1.2.2.2.1 5 + fulU n z) (by omega) (by omega), Int.add_sub_assoc]
  have y7 : w32 (w32 (X.1.2.2.2.1 7 + n * 100) - w32 (fulU n z * z)) = w32 (X.1.2.2.2.1 7 + n * 100 % z) := by
    rw [w32_id (x := X.1.2.2.2.1 7 + n * 100) (by omega) (by omega), w32_id (x := fulU n z * z) (by omega) (by omega), ful.2.2.2.2.1, Int.add_sub_assoc]
  refine ⟨μ3, X2, ?_, b3, ⟨ok3, ky3, ac3, by rw [eX2]; exact g2, by rw [eX2]; show 0 < X1.1.2.2.2.2; rw [g5]; exact hx⟩, f1.tr (f2.tr f3), s1.still (s2.still s3)⟩
  rw [run0, run1, run2]
  simp only [s1606_134, s1606_136, s1606_137, s1606_139, s1606_140, s1606_142, s1606_144, s1606_146, s1606_147, unJ_I, unJ_J, unJ_F, unJ_R, unJ_N, unJ_U, pushR_I, pushR_J, pushR_F, pushR_R, pushR_N, pushR_U, rfV_s, rfV_n, Option.bind_some, true_or, or_true, if_true, w100]
  refine LL.trans ?_
  rw [s1606_149]
  simp only [s1606_151, unJ_I, unJ_J, unJ_F, unJ_R, unJ_N, unJ_U, pushR_I, pushR_J, pushR_F, pushR_R, pushR_N, pushR_U, rfV_s, rfV_n, Option.bind_some, true_or, or_true, if_true]
  rw [s1606_153, if_pos (show n * 100 - fulU n z * z < z by omega)]
  simp only [s1606_192, unJ_I, unJ_J, unJ_F, unJ_R, unJ_N, unJ_U, pushR_I, pushR_J, pushR_F, pushR_R, pushR_N, pushR_U, rfV_s, rfV_n, Option.bind_some, true_or, or_true, if_true]
  rw [s1606_194, if_neg (by decide)]
  simp only [s1606_197, s1606_198, s1606_199, s1606_201, s1606_203, s1606_206, s1606_208, s1606_210, unJ_I, unJ_J, unJ_F, unJ_R, unJ_N, unJ_U, pushR_I, pushR_J, pushR_F, pushR_R, pushR_N, pushR_U, rfV_s, rfV_n, Option.bind_some, true_or, or_true, if_true, e3', y1, Option.bind_some]
  rw [s1606_211, if_pos rfl]
  simp only [s1606_214, s1606_215, s1606_216, s1606_219, s1606_221, s1606_223, unJ_I, unJ_J, unJ_F, unJ_R, unJ_N, unJ_U, pushR_I, pushR_J, pushR_F, pushR_R, pushR_N, pushR_U, rfV_s, rfV_n, Option.bind_some, true_or, or_true, if_true, a3, k3, Option.bind_some]
  rw [s1606_224, if_pos rfl]
  simp only [s1606_227, s1606_228, s1606_229, s1606_232, s1606_234, s1606_236, s1606_237, s1606_239, unJ_I, unJ_J, unJ_F, unJ_R, unJ_N, unJ_U, pushR_I, pushR_J, pushR_F, pushR_R, pushR_N, pushR_U, rfV_s, rfV_n, Option.bind_some, true_or, or_true, if_true, a3, k5, y5, Option.bind_some]
  rw [s1606_240, if_pos rfl]
  simp only [s1606_243, s1606_244, s1606_246, s1606_249, s1606_251, s1606_253, unJ_I, unJ_J, unJ_F, unJ_R, unJ_N, unJ_U, pushR_I, pushR_J, pushR_F, pushR_R, pushR_N, pushR_U, rfV_s, rfV_n, Option.bind_some, true_or, or_true, if_true, a3, k6, Option.bind_some]
  rw [s1606_254, if_pos rfl]
  simp only [s1606_257, s1606_258, s1606_260, s1606_263, s1606_265, s1606_267, s1606_269, s1606_270, s1606_271, s1606_273, s1606_275, s1606_276, unJ_I, unJ_J, unJ_F, unJ_R, unJ_N, unJ_U, pushR_I, pushR_J, pushR_F, pushR_R, pushR_N, pushR_U, rfV_s, rfV_n, Option.bind_some, true_or, or_true, if_true, a3, k7, w100, y7, Option.bind_some]
  rw [s1606_277, if_pos rfl]
  simp only [s1606_280, s1606_281, s1606_285, s1606_287, unJ_I, unJ_J, unJ_F, unJ_R, unJ_N, unJ_U, pushR_I, pushR_J, pushR_F, pushR_R, pushR_N, pushR_U, rfV_s, rfV_n, Option.bind_some, true_or, or_true, if_true]
  rw [s1606_289, if_neg (by decide)]
  simp only [s1606_292, s1606_293, s1606_294, s1606_295, s1606_298, s1606_300, unJ_I, unJ_J, unJ_F, unJ_R, unJ_N, unJ_U, pushR_I, pushR_J, pushR_F, pushR_R, pushR_N, pushR_U, rfV_s, rfV_n, Option.bind_some, true_or, or_true, if_true, l3, bl', Option.bind_some]
  rw [s1606_301]
  by_cases y : n = H
  · rw [if_pos y, if_pos y]
    simp only [s1606_304, s1606_306, unJ_I, unJ_J, unJ_F, unJ_R, unJ_N, unJ_U, pushR_I, pushR_J, pushR_F, pushR_R, pushR_N, pushR_U, rfV_s, rfV_n, Option.bind_some, true_or, or_true, if_true]
    rw [s1606_313, if_pos rfl]
    simp only [s1606_316, s1606_317, s1606_321, unJ_I, unJ_J, unJ_F, unJ_R, unJ_N, unJ_U, pushR_I, pushR_J, pushR_F, pushR_R, pushR_N, pushR_U, rfV_s, rfV_n, Option.bind_some, true_or, or_true, if_true]
  · have yh : w32 (H - n) = H - n := w32_id (by omega) (by omega)
    rw [if_neg y, if_neg y]
    simp only [s1606_309, s1606_310, s1606_312, unJ_I, unJ_J, unJ_F, unJ_R, unJ_N, unJ_U, pushR_I, pushR_J, pushR_F, pushR_R, pushR_N, pushR_U, rfV_s, rfV_n, Option.bind_some, true_or, or_true, if_true, yh]
    rw [s1606_313, if_pos rfl]
    simp only [s1606_316, s1606_317, s1606_321, unJ_I, unJ_J, unJ_F, unJ_R, unJ_N, unJ_U, pushR_I, pushR_J, pushR_F, pushR_R, pushR_N, pushR_U, rfV_s, rfV_n, Option.bind_some, true_or, or_true, if_true]
end
