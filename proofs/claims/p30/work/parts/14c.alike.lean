/-! THE LAW'S areAlike: two cellars of one state are alike -/
section
variable {q : Nat × (Nat → Int)} {μ : Mem} {X Y : XS} {T T' : Int}
theorem w32_s {i n : Nat} (h : i < n) (hn : n ≤ 1000000) : w32 ((i : Int) + 1) = ((i + 1 : Nat) : Int) := by rw [w32_id (by omega) (by omega)]; omega
theorem aLot_eq (e : X.1 = Y.1) (l x : Int) : aLot Y l x = aLot X l x := by unfold aLot; rw [e]
theorem aGrain_eq (e : X.1 = Y.1) (l g x : Int) : aGrain Y l g x = aGrain X l g x := by unfold aGrain; rw [e]
theorem aAccount_eq (e : X.1 = Y.1) (x : Int) : aAccount Y x = aAccount X x := by unfold aAccount; rw [e]
theorem aCount_eq (e : X.1 = Y.1) {x : Int} (h : x ≤ 11) : aCount Y x = aCount X x := by
  unfold aCount
  rw [e, if_neg (show ¬ x = 12 by omega), if_neg (show ¬ x = 12 by omega), if_neg (show ¬ x = 13 by omega), if_neg (show ¬ x = 13 by omega)]
theorem lot1_r (ho : okX T X) (l : Int) : aLot X l 1 ≤ 200 := by
  unfold aLot
  split
  · split
    · rename_i h1 h2
      have := (ho.lot h2).2.2.2
      show (((lt X.1.1 (fnd X.1.1 l)).2.length : Nat) : Int) ≤ 200
      omega
    · omega
  · omega
theorem p_alike (h0 : Bl q 0 μ X) (h1 : Bl q 1 μ Y) (ho : okX T X) (ho1 : okX T' Y) (e : X.1 = Y.1) : rs 1605 0 [vR 9 0, vR 9 1, vU, vU, vU, vU] [] μ = some (vI 1, μ) := by
  have hn := ho.2.1.2.2.2.2.2.1
  have hT := ho.1
  have c0 := p_count (k := 0) (by omega) h0 ho
  have c1 : ∀ x : Int, x ≤ 11 → rs 921 0 [vR 9 1, vI x] [] μ = some (vI (aCount X x), μ) := fun x hx => by rw [p_count (k := 1) (by omega) h1 ho1 x, aCount_eq e hx]
  have a0 := p_account (k := 0) (by omega) h0 ho
  have a1 : ∀ x : Int, rs 920 0 [vR 9 1, vI x] [] μ = some (vI (aAccount X x), μ) := fun x => by rw [p_account (k := 1) (by omega) h1 ho1 x, aAccount_eq e]
  have l0 := p_lot (k := 0) (by omega) h0 ho
  have l1 : ∀ l x : Int, rs 905 0 [vR 9 1, vI l, vI x, vU] [] μ = some (vI (aLot X l x), μ) := fun l x => by rw [p_lot (k := 1) (by omega) h1 ho1 l x, aLot_eq e]
  have g0 := p_grain (k := 0) (by omega) h0 ho
  have g1 : ∀ l g x : Int, rs 906 0 [vR 9 1, vI l, vI g, vI x, vU] [] μ = some (vI (aGrain X l g x), μ) := fun l g x => by rw [p_grain (k := 1) (by omega) h1 ho1 l g x, aGrain_eq e]
  -- counts
  have L1 : rs 1605 23 [vR 9 0, vR 9 1, vI 1, vI ((0 : Nat) : Int), vU, vU] [] μ = rs 1605 23 [vR 9 0, vR 9 1, vI 1, vI ((12 : Nat) : Int), vU, vU] [] μ := by
    refine rs_loop (fun i => [vR 9 0, vR 9 1, vI 1, vI (i : Int), vU, vU]) (fun _ => μ) 12 (fun i hi => ?_)
    rw [s1605_23]
    simp only [s1605_24]
    rw [s1605_26, if_neg (show ¬ (12 : Int) ≤ (i : Int) by omega)]
    simp only [s1605_29, s1605_30, s1605_33, s1605_34, s1605_35, s1605_38, s1605_39, s1605_40, unJ_I, unJ_J, unJ_F, unJ_R, unJ_N, unJ_U, pushR_I, pushR_J, pushR_F, pushR_R, pushR_N, pushR_U, rfV_s, rfV_n, Option.bind_some, true_or, or_true, if_true, Int.reduceEq, reduceIte, c0, c1 (i : Int) (by omega), Option.bind_some]
    simp only [s1605_43, if_true, s1605_46, s1605_47, s1605_50, s1605_51, s1605_52, s1605_55, unJ_I, unJ_J, unJ_F, unJ_R, unJ_N, unJ_U, pushR_I, pushR_J, pushR_F, pushR_R, pushR_N, pushR_U, rfV_s, rfV_n, Option.bind_some, true_or, or_true, if_true]
    rw [w32_s hi (by decide)]
  have L2 : rs 1605 60 [vR 9 0, vR 9 1, vI 1, vI ((0 : Nat) : Int), vU, vU] [] μ = rs 1605 60 [vR 9 0, vR 9 1, vI 1, vI ((8 : Nat) : Int), vU, vU] [] μ := by
    refine rs_loop (fun i => [vR 9 0, vR 9 1, vI 1, vI (i : Int), vU, vU]) (fun _ => μ) 8 (fun i hi => ?_)
    rw [s1605_60]
    simp only [s1605_61]
    rw [s1605_63, if_neg (show ¬ (8 : Int) ≤ (i : Int) by omega)]
    simp only [s1605_66, s1605_67, s1605_70, s1605_71, s1605_72, s1605_75, s1605_76, s1605_77, unJ_I, unJ_J, unJ_F, unJ_R, unJ_N, unJ_U, pushR_I, pushR_J, pushR_F, pushR_R, pushR_N, pushR_U, rfV_s, rfV_n, Option.bind_some, true_or, or_true, if_true, Int.reduceEq, reduceIte, a0, a1, Option.bind_some]
    simp only [s1605_80, if_true, s1605_83, s1605_84, s1605_87, s1605_88, s1605_89, s1605_92, unJ_I, unJ_J, unJ_F, unJ_R, unJ_N, unJ_U, pushR_I, pushR_J, pushR_F, pushR_R, pushR_N, pushR_U, rfV_s, rfV_n, Option.bind_some, true_or, or_true, if_true]
    rw [w32_s hi (by decide)]
  have LA : ∀ x : Int, rs 1605 114 [vR 9 0, vR 9 1, vI 1, vI x, vI ((0 : Nat) : Int), vU] [] μ = rs 1605 114 [vR 9 0, vR 9 1, vI 1, vI x, vI ((9 : Nat) : Int), vU] [] μ := fun x => by
    refine rs_loop (fun i => [vR 9 0, vR 9 1, vI 1, vI x, vI (i : Int), vU]) (fun _ => μ) 9 (fun i hi => ?_)
    rw [s1605_114]
    simp only [s1605_116]
    rw [s1605_118, if_neg (show ¬ (9 : Int) ≤ (i : Int) by omega)]
    simp only [s1605_121, s1605_122, s1605_125, s1605_126, s1605_127, s1605_129, s1605_132, s1605_133, s1605_134, s1605_136, unJ_I, unJ_J, unJ_F, unJ_R, unJ_N, unJ_U, pushR_I, pushR_J, pushR_F, pushR_R, pushR_N, pushR_U, rfV_s, rfV_n, Option.bind_some, true_or, or_true, if_true, Int.reduceEq, reduceIte, l0, l1, Option.bind_some]
    simp only [s1605_139, if_true, s1605_142, s1605_143, s1605_146, s1605_147, s1605_148, s1605_151, unJ_I, unJ_J, unJ_F, unJ_R, unJ_N, unJ_U, pushR_I, pushR_J, pushR_F, pushR_R, pushR_N, pushR_U, rfV_s, rfV_n, Option.bind_some, true_or, or_true, if_true]
    rw [w32_s hi (by decide)]
  have LC : ∀ x g : Int, rs 1605 175 [vR 9 0, vR 9 1, vI 1, vI x, vI g, vI ((0 : Nat) : Int)] [] μ = rs 1605 175 [vR 9 0, vR 9 1, vI 1, vI x, vI g, vI ((4 : Nat) : Int)] [] μ := fun x g => by
    refine rs_loop (fun i => [vR 9 0, vR 9 1, vI 1, vI x, vI g, vI (i : Int)]) (fun _ => μ) 4 (fun i hi => ?_)
    rw [s1605_175]
    simp only [s1605_177]
    rw [s1605_178, if_neg (show ¬ (4 : Int) ≤ (i : Int) by omega)]
    simp only [s1605_181, s1605_182, s1605_185, s1605_186, s1605_187, s1605_189, s1605_191, s1605_194, s1605_195, s1605_196, s1605_198, s1605_200, unJ_I, unJ_J, unJ_F, unJ_R, unJ_N, unJ_U, pushR_I, pushR_J, pushR_F, pushR_R, pushR_N, pushR_U, rfV_s, rfV_n, Option.bind_some, true_or, or_true, if_true, Int.reduceEq, reduceIte, g0, g1, Option.bind_some]
    simp only [s1605_203, if_true, s1605_206, s1605_207, s1605_210, s1605_211, s1605_212, s1605_215, unJ_I, unJ_J, unJ_F, unJ_R, unJ_N, unJ_U, pushR_I, pushR_J, pushR_F, pushR_R, pushR_N, pushR_U, rfV_s, rfV_n, Option.bind_some, true_or, or_true, if_true]
    rw [w32_s hi (by decide)]
  have LB : ∀ x : Int, rs 1605 157 [vR 9 0, vR 9 1, vI 1, vI x, vI ((0 : Nat) : Int), vU] [] μ = rs 1605 157 [vR 9 0, vR 9 1, vI 1, vI x, vI (((aLot X x 1).toNat : Nat) : Int), vU] [] μ := fun x => by
    have hr := lot1_r ho x
    refine rs_loop (fun i => [vR 9 0, vR 9 1, vI 1, vI x, vI (i : Int), vU]) (fun _ => μ) (aLot X x 1).toNat (fun i hi => ?_)
    rw [s1605_157]
    simp only [s1605_159, s1605_160, s1605_161, s1605_162, unJ_I, unJ_J, unJ_F, unJ_R, unJ_N, unJ_U, pushR_I, pushR_J, pushR_F, pushR_R, pushR_N, pushR_U, rfV_s, rfV_n, Option.bind_some, true_or, or_true, if_true, l0, Option.bind_some]
    rw [s1605_165, if_neg (show ¬ aLot X x 1 ≤ (i : Int) by omega)]
    simp only [s1605_168, s1605_169, s1605_172, s1605_173, unJ_I, unJ_J, unJ_F, unJ_R, unJ_N, unJ_U, pushR_I, pushR_J, pushR_F, pushR_R, pushR_N, pushR_U, rfV_s, rfV_n, Option.bind_some, true_or, or_true, if_true, Int.reduceEq, reduceIte]
    refine (LC x (i : Int)).trans ?_
    rw [s1605_175]
    simp only [s1605_177]
    rw [s1605_178, if_pos (show (4 : Int) ≤ ((4 : Nat) : Int) by decide)]
    simp only [s1605_218, s1605_221, unJ_I, unJ_J, unJ_F, unJ_R, unJ_N, unJ_U, pushR_I, pushR_J, pushR_F, pushR_R, pushR_N, pushR_U, rfV_s, rfV_n, Option.bind_some, true_or, or_true, if_true]
    rw [w32_s hi (by omega)]
  have L3 : rs 1605 97 [vR 9 0, vR 9 1, vI 1, vI ((0 : Nat) : Int), vU, vU] [] μ = rs 1605 97 [vR 9 0, vR 9 1, vI 1, vI ((X.1.2.2.2.2.toNat : Nat) : Int), vU, vU] [] μ := by
    refine rs_loop (fun i => [vR 9 0, vR 9 1, vI 1, vI (i : Int), vU, vU]) (fun _ => μ) X.1.2.2.2.2.toNat (fun i hi => ?_)
    rw [s1605_97]
    simp only [s1605_98, s1605_99, s1605_101, unJ_I, unJ_J, unJ_F, unJ_R, unJ_N, unJ_U, pushR_I, pushR_J, pushR_F, pushR_R, pushR_N, pushR_U, rfV_s, rfV_n, Option.bind_some, true_or, or_true, if_true, c0, cnt_6, Option.bind_some]
    rw [s1605_104, if_neg (show ¬ X.1.2.2.2.2 ≤ (i : Int) by omega)]
    simp only [s1605_107, s1605_108, s1605_111, s1605_112, unJ_I, unJ_J, unJ_F, unJ_R, unJ_N, unJ_U, pushR_I, pushR_J, pushR_F, pushR_R, pushR_N, pushR_U, rfV_s, rfV_n, Option.bind_some, true_or, or_true, if_true, Int.reduceEq, reduceIte]
    refine (LA (i : Int)).trans ?_
    rw [s1605_114]
    simp only [s1605_116]
    rw [s1605_118, if_pos (show (9 : Int) ≤ ((9 : Nat) : Int) by decide)]
    simp only [s1605_154, s1605_155, unJ_I, unJ_J, unJ_F, unJ_R, unJ_N, unJ_U, pushR_I, pushR_J, pushR_F, pushR_R, pushR_N, pushR_U, rfV_s, rfV_n, Option.bind_some, true_or, or_true, if_true]
    refine (LB (i : Int)).trans ?_
    rw [s1605_157]
    simp only [s1605_159, s1605_160, s1605_161, s1605_162, unJ_I, unJ_J, unJ_F, unJ_R, unJ_N, unJ_U, pushR_I, pushR_J, pushR_F, pushR_R, pushR_N, pushR_U, rfV_s, rfV_n, Option.bind_some, true_or, or_true, if_true, l0, Option.bind_some]
    rw [s1605_165, if_pos (show aLot X (i : Int) 1 ≤ (((aLot X (i : Int) 1).toNat : Nat) : Int) by omega)]
    simp only [s1605_224, s1605_227, unJ_I, unJ_J, unJ_F, unJ_R, unJ_N, unJ_U, pushR_I, pushR_J, pushR_F, pushR_R, pushR_N, pushR_U, rfV_s, rfV_n, Option.bind_some, true_or, or_true, if_true]
    rw [w32_s hi (by omega)]
  simp only [s1605_0, s1605_1, s1605_3, unJ_I, unJ_J, unJ_F, unJ_R, unJ_N, unJ_U, pushR_I, pushR_J, pushR_F, pushR_R, pushR_N, pushR_U, rfV_s, rfV_n, Option.bind_some, true_or, or_true, if_true, c0, Option.bind_some]
  simp only [s1605_6, s1605_7, s1605_9, unJ_I, unJ_J, unJ_F, unJ_R, unJ_N, unJ_U, pushR_I, pushR_J, pushR_F, pushR_R, pushR_N, pushR_U, rfV_s, rfV_n, Option.bind_some, true_or, or_true, if_true, c1 6 (by decide), Option.bind_some]
  rw [s1605_12, if_pos rfl]
  simp only [s1605_15, s1605_16, s1605_19, s1605_20, s1605_21, s1605_22, unJ_I, unJ_J, unJ_F, unJ_R, unJ_N, unJ_U, pushR_I, pushR_J, pushR_F, pushR_R, pushR_N, pushR_U, rfV_s, rfV_n, Option.bind_some, true_or, or_true, if_true]
  refine L1.trans ?_
  rw [s1605_23]
  simp only [s1605_24]
  rw [s1605_26, if_pos (show (12 : Int) ≤ ((12 : Nat) : Int) by decide)]
  simp only [s1605_58, s1605_59, unJ_I, unJ_J, unJ_F, unJ_R, unJ_N, unJ_U, pushR_I, pushR_J, pushR_F, pushR_R, pushR_N, pushR_U, rfV_s, rfV_n, Option.bind_some, true_or, or_true, if_true]
  refine L2.trans ?_
  rw [s1605_60]
  simp only [s1605_61]
  rw [s1605_63, if_pos (show (8 : Int) ≤ ((8 : Nat) : Int) by decide)]
  simp only [s1605_95, s1605_96, unJ_I, unJ_J, unJ_F, unJ_R, unJ_N, unJ_U, pushR_I, pushR_J, pushR_F, pushR_R, pushR_N, pushR_U, rfV_s, rfV_n, Option.bind_some, true_or, or_true, if_true]
  refine L3.trans ?_
  rw [s1605_97]
  simp only [s1605_98, s1605_99, s1605_101, unJ_I, unJ_J, unJ_F, unJ_R, unJ_N, unJ_U, pushR_I, pushR_J, pushR_F, pushR_R, pushR_N, pushR_U, rfV_s, rfV_n, Option.bind_some, true_or, or_true, if_true, c0, cnt_6, Option.bind_some]
  rw [s1605_104, if_pos (show X.1.2.2.2.2 ≤ ((X.1.2.2.2.2.toNat : Nat) : Int) by omega)]
  simp only [s1605_230, s1605_231, unJ_I, unJ_J, unJ_F, unJ_R, unJ_N, unJ_U, pushR_I, pushR_J, pushR_F, pushR_R, pushR_N, pushR_U, rfV_s, rfV_n, Option.bind_some, true_or, or_true, if_true]
end
