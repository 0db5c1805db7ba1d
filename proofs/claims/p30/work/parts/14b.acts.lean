/-! ONE ACT OF THE LAW: what it does to a cellar -/
noncomputable def actU (X : XS) (c : Int) : Int × XS :=
  if Int.tmod c 7 = 0 then aBring X (w32 (1 + Int.tmod (i_shr c 4) 900)) (Int.tmod (i_shr c 4) 8) (w32 (2000 + Int.tmod (i_shr (i_shr c 4) 3) 64)) (Int.tmod (i_shr (i_shr c 4) 5) 10) (Int.tmod (i_shr c 4) 2001) (Int.tmod (i_shr c 4) 201)
  else if Int.tmod c 7 = 1 then aMove X (Int.tmod (i_shr c 4) X.1.2.2.2.2) (Int.tmod (i_shr c 9) 2)
  else if Int.tmod c 7 = 2 then aSet X 2 (Int.tmod (i_shr c 4) 101)
  else if Int.tmod c 7 = 3 then aRecipe X (Int.tmod (i_shr c 4) X.1.2.2.2.2) (Int.tmod (i_shr c 7) 21)
  else if Int.tmod c 7 = 4 then aBlend X (w32 (1 + Int.tmod (i_shr c 4) 500)) (Int.tmod (i_shr c 9) 2)
  else if Int.tmod c 7 = 5 then aScore X (Int.tmod (i_shr c 4) X.1.2.2.2.2) (Int.tmod (i_shr c 6) 8) (Int.tmod (i_shr c 8) 201)
  else aSweeten X (Int.tmod (i_shr c 4) X.1.2.2.2.2) (Int.tmod (i_shr c 4) 501)
theorem cnt_6 (X : XS) : aCount X 6 = X.1.2.2.2.2 := rfl
section
variable {q : Nat × (Nat → Int)} {k : Nat} {μ : Mem} {X : XS} {T : Int}
theorem p_act (hk : k ≤ 1) (h : Bl q k μ X) (ho : okX T X) (hn : X.1.2.2.2.2 ≠ 0) (c : Int) : Cal q k μ 1608 [vR 9 k, vI c, vU, vU] (actU X c).1 (actU X c).2 := by
  have run : rs 1608 0 [vR 9 k, vI c, vU, vU] [] μ = rs 1608 17 [vR 9 k, vI c, vI (i_shr c 4), vI (Int.tmod (i_shr c 4) X.1.2.2.2.2)] [vI (Int.tmod c 7)] μ := by
    simp only [s1608_0, s1608_1, s1608_2, s1608_3, s1608_4, s1608_5, s1608_6, s1608_8, unJ_I, unJ_J, unJ_F, unJ_R, unJ_N, unJ_U, pushR_I, pushR_J, pushR_F, pushR_R, pushR_N, pushR_U, rfV_s, rfV_n, Option.bind_some, true_or, or_true, if_true, p_count hk h ho 6, cnt_6, Option.bind_some, pushR_I]
    rw [s1608_11, if_neg hn]
    simp only [s1608_12, s1608_13, s1608_14, s1608_16, unJ_I, unJ_J, unJ_F, unJ_R, unJ_N, unJ_U, pushR_I, pushR_J, pushR_F, pushR_R, pushR_N, pushR_U, rfV_s, rfV_n, Option.bind_some, true_or, or_true, if_true, Int.reduceEq, reduceIte]
  unfold actU
  by_cases y0 : Int.tmod c 7 = 0
  · rw [if_pos y0]
    obtain ⟨μ', e, hB⟩ := p_bring hk h ho _ _ _ _ _ _
    refine ⟨μ', ?_, hB⟩
    rw [run, s1608_17, if_pos y0]
    simp only [s1608_56, s1608_57, s1608_58, s1608_59, s1608_62, s1608_63, s1608_64, s1608_65, s1608_67, s1608_68, s1608_71, s1608_72, s1608_73, s1608_74, s1608_76, s1608_77, s1608_78, s1608_79, s1608_80, s1608_81, s1608_83, s1608_84, s1608_85, s1608_88, s1608_89, s1608_90, s1608_93, s1608_94, s1608_97, unJ_I, unJ_J, unJ_F, unJ_R, unJ_N, unJ_U, pushR_I, pushR_J, pushR_F, pushR_R, pushR_N, pushR_U, rfV_s, rfV_n, Option.bind_some, true_or, or_true, if_true, Int.reduceEq, reduceIte, e, Option.bind_some, pushR_I]
  rw [if_neg y0]
  by_cases y1 : Int.tmod c 7 = 1
  · rw [if_pos y1]
    obtain ⟨μ', e, hB⟩ := p_move hk h ho _ _
    refine ⟨μ', ?_, hB⟩
    rw [run, s1608_17, if_neg y0, if_pos y1]
    simp only [s1608_98, s1608_99, s1608_100, s1608_101, s1608_103, s1608_104, s1608_105, s1608_106, s1608_109, unJ_I, unJ_J, unJ_F, unJ_R, unJ_N, unJ_U, pushR_I, pushR_J, pushR_F, pushR_R, pushR_N, pushR_U, rfV_s, rfV_n, Option.bind_some, true_or, or_true, if_true, Int.reduceEq, reduceIte, e, Option.bind_some, pushR_I]
  rw [if_neg y1]
  by_cases y2 : Int.tmod c 7 = 2
  · rw [if_pos y2]
    obtain ⟨μ', e, hB⟩ := p_set hk h ho _ _
    refine ⟨μ', ?_, hB⟩
    rw [run, s1608_17, if_neg y0, if_neg y1, if_pos y2]
    simp only [s1608_110, s1608_111, s1608_112, s1608_113, s1608_115, s1608_116, s1608_119, unJ_I, unJ_J, unJ_F, unJ_R, unJ_N, unJ_U, pushR_I, pushR_J, pushR_F, pushR_R, pushR_N, pushR_U, rfV_s, rfV_n, Option.bind_some, true_or, or_true, if_true, Int.reduceEq, reduceIte, e, Option.bind_some, pushR_I]
  rw [if_neg y2]
  by_cases y3 : Int.tmod c 7 = 3
  · rw [if_pos y3]
    obtain ⟨μ', e, hB⟩ := p_recipe hk h ho _ _
    refine ⟨μ', ?_, hB⟩
    rw [run, s1608_17, if_neg y0, if_neg y1, if_neg y2, if_pos y3]
    simp only [s1608_120, s1608_121, s1608_122, s1608_123, s1608_125, s1608_126, s1608_128, s1608_129, s1608_132, unJ_I, unJ_J, unJ_F, unJ_R, unJ_N, unJ_U, pushR_I, pushR_J, pushR_F, pushR_R, pushR_N, pushR_U, rfV_s, rfV_n, Option.bind_some, true_or, or_true, if_true, Int.reduceEq, reduceIte, e, Option.bind_some, pushR_I]
  rw [if_neg y3]
  by_cases y4 : Int.tmod c 7 = 4
  · rw [if_pos y4]
    obtain ⟨μ', e, hB⟩ := p_blend hk h ho _ _
    refine ⟨μ', ?_, hB⟩
    rw [run, s1608_17, if_neg y0, if_neg y1, if_neg y2, if_neg y3, if_pos y4]
    simp only [s1608_133, s1608_134, s1608_135, s1608_136, s1608_139, s1608_140, s1608_141, s1608_142, s1608_144, s1608_145, s1608_146, s1608_147, s1608_150, unJ_I, unJ_J, unJ_F, unJ_R, unJ_N, unJ_U, pushR_I, pushR_J, pushR_F, pushR_R, pushR_N, pushR_U, rfV_s, rfV_n, Option.bind_some, true_or, or_true, if_true, Int.reduceEq, reduceIte, e, Option.bind_some, pushR_I]
  rw [if_neg y4]
  by_cases y5 : Int.tmod c 7 = 5
  · rw [if_pos y5]
    obtain ⟨μ', e, hB⟩ := p_score hk h ho _ _ _
    refine ⟨μ', ?_, hB⟩
    rw [run, s1608_17, if_neg y0, if_neg y1, if_neg y2, if_neg y3, if_neg y4, if_pos y5]
    simp only [s1608_151, s1608_152, s1608_153, s1608_154, s1608_156, s1608_157, s1608_159, s1608_160, s1608_161, s1608_163, s1608_164, s1608_167, s1608_168, s1608_171, unJ_I, unJ_J, unJ_F, unJ_R, unJ_N, unJ_U, pushR_I, pushR_J, pushR_F, pushR_R, pushR_N, pushR_U, rfV_s, rfV_n, Option.bind_some, true_or, or_true, if_true, Int.reduceEq, reduceIte, e, Option.bind_some, pushR_I]
  rw [if_neg y5]
  obtain ⟨μ', e, hB⟩ := p_sweeten hk h ho _ _
  refine ⟨μ', ?_, hB⟩
  rw [run, s1608_17, if_neg y0, if_neg y1, if_neg y2, if_neg y3, if_neg y4, if_neg y5]
  simp only [s1608_172, s1608_173, s1608_174, s1608_175, s1608_178, s1608_179, s1608_182, unJ_I, unJ_J, unJ_F, unJ_R, unJ_N, unJ_U, pushR_I, pushR_J, pushR_F, pushR_R, pushR_N, pushR_U, rfV_s, rfV_n, Option.bind_some, true_or, or_true, if_true, Int.reduceEq, reduceIte, e, Option.bind_some, pushR_I]
end
