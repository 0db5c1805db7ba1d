/-! THE LAW'S addsUp -/
/-- the accounts add up; none is above B -/
def accO (B : Int) (σ : St) : Prop := σ.2.2.2.1 0 = σ.2.2.2.1 1 + σ.2.2.2.1 2 + σ.2.2.2.1 3 + litL σ.1 ∧ ∀ i, i < 8 → 0 ≤ σ.2.2.2.1 i ∧ σ.2.2.2.1 i ≤ B
section
variable {q : Nat × (Nat → Int)} {μ : Mem} {X : XS} {T B : Int} {k : Nat}
theorem lots_mem (ho : okX T X) : ∀ w ∈ X.1.1, (okL w ∧ 0 < gsum w.2) ∧ w.1 0 < X.1.2.2.2.2 := fun w hw => ⟨okLs_mem.mp ho.2.1.1 w hw, ho.2.1.lots.2.2.2.2.1 w hw⟩
theorem ga_r (ho : okX T X) : (∀ w ∈ X.1.1, 0 ≤ gaL w ∧ gaL w ≤ 10000) ∧ (∀ w ∈ X.1.1, 0 ≤ gaG w ∧ gaG w ≤ 200) ∧ (∀ w ∈ X.1.1, 0 ≤ ga1 w ∧ ga1 w ≤ 1) ∧ ∀ w ∈ X.1.1, 0 ≤ gaK 0 w ∧ gaK 0 w ≤ 1 := by
  refine ⟨fun w hw => ?_, fun w hw => ?_, fun w hw => ⟨show (0 : Int) ≤ 1 by decide, show (1 : Int) ≤ 1 by decide⟩, fun w hw => ?_⟩
  · obtain ⟨⟨o, s⟩, -⟩ := lots_mem ho w hw
    have := o.2.2.2.2.2.2.2.2.2.1
    unfold gaL; omega
  · obtain ⟨⟨o, s⟩, -⟩ := lots_mem ho w hw
    have := o.2.2.2.2.2.2.2.2.2.2
    unfold gaG; omega
  · unfold gaK; split <;> decide
theorem lit_r (ho : okX T X) : 0 ≤ tot gaL X.1.1 ∧ tot gaL X.1.1 ≤ 120000 := by
  have := tot_r (ga_r ho).1
  have := ho.2.1.2.1
  omega
theorem p_adds (hk : k ≤ 1) (h : Bl q k μ X) (ho : okX T X) (hy : okY X) (ha : accO B X.1) (hB : B ≤ 1000000000) : rs 1604 0 [vR 9 k, vU, vU, vU, vU, vU] [] μ = some (vI 1, μ) := by
  have hn := ho.2.1.2.2.2.2.2.1
  have hT := ho.1
  have hl12 := ho.2.1.2.1
  have hg200 := ho.2.1.2.2.1
  have up := ho.2.1.lots.2.2.2.2.2
  have c0 := p_count hk h ho
  have a0 := p_account hk h ho
  have l0 := p_lot hk h ho
  obtain ⟨g1, g2, g3, g4⟩ := ga_r ho
  have t1 := tot_r g1
  have t2 := tot_r g2
  have t3 := tot_r g3
  have t4 := tot_r g4
  have mem := lots_mem ho
  have z1 : smF gaL X.1.1 ((0 : Nat) : Int) = 0 := smF_0 (fun w hw => (mem w hw).1.1.1.1)
  have z2 : smF gaG X.1.1 ((0 : Nat) : Int) = 0 := smF_0 (fun w hw => (mem w hw).1.1.1.1)
  have z3 : smF ga1 X.1.1 ((0 : Nat) : Int) = 0 := smF_0 (fun w hw => (mem w hw).1.1.1.1)
  have z4 : smF (gaK 0) X.1.1 ((0 : Nat) : Int) = 0 := smF_0 (fun w hw => (mem w hw).1.1.1.1)
  have LL : rs 1604 12 [vR 9 k, vI (smF gaL X.1.1 ((0 : Nat) : Int)), vI (smF gaG X.1.1 ((0 : Nat) : Int)), vI (smF ga1 X.1.1 ((0 : Nat) : Int)), vI (smF (gaK 0) X.1.1 ((0 : Nat) : Int)), vI ((0 : Nat) : Int)] [] μ
      = rs 1604 12 [vR 9 k, vI (smF gaL X.1.1 ((X.1.2.2.2.2.toNat : Nat) : Int)), vI (smF gaG X.1.1 ((X.1.2.2.2.2.toNat : Nat) : Int)), vI (smF ga1 X.1.1 ((X.1.2.2.2.2.toNat : Nat) : Int)), vI (smF (gaK 0) X.1.1 ((X.1.2.2.2.2.toNat : Nat) : Int)), vI ((X.1.2.2.2.2.toNat : Nat) : Int)] [] μ := by
    refine rs_loop (fun i => [vR 9 k, vI (smF gaL X.1.1 (i : Int)), vI (smF gaG X.1.1 (i : Int)), vI (smF ga1 X.1.1 (i : Int)), vI (smF (gaK 0) X.1.1 (i : Int)), vI (i : Int)]) (fun _ => μ) X.1.2.2.2.2.toNat (fun i hi => ?_)
    have s : ∀ f : Lt → Int, smF f X.1.1 ((i + 1 : Nat) : Int) = smF f X.1.1 (i : Int) + (if fnd X.1.1 (i : Int) < X.1.1.length then f (lt X.1.1 (fnd X.1.1 (i : Int))) else 0) := fun f => by
      rw [show ((i + 1 : Nat) : Int) = (i : Int) + 1 by omega]
      exact smF_step up
    have s1 := s gaL
    have s2 := s gaG
    have s3 := s ga1
    have s4 := s (gaK 0)
    have r1 := smF_r (n := ((i + 1 : Nat) : Int)) (fun w hw => (g1 w hw).1)
    have r2 := smF_r (n := ((i + 1 : Nat) : Int)) (fun w hw => (g2 w hw).1)
    have r3 := smF_r (n := ((i + 1 : Nat) : Int)) (fun w hw => (g3 w hw).1)
    have r4 := smF_r (n := ((i + 1 : Nat) : Int)) (fun w hw => (g4 w hw).1)
    rw [s1604_12]
    simp only [s1604_14, s1604_15, s1604_17, unJ_I, unJ_J, unJ_F, unJ_R, unJ_N, unJ_U, pushR_I, pushR_J, pushR_F, pushR_R, pushR_N, pushR_U, rfV_s, rfV_n, Option.bind_some, true_or, or_true, if_true, c0, cnt_6, Option.bind_some]
    rw [s1604_20, if_neg (show ¬ X.1.2.2.2.2 ≤ (i : Int) by omega)]
    simp only [s1604_23, s1604_24, s1604_26, s1604_27, unJ_I, unJ_J, unJ_F, unJ_R, unJ_N, unJ_U, pushR_I, pushR_J, pushR_F, pushR_R, pushR_N, pushR_U, rfV_s, rfV_n, Option.bind_some, true_or, or_true, if_true, l0, Option.bind_some]
    by_cases hf : fnd X.1.1 (i : Int) < X.1.1.length
    · rw [if_pos hf] at s1 s2 s3 s4
      have lo := ho.lot hf
      have v0 : aLot X (i : Int) 0 = gaL (lt X.1.1 (fnd X.1.1 (i : Int))) := by
        unfold aLot; rw [if_pos (by omega), if_pos hf]; rfl
      have v1 : aLot X (i : Int) 1 = gaG (lt X.1.1 (fnd X.1.1 (i : Int))) := by
        unfold aLot; rw [if_pos (by omega), if_pos hf]; rfl
      have v5 : aLot X (i : Int) 5 = (lt X.1.1 (fnd X.1.1 (i : Int))).1 4 := by
        unfold aLot; rw [if_pos (by omega), if_pos hf]; rfl
      have v0p : ¬ gaL (lt X.1.1 (fnd X.1.1 (i : Int))) ≤ 0 := by unfold gaL; omega
      rw [v0, s1604_30, if_neg v0p]
      simp only [s1604_33, s1604_34, s1604_35, s1604_37, s1604_38, s1604_41, s1604_42, s1604_43, s1604_44, s1604_45, s1604_47, s1604_48, s1604_51, s1604_52, s1604_53, s1604_56, s1604_58, s1604_59, s1604_61, s1604_62, unJ_I, unJ_J, unJ_F, unJ_R, unJ_N, unJ_U, pushR_I, pushR_J, pushR_F, pushR_R, pushR_N, pushR_U, rfV_s, rfV_n, Option.bind_some, true_or, or_true, if_true, l0, Option.bind_some, v0, v1, v5]
      have e1 : w32 (smF gaL X.1.1 (i : Int) + gaL (lt X.1.1 (fnd X.1.1 (i : Int)))) = smF gaL X.1.1 ((i + 1 : Nat) : Int) := by rw [← s1]; exact w32_id (by omega) (by omega)
      have e2 : w32 (smF gaG X.1.1 (i : Int) + gaG (lt X.1.1 (fnd X.1.1 (i : Int)))) = smF gaG X.1.1 ((i + 1 : Nat) : Int) := by rw [← s2]; exact w32_id (by omega) (by omega)
      have e3 : w32 (smF ga1 X.1.1 (i : Int) + 1) = smF ga1 X.1.1 ((i + 1 : Nat) : Int) := by
        rw [show smF ga1 X.1.1 (i : Int) + 1 = smF ga1 X.1.1 ((i + 1 : Nat) : Int) from s3.symm]; exact w32_id (by omega) (by omega)
      have e4 : w32 (smF (gaK 0) X.1.1 (i : Int) + gaK 0 (lt X.1.1 (fnd X.1.1 (i : Int)))) = smF (gaK 0) X.1.1 ((i + 1 : Nat) : Int) := by rw [← s4]; exact w32_id (by omega) (by omega)
      rw [e1, e2, e3, s1604_65]
      by_cases hz : (lt X.1.1 (fnd X.1.1 (i : Int))).1 4 = 0
      · have k1 : gaK 0 (lt X.1.1 (fnd X.1.1 (i : Int))) = 1 := if_pos hz
        rw [k1] at e4
        rw [if_pos hz]
        simp only [s1604_68, s1604_69, s1604_73, s1604_74, s1604_76, s1604_79, unJ_I, unJ_J, unJ_F, unJ_R, unJ_N, unJ_U, pushR_I, pushR_J, pushR_F, pushR_R, pushR_N, pushR_U, rfV_s, rfV_n, Option.bind_some, true_or, or_true, if_true, e4]
        rw [w32_s hi (by omega)]
      · have k1 : gaK 0 (lt X.1.1 (fnd X.1.1 (i : Int))) = 0 := if_neg hz
        rw [k1] at e4
        rw [if_neg hz]
        simp only [s1604_72, s1604_73, s1604_74, s1604_76, s1604_79, unJ_I, unJ_J, unJ_F, unJ_R, unJ_N, unJ_U, pushR_I, pushR_J, pushR_F, pushR_R, pushR_N, pushR_U, rfV_s, rfV_n, Option.bind_some, true_or, or_true, if_true, e4]
        rw [w32_s hi (by omega)]
    · rw [if_neg hf, Int.add_zero] at s1 s2 s3 s4
      have v0 : aLot X (i : Int) 0 = -4 := by
        unfold aLot; rw [if_pos (by omega), if_neg hf]
      rw [v0, s1604_30, if_pos (by decide)]
      simp only [s1604_76, s1604_79, unJ_I, unJ_J, unJ_F, unJ_R, unJ_N, unJ_U, pushR_I, pushR_J, pushR_F, pushR_R, pushR_N, pushR_U, rfV_s, rfV_n, Option.bind_some, true_or, or_true, if_true]
      rw [w32_s hi (by omega), s1, s2, s3, s4]
  have mx : ∀ w ∈ X.1.1, w.1 0 < ((X.1.2.2.2.2.toNat : Nat) : Int) := fun w hw => by have := (mem w hw).2; omega
  have f1 : smF gaL X.1.1 ((X.1.2.2.2.2.toNat : Nat) : Int) = litL X.1.1 := (smF_all mx).trans (litL_t _).symm
  have f2 : smF gaG X.1.1 ((X.1.2.2.2.2.toNat : Nat) : Int) = allG X.1.1 := (smF_all mx).trans (allG_t _).symm
  have f3 : smF ga1 X.1.1 ((X.1.2.2.2.2.toNat : Nat) : Int) = (X.1.1.length : Int) := (smF_all mx).trans (len_t _).symm
  have f4 : smF (gaK 0) X.1.1 ((X.1.2.2.2.2.toNat : Nat) : Int) = kndN X.1.1 0 := (smF_all mx).trans (knd_t _ _).symm
  have k01 := knd_01 (fun w hw => (mem w hw).1.1.2.2.2.2.1)
  obtain ⟨⟨y1, y2, y3⟩, -⟩ := hy
  have kn := knd_t X.1.1 0
  have li := litL_t X.1.1
  have lr := lit_r ho
  obtain ⟨b0, b1⟩ := ha
  have q0 := b1 0 (by decide)
  have q1 := b1 1 (by decide)
  have q2 := b1 2 (by decide)
  have q3 := b1 3 (by decide)
  have w1 : w32 (X.1.2.2.2.1 1 + X.1.2.2.2.1 2) = X.1.2.2.2.1 1 + X.1.2.2.2.1 2 := w32_id (by omega) (by omega)
  have w2 : w32 (X.1.2.2.2.1 1 + X.1.2.2.2.1 2 + X.1.2.2.2.1 3) = X.1.2.2.2.1 1 + X.1.2.2.2.1 2 + X.1.2.2.2.1 3 := w32_id (by omega) (by omega)
  have w3 : w32 (X.1.2.2.2.1 1 + X.1.2.2.2.1 2 + X.1.2.2.2.1 3 + litL X.1.1) = X.1.2.2.2.1 0 := by rw [← b0]; exact w32_id (by omega) (by omega)
  have w4 : w32 ((X.1.1.length : Int) - kndN X.1.1 0) = kndN X.1.1 1 := by rw [w32_id (by omega) (by omega)]; omega
  have v4 : aAccount X 4 = litL X.1.1 := rfl
  have v0 : aAccount X 0 = X.1.2.2.2.1 0 := rfl
  have v1 : aAccount X 1 = X.1.2.2.2.1 1 := rfl
  have v2 : aAccount X 2 = X.1.2.2.2.1 2 := rfl
  have v3 : aAccount X 3 = X.1.2.2.2.1 3 := rfl
  have n0 : aCount X 0 = (X.1.1.length : Int) := rfl
  have n1 : aCount X 1 = kndN X.1.1 0 := rfl
  have n2 : aCount X 2 = kndN X.1.1 1 := rfl
  have n3 : aCount X 3 = allG X.1.1 := rfl
  simp only [s1604_0, s1604_1, s1604_2, s1604_3, s1604_4, s1604_5, s1604_6, s1604_7, s1604_9, s1604_10, unJ_I, unJ_J, unJ_F, unJ_R, unJ_N, unJ_U, pushR_I, pushR_J, pushR_F, pushR_R, pushR_N, pushR_U, rfV_s, rfV_n, Option.bind_some, true_or, or_true, if_true]
  rw [z1, z2, z3, z4] at LL
  refine LL.trans ?_
  rw [f1, f2, f3, f4, s1604_12]
  simp only [s1604_14, s1604_15, s1604_17, unJ_I, unJ_J, unJ_F, unJ_R, unJ_N, unJ_U, pushR_I, pushR_J, pushR_F, pushR_R, pushR_N, pushR_U, rfV_s, rfV_n, Option.bind_some, true_or, or_true, if_true, c0, cnt_6, Option.bind_some]
  rw [s1604_20, if_pos (show X.1.2.2.2.2 ≤ ((X.1.2.2.2.2.toNat : Nat) : Int) by omega)]
  simp only [s1604_82, s1604_83, s1604_84, s1604_87, unJ_I, unJ_J, unJ_F, unJ_R, unJ_N, unJ_U, pushR_I, pushR_J, pushR_F, pushR_R, pushR_N, pushR_U, rfV_s, rfV_n, Option.bind_some, true_or, or_true, if_true, a0, v4, Option.bind_some]
  rw [s1604_88, if_pos rfl]
  simp only [s1604_91, s1604_92, s1604_93, s1604_96, unJ_I, unJ_J, unJ_F, unJ_R, unJ_N, unJ_U, pushR_I, pushR_J, pushR_F, pushR_R, pushR_N, pushR_U, rfV_s, rfV_n, Option.bind_some, true_or, or_true, if_true, c0, n3, Option.bind_some]
  rw [s1604_97, if_pos rfl]
  simp only [s1604_100, s1604_101, s1604_102, s1604_105, unJ_I, unJ_J, unJ_F, unJ_R, unJ_N, unJ_U, pushR_I, pushR_J, pushR_F, pushR_R, pushR_N, pushR_U, rfV_s, rfV_n, Option.bind_some, true_or, or_true, if_true, c0, n0, Option.bind_some]
  rw [s1604_106, if_pos rfl]
  simp only [s1604_109, s1604_110, s1604_111, s1604_114, unJ_I, unJ_J, unJ_F, unJ_R, unJ_N, unJ_U, pushR_I, pushR_J, pushR_F, pushR_R, pushR_N, pushR_U, rfV_s, rfV_n, Option.bind_some, true_or, or_true, if_true, c0, n1, Option.bind_some]
  rw [s1604_116, if_pos rfl]
  simp only [s1604_119, s1604_120, s1604_121, s1604_124, s1604_125, s1604_127, unJ_I, unJ_J, unJ_F, unJ_R, unJ_N, unJ_U, pushR_I, pushR_J, pushR_F, pushR_R, pushR_N, pushR_U, rfV_s, rfV_n, Option.bind_some, true_or, or_true, if_true, c0, n2, w4, Option.bind_some]
  rw [s1604_128, if_pos rfl]
  simp only [s1604_131, s1604_132, s1604_136, s1604_138, unJ_I, unJ_J, unJ_F, unJ_R, unJ_N, unJ_U, pushR_I, pushR_J, pushR_F, pushR_R, pushR_N, pushR_U, rfV_s, rfV_n, Option.bind_some, true_or, or_true, if_true]
  rw [s1604_140, if_neg (by decide)]
  simp only [s1604_143, s1604_144, s1604_145, s1604_148, s1604_149, s1604_150, s1604_153, s1604_154, s1604_155, s1604_158, s1604_159, s1604_160, s1604_161, s1604_164, s1604_165, s1604_166, unJ_I, unJ_J, unJ_F, unJ_R, unJ_N, unJ_U, pushR_I, pushR_J, pushR_F, pushR_R, pushR_N, pushR_U, rfV_s, rfV_n, Option.bind_some, true_or, or_true, if_true, a0, v0, v1, v2, v3, w1, w2, w3, Option.bind_some]
  rw [s1604_167, if_pos rfl]
  simp only [s1604_170, s1604_172, unJ_I, unJ_J, unJ_F, unJ_R, unJ_N, unJ_U, pushR_I, pushR_J, pushR_F, pushR_R, pushR_N, pushR_U, rfV_s, rfV_n, Option.bind_some, true_or, or_true, if_true]
  rw [s1604_174, if_neg (by omega)]
  simp only [s1604_177, s1604_178, s1604_180, s1604_181, unJ_I, unJ_J, unJ_F, unJ_R, unJ_N, unJ_U, pushR_I, pushR_J, pushR_F, pushR_R, pushR_N, pushR_U, rfV_s, rfV_n, Option.bind_some, true_or, or_true, if_true, w4]
  rw [s1604_183, if_neg (by omega)]
  simp only [s1604_186, s1604_187, unJ_I, unJ_J, unJ_F, unJ_R, unJ_N, unJ_U, pushR_I, pushR_J, pushR_F, pushR_R, pushR_N, pushR_U, rfV_s, rfV_n, Option.bind_some, true_or, or_true, if_true]
  rw [s1604_190, if_neg (by omega)]
  simp only [s1604_193, s1604_194, s1604_198, unJ_I, unJ_J, unJ_F, unJ_R, unJ_N, unJ_U, pushR_I, pushR_J, pushR_F, pushR_R, pushR_N, pushR_U, rfV_s, rfV_n, Option.bind_some, true_or, or_true, if_true]
end
