/-! THE MODEL CALLS: bottle -/
theorem MRow.adA {M : M2} {σ : St} {gs : List Gx} (h : MRow (M 0) σ gs) {i : Nat} (hi : i < 8) (v : Int) : MRow (up2 M 0 (8 + i) (w32 (M 0 (8 + i) + v)) 0) (σ.1, σ.2.1, σ.2.2.1, _root_.Jvm.Pilot.CVineyardBlendsLaw_law_r1126_84277f.adA σ.2.2.2.1 i v, σ.2.2.2.2) gs := by
  have e : M 0 (8 + i) = σ.2.2.2.1 i := h.2.2.2.1 i hi
  rw [e]
  exact h.acc hi _
section
variable (q : Nat × (Nat → Int)) {C : MC} {J M T : M2} {t : Int} {X : XS}
/-- behind the taking: bottles are counted -/
theorem w_fill {σ : St} {gs : List Gx} (h : MRow (M 0) σ gs) (hr : 0 ≤ σ.2.2.1 3 ∧ σ.2.2.1 3 ≤ 1000) {l n z : Int} (hn : 1 ≤ n ∧ n ≤ 10000) (hz : 10 ≤ z ∧ z ≤ 300) (v4 v5 : AV) (h4 : v4 = vU ∨ ∃ x, v4 = vI x) (h5 : v5 = vU) :
    ∃ M', rs 1053 79 [vR 10 0, vI l, vI n, vI z, v4, v5] [] (SX q, C, (J, M, T)) = some (vI (fulU n z - brkU n z (σ.2.2.1 3)), (SX q, C, (J, M', T))) ∧ MRow (M' 0) (σ.1, σ.2.1, σ.2.2.1, acB σ.2.2.2.1 n z (σ.2.2.1 3), σ.2.2.2.2) gs ∧ ∀ r, r ≠ 0 → M' r = M r := by
  have fu : 0 ≤ fulU n z ∧ fulU n z ≤ 1000000 := by
    unfold fulU
    exact ⟨Int.ediv_nonneg (by omega) (by omega), Int.le_trans (Int.ediv_le_self _ (by omega)) (by omega)⟩
  have bu : 0 ≤ brkU n z (σ.2.2.1 3) ∧ brkU n z (σ.2.2.1 3) ≤ fulU n z := by
    unfold brkU
    split
    · exact ⟨Int.ediv_nonneg fu.1 (by omega), Int.ediv_le_self _ fu.1⟩
    · omega
  have em : Unit → w32 (n * 100) = n * 100 := fun _ => w32_id (by omega) (by omega)
  have ef : Unit → w32 (Int.tdiv (n * 100) z) = fulU n z := fun _ => by
    rw [Int.tdiv_eq_ediv_of_nonneg (by omega)]
    exact w32_id (by unfold fulU at fu; omega) (by unfold fulU at fu; omega)
  have es : Unit → w32 (fulU n z - brkU n z (σ.2.2.1 3)) = fulU n z - brkU n z (σ.2.2.1 3) := fun _ => w32_id (by omega) (by omega)
  have et : Unit → Int.tmod (n * 100) z = n * 100 % z := fun _ => Int.tmod_eq_emod_of_nonneg (by omega)
  have m7 : M 0 7 = σ.2.2.1 3 := h.2.2.1 3 (by omega)
  have a1 := h.adA (i := 3) (by omega) n
  have a2 := a1.adA (i := 5) (by omega) (fulU n z - brkU n z (σ.2.2.1 3))
  have a3 := a2.adA (i := 6) (by omega) (brkU n z (σ.2.2.1 3))
  have a4 := a3.adA (i := 7) (by omega) (n * 100 % z)
  refine ⟨_, ?_, a4, fun r hr => by funext y; exact (up2_ne (by omega)).trans ((up2_ne (by omega)).trans ((up2_ne (by omega)).trans (up2_ne (by omega))))⟩
  have run : rs 1053 79 [vR 10 0, vI l, vI n, vI z, v4, v5] [] (SX q, C, (J, M, T)) = rs 1053 113 [vR 10 0, vI l, vI n, vI z, vI (fulU n z), vI (brkU n z (σ.2.2.1 3))] [] (SX q, C, (J, M, T)) := by
    have st : rs 1053 79 [vR 10 0, vI l, vI n, vI z, v4, v5] [] (SX q, C, (J, M, T)) = rs 1053 87 [vR 10 0, vI l, vI n, vI z, vI (fulU n z), v5] [] (SX q, C, (J, M, T)) := by
      simp only [s1053_79, s1053_80, s1053_82, s1053_83, s1053_84, unJ_I, unJ_J, unJ_F, unJ_R, unJ_N, unJ_U, pushR_I, pushR_J, pushR_F, pushR_R, pushR_N, pushR_U, rfV_s, rfV_n, Option.bind_some, true_or, or_true, if_true, em ()]
      rw [if_neg (by omega), ef ()]
      simp only [s1053_85, unJ_I, unJ_J, unJ_F, unJ_R, unJ_N, unJ_U, pushR_I, pushR_J, pushR_F, pushR_R, pushR_N, pushR_U, rfV_s, rfV_n, Option.bind_some, true_or, or_true, if_true]
    rw [st, h5]
    simp only [s1053_87, s1053_88, s1053_91, s1053_93, unJ_I, unJ_J, unJ_F, unJ_R, unJ_N, unJ_U, pushR_I, pushR_J, pushR_F, pushR_R, pushR_N, pushR_U, rfV_s, rfV_n, Option.bind_some, true_or, or_true, if_true, lm0]
    rw [if_pos (by omega)]
    simp only [show Int.toNat 7 = 7 from rfl, m7]
    by_cases hp : 0 < σ.2.2.1 3
    · rw [s1053_94, if_neg (by omega)]
      simp only [s1053_97, s1053_99, s1053_100, s1053_103, s1053_105, unJ_I, unJ_J, unJ_F, unJ_R, unJ_N, unJ_U, pushR_I, pushR_J, pushR_F, pushR_R, pushR_N, pushR_U, rfV_s, rfV_n, Option.bind_some, true_or, or_true, if_true, lm0]
      rw [if_pos (by omega)]
      simp only [show Int.toNat 7 = 7 from rfl, m7]
      have eb : w32 (Int.tdiv (fulU n z) (σ.2.2.1 3)) = brkU n z (σ.2.2.1 3) := by
        have hb := bu
        unfold brkU at hb ⊢
        rw [if_pos hp] at hb ⊢
        rw [Int.tdiv_eq_ediv_of_nonneg fu.1]
        exact w32_id (by omega) (by omega)
      rw [s1053_106, if_neg (by omega), eb]
      simp only [s1053_107, s1053_110, s1053_111, unJ_I, unJ_J, unJ_F, unJ_R, unJ_N, unJ_U, pushR_I, pushR_J, pushR_F, pushR_R, pushR_N, pushR_U, rfV_s, rfV_n, Option.bind_some, true_or, or_true, if_true]
    · rw [s1053_94, if_pos (by omega)]
      have eb : brkU n z (σ.2.2.1 3) = 0 := by unfold brkU; rw [if_neg hp]
      rw [eb]
      simp only [s1053_110, s1053_111, unJ_I, unJ_J, unJ_F, unJ_R, unJ_N, unJ_U, pushR_I, pushR_J, pushR_F, pushR_R, pushR_N, pushR_U, rfV_s, rfV_n, Option.bind_some, true_or, or_true, if_true]
  rw [run]
  simp only [s1053_113, s1053_114, s1053_117, s1053_119, s1053_120, s1053_121, s1053_122, s1053_123, unJ_I, unJ_J, unJ_F, unJ_R, unJ_N, unJ_U, pushR_I, pushR_J, pushR_F, pushR_R, pushR_N, pushR_U, rfV_s, rfV_n, Option.bind_some, true_or, or_true, if_true, lm0]
  rw [if_pos (by omega), if_pos (by omega)]
  simp only [show Int.toNat 11 = 8 + 3 from rfl]
  simp only [s1053_124, s1053_125, s1053_128, s1053_130, s1053_131, s1053_132, s1053_134, s1053_136, s1053_137, s1053_138, unJ_I, unJ_J, unJ_F, unJ_R, unJ_N, unJ_U, pushR_I, pushR_J, pushR_F, pushR_R, pushR_N, pushR_U, rfV_s, rfV_n, Option.bind_some, true_or, or_true, if_true, lm0, es ()]
  rw [if_pos (by omega), if_pos (by omega)]
  simp only [show Int.toNat 13 = 8 + 5 from rfl]
  simp only [s1053_139, s1053_140, s1053_143, s1053_145, s1053_146, s1053_147, s1053_149, s1053_150, unJ_I, unJ_J, unJ_F, unJ_R, unJ_N, unJ_U, pushR_I, pushR_J, pushR_F, pushR_R, pushR_N, pushR_U, rfV_s, rfV_n, Option.bind_some, true_or, or_true, if_true, lm0]
  rw [if_pos (by omega), if_pos (by omega)]
  simp only [show Int.toNat 14 = 8 + 6 from rfl]
  simp only [s1053_151, s1053_152, s1053_155, s1053_157, s1053_158, s1053_159, s1053_160, s1053_162, s1053_163, s1053_164, unJ_I, unJ_J, unJ_F, unJ_R, unJ_N, unJ_U, pushR_I, pushR_J, pushR_F, pushR_R, pushR_N, pushR_U, rfV_s, rfV_n, Option.bind_some, true_or, or_true, if_true, lm0, em ()]
  rw [if_pos (by omega), if_neg (by omega), et ()]
  simp only [s1053_165, s1053_166, unJ_I, unJ_J, unJ_F, unJ_R, unJ_N, unJ_U, pushR_I, pushR_J, pushR_F, pushR_R, pushR_N, pushR_U, rfV_s, rfV_n, Option.bind_some, true_or, or_true, if_true, lm0]
  rw [if_pos (by omega)]
  simp only [show Int.toNat 15 = 8 + 7 from rfl]
  simp only [s1053_167, s1053_169, s1053_171, s1053_172, unJ_I, unJ_J, unJ_F, unJ_R, unJ_N, unJ_U, pushR_I, pushR_J, pushR_F, pushR_R, pushR_N, pushR_U, rfV_s, rfV_n, Option.bind_some, true_or, or_true, if_true, es ()]
theorem w_bottle (h : Mod J M X) (ho : okX t X) (l n z : Int) : Dom 1053 [vR 10 0, vI l, vI n, vI z, vU, vU] q C J M T (vI (aBottle X l n z).1) (aBottle X l n z).2 := by
  obtain ⟨⟨gs, a, b⟩, -⟩ := id h
  have hm := ho.2.1.m
  have sl := w_slot q (C := C) (J := J) (T := T) a l
  have st3 := ho.2.1.2.2.2.1.2.2.2
  unfold aBottle
  by_cases h1 : 0 ≤ l ∧ (1 ≤ n ∧ n ≤ 10000) ∧ 10 ≤ z ∧ z ≤ 300
  · rw [if_pos h1]
    by_cases hf : fnd X.1.1 l < X.1.1.length
    · rw [if_pos hf]
      rw [if_pos hf] at sl
      have e0 := fnd_f hf
      have oL := ho.lot hf
      have li := w_lit q (C := C) (J := J) (T := T) a hm b hf
      have br := w_broken q (C := C) (J := J) (T := T) a hm b hf oL.2.1 ho.2.1.2.2.2.2.1.1
      rw [e0] at li br
      have run : rs 1053 0 [vR 10 0, vI l, vI n, vI z, vU, vU] [] (SX q, C, (J, M, T)) = if gsum (lt X.1.1 (fnd X.1.1 l)).2 < n then some (vI (-2), (SX q, C, (J, M, T))) else if brm (lt X.1.1 (fnd X.1.1 l)) X.1.2.1 X.1.2.1.length = 0 then rs 1053 63 [vR 10 0, vI l, vI n, vI z, vU, vU] [] (SX q, C, (J, M, T)) else some (vI (-2), (SX q, C, (J, M, T))) := by
        simp only [s1053_0, s1053_1, s1053_4, s1053_5, s1053_6, s1053_7, s1053_10, s1053_13, s1053_16, s1053_17, s1053_18, s1053_21, s1053_24, s1053_27, s1053_30, s1053_31, s1053_32, s1053_33, s1053_34, unJ_I, unJ_J, unJ_F, unJ_R, unJ_N, unJ_U, pushR_I, pushR_J, pushR_F, pushR_R, pushR_N, pushR_U, rfV_s, rfV_n, Option.bind_some, true_or, or_true, if_true, c_in, b01_0]
        rw [if_neg (by omega), if_neg (by omega), if_neg (by omega)]
        simp only [s1053_34, unJ_I, unJ_J, unJ_F, unJ_R, unJ_N, unJ_U, pushR_I, pushR_J, pushR_F, pushR_R, pushR_N, pushR_U, rfV_s, rfV_n, Option.bind_some, true_or, or_true, if_true, sl]
        simp only [s1053_37, unJ_I, unJ_J, unJ_F, unJ_R, unJ_N, unJ_U, pushR_I, pushR_J, pushR_F, pushR_R, pushR_N, pushR_U, rfV_s, rfV_n, Option.bind_some, true_or, or_true, if_true]
        rw [if_pos (by omega)]
        simp only [s1053_43, s1053_44, s1053_45, s1053_48, s1053_49, s1053_52, s1053_53, s1053_54, s1053_57, s1053_60, s1053_62, unJ_I, unJ_J, unJ_F, unJ_R, unJ_N, unJ_U, pushR_I, pushR_J, pushR_F, pushR_R, pushR_N, pushR_U, rfV_s, rfV_n, Option.bind_some, true_or, or_true, if_true, li, br]
      by_cases h2 : n ≤ gsum (lt X.1.1 (fnd X.1.1 l)).2 ∧ brm (lt X.1.1 (fnd X.1.1 l)) X.1.2.1 X.1.2.1.length = 0
      · rw [if_pos h2]
        rw [if_neg (by omega), if_pos h2.2] at run
        obtain ⟨J1, M1, e1, k1, k2, k3⟩ := w_change q (C := C) (T := T) h
        obtain ⟨J2, M2, e2, ⟨gs2, a2, b2⟩, m2, j1, j2, y2, y3⟩ := w_takeS q (C := C) (T := T) (k1.syn hm) (i := fnd X.1.1 l) hf oL.2.1 (n := n) ⟨by omega, h2.1⟩
        have e2' : rs 1016 0 [vR 10 0, vI l, vI n, vI (-1), vU, vU, vU] [] (SX q, C, (J1, M1, T)) = some (vU, (SX q, C, (J2, M2, T))) := by
          have := e2
          change rs 1016 0 [vR 10 0, vI ((lt X.1.1 (fnd X.1.1 l)).1 0), _, _, _, _, _] [] _ = _ at this
          rw [e0] at this
          exact this
        obtain ⟨M3, e3, a3, b3, y4⟩ := w_dropE q (C := C) (J := J2) (T := T) a2 m2 b2
        obtain ⟨M4, e4, a4, y5⟩ := w_fill q (C := C) (J := J2) (T := T) a3 st3 (l := l) h1.2.1 h1.2.2 vU vU (Or.inl rfl) rfl
        refine ⟨J2, M4, T, ?_, Mod.row (σ' := (dropL (X.1.1.set (fnd X.1.1 l) ((lt X.1.1 (fnd X.1.1 l)).1, takeG (lt X.1.1 (fnd X.1.1 l)).2 n)), X.1.2.1, X.1.2.2.1, acB X.1.2.2.2.1 n z (X.1.2.2.1 3), X.1.2.2.2.2)) k1 j1 j2 ((y5 2 (by omega)).trans ((y4 2 (by omega)).trans y2)) ((y5 3 (by omega)).trans ((y4 3 (by omega)).trans y3)) a4 b3⟩
        rw [run]
        simp only [s1053_63, s1053_64, s1053_67, s1053_68, s1053_69, s1053_70, s1053_71, s1053_74, s1053_75, s1053_78, unJ_I, unJ_J, unJ_F, unJ_R, unJ_N, unJ_U, pushR_I, pushR_J, pushR_F, pushR_R, pushR_N, pushR_U, rfV_s, rfV_n, Option.bind_some, true_or, or_true, if_true, e1, e2', e3]
        exact e4
      · rw [if_neg h2]
        refine ⟨J, M, T, ?_, h⟩
        rw [run]
        repeat' split
        all_goals first | rfl | (exfalso; omega)
    · rw [if_neg hf]
      rw [if_neg hf] at sl
      refine ⟨J, M, T, ?_, h⟩
      simp only [s1053_0, s1053_1, s1053_4, s1053_5, s1053_6, s1053_7, s1053_10, s1053_13, s1053_16, s1053_17, s1053_18, s1053_21, s1053_24, s1053_27, s1053_30, s1053_31, s1053_32, s1053_33, s1053_34, unJ_I, unJ_J, unJ_F, unJ_R, unJ_N, unJ_U, pushR_I, pushR_J, pushR_F, pushR_R, pushR_N, pushR_U, rfV_s, rfV_n, Option.bind_some, true_or, or_true, if_true, c_in, b01_0]
      rw [if_neg (by omega), if_neg (by omega), if_neg (by omega)]
      simp only [s1053_34, unJ_I, unJ_J, unJ_F, unJ_R, unJ_N, unJ_U, pushR_I, pushR_J, pushR_F, pushR_R, pushR_N, pushR_U, rfV_s, rfV_n, Option.bind_some, true_or, or_true, if_true, sl]
      simp only [s1053_37, s1053_40, s1053_42, unJ_I, unJ_J, unJ_F, unJ_R, unJ_N, unJ_U, pushR_I, pushR_J, pushR_F, pushR_R, pushR_N, pushR_U, rfV_s, rfV_n, Option.bind_some, true_or, or_true, if_true]
      rw [if_neg (by omega)]
  · rw [if_neg h1]
    refine ⟨J, M, T, ?_, h⟩
    simp only [s1053_0, s1053_1, s1053_4, s1053_5, s1053_6, s1053_7, s1053_10, s1053_13, s1053_16, s1053_17, s1053_18, s1053_21, s1053_24, s1053_27, s1053_30, s1053_31, unJ_I, unJ_J, unJ_F, unJ_R, unJ_N, unJ_U, pushR_I, pushR_J, pushR_F, pushR_R, pushR_N, pushR_U, rfV_s, rfV_n, Option.bind_some, true_or, or_true, if_true, c_in, b01_0]
    repeat' split
    all_goals first | rfl | (exfalso; omega)
end
