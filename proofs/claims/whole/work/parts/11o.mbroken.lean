/-! THE MODEL: broken rules -/
theorem fnd_num {ls : List Lt} (hn : upW ls) {i : Nat} (hi : i < ls.length) : fnd ls ((lt ls i).1 0) = i := by
  have up := up_iff.mpr hn
  rcases Nat.lt_trichotomy (fnd ls ((lt ls i).1 0)) i with z | z | z
  · have a := fnd_is (ls := ls) (x := (lt ls i).1 0) (by omega)
    have b := up _ _ z hi
    omega
  · exact z
  · exact absurd rfl (fnd_lt z)
section
variable (q : Nat × (Nat → Int)) {C : MC} {J M T : M2} {σ : St} {gs : List Gx}
theorem w_slotN (h : MRow (M 0) σ gs) (hn : upW σ.1) {i : Nat} (hi : i < σ.1.length) : rs 1011 0 [vR 10 0, vI ((lt σ.1 i).1 0), vU] [] (SX q, C, (J, M, T)) = some (vI (i : Int), (SX q, C, (J, M, T))) := by
  rw [w_slot q h, fnd_num hn hi, if_pos hi]
/-- isBroken -/
theorem w_isBroken (h : MRow (M 0) σ gs) (hm : okM σ.1) (hp : gs.Perm (flat σ.1)) {i : Nat} (hi : i < σ.1.length) (hs : 0 < gsum (lt σ.1 i).2) {k : Nat} (hk : k < σ.2.1.length) (hr : okR (rg σ.2.1 k)) :
    rs 1033 0 [vR 10 0, vI ((lt σ.1 i).1 0), vI (k : Int), vU, vU, vU, vU] [] (SX q, C, (J, M, T)) = some (vI (if brk (lt σ.1 i) (rg σ.2.1 k) = true then 1 else 0), (SX q, C, (J, M, T))) := by
  obtain ⟨r0, r1, r2⟩ := h.2.2.2.2.1 k hk
  have b3 := h.2.1.2.2
  have e1 : Unit → w32 (3 * (k : Int)) = 3 * k := fun _ => w32_id (by omega) (by omega)
  have e2 : Unit → w32 (16 + 3 * (k : Int)) = ((16 + 3 * k : Nat) : Int) := fun _ => by rw [w32_id (by omega) (by omega)]; omega
  have e3 : Unit → w32 (((16 + 3 * k : Nat) : Int) + 1) = ((16 + 3 * k + 1 : Nat) : Int) := fun _ => by rw [w32_id (by omega) (by omega)]; omega
  have e4 : Unit → w32 (((16 + 3 * k : Nat) : Int) + 2) = ((16 + 3 * k + 2 : Nat) : Int) := fun _ => by rw [w32_id (by omega) (by omega)]; omega
  have sl := w_slotN q (C := C) (J := J) (T := T) h hm.2 hi
  have sh := fun t (ht : t < 3) v => w_shared q (C := C) (J := J) (T := T) h hm hp hi hs ht v
  have at1 := w_at q (C := C) (J := J) (T := T) h hi (show 1 < 14 by omega)
  have at2 := w_at q (C := C) (J := J) (T := T) h hi (show 2 < 14 by omega)
  have at3 := w_at q (C := C) (J := J) (T := T) h hi (show 3 < 14 by omega)
  generalize hR : rg σ.2.1 k = R at hr r0 r1 r2 ⊢
  obtain ⟨kd, of, n⟩ := R
  generalize hx : (lt σ.1 i).1 0 = x at sl sh ⊢
  have sh0 := sh 0 (by omega) of
  have sh1 := sh 1 (by omega) of
  have sh2 := sh 2 (by omega) of
  have run : rs 1033 0 [vR 10 0, vI x, vI (k : Int), vU, vU, vU, vU] [] (SX q, C, (J, M, T)) = rs 1033 49 [vR 10 0, vI x, vI (k : Int), vI kd, vI of, vI n, vI (i : Int)] [] (SX q, C, (J, M, T)) := by
    simp only [s1033_0, s1033_1, s1033_4, s1033_6, s1033_7, s1033_8, s1033_9, s1033_10, unJ_I, unJ_J, unJ_F, unJ_R, unJ_N, unJ_U, pushR_I, pushR_J, pushR_F, pushR_R, pushR_N, pushR_U, rfV_s, rfV_n, Option.bind_some, true_or, or_true, if_true, lm0, e1 (), e2 (), Int.toNat_natCast, r0]
    rw [if_pos (by omega)]
    simp only [s1033_11, s1033_12, s1033_13, s1033_16, s1033_18, s1033_19, s1033_20, s1033_21, s1033_22, s1033_23, s1033_24, unJ_I, unJ_J, unJ_F, unJ_R, unJ_N, unJ_U, pushR_I, pushR_J, pushR_F, pushR_R, pushR_N, pushR_U, rfV_s, rfV_n, Option.bind_some, true_or, or_true, if_true, lm0, e1 (), e2 (), e3 (), Int.toNat_natCast, r1]
    rw [if_pos (by omega)]
    simp only [s1033_25, s1033_27, s1033_28, s1033_31, s1033_33, s1033_34, s1033_35, s1033_36, s1033_37, s1033_38, s1033_39, unJ_I, unJ_J, unJ_F, unJ_R, unJ_N, unJ_U, pushR_I, pushR_J, pushR_F, pushR_R, pushR_N, pushR_U, rfV_s, rfV_n, Option.bind_some, true_or, or_true, if_true, lm0, e1 (), e2 (), e4 (), Int.toNat_natCast, r2]
    rw [if_pos (by omega)]
    simp only [s1033_40, s1033_42, s1033_43, s1033_44, s1033_47, unJ_I, unJ_J, unJ_F, unJ_R, unJ_N, unJ_U, pushR_I, pushR_J, pushR_F, pushR_R, pushR_N, pushR_U, rfV_s, rfV_n, Option.bind_some, true_or, or_true, if_true, sl]
  rw [run]
  simp only [s1033_49, unJ_I, unJ_J, unJ_F, unJ_R, unJ_N, unJ_U, pushR_I, pushR_J, pushR_F, pushR_R, pushR_N, pushR_U, rfV_s, rfV_n, Option.bind_some, true_or, or_true, if_true]
  obtain ⟨q0, q8⟩ := hr
  have q0' : 0 ≤ kd := q0
  have q8' : kd ≤ 8 := q8
  have hk9 : kd = 0 ∨ kd = 1 ∨ kd = 2 ∨ kd = 3 ∨ kd = 4 ∨ kd = 5 ∨ kd = 6 ∨ kd = 7 ∨ kd = 8 := by omega
  rcases hk9 with rfl | rfl | rfl | rfl | rfl | rfl | rfl | rfl | rfl
  · have eb : brk (lt σ.1 i) (0, of, n) = decide (shOf (lt σ.1 i) 0 of < n) := rfl
    rw [s1033_50, if_pos rfl, eb]
    simp only [s1033_96, s1033_97, s1033_98, s1033_99, s1033_101, unJ_I, unJ_J, unJ_F, unJ_R, unJ_N, unJ_U, pushR_I, pushR_J, pushR_F, pushR_R, pushR_N, pushR_U, rfV_s, rfV_n, Option.bind_some, true_or, or_true, if_true]
    refine (congrArg (fun o => Option.bind o _) sh0).trans ?_
    simp only [s1033_104, s1033_106, s1033_109, s1033_110, s1033_113, s1033_114, unJ_I, unJ_J, unJ_F, unJ_R, unJ_N, unJ_U, pushR_I, pushR_J, pushR_F, pushR_R, pushR_N, pushR_U, rfV_s, rfV_n, Option.bind_some, true_or, or_true, if_true, decide_eq_true_eq]
    by_cases z : shOf (lt σ.1 i) 0 of < n
    · rw [if_neg (by omega), if_pos z]
    · rw [if_pos (by omega), if_neg z]
  · have eb : brk (lt σ.1 i) (1, of, n) = decide (n < shOf (lt σ.1 i) 0 of) := rfl
    rw [s1033_50, if_neg (by omega), if_pos rfl, eb]
    simp only [s1033_115, s1033_116, s1033_117, s1033_118, s1033_120, unJ_I, unJ_J, unJ_F, unJ_R, unJ_N, unJ_U, pushR_I, pushR_J, pushR_F, pushR_R, pushR_N, pushR_U, rfV_s, rfV_n, Option.bind_some, true_or, or_true, if_true]
    refine (congrArg (fun o => Option.bind o _) sh0).trans ?_
    simp only [s1033_123, s1033_125, s1033_128, s1033_129, s1033_132, s1033_133, unJ_I, unJ_J, unJ_F, unJ_R, unJ_N, unJ_U, pushR_I, pushR_J, pushR_F, pushR_R, pushR_N, pushR_U, rfV_s, rfV_n, Option.bind_some, true_or, or_true, if_true, decide_eq_true_eq]
    by_cases z : n < shOf (lt σ.1 i) 0 of
    · rw [if_neg (by omega), if_pos z]
    · rw [if_pos (by omega), if_neg z]
  · have eb : brk (lt σ.1 i) (2, of, n) = decide (shOf (lt σ.1 i) 1 of < n) := rfl
    rw [s1033_50, if_neg (by omega), if_neg (by omega), if_pos rfl, eb]
    simp only [s1033_134, s1033_135, s1033_136, s1033_137, s1033_139, unJ_I, unJ_J, unJ_F, unJ_R, unJ_N, unJ_U, pushR_I, pushR_J, pushR_F, pushR_R, pushR_N, pushR_U, rfV_s, rfV_n, Option.bind_some, true_or, or_true, if_true]
    refine (congrArg (fun o => Option.bind o _) sh1).trans ?_
    simp only [s1033_142, s1033_144, s1033_147, s1033_148, s1033_151, s1033_152, unJ_I, unJ_J, unJ_F, unJ_R, unJ_N, unJ_U, pushR_I, pushR_J, pushR_F, pushR_R, pushR_N, pushR_U, rfV_s, rfV_n, Option.bind_some, true_or, or_true, if_true, decide_eq_true_eq]
    by_cases z : shOf (lt σ.1 i) 1 of < n
    · rw [if_neg (by omega), if_pos z]
    · rw [if_pos (by omega), if_neg z]
  · have eb : brk (lt σ.1 i) (3, of, n) = decide (shOf (lt σ.1 i) 2 of < n) := rfl
    rw [s1033_50, if_neg (by omega), if_neg (by omega), if_neg (by omega), if_pos rfl, eb]
    simp only [s1033_153, s1033_154, s1033_155, s1033_156, s1033_158, unJ_I, unJ_J, unJ_F, unJ_R, unJ_N, unJ_U, pushR_I, pushR_J, pushR_F, pushR_R, pushR_N, pushR_U, rfV_s, rfV_n, Option.bind_some, true_or, or_true, if_true]
    refine (congrArg (fun o => Option.bind o _) sh2).trans ?_
    simp only [s1033_161, s1033_163, s1033_166, s1033_167, s1033_170, s1033_171, unJ_I, unJ_J, unJ_F, unJ_R, unJ_N, unJ_U, pushR_I, pushR_J, pushR_F, pushR_R, pushR_N, pushR_U, rfV_s, rfV_n, Option.bind_some, true_or, or_true, if_true, decide_eq_true_eq]
    by_cases z : shOf (lt σ.1 i) 2 of < n
    · rw [if_neg (by omega), if_pos z]
    · rw [if_pos (by omega), if_neg z]
  · have eb : brk (lt σ.1 i) (4, of, n) = decide ((lt σ.1 i).1 1 < n) := rfl
    rw [s1033_50, if_neg (by omega), if_neg (by omega), if_neg (by omega), if_neg (by omega), if_pos rfl, eb]
    simp only [s1033_172, s1033_173, s1033_175, s1033_176, unJ_I, unJ_J, unJ_F, unJ_R, unJ_N, unJ_U, pushR_I, pushR_J, pushR_F, pushR_R, pushR_N, pushR_U, rfV_s, rfV_n, Option.bind_some, true_or, or_true, if_true]
    refine (congrArg (fun o => Option.bind o _) at1).trans ?_
    simp only [s1033_179, s1033_181, s1033_184, s1033_185, s1033_188, s1033_189, unJ_I, unJ_J, unJ_F, unJ_R, unJ_N, unJ_U, pushR_I, pushR_J, pushR_F, pushR_R, pushR_N, pushR_U, rfV_s, rfV_n, Option.bind_some, true_or, or_true, if_true, decide_eq_true_eq]
    by_cases z : (lt σ.1 i).1 1 < n
    · rw [if_neg (by omega), if_pos z]
    · rw [if_pos (by omega), if_neg z]
  · have eb : brk (lt σ.1 i) (5, of, n) = decide (n < (lt σ.1 i).1 1) := rfl
    rw [s1033_50, if_neg (by omega), if_neg (by omega), if_neg (by omega), if_neg (by omega), if_neg (by omega), if_pos rfl, eb]
    simp only [s1033_190, s1033_191, s1033_193, s1033_194, unJ_I, unJ_J, unJ_F, unJ_R, unJ_N, unJ_U, pushR_I, pushR_J, pushR_F, pushR_R, pushR_N, pushR_U, rfV_s, rfV_n, Option.bind_some, true_or, or_true, if_true]
    refine (congrArg (fun o => Option.bind o _) at1).trans ?_
    simp only [s1033_197, s1033_199, s1033_202, s1033_203, s1033_206, s1033_207, unJ_I, unJ_J, unJ_F, unJ_R, unJ_N, unJ_U, pushR_I, pushR_J, pushR_F, pushR_R, pushR_N, pushR_U, rfV_s, rfV_n, Option.bind_some, true_or, or_true, if_true, decide_eq_true_eq]
    by_cases z : n < (lt σ.1 i).1 1
    · rw [if_neg (by omega), if_pos z]
    · rw [if_pos (by omega), if_neg z]
  · have eb : brk (lt σ.1 i) (6, of, n) = decide ((lt σ.1 i).1 2 < n) := rfl
    rw [s1033_50, if_neg (by omega), if_neg (by omega), if_neg (by omega), if_neg (by omega), if_neg (by omega), if_neg (by omega), if_pos rfl, eb]
    simp only [s1033_208, s1033_209, s1033_211, s1033_212, unJ_I, unJ_J, unJ_F, unJ_R, unJ_N, unJ_U, pushR_I, pushR_J, pushR_F, pushR_R, pushR_N, pushR_U, rfV_s, rfV_n, Option.bind_some, true_or, or_true, if_true]
    refine (congrArg (fun o => Option.bind o _) at2).trans ?_
    simp only [s1033_215, s1033_217, s1033_220, s1033_221, s1033_224, s1033_225, unJ_I, unJ_J, unJ_F, unJ_R, unJ_N, unJ_U, pushR_I, pushR_J, pushR_F, pushR_R, pushR_N, pushR_U, rfV_s, rfV_n, Option.bind_some, true_or, or_true, if_true, decide_eq_true_eq]
    by_cases z : (lt σ.1 i).1 2 < n
    · rw [if_neg (by omega), if_pos z]
    · rw [if_pos (by omega), if_neg z]
  · have eb : brk (lt σ.1 i) (7, of, n) = decide (n < (lt σ.1 i).1 2) := rfl
    rw [s1033_50, if_neg (by omega), if_neg (by omega), if_neg (by omega), if_neg (by omega), if_neg (by omega), if_neg (by omega), if_neg (by omega), if_pos rfl, eb]
    simp only [s1033_226, s1033_227, s1033_229, s1033_230, unJ_I, unJ_J, unJ_F, unJ_R, unJ_N, unJ_U, pushR_I, pushR_J, pushR_F, pushR_R, pushR_N, pushR_U, rfV_s, rfV_n, Option.bind_some, true_or, or_true, if_true]
    refine (congrArg (fun o => Option.bind o _) at2).trans ?_
    simp only [s1033_233, s1033_235, s1033_238, s1033_239, s1033_242, s1033_243, unJ_I, unJ_J, unJ_F, unJ_R, unJ_N, unJ_U, pushR_I, pushR_J, pushR_F, pushR_R, pushR_N, pushR_U, rfV_s, rfV_n, Option.bind_some, true_or, or_true, if_true, decide_eq_true_eq]
    by_cases z : n < (lt σ.1 i).1 2
    · rw [if_neg (by omega), if_pos z]
    · rw [if_pos (by omega), if_neg z]
  · have eb : brk (lt σ.1 i) (8, of, n) = decide (n < (lt σ.1 i).1 3) := rfl
    rw [s1033_50, if_neg (by omega), if_neg (by omega), if_neg (by omega), if_neg (by omega), if_neg (by omega), if_neg (by omega), if_neg (by omega), if_neg (by omega), eb]
    simp only [s1033_244, s1033_245, s1033_247, s1033_248, unJ_I, unJ_J, unJ_F, unJ_R, unJ_N, unJ_U, pushR_I, pushR_J, pushR_F, pushR_R, pushR_N, pushR_U, rfV_s, rfV_n, Option.bind_some, true_or, or_true, if_true]
    refine (congrArg (fun o => Option.bind o _) at3).trans ?_
    simp only [s1033_251, s1033_253, s1033_256, s1033_257, s1033_260, s1033_261, unJ_I, unJ_J, unJ_F, unJ_R, unJ_N, unJ_U, pushR_I, pushR_J, pushR_F, pushR_R, pushR_N, pushR_U, rfV_s, rfV_n, Option.bind_some, true_or, or_true, if_true, decide_eq_true_eq]
    by_cases z : n < (lt σ.1 i).1 3
    · rw [if_neg (by omega), if_pos z]
    · rw [if_pos (by omega), if_neg z]
theorem i_or_z (X : Int32) : i_or X.toInt 0 = X.toInt := by
  unfold i_or b32
  rw [Int32.ofInt_toInt]
  simp
theorem brm_32 (w : Lt) (l : List Ru) (k : Nat) : ∃ X : Int32, brm w l k = X.toInt := by
  induction k with
  | zero => exact ⟨0, rfl⟩
  | succ k ih =>
    unfold brm
    split
    · exact ⟨_, rfl⟩
    · exact ih
/-- brokenBy -/
theorem w_broken (h : MRow (M 0) σ gs) (hm : okM σ.1) (hp : gs.Perm (flat σ.1)) {i : Nat} (hi : i < σ.1.length) (hs : 0 < gsum (lt σ.1 i).2) (hr : ∀ r ∈ σ.2.1, okR r) :
    rs 1034 0 [vR 10 0, vI ((lt σ.1 i).1 0), vU, vU] [] (SX q, C, (J, M, T)) = some (vI (brm (lt σ.1 i) σ.2.1 σ.2.1.length), (SX q, C, (J, M, T))) := by
  have a4 := h.1.2.2.2
  have b3 := h.2.1.2.2
  have loop := rs_loop (m := 1034) (pc := 4) (fun k => [vR 10 0, vI ((lt σ.1 i).1 0), vI (brm (lt σ.1 i) σ.2.1 k), vI (k : Int)]) (fun _ => (SX q, C, (J, M, T))) σ.2.1.length (fun k hk => by
    have ek : Unit → w32 ((k : Int) + 1) = ((k + 1 : Nat) : Int) := fun _ => by rw [w32_id (by omega) (by omega)]; omega
    have br := w_isBroken q (C := C) (J := J) (T := T) h hm hp hi hs hk (hr _ (rg_mem hk))
    rw [s1034_4]
    simp only [s1034_5, s1034_6, s1034_9, s1034_10, s1034_11, unJ_I, unJ_J, unJ_F, unJ_R, unJ_N, unJ_U, pushR_I, pushR_J, pushR_F, pushR_R, pushR_N, pushR_U, rfV_s, rfV_n, Option.bind_some, true_or, or_true, if_true, lm0]
    rw [if_pos (by omega)]
    simp only [show Int.toNat 3 = 3 from rfl, a4]
    rw [if_neg (by omega)]
    simp only [s1034_14, s1034_15, s1034_16, s1034_17, s1034_18, unJ_I, unJ_J, unJ_F, unJ_R, unJ_N, unJ_U, pushR_I, pushR_J, pushR_F, pushR_R, pushR_N, pushR_U, rfV_s, rfV_n, Option.bind_some, true_or, or_true, if_true, br]
    rw [brm]
    by_cases z : brk (lt σ.1 i) (rg σ.2.1 k) = true
    · rw [if_pos z, if_pos z]
      simp only [s1034_21, s1034_24, s1034_25, s1034_26, s1034_27, s1034_30, s1034_31, s1034_32, s1034_33, s1034_36, unJ_I, unJ_J, unJ_F, unJ_R, unJ_N, unJ_U, pushR_I, pushR_J, pushR_F, pushR_R, pushR_N, pushR_U, rfV_s, rfV_n, Option.bind_some, true_or, or_true, if_true, ek ()]
      rw [if_neg (by omega)]
    · obtain ⟨X, eX⟩ := brm_32 (lt σ.1 i) σ.2.1 k
      have z0 : i_or (brm (lt σ.1 i) σ.2.1 k) 0 = brm (lt σ.1 i) σ.2.1 k := by rw [eX]; exact i_or_z X
      rw [if_neg z, if_neg z]
      simp only [s1034_21, s1034_24, s1034_25, s1034_26, s1034_27, s1034_30, s1034_31, s1034_32, s1034_33, s1034_36, unJ_I, unJ_J, unJ_F, unJ_R, unJ_N, unJ_U, pushR_I, pushR_J, pushR_F, pushR_R, pushR_N, pushR_U, rfV_s, rfV_n, Option.bind_some, true_or, or_true, if_true, ek (), z0])
  simp only [s1034_0, s1034_1, s1034_2, s1034_3, unJ_I, unJ_J, unJ_F, unJ_R, unJ_N, unJ_U, pushR_I, pushR_J, pushR_F, pushR_R, pushR_N, pushR_U, rfV_s, rfV_n, Option.bind_some, true_or, or_true, if_true]
  refine loop.trans ?_
  rw [s1034_4]
  simp only [s1034_5, s1034_6, s1034_9, s1034_10, s1034_11, s1034_39, s1034_40, unJ_I, unJ_J, unJ_F, unJ_R, unJ_N, unJ_U, pushR_I, pushR_J, pushR_F, pushR_R, pushR_N, pushR_U, rfV_s, rfV_n, Option.bind_some, true_or, or_true, if_true, lm0]
  rw [if_pos (by omega)]
  simp only [show Int.toNat 3 = 3 from rfl, a4]
  rw [if_pos (by omega)]
end
