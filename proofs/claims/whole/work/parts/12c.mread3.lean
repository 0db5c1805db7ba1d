/-! THE MODEL CALLS: fault, read -/
theorem frm2_nn (tx : List Int) (i : Int) (t : Nat) (s : Int) : 0 ≤ (frm2 tx i t s).1 := by
  unfold frm2
  repeat' split
  all_goals first | exact (by decide : (0 : Int) ≤ 2) | exact (by decide : (0 : Int) ≤ 1) | exact (by decide : (0 : Int) ≤ 0) | exact (by decide : (0 : Int) ≤ 4)
theorem frmU_nn (tx : List Int) (i : Int) : 0 ≤ (frmU tx i).1 := by
  unfold frmU
  split
  · exact (by decide : (0 : Int) ≤ 1)
  · repeat' split
    all_goals first | exact frm2_nn _ _ _ _ | exact (by decide : (0 : Int) ≤ 2)
theorem menU_nn (fs : List Ru) (r : Ru) : 0 ≤ menU fs r := by
  unfold menU
  repeat' split
  all_goals omega
/-- rules read so far -/
def RdM (J M : M2) (rd : List Ru) : Prop := J 208 0 = rd.length ∧ ∀ k, k < rd.length → M 4 (3 * k) = (rg rd k).1 ∧ M 4 (3 * k + 1) = (rg rd k).2.1 ∧ M 4 (3 * k + 2) = (rg rd k).2.2
section
variable (q : Nat × (Nat → Int)) {C : MC} {J M T : M2} {tx : List Int} {l rd : List Ru} {t : Int} {X : XS}
theorem w_readRule (h : TxM J M tx) {i : Nat} (hi : i ≤ tx.length) (hc : J 206 0 = (i : Int)) (hl : M 0 3 = l.length) (hr : ∀ k, k < l.length → M 0 (16 + 3 * k) = (rg l k).1 ∧ M 0 (16 + 3 * k + 1) = (rg l k).2.1 ∧ M 0 (16 + 3 * k + 2) = (rg l k).2.2) (hd : RdM J M rd) (h8 : (l ++ rd).length ≤ 8) :
    ∃ J', rs 1067 0 [vR 10 0, vU] [] (SX q, C, (J, M, T)) = some (vI (if (frmU tx i).1 ≠ 0 then (frmU tx i).1 else menU (l ++ rd) (frmU tx i).2.1), (SX q, C, (J', M, T))) ∧ FR J J' ∧ ((frmU tx i).1 = 0 → (∃ p : Nat, J' 206 0 = (p : Int) ∧ (p : Int) = (frmU tx i).2.2 ∧ p ≤ tx.length) ∧ J' 210 0 = (frmU tx i).2.1.1 ∧ J' 211 0 = (frmU tx i).2.1.2.1 ∧ J' 212 0 = (frmU tx i).2.1.2.2) := by
  obtain ⟨d1, d2⟩ := hd
  have l8 : l.length + rd.length ≤ 8 := by rw [List.length_append] at h8; exact h8
  rcases w_form q (C := C) (T := T) h hi hc with ⟨a, J', b, c⟩ | ⟨a, J', w', b, c, p, r1, r2, r3⟩
  · rw [if_pos a]
    exact ⟨J', b, c, fun z => absurd z a⟩
  · rw [if_neg (fun z => z a)]
    refine ⟨J', ?_, c, fun _ => ⟨p, r1, r2, r3⟩⟩
    have fc := frmU_c a
    generalize (frmU tx i).2.1 = z at r1 r2 r3 fc ⊢
    have j8 : J' 208 0 = rd.length := (c _ _ (by omega)).trans d1
    have rt := w_right q (C := C) (M := M) (T := T) r1 r2 r3 fc.2.2
    have s1 := w_said q (C := C) (M := M) (T := T) (r := z) r1 r2 r3 (a := 0) (f := 16) (l := l) (by omega) (by omega) (by rw [lm0]; omega) hr
    have s2 := w_said q (C := C) (M := M) (T := T) (r := z) r1 r2 r3 (a := 4) (f := 0) (l := rd) (by omega) (by omega) (by rw [lm4]; omega) (fun k hk => by rw [Nat.zero_add]; exact d2 k hk)
    have es : Unit → w32 ((l.length : Int) + rd.length) = (l.length : Int) + rd.length := fun _ => w32_id (by omega) (by omega)
    rw [b]
    simp only [s1067_127, s1067_128, unJ_I, unJ_J, unJ_F, unJ_R, unJ_N, unJ_U, pushR_I, pushR_J, pushR_F, pushR_R, pushR_N, pushR_U, rfV_s, rfV_n, Option.bind_some, true_or, or_true, if_true, rt]
    unfold menU
    by_cases c1 : rngU z.1 z.2.1 z.2.2
    · rw [if_neg (fun y => y c1)]
      simp only [b01_t c1, s1067_131, unJ_I, unJ_J, unJ_F, unJ_R, unJ_N, unJ_U, pushR_I, pushR_J, pushR_F, pushR_R, pushR_N, pushR_U, rfV_s, rfV_n, Option.bind_some, true_or, or_true, if_true]
      rw [if_neg (by omega)]
      simp only [s1067_136, s1067_137, s1067_138, s1067_141, s1067_143, s1067_144, s1067_147, s1067_148, unJ_I, unJ_J, unJ_F, unJ_R, unJ_N, unJ_U, pushR_I, pushR_J, pushR_F, pushR_R, pushR_N, pushR_U, rfV_s, rfV_n, Option.bind_some, true_or, or_true, if_true, lm0]
      rw [if_pos (by omega)]
      simp only [show Int.toNat 3 = 3 from rfl, hl]
      rw [s1067_149]
      refine (congrArg (fun o => Option.bind o _) s1).trans ?_
      simp only [unJ_I, unJ_J, unJ_F, unJ_R, unJ_N, unJ_U, pushR_I, pushR_J, pushR_F, pushR_R, pushR_N, pushR_U, rfV_s, rfV_n, Option.bind_some, true_or, or_true, if_true]
      by_cases c2 : z ∈ l
      · rw [if_pos (List.mem_append_left _ c2)]
        simp only [b01_t c2, s1067_152, s1067_171, s1067_172, unJ_I, unJ_J, unJ_F, unJ_R, unJ_N, unJ_U, pushR_I, pushR_J, pushR_F, pushR_R, pushR_N, pushR_U, rfV_s, rfV_n, Option.bind_some, true_or, or_true, if_true]
        rw [if_neg (by omega)]
      · simp only [b01_f c2, s1067_152, s1067_155, s1067_156, s1067_157, s1067_160, s1067_161, s1067_162, unJ_I, unJ_J, unJ_F, unJ_R, unJ_N, unJ_U, pushR_I, pushR_J, pushR_F, pushR_R, pushR_N, pushR_U, rfV_s, rfV_n, Option.bind_some, true_or, or_true, if_true, j8]
        rw [s1067_165]
        refine (congrArg (fun o => Option.bind o _) s2).trans ?_
        simp only [unJ_I, unJ_J, unJ_F, unJ_R, unJ_N, unJ_U, pushR_I, pushR_J, pushR_F, pushR_R, pushR_N, pushR_U, rfV_s, rfV_n, Option.bind_some, true_or, or_true, if_true]
        by_cases c3 : z ∈ rd
        · rw [if_pos (List.mem_append_right _ c3)]
          simp only [b01_t c3, s1067_168, s1067_171, s1067_172, unJ_I, unJ_J, unJ_F, unJ_R, unJ_N, unJ_U, pushR_I, pushR_J, pushR_F, pushR_R, pushR_N, pushR_U, rfV_s, rfV_n, Option.bind_some, true_or, or_true, if_true]
          rw [if_neg (by omega)]
        · rw [if_neg (fun y => by rcases List.mem_append.mp y with x | x; exact c2 x; exact c3 x), List.length_append]
          simp only [b01_f c3, s1067_168, s1067_173, s1067_174, s1067_177, s1067_178, unJ_I, unJ_J, unJ_F, unJ_R, unJ_N, unJ_U, pushR_I, pushR_J, pushR_F, pushR_R, pushR_N, pushR_U, rfV_s, rfV_n, Option.bind_some, true_or, or_true, if_true, lm0]
          rw [if_pos (by omega)]
          simp only [show Int.toNat 3 = 3 from rfl, hl]
          simp only [s1067_179, s1067_180, s1067_183, s1067_184, s1067_186, s1067_189, s1067_191, s1067_194, s1067_195, unJ_I, unJ_J, unJ_F, unJ_R, unJ_N, unJ_U, pushR_I, pushR_J, pushR_F, pushR_R, pushR_N, pushR_U, rfV_s, rfV_n, Option.bind_some, true_or, or_true, if_true, j8, es ()]
          by_cases c4 : l.length + rd.length < 8
          · rw [if_neg (by omega), if_pos c4]
          · rw [if_pos (by omega), if_neg c4]
    · rw [if_pos c1]
      simp only [b01_f c1, s1067_131, s1067_134, s1067_135, unJ_I, unJ_J, unJ_F, unJ_R, unJ_N, unJ_U, pushR_I, pushR_J, pushR_F, pushR_R, pushR_N, pushR_U, rfV_s, rfV_n, Option.bind_some, true_or, or_true, if_true]
/-- the frame of a check -/
def FT (J J' : M2) : Prop := ∀ f y, ¬ (f = 206 ∨ f = 207 ∨ f = 208 ∨ f = 210 ∨ f = 211 ∨ f = 212) → J' f y = J f y
theorem FT.tr {J J1 J2' : M2} (h : FT J J1) (k : FT J1 J2') : FT J J2' := fun f y z => (k f y z).trans (h f y z)
theorem FR.tt {J J' : M2} (h : FR J J') : FT J J' := fun f y z => h f y (by omega)
theorem FT.up (J : M2) (f : Nat) (v : Int) (h : f = 206 ∨ f = 207 ∨ f = 208 ∨ f = 210 ∨ f = 211 ∨ f = 212) : FT J (up2 J f 0 v) := fun g y z => up2_ne (by omega)
def W4 (M M' : M2) : Prop := ∀ r, r ≠ 4 → M' r = M r
theorem W4.tr {M M1 M2' : M2} (h : W4 M M1) (k : W4 M1 M2') : W4 M M2' := fun r hr => (k r hr).trans (h r hr)
theorem w_check {M0 J0 : M2} (h0 : TxM J0 M0 tx) (hl : M0 0 3 = l.length) (hr : ∀ k, k < l.length → M0 0 (16 + 3 * k) = (rg l k).1 ∧ M0 0 (16 + 3 * k + 1) = (rg l k).2.1 ∧ M0 0 (16 + 3 * k + 2) = (rg l k).2.2) :
    ∀ (d i : Nat) (rd : List Ru) (pl : Int) (J M : M2), tx.length ≤ i + d → i ≤ tx.length → J 206 0 = (i : Int) → FT J0 J → W4 M0 M → RdM J M rd → (l ++ rd).length ≤ 8 → ∃ J' M', rs 1068 10 [vR 10 0, vU] [] (SX q, C, (J, M, T)) = some (vI (chkU tx d i (l ++ rd) rd.length pl).2.2.2, (SX q, C, (J', M', T))) ∧ FT J0 J' ∧ W4 M0 M' ∧ 0 ≤ (chkU tx d i (l ++ rd) rd.length pl).2.2.2 ∧
      ((chkU tx d i (l ++ rd) rd.length pl).2.2.2 = 0 → ∃ rd', (chkU tx d i (l ++ rd) rd.length pl).1 = l ++ rd' ∧ (l ++ rd').length ≤ 8 ∧ (chkU tx d i (l ++ rd) rd.length pl).2.1 = rd'.length ∧ RdM J' M' rd') ∧ ((chkU tx d i (l ++ rd) rd.length pl).2.2.2 ≠ 0 → J' 207 0 = (chkU tx d i (l ++ rd) rd.length pl).2.2.1) := by
  have fin : ∀ (d i : Nat) (rd : List Ru) (pl : Int) (J M : M2), tx.length ≤ i → i ≤ tx.length → J 206 0 = (i : Int) → FT J0 J → W4 M0 M → RdM J M rd → (l ++ rd).length ≤ 8 → chkU tx d i (l ++ rd) rd.length pl = (l ++ rd, (rd.length : Int), pl, 0) → ∃ J' M', rs 1068 10 [vR 10 0, vU] [] (SX q, C, (J, M, T)) = some (vI (chkU tx d i (l ++ rd) rd.length pl).2.2.2, (SX q, C, (J', M', T))) ∧ FT J0 J' ∧ W4 M0 M' ∧ 0 ≤ (chkU tx d i (l ++ rd) rd.length pl).2.2.2 ∧
      ((chkU tx d i (l ++ rd) rd.length pl).2.2.2 = 0 → ∃ rd', (chkU tx d i (l ++ rd) rd.length pl).1 = l ++ rd' ∧ (l ++ rd').length ≤ 8 ∧ (chkU tx d i (l ++ rd) rd.length pl).2.1 = rd'.length ∧ RdM J' M' rd') ∧ ((chkU tx d i (l ++ rd) rd.length pl).2.2.2 ≠ 0 → J' 207 0 = (chkU tx d i (l ++ rd) rd.length pl).2.2.1) := fun d i rd pl J M h1 h2 hc f w r h8 e => by
    have l5 : J 205 0 = (tx.length : Int) := (f _ _ (by omega)).trans h0.1
    rw [e]
    refine ⟨J, M, ?_, f, w, Int.le_refl _, fun _ => ⟨rd, rfl, h8, rfl, r⟩, fun z => absurd rfl z⟩
    rw [s1068_10]
    simp only [s1068_11, s1068_14, s1068_15, s1068_18, s1068_102, s1068_103, unJ_I, unJ_J, unJ_F, unJ_R, unJ_N, unJ_U, pushR_I, pushR_J, pushR_F, pushR_R, pushR_N, pushR_U, rfV_s, rfV_n, Option.bind_some, true_or, or_true, if_true, hc, l5]
    rw [if_pos (by omega)]
  intro d
  induction d with
  | zero =>
    intro i rd pl J M h1 h2 hc f w r h8
    exact fin 0 i rd pl J M h1 h2 hc f w r h8 rfl
  | succ d ih =>
    intro i rd pl J M h1 h2 hc f w r h8
    by_cases hz : tx.length ≤ i
    · exact fin (d + 1) i rd pl J M hz h2 hc f w r h8 (by unfold chkU; rw [if_pos (by omega)])
    · have l100 := h0.2.1
      have l5 : J 205 0 = (tx.length : Int) := (f _ _ (by omega)).trans h0.1
      have f1 : FT J0 (up2 J 207 0 (i : Int)) := f.tr (FT.up J 207 _ (by omega))
      have tm : TxM (up2 J 207 0 (i : Int)) M tx := ⟨(f1 _ _ (by omega)).trans h0.1, h0.2.1, fun j hj => by rw [w 3 (by omega)]; exact h0.2.2 j hj⟩
      have r1 : RdM (up2 J 207 0 (i : Int)) M rd := ⟨(up2_ne (by omega)).trans r.1, r.2⟩
      obtain ⟨J2, e2, f2, g2⟩ := w_readRule q (C := C) (T := T) tm h2 ((up2_ne (by omega)).trans hc) (by rw [w 0 (by omega)]; exact hl) (fun k hk => by rw [w 0 (by omega)]; exact hr k hk) r1 h8
      have f2t : FT J0 J2 := f1.tr f2.tt
      have run : ∀ v : Int, rs 1067 0 [vR 10 0, vU] [] (SX q, C, (up2 J 207 0 (i : Int), M, T)) = some (vI v, (SX q, C, (J2, M, T))) → rs 1068 10 [vR 10 0, vU] [] (SX q, C, (J, M, T)) = if v ≤ 0 then rs 1068 40 [vR 10 0, vI v] [] (SX q, C, (J2, M, T)) else some (vI v, (SX q, C, (J2, M, T))) := fun v hv => by
        rw [s1068_10]
        simp only [s1068_11, s1068_14, s1068_15, s1068_18, s1068_21, s1068_22, s1068_23, s1068_26, s1068_29, s1068_30, unJ_I, unJ_J, unJ_F, unJ_R, unJ_N, unJ_U, pushR_I, pushR_J, pushR_F, pushR_R, pushR_N, pushR_U, rfV_s, rfV_n, Option.bind_some, true_or, or_true, if_true, hc, l5, hv]
        rw [if_neg (by omega)]
        simp only [s1068_33, s1068_34, s1068_35, s1068_38, s1068_39, unJ_I, unJ_J, unJ_F, unJ_R, unJ_N, unJ_U, pushR_I, pushR_J, pushR_F, pushR_R, pushR_N, pushR_U, rfV_s, rfV_n, Option.bind_some, true_or, or_true, if_true]
      have ru := run _ e2
      by_cases z1 : (frmU tx i).1 ≠ 0
      · have nn := frmU_nn tx i
        have ec : chkU tx (d + 1) i (l ++ rd) rd.length pl = (l ++ rd, (rd.length : Int), (i : Int), (frmU tx i).1) := by
          rw [chkU, if_neg (by omega), if_pos z1]
        rw [if_pos z1, if_neg (by omega)] at ru
        rw [ec]
        exact ⟨J2, M, ru, f2t, w, nn, fun z => absurd z z1, fun _ => (f2 _ _ (by omega)).trans up2_eq⟩
      · have z0 : (frmU tx i).1 = 0 := Classical.byContradiction z1
        obtain ⟨⟨p, p1, p2, p3⟩, g3, g4, g5⟩ := g2 z0
        have nn := menU_nn (l ++ rd) (frmU tx i).2.1
        rw [if_neg z1] at ru
        by_cases z2 : menU (l ++ rd) (frmU tx i).2.1 ≠ 0
        · have ec : chkU tx (d + 1) i (l ++ rd) rd.length pl = (l ++ rd, (rd.length : Int), (i : Int), menU (l ++ rd) (frmU tx i).2.1) := by
            rw [chkU, if_neg (by omega), if_neg z1, if_pos z2]
          rw [if_neg (by omega)] at ru
          rw [ec]
          exact ⟨J2, M, ru, f2t, w, nn, fun z => absurd z z2, fun _ => (f2 _ _ (by omega)).trans up2_eq⟩
        · have z3 : menU (l ++ rd) (frmU tx i).2.1 = 0 := Classical.byContradiction z2
          have lt8 : (l ++ rd).length < 8 := by
            rcases Nat.lt_or_ge (l ++ rd).length 8 with a | a
            · exact a
            · exfalso; apply z2
              unfold menU
              rcases Classical.em (¬ rngU (frmU tx i).2.1.1 (frmU tx i).2.1.2.1 (frmU tx i).2.1.2.2) with x | x
              · rw [if_pos x]; unfold menU at z3; rw [if_pos x] at z3; exact absurd z3 (by omega)
              · unfold menU at z3
                rw [if_neg x] at z3
                by_cases y : (frmU tx i).2.1 ∈ l ++ rd
                · rw [if_pos y] at z3; omega
                · rw [if_neg y, if_neg (by omega)] at z3; omega
          have fc := frmU_c z0
          have ec : chkU tx (d + 1) i (l ++ rd) rd.length pl = chkU tx d (p : Int) (l ++ (rd ++ [(frmU tx i).2.1])) ((rd ++ [(frmU tx i).2.1]).length : Int) i := by
            rw [chkU, if_neg (by omega), if_neg z1, if_neg z2, ← p2, List.append_assoc, List.length_append]
            rfl
          rw [z3, if_pos (Int.le_refl 0)] at ru
          have l8 : l.length + rd.length < 8 := by rw [List.length_append] at lt8; exact lt8
          have j8 : J2 208 0 = (rd.length : Int) := (f2 _ _ (by omega)).trans r1.1
          generalize hz9 : (frmU tx i).2.1 = z at g3 g4 g5 ec
          have k3 : Unit → w32 (3 * (rd.length : Int)) = ((3 * rd.length : Nat) : Int) := fun _ => by rw [w32_id (by omega) (by omega)]; omega
          have k31 : Unit → w32 (((3 * rd.length : Nat) : Int) + 1) = ((3 * rd.length + 1 : Nat) : Int) := fun _ => by rw [w32_id (by omega) (by omega)]; omega
          have k32 : Unit → w32 (((3 * rd.length : Nat) : Int) + 2) = ((3 * rd.length + 2 : Nat) : Int) := fun _ => by rw [w32_id (by omega) (by omega)]; omega
          have kn : Unit → w32 ((rd.length : Int) + 1) = ((rd.length + 1 : Nat) : Int) := fun _ => by rw [w32_id (by omega) (by omega)]; omega
          have ru2 : rs 1068 10 [vR 10 0, vU] [] (SX q, C, (J, M, T)) = rs 1068 10 [vR 10 0, vU] [] (SX q, C, (up2 J2 208 0 ((rd.length + 1 : Nat) : Int), up2 (up2 (up2 M 4 (3 * rd.length) z.1) 4 (3 * rd.length + 1) z.2.1) 4 (3 * rd.length + 2) z.2.2, T)) := by
            rw [ru]
            simp only [s1068_40, s1068_41, s1068_44, s1068_45, s1068_46, s1068_49, s1068_50, s1068_51, s1068_54, unJ_I, unJ_J, unJ_F, unJ_R, unJ_N, unJ_U, pushR_I, pushR_J, pushR_F, pushR_R, pushR_N, pushR_U, rfV_s, rfV_n, Option.bind_some, true_or, or_true, if_true, j8, g3, k3 (), lm4, Int.toNat_natCast]
            rw [if_pos (by omega)]
            simp only [s1068_55, s1068_56, s1068_59, s1068_60, s1068_61, s1068_64, s1068_65, s1068_66, s1068_67, s1068_68, s1068_71, unJ_I, unJ_J, unJ_F, unJ_R, unJ_N, unJ_U, pushR_I, pushR_J, pushR_F, pushR_R, pushR_N, pushR_U, rfV_s, rfV_n, Option.bind_some, true_or, or_true, if_true, j8, g4, k3 (), k31 (), lm4, Int.toNat_natCast]
            rw [if_pos (by omega)]
            simp only [s1068_72, s1068_73, s1068_76, s1068_77, s1068_78, s1068_81, s1068_82, s1068_83, s1068_84, s1068_85, s1068_88, unJ_I, unJ_J, unJ_F, unJ_R, unJ_N, unJ_U, pushR_I, pushR_J, pushR_F, pushR_R, pushR_N, pushR_U, rfV_s, rfV_n, Option.bind_some, true_or, or_true, if_true, j8, g5, k3 (), k32 (), lm4, Int.toNat_natCast]
            rw [if_pos (by omega)]
            simp only [s1068_89, s1068_90, s1068_90r, s1068_91, s1068_94, s1068_95, s1068_96, s1068_99, unJ_I, unJ_J, unJ_F, unJ_R, unJ_N, unJ_U, pushR_I, pushR_J, pushR_F, pushR_R, pushR_N, pushR_U, rfV_s, rfV_n, Option.bind_some, true_or, or_true, if_true, j8, kn ()]
          have hl2 : (rd ++ [z]).length = rd.length + 1 := by simp
          obtain ⟨J', M', e', r'⟩ := ih p (rd ++ [z]) (i : Int) (up2 J2 208 0 ((rd.length + 1 : Nat) : Int)) (up2 (up2 (up2 M 4 (3 * rd.length) z.1) 4 (3 * rd.length + 1) z.2.1) 4 (3 * rd.length + 2) z.2.2) (by omega) p3 ((up2_ne (by omega)).trans p1) (f2t.tr (FT.up J2 208 _ (by omega))) (w.tr (fun r hr => by funext y; exact (up2_ne (by omega)).trans ((up2_ne (by omega)).trans (up2_ne (by omega))))) ⟨up2_eq.trans (by rw [hl2]), fun k hk => by
            rw [rg_app]
            by_cases c : k < rd.length
            · rw [if_pos c, up2_ne (by omega), up2_ne (by omega), up2_ne (by omega), up2_ne (by omega), up2_ne (by omega), up2_ne (by omega), up2_ne (by omega), up2_ne (by omega), up2_ne (by omega)]
              exact r.2 k c
            · have ek : k = rd.length := by omega
              subst ek
              rw [if_neg (Nat.lt_irrefl _), if_pos rfl]
              exact ⟨(up2_ne (by omega)).trans ((up2_ne (by omega)).trans up2_eq), (up2_ne (by omega)).trans up2_eq, up2_eq⟩⟩ (by rw [← List.append_assoc, List.length_append]; simp; simp at lt8; omega)
          rw [ec]
          exact ⟨J', M', ru2.trans e', r'⟩
end
