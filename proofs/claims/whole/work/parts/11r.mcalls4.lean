/-! THE MODEL CALLS: dropRule, count -/
section
variable (q : Nat × (Nat → Int)) {C : MC} {J M T : M2} {t : Int} {X : XS}
theorem w_dropRule (h : Mod J M X) (r : Int) : Dom 1036 [vR 10 0, vI r, vU] q C J M T (vI (aDropRule X r).1) (aDropRule X r).2 := by
  obtain ⟨⟨gs, a, b⟩, -⟩ := id h
  obtain ⟨a1, a2, a3, a4⟩ := a.1
  have b3 := a.2.1.2.2
  unfold aDropRule
  by_cases h1 : 0 ≤ r
  · rw [if_pos h1]
    by_cases hr : r < X.1.2.1.length
    · rw [if_pos hr]
      obtain ⟨n, rfl⟩ : ∃ n : Nat, r = n := ⟨r.toNat, by omega⟩
      rw [Int.toNat_natCast]
      obtain ⟨L, hL⟩ : ∃ L : Nat, X.1.2.1.length = L + 1 := ⟨X.1.2.1.length - 1, by omega⟩
      obtain ⟨J1, M1, e1, k1, k2, k3⟩ := w_change q (C := C) (T := T) h
      obtain ⟨⟨gs1, c1, c2⟩, -⟩ := id k1
      have m3 : M1 0 3 = ((L + 1 : Nat) : Int) := by rw [c1.1.2.2.2]; show ((X.1.2.1.length : Nat) : Int) = _; rw [hL]
      have el : Unit → w32 (((L + 1 : Nat) : Int) - 1) = (L : Int) := fun _ => by rw [w32_id (by omega) (by omega)]; omega
      have en1 : Unit → w32 (3 * (n : Int)) = 3 * n := fun _ => w32_id (by omega) (by omega)
      have en2 : Unit → w32 (16 + 3 * (n : Int)) = ((16 + 3 * n : Nat) : Int) := fun _ => by rw [w32_id (by omega) (by omega)]; omega
      have eL1 : Unit → w32 (3 * (L : Int)) = 3 * L := fun _ => w32_id (by omega) (by omega)
      have eL2 : Unit → w32 (16 + 3 * (L : Int)) = ((16 + 3 * L : Nat) : Int) := fun _ => by rw [w32_id (by omega) (by omega)]; omega
      generalize hMb : up2 M1 0 3 (L : Int) = Mb
      have b3' : Mb 0 3 = (L : Int) := by subst hMb; exact up2_eq
      have bo : ∀ y, y ≠ 3 → Mb 0 y = M1 0 y := fun y hy => by subst hMb; exact up2_ne (by omega)
      have bo2 : ∀ r, r ≠ 0 → Mb r = M1 r := fun r hr => by subst hMb; funext y; exact up2_ne (by omega)
      have loop := rs_loop (m := 1036) (pc := 40) (fun i => [vR 10 0, vU, vI ((16 + 3 * n + i : Nat) : Int)]) (fun i => (SX q, C, (J1, cpF Mb 0 (fun j => Mb 0 (16 + 3 * n + j + 3)) (16 + 3 * n) i, T))) (3 * L - 3 * n) (fun i hi => by
        have ei : Unit → w32 (((16 + 3 * n + i : Nat) : Int) + 1) = ((16 + 3 * n + (i + 1) : Nat) : Int) := fun _ => by rw [w32_id (by omega) (by omega)]; omega
        have e3 : Unit → w32 (((16 + 3 * n + i : Nat) : Int) + 3) = ((16 + 3 * n + i + 3 : Nat) : Int) := fun _ => by rw [w32_id (by omega) (by omega)]; omega
        have rd : cpF Mb 0 (fun j => Mb 0 (16 + 3 * n + j + 3)) (16 + 3 * n) i 0 (16 + 3 * n + i + 3) = Mb 0 (16 + 3 * n + i + 3) := cpF_no (by omega)
        have r3 : cpF Mb 0 (fun j => Mb 0 (16 + 3 * n + j + 3)) (16 + 3 * n) i 0 3 = (L : Int) := (cpF_no (by omega)).trans b3'
        have st := cpF_s Mb 0 (fun j => Mb 0 (16 + 3 * n + j + 3)) (16 + 3 * n) i
        rw [s1036_40]
        simp only [s1036_41, s1036_43, s1036_44, s1036_45, s1036_48, s1036_49, s1036_50, s1036_51, s1036_52, unJ_I, unJ_J, unJ_F, unJ_R, unJ_N, unJ_U, pushR_I, pushR_J, pushR_F, pushR_R, pushR_N, pushR_U, rfV_s, rfV_n, Option.bind_some, true_or, or_true, if_true, lm0]
        rw [if_pos (by omega)]
        simp only [show Int.toNat 3 = 3 from rfl, r3, eL1 (), eL2 ()]
        rw [if_neg (by omega)]
        simp only [s1036_55, s1036_56, s1036_59, s1036_60, s1036_61, s1036_64, s1036_65, s1036_66, s1036_67, s1036_68, s1036_69, s1036_72, unJ_I, unJ_J, unJ_F, unJ_R, unJ_N, unJ_U, pushR_I, pushR_J, pushR_F, pushR_R, pushR_N, pushR_U, rfV_s, rfV_n, Option.bind_some, true_or, or_true, if_true, lm0, e3 (), Int.toNat_natCast, rd, ei ()]
        rw [if_pos (by omega), if_pos (by omega), st])
      have r3f : cpF Mb 0 (fun j => Mb 0 (16 + 3 * n + j + 3)) (16 + 3 * n) (3 * L - 3 * n) 0 3 = (L : Int) := (cpF_no (by omega)).trans b3'
      have lenE : (X.1.2.1.eraseIdx n).length = L := by rw [List.length_eraseIdx, if_pos (by omega)]; omega
      have rgE : ∀ k, k < L → rg (X.1.2.1.eraseIdx n) k = if k < n then rg X.1.2.1 k else rg X.1.2.1 (k + 1) := fun k hk => by
        unfold rg
        rw [List.getD_eq_getElem?_getD, List.getElem?_eraseIdx]
        split
        · rw [List.getD_eq_getElem?_getD]
        · rw [List.getD_eq_getElem?_getD]
      refine ⟨J1, cpF Mb 0 (fun j => Mb 0 (16 + 3 * n + j + 3)) (16 + 3 * n) (3 * L - 3 * n), T, ?_, Mod.row (σ' := (X.1.1, X.1.2.1.eraseIdx n, X.1.2.2)) k1 rfl rfl (by funext y; rw [cpF_no (by omega), bo2 2 (by omega)]) (by funext y; rw [cpF_no (by omega), bo2 3 (by omega)]) (c1.rul (fun k hk h3 h4 => (cpF_no (by omega)).trans (bo k h3)) (by rw [r3f, lenE]) (by omega) (fun k hk => ?_)) c2⟩
      · simp only [s1036_0, s1036_1, s1036_4, s1036_5, s1036_6, s1036_7, s1036_8, s1036_11, s1036_12, s1036_13, unJ_I, unJ_J, unJ_F, unJ_R, unJ_N, unJ_U, pushR_I, pushR_J, pushR_F, pushR_R, pushR_N, pushR_U, rfV_s, rfV_n, Option.bind_some, true_or, or_true, if_true, lm0]
        rw [if_pos h1, if_pos (by omega)]
        simp only [show Int.toNat 3 = 3 from rfl, a4]
        rw [if_pos hr]
        simp only [s1036_19, s1036_20, s1036_23, s1036_24, s1036_27, s1036_28, s1036_29, unJ_I, unJ_J, unJ_F, unJ_R, unJ_N, unJ_U, pushR_I, pushR_J, pushR_F, pushR_R, pushR_N, pushR_U, rfV_s, rfV_n, Option.bind_some, true_or, or_true, if_true, lm0, e1]
        rw [if_pos (by omega)]
        simp only [s1036_30, s1036_31, s1036_32, s1036_33, s1036_35, s1036_36, s1036_37, s1036_38, s1036_39, unJ_I, unJ_J, unJ_F, unJ_R, unJ_N, unJ_U, pushR_I, pushR_J, pushR_F, pushR_R, pushR_N, pushR_U, rfV_s, rfV_n, Option.bind_some, true_or, or_true, if_true, lm0, show Int.toNat 3 = 3 from rfl, m3, el (), en1 (), en2 (), hMb]
        rw [if_pos (by omega)]
        have e0 : rs 1036 40 [vR 10 0, vU, vI ((16 + 3 * n : Nat) : Int)] [] (SX q, C, (J1, Mb, T)) = rs 1036 40 [vR 10 0, vU, vI ((16 + 3 * n + 0 : Nat) : Int)] [] (SX q, C, (J1, cpF Mb 0 (fun j => Mb 0 (16 + 3 * n + j + 3)) (16 + 3 * n) 0, T)) := by rw [cpF_0]; rfl
        refine e0.trans (loop.trans ?_)
        rw [s1036_40]
        simp only [s1036_41, s1036_43, s1036_44, s1036_45, s1036_48, s1036_49, s1036_50, s1036_51, s1036_52, unJ_I, unJ_J, unJ_F, unJ_R, unJ_N, unJ_U, pushR_I, pushR_J, pushR_F, pushR_R, pushR_N, pushR_U, rfV_s, rfV_n, Option.bind_some, true_or, or_true, if_true, lm0]
        rw [if_pos (by omega)]
        simp only [show Int.toNat 3 = 3 from rfl, r3f, eL1 (), eL2 ()]
        rw [if_pos (by omega)]
        simp only [s1036_75, s1036_76, s1036_79, s1036_80, s1036_81, unJ_I, unJ_J, unJ_F, unJ_R, unJ_N, unJ_U, pushR_I, pushR_J, pushR_F, pushR_R, pushR_N, pushR_U, rfV_s, rfV_n, Option.bind_some, true_or, or_true, if_true, lm0, show Int.toNat 3 = 3 from rfl, r3f]
        rw [if_pos (by omega)]
        congr 3
        omega
      · have hk' : k < L := by omega
        rw [rgE k hk']
        by_cases z : k < n
        · have := c1.2.2.2.2.1 k (by show k < X.1.2.1.length; omega)
          rw [if_pos z, cpF_no (by omega), cpF_no (by omega), cpF_no (by omega), bo _ (by omega), bo _ (by omega), bo _ (by omega)]
          exact this
        · have := c1.2.2.2.2.1 (k + 1) (by show k + 1 < X.1.2.1.length; omega)
          have g : ∀ d, d < 3 → cpF Mb 0 (fun j => Mb 0 (16 + 3 * n + j + 3)) (16 + 3 * n) (3 * L - 3 * n) 0 (16 + 3 * k + d) = M1 0 (16 + 3 * (k + 1) + d) := fun d hd => by
            have c := cpF_in (M := Mb) (a := 0) (g := fun j => Mb 0 (16 + 3 * n + j + 3)) (off := 16 + 3 * n) (n := 3 * L - 3 * n) (k := 3 * k - 3 * n + d) (by omega)
            rw [show 16 + 3 * n + (3 * k - 3 * n + d) = 16 + 3 * k + d by omega] at c
            rw [c]
            exact (bo _ (by omega)).trans (congrArg (M1 0) (by omega))
          have g0 := g 0 (by omega)
          rw [Nat.add_zero, Nat.add_zero] at g0
          rw [if_neg z, g0, g 1 (by omega), g 2 (by omega)]
          exact this
    · rw [if_neg hr]
      refine ⟨J, M, T, ?_, h⟩
      simp only [s1036_0, s1036_1, s1036_4, s1036_5, s1036_6, s1036_7, s1036_8, s1036_11, s1036_12, s1036_13, unJ_I, unJ_J, unJ_F, unJ_R, unJ_N, unJ_U, pushR_I, pushR_J, pushR_F, pushR_R, pushR_N, pushR_U, rfV_s, rfV_n, Option.bind_some, true_or, or_true, if_true, lm0]
      rw [if_pos h1, if_pos (by omega)]
      simp only [show Int.toNat 3 = 3 from rfl, a4]
      rw [if_neg hr]
      simp only [s1036_16, s1036_18, unJ_I, unJ_J, unJ_F, unJ_R, unJ_N, unJ_U, pushR_I, pushR_J, pushR_F, pushR_R, pushR_N, pushR_U, rfV_s, rfV_n, Option.bind_some, true_or, or_true, if_true]
  · rw [if_neg h1]
    refine ⟨J, M, T, ?_, h⟩
    simp only [s1036_0, s1036_1, s1036_4, s1036_5, unJ_I, unJ_J, unJ_F, unJ_R, unJ_N, unJ_U, pushR_I, pushR_J, pushR_F, pushR_R, pushR_N, pushR_U, rfV_s, rfV_n, Option.bind_some, true_or, or_true, if_true]
    rw [if_neg h1]
theorem w_count (h : Mod J M X) (ho : okX t X) (hy : okY X) (x : Int) : Dom 1057 [vR 10 0, vI x, vU, vU] q C J M T (vI (aCount X x)) X := by
  obtain ⟨⟨gs, a, b⟩, h2, h5, -⟩ := id h
  obtain ⟨a1, a2, a3, a4⟩ := a.1
  unfold aCount
  by_cases h1 : 0 ≤ x ∧ x ≤ 13
  · rw [if_pos h1]
    by_cases x5 : x = 5
    · subst x5
      obtain ⟨J0, M0, e0, y1, y2, y3, y4, y5⟩ := w_mix q (C := C) (J := J) (T := T) a hy.1.2.2
      refine ⟨J0, M0, T, ?_, h.same (y4 _ _ (by omega) (by omega)) (y4 _ _ (by omega) (by omega)) (fun k _ => by rw [y5 0 (by omega) (by omega)]) (y5 2 (by omega) (by omega)) (y5 3 (by omega) (by omega))⟩
      simp only [s1057_0, unJ_I, unJ_J, unJ_F, unJ_R, unJ_N, unJ_U, pushR_I, pushR_J, pushR_F, pushR_R, pushR_N, pushR_U, rfV_s, rfV_n, Option.bind_some, true_or, or_true, if_true]
      rw [s1057_1, if_neg (by omega), if_neg (by omega), if_neg (by omega), if_neg (by omega), if_neg (by omega), if_pos rfl]
      simp only [s1057_101, s1057_102, s1057_105, s1057_106, s1057_109, unJ_I, unJ_J, unJ_F, unJ_R, unJ_N, unJ_U, pushR_I, pushR_J, pushR_F, pushR_R, pushR_N, pushR_U, rfV_s, rfV_n, Option.bind_some, true_or, or_true, if_true, e0, y1]
      rfl
    · refine ⟨J, M, T, ?_, h⟩
      have lk0 := w_lots q (C := C) (J := J) (T := T) a 0
      have lk1 := w_lots q (C := C) (J := J) (T := T) a 1
      have gl : (gs.length : Int) = allG X.1.1 := by rw [← flat_len, b.length_eq]
      simp only [s1057_0, unJ_I, unJ_J, unJ_F, unJ_R, unJ_N, unJ_U, pushR_I, pushR_J, pushR_F, pushR_R, pushR_N, pushR_U, rfV_s, rfV_n, Option.bind_some, true_or, or_true, if_true]
      by_cases x11 : x = 11
      · subst x11
        rw [s1057_1, if_neg (by omega), if_neg (by omega), if_neg (by omega), if_neg (by omega), if_neg (by omega), if_neg (by omega), if_neg (by omega), if_neg (by omega), if_neg (by omega), if_neg (by omega), if_neg (by omega), if_pos rfl]
        have l13 := a.2.1.1
        have loop := rs_loop (m := 1057) (pc := 133) (fun i => [vR 10 0, vU, vI (cntU (fun i => 0 < scN (lt X.1.1 i)) i), vI (i : Int)]) (fun _ => (SX q, C, (J, M, T))) X.1.1.length (fun i hi => by
          have r := cntU_r (fun i => 0 < scN (lt X.1.1 i)) i
          have ei : Unit → w32 ((i : Int) + 1) = ((i + 1 : Nat) : Int) := fun _ => by rw [w32_id (by omega) (by omega)]; omega
          have e1 : Unit → w32 (cntU (fun i => 0 < scN (lt X.1.1 i)) i + 1) = cntU (fun i => 0 < scN (lt X.1.1 i)) i + 1 := fun _ => w32_id (by omega) (by omega)
          have e2 : Unit → w32 (cntU (fun i => 0 < scN (lt X.1.1 i)) i) = cntU (fun i => 0 < scN (lt X.1.1 i)) i := fun _ => w32_id (by omega) (by omega)
          have sc := w_scores q (C := C) (J := J) (T := T) a hi (ho.lot hi).1.sc
          rw [s1057_133]
          simp only [s1057_134, s1057_135, s1057_138, s1057_139, s1057_140, unJ_I, unJ_J, unJ_F, unJ_R, unJ_N, unJ_U, pushR_I, pushR_J, pushR_F, pushR_R, pushR_N, pushR_U, rfV_s, rfV_n, Option.bind_some, true_or, or_true, if_true, lm0]
          rw [if_pos (by omega)]
          simp only [Int.toNat_zero, a1]
          rw [if_neg (by omega)]
          simp only [s1057_143, s1057_144, s1057_145, s1057_146, s1057_149, unJ_I, unJ_J, unJ_F, unJ_R, unJ_N, unJ_U, pushR_I, pushR_J, pushR_F, pushR_R, pushR_N, pushR_U, rfV_s, rfV_n, Option.bind_some, true_or, or_true, if_true, sc]
          rw [cntU]
          by_cases z : 0 < scN (lt X.1.1 i)
          · rw [if_neg (by omega), if_pos z]
            simp only [s1057_152, s1057_153, s1057_156, s1057_157, s1057_158, s1057_159, s1057_162, unJ_I, unJ_J, unJ_F, unJ_R, unJ_N, unJ_U, pushR_I, pushR_J, pushR_F, pushR_R, pushR_N, pushR_U, rfV_s, rfV_n, Option.bind_some, true_or, or_true, if_true, e1 (), ei ()]
          · rw [if_pos (by omega), if_neg z]
            simp only [s1057_156, s1057_157, s1057_158, s1057_159, s1057_162, unJ_I, unJ_J, unJ_F, unJ_R, unJ_N, unJ_U, pushR_I, pushR_J, pushR_F, pushR_R, pushR_N, pushR_U, rfV_s, rfV_n, Option.bind_some, true_or, or_true, if_true, Int.add_zero, e2 (), ei ()])
        simp only [s1057_129, s1057_130, s1057_131, s1057_132, unJ_I, unJ_J, unJ_F, unJ_R, unJ_N, unJ_U, pushR_I, pushR_J, pushR_F, pushR_R, pushR_N, pushR_U, rfV_s, rfV_n, Option.bind_some, true_or, or_true, if_true]
        refine loop.trans ?_
        rw [s1057_133]
        simp only [s1057_134, s1057_135, s1057_138, s1057_139, s1057_140, unJ_I, unJ_J, unJ_F, unJ_R, unJ_N, unJ_U, pushR_I, pushR_J, pushR_F, pushR_R, pushR_N, pushR_U, rfV_s, rfV_n, Option.bind_some, true_or, or_true, if_true, lm0]
        rw [if_pos (by omega)]
        simp only [Int.toNat_zero, a1]
        rw [if_pos (by omega)]
        simp only [s1057_165, s1057_166, unJ_I, unJ_J, unJ_F, unJ_R, unJ_N, unJ_U, pushR_I, pushR_J, pushR_F, pushR_R, pushR_N, pushR_U, rfV_s, rfV_n, Option.bind_some, true_or, or_true, if_true]
        rfl
      · have stt : ∀ n : Nat, n < 4 → rs 1057 117 [vR 10 0, vI ((7 + n : Nat) : Int), vU, vU] [] (SX q, C, (J, M, T)) = some (vI (X.1.2.2.1 n), (SX q, C, (J, M, T))) := fun n hn => by
          have e1 : Unit → w32 (4 + ((7 + n : Nat) : Int)) = ((11 + n : Nat) : Int) := fun _ => by rw [w32_id (by omega) (by omega)]; omega
          have e2 : Unit → w32 (((11 + n : Nat) : Int) - 7) = ((4 + n : Nat) : Int) := fun _ => by rw [w32_id (by omega) (by omega)]; omega
          simp only [s1057_117, s1057_118, s1057_121, s1057_122, s1057_123, s1057_124, s1057_126, s1057_127, unJ_I, unJ_J, unJ_F, unJ_R, unJ_N, unJ_U, pushR_I, pushR_J, pushR_F, pushR_R, pushR_N, pushR_U, rfV_s, rfV_n, Option.bind_some, true_or, or_true, if_true, lm0, e1 (), e2 (), Int.toNat_natCast, a.2.2.1 n hn]
          rw [if_pos (by omega)]
          simp only [s1057_128, unJ_I, unJ_J, unJ_F, unJ_R, unJ_N, unJ_U, pushR_I, pushR_J, pushR_F, pushR_R, pushR_N, pushR_U, rfV_s, rfV_n, Option.bind_some, true_or, or_true, if_true]
        have hx : x = 0 ∨ x = 1 ∨ x = 2 ∨ x = 3 ∨ x = 4 ∨ x = 6 ∨ x = 7 ∨ x = 8 ∨ x = 9 ∨ x = 10 ∨ x = 12 ∨ x = 13 := by omega
        rcases hx with rfl | rfl | rfl | rfl | rfl | rfl | rfl | rfl | rfl | rfl | rfl | rfl
        · rw [s1057_1, if_pos rfl]
          simp [s1057_72, s1057_73, s1057_76, s1057_77, s1057_78, unJ_I, unJ_J, unJ_F, unJ_R, unJ_N, unJ_U, pushR_I, pushR_J, pushR_F, pushR_R, pushR_N, pushR_U, rfV_s, rfV_n, Option.bind_some, true_or, or_true, if_true, lm0, a1]
        · rw [s1057_1, if_neg (by omega), if_pos rfl]
          simp only [s1057_79, s1057_80, s1057_81, s1057_82, s1057_83, s1057_86, unJ_I, unJ_J, unJ_F, unJ_R, unJ_N, unJ_U, pushR_I, pushR_J, pushR_F, pushR_R, pushR_N, pushR_U, rfV_s, rfV_n, Option.bind_some, true_or, or_true, if_true, show w32 (1 - 1) = 0 from rfl, lk0]
          rfl
        · rw [s1057_1, if_neg (by omega), if_neg (by omega), if_pos rfl]
          simp only [s1057_79, s1057_80, s1057_81, s1057_82, s1057_83, s1057_86, unJ_I, unJ_J, unJ_F, unJ_R, unJ_N, unJ_U, pushR_I, pushR_J, pushR_F, pushR_R, pushR_N, pushR_U, rfV_s, rfV_n, Option.bind_some, true_or, or_true, if_true, show w32 (2 - 1) = 1 from rfl, lk1]
          rfl
        · rw [s1057_1, if_neg (by omega), if_neg (by omega), if_neg (by omega), if_pos rfl]
          simp [s1057_87, s1057_88, s1057_91, s1057_92, s1057_93, unJ_I, unJ_J, unJ_F, unJ_R, unJ_N, unJ_U, pushR_I, pushR_J, pushR_F, pushR_R, pushR_N, pushR_U, rfV_s, rfV_n, Option.bind_some, true_or, or_true, if_true, lm0, a3, gl]
        · rw [s1057_1, if_neg (by omega), if_neg (by omega), if_neg (by omega), if_neg (by omega), if_pos rfl]
          simp [s1057_94, s1057_95, s1057_98, s1057_99, s1057_100, unJ_I, unJ_J, unJ_F, unJ_R, unJ_N, unJ_U, pushR_I, pushR_J, pushR_F, pushR_R, pushR_N, pushR_U, rfV_s, rfV_n, Option.bind_some, true_or, or_true, if_true, lm0, a4]
        · rw [s1057_1, if_neg (by omega), if_neg (by omega), if_neg (by omega), if_neg (by omega), if_neg (by omega), if_neg (by omega), if_pos rfl]
          simp [s1057_110, s1057_111, s1057_114, s1057_115, s1057_116, unJ_I, unJ_J, unJ_F, unJ_R, unJ_N, unJ_U, pushR_I, pushR_J, pushR_F, pushR_R, pushR_N, pushR_U, rfV_s, rfV_n, Option.bind_some, true_or, or_true, if_true, lm0, a2]
        · rw [s1057_1, if_neg (by omega), if_neg (by omega), if_neg (by omega), if_neg (by omega), if_neg (by omega), if_neg (by omega), if_neg (by omega), if_pos rfl]
          exact (stt 0 (by omega)).trans rfl
        · rw [s1057_1, if_neg (by omega), if_neg (by omega), if_neg (by omega), if_neg (by omega), if_neg (by omega), if_neg (by omega), if_neg (by omega), if_neg (by omega), if_pos rfl]
          exact (stt 1 (by omega)).trans rfl
        · rw [s1057_1, if_neg (by omega), if_neg (by omega), if_neg (by omega), if_neg (by omega), if_neg (by omega), if_neg (by omega), if_neg (by omega), if_neg (by omega), if_neg (by omega), if_pos rfl]
          exact (stt 2 (by omega)).trans rfl
        · rw [s1057_1, if_neg (by omega), if_neg (by omega), if_neg (by omega), if_neg (by omega), if_neg (by omega), if_neg (by omega), if_neg (by omega), if_neg (by omega), if_neg (by omega), if_neg (by omega), if_pos rfl]
          exact (stt 3 (by omega)).trans rfl
        · rw [s1057_1, if_neg (by omega), if_neg (by omega), if_neg (by omega), if_neg (by omega), if_neg (by omega), if_neg (by omega), if_neg (by omega), if_neg (by omega), if_neg (by omega), if_neg (by omega), if_neg (by omega), if_neg (by omega), if_pos rfl]
          simp [s1057_167, s1057_168, s1057_171, unJ_I, unJ_J, unJ_F, unJ_R, unJ_N, unJ_U, pushR_I, pushR_J, pushR_F, pushR_R, pushR_N, pushR_U, rfV_s, rfV_n, Option.bind_some, true_or, or_true, if_true, h2.1]
        · rw [s1057_1, if_neg (by omega), if_neg (by omega), if_neg (by omega), if_neg (by omega), if_neg (by omega), if_neg (by omega), if_neg (by omega), if_neg (by omega), if_neg (by omega), if_neg (by omega), if_neg (by omega), if_neg (by omega), if_neg (by omega), if_pos rfl]
          simp [s1057_172, s1057_173, s1057_176, unJ_I, unJ_J, unJ_F, unJ_R, unJ_N, unJ_U, pushR_I, pushR_J, pushR_F, pushR_R, pushR_N, pushR_U, rfV_s, rfV_n, Option.bind_some, true_or, or_true, if_true, h5]
  · rw [if_neg h1]
    refine ⟨J, M, T, ?_, h⟩
    simp only [s1057_0, unJ_I, unJ_J, unJ_F, unJ_R, unJ_N, unJ_U, pushR_I, pushR_J, pushR_F, pushR_R, pushR_N, pushR_U, rfV_s, rfV_n, Option.bind_some, true_or, or_true, if_true]
    rw [s1057_1, if_neg (by omega), if_neg (by omega), if_neg (by omega), if_neg (by omega), if_neg (by omega), if_neg (by omega), if_neg (by omega), if_neg (by omega), if_neg (by omega), if_neg (by omega), if_neg (by omega), if_neg (by omega), if_neg (by omega), if_neg (by omega)]
    simp only [s1057_177, s1057_178, unJ_I, unJ_J, unJ_F, unJ_R, unJ_N, unJ_U, pushR_I, pushR_J, pushR_F, pushR_R, pushR_N, pushR_U, rfV_s, rfV_n, Option.bind_some, true_or, or_true, if_true]
end
