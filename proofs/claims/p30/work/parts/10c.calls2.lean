/-! CALLS: move, recipe, score, bring -/
section
variable (q : Nat × (Nat → Int)) {I A : M2} {L P : Nat → Nat → Option Nat} {F G : Nat → Nat → UInt32} {D : MD} {T : Int} {X : XS}
theorem v_move (h : Cls I A L P X) (ho : okX T X) (l k : Int) : Doe 904 [vR 9 0, vI l, vI k, vU] q I A L P F G D (vI (aMove X l k).1) (aMove X l k).2 := by
  obtain ⟨S, ph, a, b, c, d⟩ := id h
  have a0 := a 0 (by omega)
  unfold aMove
  by_cases h1 : 0 ≤ l ∧ 0 ≤ k ∧ k ≤ 1
  · rw [if_pos h1]
    by_cases hf : fnd X.1.1 l < X.1.1.length
    · rw [if_pos hf]
      have w0 := b.2.2.2.1 _ hf
      have v0 : I 46 (S 0 (fnd X.1.1 l)) = (lt X.1.1 (fnd X.1.1 l)).1 4 := w0.2.2.2.2.1
      have kn := c_kind q (F := F) (G := G) (P := P) (D := D) b a0 k
      have run : rs 904 0 [vR 9 0, vI l, vI k, vU] [] (SX q, (I, A, L, P, F, G), D) = if (lt X.1.1 (fnd X.1.1 l)).1 4 = k then some (vI (-2), (SX q, (I, A, L, P, F, G), D)) else if kndN X.1.1 k < 6 then rs 904 58 [vR 9 0, vI l, vI k, vR 2 (S 0 (fnd X.1.1 l))] [] (SX q, (I, A, L, P, F, G), D) else some (vI (-3), (SX q, (I, A, L, P, F, G), D)) := by
        simp only [s904_0, s904_1, s904_4, s904_5, s904_6, s904_7, s904_10, s904_13, s904_14, s904_15, s904_16, s904_19, s904_20, unJ_I, unJ_J, unJ_F, unJ_R, unJ_N, unJ_U, pushR_I, pushR_J, pushR_F, pushR_R, pushR_N, pushR_U, rfV_s, rfV_n, Option.bind_some, true_or, or_true, if_true, c_within, b01_0]
        rw [if_neg (by omega), if_neg (by omega)]
        simp only [s904_20, s904_23, s904_23n, s904_24, s904_24n, s904_25n, s904_25, s904_28, s904_30, s904_31, s904_31n, s904_32, s904_35, s904_36, s904_39, s904_41, s904_42, s904_43, s904_46, s904_47, s904_50, s904_52, s904_55, s904_57, unJ_I, unJ_J, unJ_F, unJ_R, unJ_N, unJ_U, pushR_I, pushR_J, pushR_F, pushR_R, pushR_N, pushR_U, rfV_s, rfV_n, Option.bind_some, true_or, or_true, if_true, find_y q b a0 hf, v0, kn]
        rfl
      by_cases h2 : (lt X.1.1 (fnd X.1.1 l)).1 4 = k
      · rw [if_pos h2]
        exact ⟨_, _, _, _, F, G, run.trans (if_pos h2), h⟩
      · rw [if_neg h2]
        rw [if_neg h2] at run
        by_cases h3 : 6 ≤ kndN X.1.1 k
        · rw [if_pos h3]
          exact ⟨_, _, _, _, F, G, run.trans (if_neg (by omega)), h⟩
        · rw [if_neg h3]
          rw [if_pos (by omega)] at run
          obtain ⟨I1, A1, P1, e1, k1, k2, k3⟩ := v_record q (F := F) (G := G) (D := D) h ho
          have C1 := k2 _ a0 b
          have sl := (a0.1 (fnd X.1.1 l) (by have := b.2.1; omega)).2
          have w1 := C1.2.2.2.1 _ hf
          have fr : FrB (S 0 (fnd X.1.1 l)) I1 A1 (up2 I1 46 (S 0 (fnd X.1.1 l)) k) A1 := FrB.of2 _ (by omega)
          have C2 := C1.setLot a0 (by omega) hf (w1.set4 k) fr
          have kn2 := c_kind q (F := F) (G := G) (P := P1) (D := D) C2 a0 k
          refine ⟨_, _, _, _, F, G, ?_, k1.upd (sl0 := S 0) (sl5 := S 5) (fun f y z => up2_ne (by omega)) (fun _ _ _ => rfl) (fun _ _ _ _ => rfl) a0 (a 5 (by omega)) C2⟩
          rw [run]
          simp only [s904_58, s904_59, s904_62, s904_63, s904_66, s904_69, s904_69n, s904_70, s904_71, s904_74, s904_75, s904_78, s904_79, s904_82, unJ_I, unJ_J, unJ_F, unJ_R, unJ_N, unJ_U, pushR_I, pushR_J, pushR_F, pushR_R, pushR_N, pushR_U, rfV_s, rfV_n, Option.bind_some, true_or, or_true, if_true, e1, kn2]
          rfl
    · rw [if_neg hf]
      refine ⟨_, _, _, _, F, G, ?_, h⟩
      simp only [s904_0, s904_1, s904_4, s904_5, s904_6, s904_7, s904_10, s904_13, s904_14, s904_15, s904_16, s904_19, s904_20, unJ_I, unJ_J, unJ_F, unJ_R, unJ_N, unJ_U, pushR_I, pushR_J, pushR_F, pushR_R, pushR_N, pushR_U, rfV_s, rfV_n, Option.bind_some, true_or, or_true, if_true, c_within, b01_0]
      rw [if_neg (by omega), if_neg (by omega)]
      simp only [s904_20, s904_23n, s904_24n, s904_25n, s904_28, s904_30, unJ_I, unJ_J, unJ_F, unJ_R, unJ_N, unJ_U, pushR_I, pushR_J, pushR_F, pushR_R, pushR_N, pushR_U, rfV_s, rfV_n, Option.bind_some, true_or, or_true, if_true, find_n q b a0 hf]
  · rw [if_neg h1]
    refine ⟨_, _, _, _, F, G, ?_, h⟩
    simp only [s904_0, s904_1, s904_4, s904_5, s904_6, s904_7, s904_10, s904_13, s904_14, unJ_I, unJ_J, unJ_F, unJ_R, unJ_N, unJ_U, pushR_I, pushR_J, pushR_F, pushR_R, pushR_N, pushR_U, rfV_s, rfV_n, Option.bind_some, true_or, or_true, if_true, c_within, b01_0]
    repeat' split
    all_goals first | rfl | (exfalso; omega)
theorem v_recipe (h : Cls I A L P X) (ho : okX T X) (l p : Int) : Doe 909 [vR 9 0, vI l, vI p, vU] q I A L P F G D (vI (aRecipe X l p).1) (aRecipe X l p).2 := by
  obtain ⟨S, ph, a, b, c, d⟩ := id h
  have a0 := a 0 (by omega)
  unfold aRecipe
  by_cases h1 : 0 ≤ l ∧ 0 ≤ p ∧ p ≤ 20
  · rw [if_pos h1]
    by_cases hf : fnd X.1.1 l < X.1.1.length
    · rw [if_pos hf]
      have w0 := b.2.2.2.1 _ hf
      have v0 : I 50 (S 0 (fnd X.1.1 l)) = (lt X.1.1 (fnd X.1.1 l)).1 5 := w0.2.2.2.2.2.1
      have kn := c_recipe q (F := F) (G := G) (P := P) (D := D) b a0
      have run : rs 909 0 [vR 9 0, vI l, vI p, vU] [] (SX q, (I, A, L, P, F, G), D) = if p ≤ 0 then rs 909 58 [vR 9 0, vI l, vI p, vR 2 (S 0 (fnd X.1.1 l))] [] (SX q, (I, A, L, P, F, G), D) else if (lt X.1.1 (fnd X.1.1 l)).1 5 = 0 then (if rcpN X.1.1 < 6 then rs 909 58 [vR 9 0, vI l, vI p, vR 2 (S 0 (fnd X.1.1 l))] [] (SX q, (I, A, L, P, F, G), D) else some (vI (-3), (SX q, (I, A, L, P, F, G), D))) else rs 909 58 [vR 9 0, vI l, vI p, vR 2 (S 0 (fnd X.1.1 l))] [] (SX q, (I, A, L, P, F, G), D) := by
        simp only [s909_0, s909_1, s909_4, s909_5, s909_6, s909_8, s909_11, s909_14, s909_15, s909_16, s909_17, s909_20, s909_21, unJ_I, unJ_J, unJ_F, unJ_R, unJ_N, unJ_U, pushR_I, pushR_J, pushR_F, pushR_R, pushR_N, pushR_U, rfV_s, rfV_n, Option.bind_some, true_or, or_true, if_true, c_within, b01_0]
        rw [if_neg (by omega), if_neg (by omega)]
        simp only [s909_21, s909_24, s909_24n, s909_25, s909_25n, s909_26n, s909_26, s909_29, s909_31, s909_32, s909_33, s909_36, s909_36n, s909_37, s909_40, s909_43, s909_44, s909_47, s909_50, s909_52, s909_55, s909_57, unJ_I, unJ_J, unJ_F, unJ_R, unJ_N, unJ_U, pushR_I, pushR_J, pushR_F, pushR_R, pushR_N, pushR_U, rfV_s, rfV_n, Option.bind_some, true_or, or_true, if_true, find_y q b a0 hf, v0, kn]
        rfl
      by_cases h2 : 0 < p ∧ (lt X.1.1 (fnd X.1.1 l)).1 5 = 0 ∧ 6 ≤ rcpN X.1.1
      · rw [if_pos h2]
        exact ⟨_, _, _, _, F, G, run.trans (by rw [if_neg (by omega), if_pos h2.2.1, if_neg (by omega)]), h⟩
      · rw [if_neg h2]
        obtain ⟨I1, A1, P1, e1, k1, k2, k3⟩ := v_record q (F := F) (G := G) (D := D) h ho
        have C1 := k2 _ a0 b
        have sl := (a0.1 (fnd X.1.1 l) (by have := b.2.1; omega)).2
        have w1 := C1.2.2.2.1 _ hf
        have fr : FrB (S 0 (fnd X.1.1 l)) I1 A1 (up2 I1 50 (S 0 (fnd X.1.1 l)) p) A1 := FrB.of2 _ (by omega)
        have C2 := C1.setLot a0 (by omega) hf (w1.set5 p) fr
        have kn2 := c_recipe q (F := F) (G := G) (P := P1) (D := D) C2 a0
        have run2 : rs 909 0 [vR 9 0, vI l, vI p, vU] [] (SX q, (I, A, L, P, F, G), D) = rs 909 58 [vR 9 0, vI l, vI p, vR 2 (S 0 (fnd X.1.1 l))] [] (SX q, (I, A, L, P, F, G), D) := by
          rw [run]
          repeat' split
          all_goals first | rfl | (exfalso; omega)
        refine ⟨_, _, _, _, F, G, ?_, k1.upd (sl0 := S 0) (sl5 := S 5) (fun f y z => up2_ne (by omega)) (fun _ _ _ => rfl) (fun _ _ _ _ => rfl) a0 (a 5 (by omega)) C2⟩
        rw [run2]
        simp only [s909_58, s909_59, s909_62, s909_63, s909_66, s909_69, s909_69n, s909_70, s909_71, s909_74, s909_75, s909_78, s909_81, unJ_I, unJ_J, unJ_F, unJ_R, unJ_N, unJ_U, pushR_I, pushR_J, pushR_F, pushR_R, pushR_N, pushR_U, rfV_s, rfV_n, Option.bind_some, true_or, or_true, if_true, e1, kn2]
        rfl
    · rw [if_neg hf]
      refine ⟨_, _, _, _, F, G, ?_, h⟩
      simp only [s909_0, s909_1, s909_4, s909_5, s909_6, s909_8, s909_11, s909_14, s909_15, s909_16, s909_17, s909_20, s909_21, unJ_I, unJ_J, unJ_F, unJ_R, unJ_N, unJ_U, pushR_I, pushR_J, pushR_F, pushR_R, pushR_N, pushR_U, rfV_s, rfV_n, Option.bind_some, true_or, or_true, if_true, c_within, b01_0]
      rw [if_neg (by omega), if_neg (by omega)]
      simp only [s909_21, s909_24n, s909_25n, s909_26n, s909_29, s909_31, unJ_I, unJ_J, unJ_F, unJ_R, unJ_N, unJ_U, pushR_I, pushR_J, pushR_F, pushR_R, pushR_N, pushR_U, rfV_s, rfV_n, Option.bind_some, true_or, or_true, if_true, find_n q b a0 hf]
  · rw [if_neg h1]
    refine ⟨_, _, _, _, F, G, ?_, h⟩
    simp only [s909_0, s909_1, s909_4, s909_5, s909_6, s909_8, s909_11, s909_14, s909_15, unJ_I, unJ_J, unJ_F, unJ_R, unJ_N, unJ_U, pushR_I, pushR_J, pushR_F, pushR_R, pushR_N, pushR_U, rfV_s, rfV_n, Option.bind_some, true_or, or_true, if_true, c_within, b01_0]
    repeat' split
    all_goals first | rfl | (exfalso; omega)
theorem LotAt.setS {I A : M2} {l : Nat} {w : Lt} (h : LotAt I A l w) (hl : l < 74) {t : Nat} (ht : t < 8) (v : Int) : LotAt I (up2 A (sr l) t v) l (sup w.1 (6 + t) v, w.2) ∧ FrB l I A I (up2 A (sr l) t v) := by
  obtain ⟨h0, h1, h2, h3, h4, h5, h6, h7, h8, h9⟩ := h
  refine ⟨⟨?_, ?_, ?_, ?_, ?_, ?_, fun u hu => ?_, h7, h8, h9.1, fun j hj => ?_⟩, ⟨fun _ _ _ => rfl, Int.le_refl _, fun r j a _ _ _ => up2_ne (by omega)⟩⟩
  · show _ = if 0 = 6 + t then v else w.1 0
    rw [if_neg (by omega)]; exact h0
  · show _ = if 1 = 6 + t then v else w.1 1
    rw [if_neg (by omega)]; exact h1
  · show _ = if 2 = 6 + t then v else w.1 2
    rw [if_neg (by omega)]; exact h2
  · show _ = if 3 = 6 + t then v else w.1 3
    rw [if_neg (by omega)]; exact h3
  · show _ = if 4 = 6 + t then v else w.1 4
    rw [if_neg (by omega)]; exact h4
  · show _ = if 5 = 6 + t then v else w.1 5
    rw [if_neg (by omega)]; exact h5
  · show _ = if 6 + u = 6 + t then v else w.1 (6 + u)
    by_cases e : u = t
    · subst e; rw [if_pos rfl, up2_eq]
    · rw [if_neg (by omega), up2_ne (by omega)]; exact h6 u hu
  · have n0 := sr_lr hl hl
    rw [up2_ne (by omega), up2_ne (by omega)]; exact h9.2 j hj
theorem v_score (h : Cls I A L P X) (ho : okX T X) (l t v : Int) : Doe 914 [vR 9 0, vI l, vI t, vI v, vU] q I A L P F G D (vI (aScore X l t v).1) (aScore X l t v).2 := by
  obtain ⟨S, ph, a, b, c, d⟩ := id h
  have a0 := a 0 (by omega)
  unfold aScore
  by_cases h1 : 0 ≤ l ∧ (0 ≤ t ∧ t ≤ 7) ∧ -1 ≤ v ∧ v ≤ 200
  · rw [if_pos h1]
    by_cases hf : fnd X.1.1 l < X.1.1.length
    · rw [if_pos hf]
      obtain ⟨I1, A1, P1, e1, k1, k2, k3⟩ := v_record q (F := F) (G := G) (D := D) h ho
      have C1 := k2 _ a0 b
      have sl := (a0.1 (fnd X.1.1 l) (by have := b.2.1; omega)).2
      have w1 := C1.2.2.2.1 _ hf
      obtain ⟨tn, htn⟩ : ∃ n : Nat, t = n := ⟨t.toNat, by omega⟩
      subst htn
      rw [Int.toNat_natCast]
      obtain ⟨w2, fr⟩ := w1.setS (by omega) (t := tn) (by omega) v
      have e := lr_c (c := 0) (l := S 0 (fnd X.1.1 l)) (by omega) (by omega) (by omega)
      have es := sr_c (c := 0) (l := S 0 (fnd X.1.1 l)) (by omega) (by omega) (by omega)
      have C2 := C1.setLot a0 (by omega) hf w2 fr
      have hlen := (len_l (S 0 (fnd X.1.1 l)) (by omega)).2.2
      refine ⟨_, _, _, _, F, G, ?_, k1.upd (sl0 := S 0) (sl5 := S 5) (fun f y z => rfl) (fun r j z => up2_ne (by omega)) (fun _ _ _ _ => rfl) a0 (a 5 (by omega)) C2⟩
      simp only [s914_0, s914_1, s914_4, s914_5, s914_6, s914_8, s914_11, s914_14, s914_15, s914_16, s914_19, s914_22, s914_25, s914_26, s914_27, s914_28, s914_31, s914_32, unJ_I, unJ_J, unJ_F, unJ_R, unJ_N, unJ_U, pushR_I, pushR_J, pushR_F, pushR_R, pushR_N, pushR_U, rfV_s, rfV_n, Option.bind_some, true_or, or_true, if_true, c_within, b01_0]
      rw [if_neg (by omega), if_neg (by omega), if_neg (by omega)]
      simp only [s914_32, s914_35, s914_35n, s914_37, s914_37n, s914_39n, s914_39, s914_42, s914_44, s914_45, s914_46, s914_49, s914_50, s914_53, s914_56, s914_56n, s914_58, s914_61, s914_62, s914_63, unJ_I, unJ_J, unJ_F, unJ_R, unJ_N, unJ_U, pushR_I, pushR_J, pushR_F, pushR_R, pushR_N, pushR_U, rfV_s, rfV_n, Option.bind_some, true_or, or_true, if_true, find_y q b a0 hf, e1, c_put]
      rw [rput_n _ _ (by omega)]
      simp only [s914_66, s914_66n, s914_68, s914_71, unJ_I, unJ_J, unJ_F, unJ_R, unJ_N, unJ_U, pushR_I, pushR_J, pushR_F, pushR_R, pushR_N, pushR_U, rfV_s, rfV_n, Option.bind_some, true_or, or_true, if_true, c_scores q w2 (show S 0 (fnd X.1.1 l) < 74 by omega)]
      rfl
    · rw [if_neg hf]
      refine ⟨_, _, _, _, F, G, ?_, h⟩
      simp only [s914_0, s914_1, s914_4, s914_5, s914_6, s914_8, s914_11, s914_14, s914_15, s914_16, s914_19, s914_22, s914_25, s914_26, s914_27, s914_28, s914_31, s914_32, unJ_I, unJ_J, unJ_F, unJ_R, unJ_N, unJ_U, pushR_I, pushR_J, pushR_F, pushR_R, pushR_N, pushR_U, rfV_s, rfV_n, Option.bind_some, true_or, or_true, if_true, c_within, b01_0]
      rw [if_neg (by omega), if_neg (by omega), if_neg (by omega)]
      simp only [s914_32, s914_35n, s914_37n, s914_39n, s914_42, s914_44, unJ_I, unJ_J, unJ_F, unJ_R, unJ_N, unJ_U, pushR_I, pushR_J, pushR_F, pushR_R, pushR_N, pushR_U, rfV_s, rfV_n, Option.bind_some, true_or, or_true, if_true, find_n q b a0 hf]
  · rw [if_neg h1]
    refine ⟨_, _, _, _, F, G, ?_, h⟩
    simp only [s914_0, s914_1, s914_4, s914_5, s914_6, s914_8, s914_11, s914_14, s914_15, s914_16, s914_19, s914_22, s914_25, s914_26, unJ_I, unJ_J, unJ_F, unJ_R, unJ_N, unJ_U, pushR_I, pushR_J, pushR_F, pushR_R, pushR_N, pushR_U, rfV_s, rfV_n, Option.bind_some, true_or, or_true, if_true, c_within, b01_0]
    repeat' split
    all_goals first | rfl | (exfalso; omega)
theorem v_bring (h : Cls I A L P X) (ho : okX T X) (n o y v al ac : Int) : Doe 902 [vR 9 0, vI n, vI o, vI y, vI v, vI al, vI ac, vU, vU] q I A L P F G D (vI (aBring X n o y v al ac).1) (aBring X n o y v al ac).2 := by
  obtain ⟨S, ph, a, b, c, d⟩ := id h
  have a0 := a 0 (by omega)
  unfold aBring
  by_cases h1 : (1 ≤ n ∧ n ≤ 10000) ∧ (0 ≤ al ∧ al ≤ 2000) ∧ (0 ≤ ac ∧ ac ≤ 200) ∧ (0 ≤ o ∧ o ≤ 7) ∧ (2000 ≤ y ∧ y ≤ 2063) ∧ 0 ≤ v ∧ v ≤ 9
  · rw [if_pos h1]
    have kn := c_kind q (F := F) (G := G) (P := P) (D := D) b a0 0
    have gn := c_grains q (F := F) (G := G) (P := P) (D := D) b a0 ho.gl
    have b1 := b.1
    have run : rs 902 0 [vR 9 0, vI n, vI o, vI y, vI v, vI al, vI ac, vU, vU] [] (SX q, (I, A, L, P, F, G), D) = if (12 : Int) ≤ X.1.1.length then some (vI (-3), (SX q, (I, A, L, P, F, G), D)) else if 6 ≤ kndN X.1.1 0 then some (vI (-3), (SX q, (I, A, L, P, F, G), D)) else if allG X.1.1 < 200 then rs 902 131 [vR 9 0, vI n, vI o, vI y, vI v, vI al, vI ac, vI 1, vI 1] [] (SX q, (I, A, L, P, F, G), D) else some (vI (-3), (SX q, (I, A, L, P, F, G), D)) := by
      simp only [s902_0, s902_1, s902_2, s902_5, s902_8, s902_11, s902_14, s902_16, s902_19, s902_22, s902_25, s902_27, s902_30, s902_33, s902_34, s902_37, s902_38, unJ_I, unJ_J, unJ_F, unJ_R, unJ_N, unJ_U, pushR_I, pushR_J, pushR_F, pushR_R, pushR_N, pushR_U, rfV_s, rfV_n, Option.bind_some, true_or, or_true, if_true, c_within, c_holds, b01_0, tpv]
      rw [if_neg (by omega), if_neg (by omega), if_neg (by omega)]
      simp only [s902_40, s902_43, s902_44, s902_47, s902_50, s902_53, s902_54, s902_57, s902_60, s902_63, s902_65, s902_68, s902_71, s902_72, s902_75, s902_76, s902_78, s902_80, s902_83, s902_85, s902_88, s902_89, unJ_I, unJ_J, unJ_F, unJ_R, unJ_N, unJ_U, pushR_I, pushR_J, pushR_F, pushR_R, pushR_N, pushR_U, rfV_s, rfV_n, Option.bind_some, true_or, or_true, if_true, c_within, c_holds, b01_0, tpv]
      rw [if_neg (by omega), if_neg (by omega), if_neg (by omega), if_neg (by omega), if_neg (by omega)]
      simp only [s902_90, s902_91, s902_94, s902_97, s902_99, s902_102, s902_103, s902_106, s902_107, s902_110, s902_112, s902_115, s902_116, s902_119, s902_122, s902_125, s902_128, s902_130, unJ_I, unJ_J, unJ_F, unJ_R, unJ_N, unJ_U, pushR_I, pushR_J, pushR_F, pushR_R, pushR_N, pushR_U, rfV_s, rfV_n, Option.bind_some, true_or, or_true, if_true, b1, kn, gn]
      rfl
    by_cases h2 : 12 ≤ X.1.1.length ∨ 6 ≤ kndN X.1.1 0 ∨ 200 ≤ allG X.1.1
    · rw [if_pos h2]
      refine ⟨_, _, _, _, F, G, ?_, h⟩
      rw [run]
      repeat' split
      all_goals first | rfl | (exfalso; omega)
    · rw [if_neg h2]
      rw [if_neg (by omega), if_neg (by omega), if_pos (by omega)] at run
      obtain ⟨I1, A1, P1, e1, k1, k2, k3⟩ := v_record q (F := F) (G := G) (D := D) h ho
      have C1 := k2 _ a0 b
      have hs0 : ∀ i, i < 12 → 12 * 0 ≤ S 0 i ∧ S 0 i < 12 * 0 + 12 := fun i hi => (a0.1 i hi).2
      have l73 : lr 73 = 126 := rfl
      have s73 : sr 73 = 128 := rfl
      obtain ⟨I2, A2, e2, w2, z2, f2⟩ := c_clear q (I := I1) (A := A1) (L := L) (P := P1) (F := F) (G := G) (D := D) (l := 73) (by omega)
      obtain ⟨I3, A3, e3, w3, z3, f3⟩ := c_pour q (I := I2) (A := A2) (L := L) (P := P1) (F := F) (G := G) (D := D) (l := 73) (by omega) w2 z2 (by show 0 < rowLen (lr 73); decide) (kyU o y v) n (by show -2147483648 ≤ 0 + n ∧ 0 + n < 2147483648; omega) (fun j hj => absurd hj (Nat.not_lt_zero _))
      have w4 := (w3.set1 al).set2 ac
      generalize hI4 : up2 (up2 I3 47 73 al) 48 73 ac = I4 at w4
      have f4 : FrL 73 I1 A1 I4 A3 := by
        subst hI4
        exact ((f2.tr f3).tr (FrL.of2 _ (by omega))).tr (FrL.of2 _ (by omega))
      have C4 : CelAt I4 A3 0 (S 0) X.1 := C1.keep (by omega) hs0 (fun f x z => f4.1 f x (by unfold inI at z; omega)) (fun r j z => f4.2 r j (by unfold inR at z; omega) (by unfold inR at z; omega) (by unfold inR at z; omega))
      have C5 := C4.acc (by omega) hs0 0 (w32 (A3 (19 * 0 + 2 * (0 / 5) + 6) 0 + n))
      have ac0 : A3 (19 * 0 + 2 * (0 / 5) + 6) 0 = X.1.2.2.2.1 0 := C4.2.2.2.2.2.2.1 0 (by omega)
      have w5 : LotAt I4 (up2 A3 (19 * 0 + 2 * (0 / 5) + 6) 0 (w32 (A3 (19 * 0 + 2 * (0 / 5) + 6) 0 + n))) 73 (sup (sup d0 1 al) 2 ac, pourG [] (kyU o y v) n) := w4.same (fun _ _ _ => rfl) (fun r j z => up2_ne (by omega))
      have nx := ho.2.1.2.2.2.2.2.1
      have hT := ho.1
      obtain ⟨I6, A6, e6, C6, f6⟩ := c_admit q (c := 0) (l := 73) (I := I4) (A := up2 A3 (19 * 0 + 2 * (0 / 5) + 6) 0 (w32 (A3 (19 * 0 + 2 * (0 / 5) + 6) 0 + n))) (L := L) (P := P1) (F := F) (G := G) (D := D) (by omega) a0 C5 (by show X.1.1.length < 12; omega) (by show 0 ≤ X.1.2.2.2.2 ∧ X.1.2.2.2.2 < 1000000; omega) (Or.inr rfl) w5 (by show allG X.1.1 + ((1 : Nat) : Int) ≤ 200; omega) 0
      rw [ac0] at C6
      have ky : Unit → w32 (w32 (w32 (w32 (o * 64) + w32 (y - 2000)) * 10) + v) = kyU o y v := fun _ => by
        unfold kyU
        rw [w32_id (x := o * 64) (by omega) (by omega), w32_id (x := y - 2000) (by omega) (by omega), w32_id (x := o * 64 + (y - 2000)) (by omega) (by omega), w32_id (x := (o * 64 + (y - 2000)) * 10) (by omega) (by omega), w32_id (by omega) (by omega)]
      refine ⟨_, _, _, _, F, G, ?_, k1.upd (sl0 := S 0) (sl5 := S 5) (I' := I6) (A' := A6) (L' := L) (fun f x z => (f6.1 f x (by unfold inI; omega)).trans (f4.1 f x (by omega))) (fun r j z => (f6.2 r j (by unfold inR; omega)).trans ((up2_ne (by omega)).trans (f4.2 r j (by omega) (by omega) (by omega)))) (fun _ _ _ _ => rfl) a0 (a 5 (by omega)) C6⟩
      rw [run]
      have e5 := c_acc q (I := I4) (A := A3) (L := L) (P := P1) (F := F) (G := G) (D := D) (c := 0) (i := 0) (by omega) (by omega) n
      simp only [s902_131, s902_132, s902_135, s902_136, s902_139, s902_142, s902_143, s902_146, s902_149, s902_150, s902_153, s902_154, s902_155, s902_157, s902_160, s902_161, unJ_I, unJ_J, unJ_F, unJ_R, unJ_N, unJ_U, pushR_I, pushR_J, pushR_F, pushR_R, pushR_N, pushR_U, rfV_s, rfV_n, Option.bind_some, true_or, or_true, if_true, e1, e2, c_keyOf, ky (), e3]
      simp only [s902_164, s902_165, s902_168, s902_170, s902_173, s902_174, s902_177, s902_179, s902_182, s902_183, s902_186, s902_189, s902_190, s902_191, s902_194, s902_195, s902_198, s902_199, s902_202, s902_203, s902_206, unJ_I, unJ_J, unJ_F, unJ_R, unJ_N, unJ_U, pushR_I, pushR_J, pushR_F, pushR_R, pushR_N, pushR_U, rfV_s, rfV_n, Option.bind_some, true_or, or_true, if_true, hI4]
      refine (congrArg (fun o => Option.bind o _) e5).trans ?_
      simp only [s902_194, s902_195, s902_198, s902_199, s902_202, s902_203, s902_206, unJ_I, unJ_J, unJ_F, unJ_R, unJ_N, unJ_U, pushR_I, pushR_J, pushR_F, pushR_R, pushR_N, pushR_U, rfV_s, rfV_n, Option.bind_some, true_or, or_true, if_true, e6]
  · rw [if_neg h1]
    refine ⟨_, _, _, _, F, G, ?_, h⟩
    by_cases g1 : (1 ≤ n ∧ n ≤ 10000) ∧ (0 ≤ al ∧ al ≤ 2000) ∧ (0 ≤ ac ∧ ac ≤ 200)
    · have run : rs 902 0 [vR 9 0, vI n, vI o, vI y, vI v, vI al, vI ac, vU, vU] [] (SX q, (I, A, L, P, F, G), D) = rs 902 40 [vR 9 0, vI n, vI o, vI y, vI v, vI al, vI ac, vI 1, vU] [] (SX q, (I, A, L, P, F, G), D) := by
        simp only [s902_0, s902_1, s902_2, s902_5, s902_8, s902_11, s902_14, s902_16, s902_19, s902_22, s902_25, s902_27, s902_30, s902_33, s902_34, s902_37, s902_38, unJ_I, unJ_J, unJ_F, unJ_R, unJ_N, unJ_U, pushR_I, pushR_J, pushR_F, pushR_R, pushR_N, pushR_U, rfV_s, rfV_n, Option.bind_some, true_or, or_true, if_true, c_within, c_holds, b01_0, tpv]
        rw [if_neg (by omega), if_neg (by omega), if_neg (by omega)]
      rw [run]
      simp only [s902_40, s902_43, s902_44, s902_47, s902_50, s902_53, s902_54, s902_57, s902_60, s902_63, s902_65, s902_68, s902_71, s902_72, s902_75, s902_76, s902_78, s902_80, s902_83, s902_85, s902_88, s902_89, unJ_I, unJ_J, unJ_F, unJ_R, unJ_N, unJ_U, pushR_I, pushR_J, pushR_F, pushR_R, pushR_N, pushR_U, rfV_s, rfV_n, Option.bind_some, true_or, or_true, if_true, c_within, c_holds, b01_0, tpv]
      repeat' split
      all_goals first | rfl | (exfalso; omega)
    · have run : rs 902 0 [vR 9 0, vI n, vI o, vI y, vI v, vI al, vI ac, vU, vU] [] (SX q, (I, A, L, P, F, G), D) = rs 902 40 [vR 9 0, vI n, vI o, vI y, vI v, vI al, vI ac, vI 0, vU] [] (SX q, (I, A, L, P, F, G), D) := by
        simp only [s902_0, s902_1, s902_2, s902_5, s902_8, s902_11, s902_14, s902_16, s902_19, s902_22, s902_25, s902_27, s902_30, s902_33, s902_34, s902_37, s902_38, unJ_I, unJ_J, unJ_F, unJ_R, unJ_N, unJ_U, pushR_I, pushR_J, pushR_F, pushR_R, pushR_N, pushR_U, rfV_s, rfV_n, Option.bind_some, true_or, or_true, if_true, c_within, c_holds, b01_0, tpv]
        repeat' split
        all_goals first | rfl | (exfalso; omega)
      rw [run]
      simp only [s902_40, s902_43, s902_44, s902_47, s902_50, s902_53, s902_54, s902_57, s902_60, s902_63, s902_65, s902_68, s902_71, s902_72, s902_75, s902_76, s902_78, s902_80, s902_83, s902_85, s902_88, s902_89, unJ_I, unJ_J, unJ_F, unJ_R, unJ_N, unJ_U, pushR_I, pushR_J, pushR_F, pushR_R, pushR_N, pushR_U, rfV_s, rfV_n, Option.bind_some, true_or, or_true, if_true, c_within, c_holds, b01_0, tpv]
      repeat' split
      all_goals first | rfl | (exfalso; omega)
end
