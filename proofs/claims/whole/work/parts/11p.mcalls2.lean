/-! THE MODEL'S CALLS: lot, grain, share, rule, account, set, type, clearText -/
section
variable (q : Nat × (Nat → Int)) {C : MC} {J M T : M2} {t : Int} {X : XS}
theorem okX.num {T : Int} {X : XS} (h : okX T X) : upW X.1.1 := h.2.1.m.2
theorem lt_m {ls : List Lt} {i : Nat} (h : i < ls.length) : lt ls i ∈ ls := by rw [lt_eq h]; exact List.getElem_mem h
theorem fnd_f {ls : List Lt} {l : Int} (h : fnd ls l < ls.length) : (lt ls (fnd ls l)).1 0 = l := fnd_is h
/-- the lots of a state are in step -/
theorem w_orderL {σ : St} {gs : List Gx} (h : MRow (M 0) σ gs) (hm : okM σ.1) (hp : gs.Perm (flat σ.1)) {i : Nat} (hi : i < σ.1.length) : ∃ J' M' idx, rs 1013 0 [vR 10 0, vI ((lt σ.1 i).1 0), vU, vU] [] (SX q, C, (J, M, T)) = some (vU, (SX q, C, (J', M', T))) ∧ J' 213 0 = (lt σ.1 i).2.length ∧ (∀ j, j < (lt σ.1 i).2.length → M' 8 j = ((idx : Nat → Nat) j : Int) ∧ idx j < gs.length ∧ gg gs (idx j) = ((lt σ.1 i).1 0, gk (lt σ.1 i).2 j, gv (lt σ.1 i).2 j)) ∧
      (∀ f y, f ≠ 213 → J' f y = J f y) ∧ ∀ r, r ≠ 8 → M' r = M r :=
  w_order q h (hm.gx hp).1 (hm.1 _ (lt_m hi)).1.2 (mem_lot hp hm.2 (lt_m hi))
theorem w_lot (h : Mod J M X) (ho : okX t X) (l x : Int) : Dom 1027 [vR 10 0, vI l, vI x, vU] q C J M T (vI (aLot X l x)) X := by
  obtain ⟨⟨gs, a, b⟩, -⟩ := id h
  have hm := ho.2.1.m
  have sl := w_slot q (C := C) (J := J) (T := T) a l
  unfold aLot
  by_cases h1 : 0 ≤ l ∧ 0 ≤ x ∧ x ≤ 8
  · rw [if_pos h1]
    by_cases hf : fnd X.1.1 l < X.1.1.length
    · rw [if_pos hf]
      rw [if_pos hf] at sl
      have e0 := fnd_f hf
      have oL := ho.lot hf
      have run : rs 1027 0 [vR 10 0, vI l, vI x, vU] [] (SX q, C, (J, M, T)) = rs 1027 31 [vR 10 0, vI l, vI x, vI (fnd X.1.1 l : Int)] [] (SX q, C, (J, M, T)) := by
        simp only [s1027_0, s1027_1, s1027_4, s1027_5, s1027_6, s1027_7, s1027_10, s1027_13, s1027_16, s1027_17, s1027_18, s1027_19, s1027_20, unJ_I, unJ_J, unJ_F, unJ_R, unJ_N, unJ_U, pushR_I, pushR_J, pushR_F, pushR_R, pushR_N, pushR_U, rfV_s, rfV_n, Option.bind_some, true_or, or_true, if_true, c_in, b01_0]
        rw [if_neg (by omega), if_neg (by omega), sl]
        simp only [s1027_23, s1027_24, s1027_25, unJ_I, unJ_J, unJ_F, unJ_R, unJ_N, unJ_U, pushR_I, pushR_J, pushR_F, pushR_R, pushR_N, pushR_U, rfV_s, rfV_n, Option.bind_some, true_or, or_true, if_true]
        rw [if_pos (by omega)]
      have at1 := w_at q (C := C) (J := J) (T := T) a hf (show 1 < 14 by omega)
      have at2 := w_at q (C := C) (J := J) (T := T) a hf (show 2 < 14 by omega)
      have at3 := w_at q (C := C) (J := J) (T := T) a hf (show 3 < 14 by omega)
      have at4 := w_at q (C := C) (J := J) (T := T) a hf (show 4 < 14 by omega)
      have at5 := w_at q (C := C) (J := J) (T := T) a hf (show 5 < 14 by omega)
      have li := w_lit q (C := C) (J := J) (T := T) a hm b hf
      have br := w_broken q (C := C) (J := J) (T := T) a hm b hf oL.2.1 ho.2.1.2.2.2.2.1.1
      have sc := w_scores q (C := C) (J := J) (T := T) a hf oL.1.sc
      rw [e0] at li br
      by_cases x1 : x = 1
      · obtain ⟨J', M', idx, e, k1, -, k3, k4⟩ := w_orderL q (C := C) (J := J) (T := T) a hm b hf
        rw [e0] at e
        refine ⟨J', M', T, ?_, h.same (k3 _ _ (by omega)) (k3 _ _ (by omega)) (fun k _ => by rw [k4 0 (by omega)]) (k4 2 (by omega)) (k4 3 (by omega))⟩
        subst x1
        rw [run]
        simp only [s1027_31, unJ_I, unJ_J, unJ_F, unJ_R, unJ_N, unJ_U, pushR_I, pushR_J, pushR_F, pushR_R, pushR_N, pushR_U, rfV_s, rfV_n, Option.bind_some, true_or, or_true, if_true]
        rw [s1027_32, if_neg (by omega), if_pos rfl]
        simp only [s1027_86, s1027_87, s1027_88, s1027_91, s1027_92, s1027_95, unJ_I, unJ_J, unJ_F, unJ_R, unJ_N, unJ_U, pushR_I, pushR_J, pushR_F, pushR_R, pushR_N, pushR_U, rfV_s, rfV_n, Option.bind_some, true_or, or_true, if_true, e, k1]
        rfl
      · refine ⟨J, M, T, ?_, h⟩
        rw [run]
        simp only [s1027_31, unJ_I, unJ_J, unJ_F, unJ_R, unJ_N, unJ_U, pushR_I, pushR_J, pushR_F, pushR_R, pushR_N, pushR_U, rfV_s, rfV_n, Option.bind_some, true_or, or_true, if_true]
        have hx : x = 0 ∨ x = 2 ∨ x = 3 ∨ x = 4 ∨ x = 5 ∨ x = 6 ∨ x = 7 ∨ x = 8 := by omega
        rcases hx with rfl | rfl | rfl | rfl | rfl | rfl | rfl | rfl
        · rw [s1027_32, if_pos rfl]
          simp only [s1027_80, s1027_81, s1027_82, s1027_85, unJ_I, unJ_J, unJ_F, unJ_R, unJ_N, unJ_U, pushR_I, pushR_J, pushR_F, pushR_R, pushR_N, pushR_U, rfV_s, rfV_n, Option.bind_some, true_or, or_true, if_true, li]
          rfl
        · rw [s1027_32, if_neg (by omega), if_neg (by omega), if_pos rfl]
          simp only [s1027_96, s1027_97, s1027_98, s1027_99, s1027_100, s1027_101, s1027_104, unJ_I, unJ_J, unJ_F, unJ_R, unJ_N, unJ_U, pushR_I, pushR_J, pushR_F, pushR_R, pushR_N, pushR_U, rfV_s, rfV_n, Option.bind_some, true_or, or_true, if_true, show w32 (2 - 1) = ((1 : Nat) : Int) from rfl, at1]
          rfl
        · rw [s1027_32, if_neg (by omega), if_neg (by omega), if_neg (by omega), if_pos rfl]
          simp only [s1027_96, s1027_97, s1027_98, s1027_99, s1027_100, s1027_101, s1027_104, unJ_I, unJ_J, unJ_F, unJ_R, unJ_N, unJ_U, pushR_I, pushR_J, pushR_F, pushR_R, pushR_N, pushR_U, rfV_s, rfV_n, Option.bind_some, true_or, or_true, if_true, show w32 (3 - 1) = ((2 : Nat) : Int) from rfl, at2]
          rfl
        · rw [s1027_32, if_neg (by omega), if_neg (by omega), if_neg (by omega), if_neg (by omega), if_pos rfl]
          simp only [s1027_96, s1027_97, s1027_98, s1027_99, s1027_100, s1027_101, s1027_104, unJ_I, unJ_J, unJ_F, unJ_R, unJ_N, unJ_U, pushR_I, pushR_J, pushR_F, pushR_R, pushR_N, pushR_U, rfV_s, rfV_n, Option.bind_some, true_or, or_true, if_true, show w32 (4 - 1) = ((3 : Nat) : Int) from rfl, at3]
          rfl
        · rw [s1027_32, if_neg (by omega), if_neg (by omega), if_neg (by omega), if_neg (by omega), if_neg (by omega), if_pos rfl]
          simp only [s1027_105, s1027_106, s1027_107, s1027_108, unJ_I, unJ_J, unJ_F, unJ_R, unJ_N, unJ_U, pushR_I, pushR_J, pushR_F, pushR_R, pushR_N, pushR_U, rfV_s, rfV_n, Option.bind_some, true_or, or_true, if_true]
          refine (congrArg (fun o => Option.bind o _) at4).trans ?_
          simp only [s1027_111, unJ_I, unJ_J, unJ_F, unJ_R, unJ_N, unJ_U, pushR_I, pushR_J, pushR_F, pushR_R, pushR_N, pushR_U, rfV_s, rfV_n, Option.bind_some, true_or, or_true, if_true]
          rfl
        · rw [s1027_32, if_neg (by omega), if_neg (by omega), if_neg (by omega), if_neg (by omega), if_neg (by omega), if_neg (by omega), if_pos rfl]
          simp only [s1027_112, s1027_113, s1027_114, s1027_117, unJ_I, unJ_J, unJ_F, unJ_R, unJ_N, unJ_U, pushR_I, pushR_J, pushR_F, pushR_R, pushR_N, pushR_U, rfV_s, rfV_n, Option.bind_some, true_or, or_true, if_true, br]
          rfl
        · rw [s1027_32, if_neg (by omega), if_neg (by omega), if_neg (by omega), if_neg (by omega), if_neg (by omega), if_neg (by omega), if_neg (by omega), if_pos rfl]
          simp only [s1027_118, s1027_119, s1027_120, s1027_123, unJ_I, unJ_J, unJ_F, unJ_R, unJ_N, unJ_U, pushR_I, pushR_J, pushR_F, pushR_R, pushR_N, pushR_U, rfV_s, rfV_n, Option.bind_some, true_or, or_true, if_true, sc]
          rfl
        · rw [s1027_32, if_neg (by omega), if_neg (by omega), if_neg (by omega), if_neg (by omega), if_neg (by omega), if_neg (by omega), if_neg (by omega), if_neg (by omega)]
          simp only [s1027_124, s1027_125, s1027_126, s1027_127, unJ_I, unJ_J, unJ_F, unJ_R, unJ_N, unJ_U, pushR_I, pushR_J, pushR_F, pushR_R, pushR_N, pushR_U, rfV_s, rfV_n, Option.bind_some, true_or, or_true, if_true]
          refine (congrArg (fun o => Option.bind o _) at5).trans ?_
          simp only [s1027_130, unJ_I, unJ_J, unJ_F, unJ_R, unJ_N, unJ_U, pushR_I, pushR_J, pushR_F, pushR_R, pushR_N, pushR_U, rfV_s, rfV_n, Option.bind_some, true_or, or_true, if_true]
          rfl
    · rw [if_neg hf]
      rw [if_neg hf] at sl
      refine ⟨J, M, T, ?_, h⟩
      simp only [s1027_0, s1027_1, s1027_4, s1027_5, s1027_6, s1027_7, s1027_10, s1027_13, s1027_16, s1027_17, s1027_18, s1027_19, s1027_20, unJ_I, unJ_J, unJ_F, unJ_R, unJ_N, unJ_U, pushR_I, pushR_J, pushR_F, pushR_R, pushR_N, pushR_U, rfV_s, rfV_n, Option.bind_some, true_or, or_true, if_true, c_in, b01_0]
      rw [if_neg (by omega), if_neg (by omega), sl]
      simp only [s1027_23, s1027_24, s1027_25, s1027_28, s1027_30, unJ_I, unJ_J, unJ_F, unJ_R, unJ_N, unJ_U, pushR_I, pushR_J, pushR_F, pushR_R, pushR_N, pushR_U, rfV_s, rfV_n, Option.bind_some, true_or, or_true, if_true]
      rw [if_neg (by omega)]
  · rw [if_neg h1]
    refine ⟨J, M, T, ?_, h⟩
    simp only [s1027_0, s1027_1, s1027_4, s1027_5, s1027_6, s1027_7, s1027_10, s1027_13, s1027_16, s1027_17, unJ_I, unJ_J, unJ_F, unJ_R, unJ_N, unJ_U, pushR_I, pushR_J, pushR_F, pushR_R, pushR_N, pushR_U, rfV_s, rfV_n, Option.bind_some, true_or, or_true, if_true, c_in, b01_0]
    repeat' split
    all_goals first | rfl | (exfalso; omega)
theorem nf_ne {ls : List Lt} {l : Int} (h : ¬ fnd ls l < ls.length) : ∀ w ∈ ls, w.1 0 ≠ l := fun w hw e => by
  obtain ⟨i, hi, ei⟩ := List.getElem_of_mem hw
  have := fnd_le ls l
  have lt' : i < fnd ls l := by omega
  have := fnd_lt lt'
  rw [lt_eq hi, ei] at this
  exact this e
theorem w_grain (h : Mod J M X) (ho : okX t X) (l g x : Int) : Dom 1028 [vR 10 0, vI l, vI g, vI x, vU] q C J M T (vI (aGrain X l g x)) X := by
  obtain ⟨⟨gs, a, b⟩, -⟩ := id h
  have hm := ho.2.1.m
  have b2 := a.2.1.2.1
  unfold aGrain
  by_cases h1 : 0 ≤ l ∧ 0 ≤ g ∧ 0 ≤ x ∧ x ≤ 3
  · rw [if_pos h1]
    by_cases hf : fnd X.1.1 l < X.1.1.length
    · have e0 := fnd_f hf
      obtain ⟨J', M', idx, e, k1, k2, k3, k4⟩ := w_orderL q (C := C) (J := J) (T := T) a hm b hf
      rw [e0] at e k2
      have hM : Mod J' M' X := h.same (k3 _ _ (by omega)) (k3 _ _ (by omega)) (fun k _ => by rw [k4 0 (by omega)]) (k4 2 (by omega)) (k4 3 (by omega))
      have a' : MRow (M' 0) X.1 gs := by rw [k4 0 (by omega)]; exact a
      have sl := w_slot q (C := C) (J := J') (T := T) a' l
      rw [if_pos hf] at sl
      have run : rs 1028 0 [vR 10 0, vI l, vI g, vI x, vU] [] (SX q, C, (J, M, T)) = if g < (lt X.1.1 (fnd X.1.1 l)).2.length then rs 1028 46 [vR 10 0, vI l, vI g, vI x, vU] [] (SX q, C, (J', M', T)) else some (vI (-4), (SX q, C, (J', M', T))) := by
        simp only [s1028_0, s1028_1, s1028_4, s1028_5, s1028_8, s1028_9, s1028_10, s1028_11, s1028_14, s1028_17, s1028_20, s1028_21, s1028_22, s1028_23, s1028_24, unJ_I, unJ_J, unJ_F, unJ_R, unJ_N, unJ_U, pushR_I, pushR_J, pushR_F, pushR_R, pushR_N, pushR_U, rfV_s, rfV_n, Option.bind_some, true_or, or_true, if_true, c_in, b01_0]
        rw [if_neg (by omega), if_neg (by omega), if_neg (by omega), e]
        simp only [s1028_27, s1028_28, s1028_29, s1028_32, unJ_I, unJ_J, unJ_F, unJ_R, unJ_N, unJ_U, pushR_I, pushR_J, pushR_F, pushR_R, pushR_N, pushR_U, rfV_s, rfV_n, Option.bind_some, true_or, or_true, if_true, sl]
        rw [if_neg (by omega)]
        simp only [s1028_35, s1028_36, s1028_37, s1028_40, s1028_43, s1028_45, unJ_I, unJ_J, unJ_F, unJ_R, unJ_N, unJ_U, pushR_I, pushR_J, pushR_F, pushR_R, pushR_N, pushR_U, rfV_s, rfV_n, Option.bind_some, true_or, or_true, if_true, k1]
      by_cases hg : g < (lt X.1.1 (fnd X.1.1 l)).2.length
      · rw [if_pos ⟨hf, hg⟩]
        rw [if_pos hg] at run
        obtain ⟨n, rfl⟩ : ∃ n : Nat, g = n := ⟨g.toNat, by omega⟩
        obtain ⟨p1, p2, p3⟩ := k2 n (by omega)
        have kr := okGs_gv (ho.lot hf).1.gs (show n < (lt X.1.1 (fnd X.1.1 l)).2.length by omega)
        obtain ⟨c0, c1, c2⟩ := a'.2.2.2.2.2.2 (idx n) p2
        rw [p3] at c1 c2
        have c1' : M' 0 (222 + 3 * idx n + 1) = mk (gk (lt X.1.1 (fnd X.1.1 l)).2 n) := c1
        have c2' : M' 0 (222 + 3 * idx n + 2) = gv (lt X.1.1 (fnd X.1.1 l)).2 n := c2
        have e1 : Unit → w32 (3 * (idx n : Int)) = 3 * idx n := fun _ => w32_id (by omega) (by omega)
        have e2 : Unit → w32 (222 + 3 * (idx n : Int)) = ((222 + 3 * idx n : Nat) : Int) := fun _ => by rw [w32_id (by omega) (by omega)]; omega
        have e3 : Unit → w32 (((222 + 3 * idx n : Nat) : Int) + 1) = ((222 + 3 * idx n + 1 : Nat) : Int) := fun _ => by rw [w32_id (by omega) (by omega)]; omega
        have e4 : Unit → w32 (((222 + 3 * idx n : Nat) : Int) + 2) = ((222 + 3 * idx n + 2 : Nat) : Int) := fun _ => by rw [w32_id (by omega) (by omega)]; omega
        refine ⟨J', M', T, ?_, hM⟩
        rw [run]
        have l200 := (ho.lot hf).2.2.2
        simp only [s1028_46, s1028_47, s1028_50, s1028_51, unJ_I, unJ_J, unJ_F, unJ_R, unJ_N, unJ_U, pushR_I, pushR_J, pushR_F, pushR_R, pushR_N, pushR_U, rfV_s, rfV_n, Option.bind_some, true_or, or_true, if_true, lm8, Int.toNat_natCast, p1]
        rw [if_pos (by omega)]
        simp only [s1028_52, s1028_54, s1028_55, s1028_56, unJ_I, unJ_J, unJ_F, unJ_R, unJ_N, unJ_U, pushR_I, pushR_J, pushR_F, pushR_R, pushR_N, pushR_U, rfV_s, rfV_n, Option.bind_some, true_or, or_true, if_true]
        by_cases hx : x = 3
        · rw [if_pos hx, if_pos hx]
          simp only [s1028_59, s1028_60, s1028_63, s1028_66, s1028_67, s1028_69, s1028_70, s1028_71, s1028_72, s1028_73, unJ_I, unJ_J, unJ_F, unJ_R, unJ_N, unJ_U, pushR_I, pushR_J, pushR_F, pushR_R, pushR_N, pushR_U, rfV_s, rfV_n, Option.bind_some, true_or, or_true, if_true, lm0, e1 (), e2 (), e4 (), Int.toNat_natCast, c2']
          rw [if_pos (by omega)]
          simp only [s1028_74, s1028_96, unJ_I, unJ_J, unJ_F, unJ_R, unJ_N, unJ_U, pushR_I, pushR_J, pushR_F, pushR_R, pushR_N, pushR_U, rfV_s, rfV_n, Option.bind_some, true_or, or_true, if_true]
        · rw [if_neg hx, if_neg hx]
          obtain ⟨m, rfl⟩ : ∃ m : Nat, x = m := ⟨x.toNat, by omega⟩
          simp only [s1028_77, s1028_78, s1028_81, s1028_84, s1028_85, s1028_87, s1028_88, s1028_89, s1028_90, s1028_91, unJ_I, unJ_J, unJ_F, unJ_R, unJ_N, unJ_U, pushR_I, pushR_J, pushR_F, pushR_R, pushR_N, pushR_U, rfV_s, rfV_n, Option.bind_some, true_or, or_true, if_true, lm0, e1 (), e2 (), e3 (), Int.toNat_natCast, c1']
          rw [if_pos (by omega)]
          simp only [s1028_92, s1028_93, unJ_I, unJ_J, unJ_F, unJ_R, unJ_N, unJ_U, pushR_I, pushR_J, pushR_F, pushR_R, pushR_N, pushR_U, rfV_s, rfV_n, Option.bind_some, true_or, or_true, if_true, w_part ⟨kr.1, kr.2.1⟩ (show m < 3 by omega)]
          simp only [s1028_96, unJ_I, unJ_J, unJ_F, unJ_R, unJ_N, unJ_U, pushR_I, pushR_J, pushR_F, pushR_R, pushR_N, pushR_U, rfV_s, rfV_n, Option.bind_some, true_or, or_true, if_true]
      · rw [if_neg (fun z => hg z.2)]
        rw [if_neg hg] at run
        exact ⟨J', M', T, run, hM⟩
    · rw [if_neg (fun z => hf z.1)]
      obtain ⟨J', M', idx, e, k1, k2, k3, k4⟩ := w_order q (C := C) (J := J) (T := T) a (hm.gx b).1 (x := l) (g := []) trivial (mem_no b (nf_ne hf))
      have a' : MRow (M' 0) X.1 gs := by rw [k4 0 (by omega)]; exact a
      have sl := w_slot q (C := C) (J := J') (T := T) a' l
      rw [if_neg hf] at sl
      refine ⟨J', M', T, ?_, h.same (k3 _ _ (by omega)) (k3 _ _ (by omega)) (fun k _ => by rw [k4 0 (by omega)]) (k4 2 (by omega)) (k4 3 (by omega))⟩
      simp only [s1028_0, s1028_1, s1028_4, s1028_5, s1028_8, s1028_9, s1028_10, s1028_11, s1028_14, s1028_17, s1028_20, s1028_21, s1028_22, s1028_23, s1028_24, unJ_I, unJ_J, unJ_F, unJ_R, unJ_N, unJ_U, pushR_I, pushR_J, pushR_F, pushR_R, pushR_N, pushR_U, rfV_s, rfV_n, Option.bind_some, true_or, or_true, if_true, c_in, b01_0]
      rw [if_neg (by omega), if_neg (by omega), if_neg (by omega), e]
      simp only [s1028_27, s1028_28, s1028_29, s1028_32, s1028_35, s1028_36, s1028_37, s1028_40, s1028_43, s1028_45, unJ_I, unJ_J, unJ_F, unJ_R, unJ_N, unJ_U, pushR_I, pushR_J, pushR_F, pushR_R, pushR_N, pushR_U, rfV_s, rfV_n, Option.bind_some, true_or, or_true, if_true, sl]
      rw [if_pos (by omega)]
  · rw [if_neg h1]
    refine ⟨J, M, T, ?_, h⟩
    simp only [s1028_0, s1028_1, s1028_4, s1028_5, s1028_8, s1028_9, s1028_10, s1028_11, s1028_14, s1028_17, s1028_20, s1028_21, unJ_I, unJ_J, unJ_F, unJ_R, unJ_N, unJ_U, pushR_I, pushR_J, pushR_F, pushR_R, pushR_N, pushR_U, rfV_s, rfV_n, Option.bind_some, true_or, or_true, if_true, c_in, b01_0]
    repeat' split
    all_goals first | rfl | (exfalso; omega)
theorem w_isPart {μ : Mem} (x v : Int) : rs 1030 0 [vI x, vI v] [] μ = some (vI (b01 (shOk x v)), μ) := by
  simp only [s1030_0, s1030_1, unJ_I, unJ_J, unJ_F, unJ_R, unJ_N, unJ_U, pushR_I, pushR_J, pushR_F, pushR_R, pushR_N, pushR_U, rfV_s, rfV_n, Option.bind_some, true_or, or_true, if_true]
  by_cases h0 : x = 0
  · rw [if_pos h0]
    simp only [s1030_4, s1030_5, s1030_6, s1030_7, s1030_10, s1030_13, s1030_57, unJ_I, unJ_J, unJ_F, unJ_R, unJ_N, unJ_U, pushR_I, pushR_J, pushR_F, pushR_R, pushR_N, pushR_U, rfV_s, rfV_n, Option.bind_some, true_or, or_true, if_true, c_in, b01_o]
    by_cases z : 0 ≤ v ∧ v ≤ 7
    · rw [b01_t z, b01_t (show shOk x v from Or.inl ⟨h0, z⟩)]
    · rw [b01_f z, b01_f (show ¬ shOk x v by unfold shOk; omega)]
  · rw [if_neg h0]
    simp only [s1030_16, s1030_17, s1030_18, unJ_I, unJ_J, unJ_F, unJ_R, unJ_N, unJ_U, pushR_I, pushR_J, pushR_F, pushR_R, pushR_N, pushR_U, rfV_s, rfV_n, Option.bind_some, true_or, or_true, if_true]
    by_cases h1 : x = 1
    · rw [if_pos h1]
      simp only [s1030_21, s1030_22, s1030_23, s1030_26, s1030_29, s1030_32, s1030_57, unJ_I, unJ_J, unJ_F, unJ_R, unJ_N, unJ_U, pushR_I, pushR_J, pushR_F, pushR_R, pushR_N, pushR_U, rfV_s, rfV_n, Option.bind_some, true_or, or_true, if_true, c_in, b01_o]
      by_cases z : 2000 ≤ v ∧ v ≤ 2063
      · rw [b01_t z, b01_t (show shOk x v from Or.inr (Or.inl ⟨h1, z⟩))]
      · rw [b01_f z, b01_f (show ¬ shOk x v by unfold shOk; omega)]
    · rw [if_neg h1]
      simp only [s1030_35, s1030_36, s1030_37, unJ_I, unJ_J, unJ_F, unJ_R, unJ_N, unJ_U, pushR_I, pushR_J, pushR_F, pushR_R, pushR_N, pushR_U, rfV_s, rfV_n, Option.bind_some, true_or, or_true, if_true]
      by_cases h2 : x = 2
      · rw [if_pos h2]
        simp only [s1030_40, s1030_41, s1030_42, s1030_43, s1030_46, s1030_49, unJ_I, unJ_J, unJ_F, unJ_R, unJ_N, unJ_U, pushR_I, pushR_J, pushR_F, pushR_R, pushR_N, pushR_U, rfV_s, rfV_n, Option.bind_some, true_or, or_true, if_true, c_in, b01_0]
        by_cases z : 0 ≤ v ∧ v ≤ 9
        · rw [if_neg (fun y => y z)]
          simp only [s1030_52, s1030_53, s1030_56, s1030_57, unJ_I, unJ_J, unJ_F, unJ_R, unJ_N, unJ_U, pushR_I, pushR_J, pushR_F, pushR_R, pushR_N, pushR_U, rfV_s, rfV_n, Option.bind_some, true_or, or_true, if_true]
          rw [b01_t (show shOk x v from Or.inr (Or.inr ⟨h2, z⟩))]
        · rw [if_pos z]
          simp only [s1030_56, s1030_57, unJ_I, unJ_J, unJ_F, unJ_R, unJ_N, unJ_U, pushR_I, pushR_J, pushR_F, pushR_R, pushR_N, pushR_U, rfV_s, rfV_n, Option.bind_some, true_or, or_true, if_true]
          rw [b01_f (show ¬ shOk x v by unfold shOk; omega)]
      · rw [if_neg h2]
        simp only [s1030_56, s1030_57, unJ_I, unJ_J, unJ_F, unJ_R, unJ_N, unJ_U, pushR_I, pushR_J, pushR_F, pushR_R, pushR_N, pushR_U, rfV_s, rfV_n, Option.bind_some, true_or, or_true, if_true]
        rw [b01_f (show ¬ shOk x v by unfold shOk; omega)]
theorem w_share' (h : Mod J M X) (ho : okX t X) (l x v : Int) : Dom 1031 [vR 10 0, vI l, vI x, vI v] q C J M T (vI (aShare X l x v)) X := by
  obtain ⟨⟨gs, a, b⟩, -⟩ := id h
  have hm := ho.2.1.m
  have sl := w_slot q (C := C) (J := J) (T := T) a l
  refine ⟨J, M, T, ?_, h⟩
  unfold aShare
  by_cases h1 : 0 ≤ l ∧ shOk x v
  · rw [if_pos h1]
    simp only [s1031_0, s1031_1, s1031_4, s1031_5, s1031_6, s1031_9, s1031_12, s1031_13, s1031_14, s1031_15, s1031_16, unJ_I, unJ_J, unJ_F, unJ_R, unJ_N, unJ_U, pushR_I, pushR_J, pushR_F, pushR_R, pushR_N, pushR_U, rfV_s, rfV_n, Option.bind_some, true_or, or_true, if_true, w_isPart, b01_0]
    rw [if_neg (by omega), if_neg (fun z => z h1.2), sl]
    by_cases hf : fnd X.1.1 l < X.1.1.length
    · rw [if_pos hf, if_pos hf]
      have e0 := fnd_f hf
      obtain ⟨n, rfl⟩ : ∃ n : Nat, x = n := ⟨x.toNat, by have := h1.2; unfold shOk at this; omega⟩
      have sh := w_shared q (C := C) (J := J) (T := T) a hm b hf (ho.lot hf).2.1 (t := n) (by have := h1.2; unfold shOk at this; omega) v
      rw [e0] at sh
      simp only [s1031_19, unJ_I, unJ_J, unJ_F, unJ_R, unJ_N, unJ_U, pushR_I, pushR_J, pushR_F, pushR_R, pushR_N, pushR_U, rfV_s, rfV_n, Option.bind_some, true_or, or_true, if_true]
      rw [if_pos (by omega)]
      simp only [s1031_27, s1031_28, s1031_29, s1031_30, s1031_31, s1031_34, unJ_I, unJ_J, unJ_F, unJ_R, unJ_N, unJ_U, pushR_I, pushR_J, pushR_F, pushR_R, pushR_N, pushR_U, rfV_s, rfV_n, Option.bind_some, true_or, or_true, if_true, sh, Int.toNat_natCast]
    · rw [if_neg hf, if_neg hf]
      simp only [s1031_19, s1031_22, s1031_24, s1031_34, unJ_I, unJ_J, unJ_F, unJ_R, unJ_N, unJ_U, pushR_I, pushR_J, pushR_F, pushR_R, pushR_N, pushR_U, rfV_s, rfV_n, Option.bind_some, true_or, or_true, if_true]
      rw [if_neg (by omega)]
  · rw [if_neg h1]
    simp only [s1031_0, s1031_1, s1031_4, s1031_5, s1031_6, s1031_9, s1031_12, s1031_13, unJ_I, unJ_J, unJ_F, unJ_R, unJ_N, unJ_U, pushR_I, pushR_J, pushR_F, pushR_R, pushR_N, pushR_U, rfV_s, rfV_n, Option.bind_some, true_or, or_true, if_true, w_isPart, b01_0]
    by_cases hl : l < 0
    · rw [if_pos hl]
    · rw [if_neg hl, if_pos (fun z => h1 ⟨by omega, z⟩)]
end
