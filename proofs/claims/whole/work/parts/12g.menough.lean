/-! THE MODEL CALLS: hasEnough, mostLitres -/
section
variable (q : Nat × (Nat → Int)) {C : MC} {J M T : M2} {t : Int} {X : XS} {σ : St} {gs : List Gx}
abbrev enP (ls : List Lt) (n : Int) (k : Nat) : Prop := ∀ j, j < k → shL n ls ((rIx ls ls.length).getD j 0) ≤ gsum (lt ls ((rIx ls ls.length).getD j 0)).2
theorem enP_por {ls : List Lt} (ho : okLs ls) (hr : 0 < rcpN ls) (n : Int) : enP ls n (rIx ls ls.length).length ↔ porD ls n := by
  have hS := rcp_sum ho hr
  obtain ⟨-, -, z⟩ := shr_rIx (fun i hi => (ho i hi).1.2.2.2.2.2.1.1) hS n
  constructor
  · intro h i hi
    by_cases c : 0 < (lt ls i).1 5
    · have mem : i ∈ rIx ls ls.length := by
        unfold rIx
        rw [List.mem_filter, List.mem_range]
        exact ⟨hi, decide_eq_true c⟩
      obtain ⟨j, hj, e⟩ := List.getElem_of_mem mem
      have := h j hj
      rw [List.getD_eq_getElem?_getD, List.getElem?_eq_getElem hj] at this
      have e' : (some (rIx ls ls.length)[j]).getD 0 = i := e
      rw [e'] at this
      exact this
    · have a := z i hi c
      have b := (ho i hi).2
      show shL n ls i ≤ _
      omega
  · intro h j hj
    exact h _ (rIx_lt hj).1
theorem w_enough (h : MRow (M 0) σ gs) (hm : okM σ.1) (hp : gs.Perm (flat σ.1)) (ho : okLs σ.1) (h6 : rcpN σ.1 ≤ 6) (hr : 0 < rcpN σ.1) {n : Int} (hn : 0 ≤ n ∧ n ≤ 10000) :
    ∃ J' M', rs 1038 0 [vR 10 0, vI n, vU, vU] [] (SX q, C, (J, M, T)) = some (vI (b01 (porD σ.1 n)), (SX q, C, (J', M', T))) ∧ J' 219 0 = rcpN σ.1 ∧ (∀ j, j < (rIx σ.1 σ.1.length).length → M' 9 j = (lt σ.1 ((rIx σ.1 σ.1.length).getD j 0)).1 0 ∧ M' 6 j = shL n σ.1 ((rIx σ.1 σ.1.length).getD j 0)) ∧
      (∀ f y, f ≠ 213 → f ≠ 219 → J' f y = J f y) ∧ ∀ r, r ≠ 5 → r ≠ 6 → r ≠ 7 → r ≠ 9 → M' r = M r := by
  obtain ⟨J1, M1, e1, j1, j2, k1, f1, g1⟩ := w_mix q (C := C) (J := J) (T := T) h h6
  have nr : ((rIx σ.1 σ.1.length).length : Int) = rcpN σ.1 := rIx_n σ.1 σ.1.length
  have hS := rcp_sum ho hr
  obtain ⟨s1, s2, s3⟩ := shr_rIx (fun i hi => (ho i hi).1.2.2.2.2.2.1.1) hS n
  obtain ⟨M2', e2, k2, g2⟩ := w_share q (C := C) (J := J1) (M := M1) (T := T) (m := (rIx σ.1 σ.1.length).length) (by omega) (by rw [j2, nr]) hn (W := fun k => wtL σ.1 ((rIx σ.1 σ.1.length).getD k 0)) (fun j hj => ⟨(k1 j hj).2, by
    have a := (ho _ (rIx_lt hj).1).1.2.2.2.2.2.1
    unfold wtL; omega⟩) (by rw [s1]; exact hS)
  have hM : MRow (M2' 0) σ gs := by rw [g2 0 (by omega) (by omega), g1 0 (by omega) (by omega)]; exact h
  have m9 : ∀ j, j < (rIx σ.1 σ.1.length).length → M2' 9 j = (lt σ.1 ((rIx σ.1 σ.1.length).getD j 0)).1 0 := fun j hj => by rw [g2 9 (by omega) (by omega)]; exact (k1 j hj).1
  have m6 : ∀ j, j < (rIx σ.1 σ.1.length).length → M2' 6 j = shL n σ.1 ((rIx σ.1 σ.1.length).getD j 0) := fun j hj => (k2 j hj).trans (s2 j hj)
  have loop := rs_loop (m := 1038) (pc := 13) (fun k => [vR 10 0, vU, vI (b01 (enP σ.1 n k)), vI (k : Int)]) (fun _ => (SX q, C, (J1, M2', T))) (rIx σ.1 σ.1.length).length (fun k hk => by
    have ek : Unit → w32 ((k : Int) + 1) = ((k + 1 : Nat) : Int) := fun _ => by rw [w32_id (by omega) (by omega)]; omega
    have li := w_lit q (C := C) (J := J1) (T := T) hM hm hp (i := (rIx σ.1 σ.1.length).getD k 0) (rIx_lt hk).1
    have st : enP σ.1 n (k + 1) ↔ (enP σ.1 n k ∧ shL n σ.1 ((rIx σ.1 σ.1.length).getD k 0) ≤ gsum (lt σ.1 ((rIx σ.1 σ.1.length).getD k 0)).2) := by
      constructor
      · intro a; exact ⟨fun j hj => a j (by omega), a k (by omega)⟩
      · intro a j hj
        by_cases e : j = k
        · subst e; exact a.2
        · exact a.1 j (by omega)
    have go : ∀ v : Int, v = b01 (enP σ.1 n (k + 1)) → rs 1038 49 [vR 10 0, vU, vI (b01 (enP σ.1 n k)), vI (k : Int)] [vI v] (SX q, C, (J1, M2', T)) = rs 1038 13 [vR 10 0, vU, vI (b01 (enP σ.1 n (k + 1))), vI ((k + 1 : Nat) : Int)] [] (SX q, C, (J1, M2', T)) := fun v hv => by
      rw [hv]
      simp only [s1038_49, s1038_50, s1038_53, unJ_I, unJ_J, unJ_F, unJ_R, unJ_N, unJ_U, pushR_I, pushR_J, pushR_F, pushR_R, pushR_N, pushR_U, rfV_s, rfV_n, Option.bind_some, true_or, or_true, if_true, ek ()]
    rw [s1038_13]
    simp only [s1038_14, s1038_15, s1038_18, s1038_21, unJ_I, unJ_J, unJ_F, unJ_R, unJ_N, unJ_U, pushR_I, pushR_J, pushR_F, pushR_R, pushR_N, pushR_U, rfV_s, rfV_n, Option.bind_some, true_or, or_true, if_true, j1]
    rw [if_neg (by omega), s1038_22]
    by_cases c1 : enP σ.1 n k
    · rw [if_neg (by rw [b01_0]; exact fun z => z c1)]
      simp only [s1038_25, s1038_26, s1038_27, s1038_30, s1038_31, unJ_I, unJ_J, unJ_F, unJ_R, unJ_N, unJ_U, pushR_I, pushR_J, pushR_F, pushR_R, pushR_N, pushR_U, rfV_s, rfV_n, Option.bind_some, true_or, or_true, if_true, lm9, Int.toNat_natCast]
      rw [if_pos (by omega), m9 k hk]
      simp only [s1038_32, s1038_35, s1038_36, s1038_39, s1038_40, unJ_I, unJ_J, unJ_F, unJ_R, unJ_N, unJ_U, pushR_I, pushR_J, pushR_F, pushR_R, pushR_N, pushR_U, rfV_s, rfV_n, Option.bind_some, true_or, or_true, if_true, li, lm6, Int.toNat_natCast]
      rw [if_pos (by omega), m6 k hk]
      rw [s1038_41]
      by_cases c2 : shL n σ.1 ((rIx σ.1 σ.1.length).getD k 0) ≤ gsum (lt σ.1 ((rIx σ.1 σ.1.length).getD k 0)).2
      · rw [if_neg (by omega)]
        simp only [s1038_44, s1038_45, unJ_I, unJ_J, unJ_F, unJ_R, unJ_N, unJ_U, pushR_I, pushR_J, pushR_F, pushR_R, pushR_N, pushR_U, rfV_s, rfV_n, Option.bind_some, true_or, or_true, if_true]
        exact go 1 (b01_t (st.mpr ⟨c1, c2⟩)).symm
      · rw [if_pos (by omega)]
        simp only [s1038_48, unJ_I, unJ_J, unJ_F, unJ_R, unJ_N, unJ_U, pushR_I, pushR_J, pushR_F, pushR_R, pushR_N, pushR_U, rfV_s, rfV_n, Option.bind_some, true_or, or_true, if_true]
        exact go 0 (b01_f (fun z => c2 (st.mp z).2)).symm
    · rw [if_pos (b01_0.mpr c1)]
      simp only [s1038_48, unJ_I, unJ_J, unJ_F, unJ_R, unJ_N, unJ_U, pushR_I, pushR_J, pushR_F, pushR_R, pushR_N, pushR_U, rfV_s, rfV_n, Option.bind_some, true_or, or_true, if_true]
      exact go 0 (b01_f (fun z => c1 (st.mp z).1)).symm)
  have e0 : rs 1038 13 [vR 10 0, vU, vI 1, vI 0] [] (SX q, C, (J1, M2', T)) = rs 1038 13 [vR 10 0, vU, vI (b01 (enP σ.1 n 0)), vI ((0 : Nat) : Int)] [] (SX q, C, (J1, M2', T)) := by
    rw [b01_t (fun j hj => absurd hj (Nat.not_lt_zero _))]; rfl
  have eb : b01 (enP σ.1 n (rIx σ.1 σ.1.length).length) = b01 (porD σ.1 n) := by
    by_cases c : porD σ.1 n
    · rw [b01_t c, b01_t ((enP_por ho hr n).mpr c)]
    · rw [b01_f c, b01_f (fun z => c ((enP_por ho hr n).mp z))]
  refine ⟨J1, M2', ?_, j1, fun j hj => ⟨m9 j hj, m6 j hj⟩, f1, fun r a b c d => (g2 r b c).trans (g1 r a d)⟩
  simp only [s1038_0, s1038_1, s1038_4, s1038_5, s1038_6, unJ_I, unJ_J, unJ_F, unJ_R, unJ_N, unJ_U, pushR_I, pushR_J, pushR_F, pushR_R, pushR_N, pushR_U, rfV_s, rfV_n, Option.bind_some, true_or, or_true, if_true, e1, e2]
  simp only [s1038_9, s1038_10, s1038_11, s1038_12, unJ_I, unJ_J, unJ_F, unJ_R, unJ_N, unJ_U, pushR_I, pushR_J, pushR_F, pushR_R, pushR_N, pushR_U, rfV_s, rfV_n, Option.bind_some, true_or, or_true, if_true]
  refine (e0.trans loop).trans ?_
  rw [eb, s1038_13]
  simp only [s1038_14, s1038_15, s1038_18, s1038_56, s1038_57, unJ_I, unJ_J, unJ_F, unJ_R, unJ_N, unJ_U, pushR_I, pushR_J, pushR_F, pushR_R, pushR_N, pushR_U, rfV_s, rfV_n, Option.bind_some, true_or, or_true, if_true, j1]
  rw [if_pos (by omega), if_pos (by unfold b01; split <;> omega)]
theorem w_most (h : Mod J M X) (ho : okX t X) (hy : okY X) : Dom 1043 [vR 10 0, vU] q C J M T (vI (aMost X)) X := by
  obtain ⟨⟨gs, a, b⟩, -⟩ := id h
  have hm := ho.2.1.m
  have h6 : rcpN X.1.1 ≤ 6 := hy.1.2.2
  have r0 : 0 ≤ rcpN X.1.1 := (cntU_r _ _).1
  obtain ⟨J1, M1, e1, j1, j2, k1, f1, g1⟩ := w_mix q (C := C) (J := J) (T := T) a h6
  have hX1 : Mod J1 M1 X := h.same (f1 _ _ (by omega) (by omega)) (f1 _ _ (by omega) (by omega)) (fun k _ => by rw [g1 0 (by omega) (by omega)]) (g1 2 (by omega) (by omega)) (g1 3 (by omega) (by omega))
  unfold aMost
  by_cases hz : rcpN X.1.1 = 0
  · rw [if_pos hz]
    refine ⟨J1, M1, T, ?_, hX1⟩
    simp only [s1043_0, s1043_1, unJ_I, unJ_J, unJ_F, unJ_R, unJ_N, unJ_U, pushR_I, pushR_J, pushR_F, pushR_R, pushR_N, pushR_U, rfV_s, rfV_n, Option.bind_some, true_or, or_true, if_true, e1]
    simp only [s1043_4, s1043_5, s1043_8, unJ_I, unJ_J, unJ_F, unJ_R, unJ_N, unJ_U, pushR_I, pushR_J, pushR_F, pushR_R, pushR_N, pushR_U, rfV_s, rfV_n, Option.bind_some, true_or, or_true, if_true, j1]
    rw [if_pos hz]
    simp only [s1043_11, s1043_13, unJ_I, unJ_J, unJ_F, unJ_R, unJ_N, unJ_U, pushR_I, pushR_J, pushR_F, pushR_R, pushR_N, pushR_U, rfV_s, rfV_n, Option.bind_some, true_or, or_true, if_true]
  · rw [if_neg hz]
    have main : ∀ (n : Nat) (J' M' : M2), n ≤ 10000 → Mod J' M' X → ∃ J'' M'', rs 1043 18 [vR 10 0, vI (n : Int)] [] (SX q, C, (J', M', T)) = some (vI (mostU (por X.1.1) n), (SX q, C, (J'', M'', T))) ∧ Mod J'' M'' X := by
      intro n
      induction n with
      | zero =>
        intro J' M' _ k
        refine ⟨J', M', ?_, k⟩
        rw [s1043_18]
        simp only [s1043_19, s1043_38, s1043_40, unJ_I, unJ_J, unJ_F, unJ_R, unJ_N, unJ_U, pushR_I, pushR_J, pushR_F, pushR_R, pushR_N, pushR_U, rfV_s, rfV_n, Option.bind_some, true_or, or_true, if_true]
        rw [if_pos (by omega)]
        rfl
      | succ n ih =>
        intro J' M' hn k
        obtain ⟨⟨gs', a', b'⟩, -⟩ := id k
        obtain ⟨J2, M2', e2, -, -, f2, g2⟩ := w_enough q (C := C) (J := J') (T := T) a' hm b' ho.2.1.1 h6 (by omega) (n := ((n + 1 : Nat) : Int)) (by omega)
        have k2 : Mod J2 M2' X := k.same (f2 _ _ (by omega) (by omega)) (f2 _ _ (by omega) (by omega)) (fun z _ => by rw [g2 0 (by omega) (by omega) (by omega) (by omega)]) (g2 2 (by omega) (by omega) (by omega) (by omega)) (g2 3 (by omega) (by omega) (by omega) (by omega))
        by_cases c : por X.1.1 ((n + 1 : Nat) : Int)
        · refine ⟨J2, M2', ?_, k2⟩
          rw [mostU_t c, s1043_18]
          rw [b01_t (show porD X.1.1 ((n + 1 : Nat) : Int) from c)] at e2
          simp only [s1043_19, s1043_22, s1043_23, s1043_24, unJ_I, unJ_J, unJ_F, unJ_R, unJ_N, unJ_U, pushR_I, pushR_J, pushR_F, pushR_R, pushR_N, pushR_U, rfV_s, rfV_n, Option.bind_some, true_or, or_true, if_true, e2]
          rw [if_neg (by omega)]
          simp only [s1043_27, s1043_30, s1043_31, unJ_I, unJ_J, unJ_F, unJ_R, unJ_N, unJ_U, pushR_I, pushR_J, pushR_F, pushR_R, pushR_N, pushR_U, rfV_s, rfV_n, Option.bind_some, true_or, or_true, if_true]
          rw [if_neg (by omega)]
        · obtain ⟨J3, M3, e3, k3⟩ := ih J2 M2' (by omega) k2
          refine ⟨J3, M3, ?_, k3⟩
          have en : Unit → w32 (((n + 1 : Nat) : Int) + -1) = (n : Int) := fun _ => by rw [w32_id (by omega) (by omega)]; omega
          rw [mostU_f c, s1043_18]
          rw [b01_f (show ¬ porD X.1.1 ((n + 1 : Nat) : Int) from c)] at e2
          simp only [s1043_19, s1043_22, s1043_23, s1043_24, unJ_I, unJ_J, unJ_F, unJ_R, unJ_N, unJ_U, pushR_I, pushR_J, pushR_F, pushR_R, pushR_N, pushR_U, rfV_s, rfV_n, Option.bind_some, true_or, or_true, if_true, e2]
          rw [if_neg (by omega)]
          simp only [s1043_27, s1043_30, s1043_31, s1043_32, s1043_35, unJ_I, unJ_J, unJ_F, unJ_R, unJ_N, unJ_U, pushR_I, pushR_J, pushR_F, pushR_R, pushR_N, pushR_U, rfV_s, rfV_n, Option.bind_some, true_or, or_true, if_true, en ()]
          exact e3
    obtain ⟨J3, M3, e3, k3⟩ := main 10000 J1 M1 (Nat.le_refl _) hX1
    refine ⟨J3, M3, T, ?_, k3⟩
    simp only [s1043_0, s1043_1, unJ_I, unJ_J, unJ_F, unJ_R, unJ_N, unJ_U, pushR_I, pushR_J, pushR_F, pushR_R, pushR_N, pushR_U, rfV_s, rfV_n, Option.bind_some, true_or, or_true, if_true, e1]
    simp only [s1043_4, s1043_5, s1043_8, unJ_I, unJ_J, unJ_F, unJ_R, unJ_N, unJ_U, pushR_I, pushR_J, pushR_F, pushR_R, pushR_N, pushR_U, rfV_s, rfV_n, Option.bind_some, true_or, or_true, if_true, j1]
    rw [if_neg hz]
    simp only [s1043_14, s1043_17, unJ_I, unJ_J, unJ_F, unJ_R, unJ_N, unJ_U, pushR_I, pushR_J, pushR_F, pushR_R, pushR_N, pushR_U, rfV_s, rfV_n, Option.bind_some, true_or, or_true, if_true]
    exact e3
end
