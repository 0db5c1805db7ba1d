/-! CALLS: bottle -/
section
variable (q : Nat × (Nat → Int)) {I A : M2} {L P : Nat → Nat → Option Nat} {F G : Nat → Nat → UInt32} {D : MD} {T : Int} {X : XS}
/-- an account is added to -/
theorem acc_st {σ : St} {sl : Nat → Nat} (h : CelAt I A 0 sl σ) (hsl : ∀ i, i < 12 → 12 * 0 ≤ sl i ∧ sl i < 12 * 0 + 12) {i : Nat} (hi : i < 8) (v : Int) : ∃ A', rs 404 0 [vR 4 (19 * 0 + 2 * (0 / 5) + 6), vI (i : Int), vI v] [] (SX q, (I, A, L, P, F, G), D) = some (vU, (SX q, (I, A', L, P, F, G), D)) ∧ CelAt I A' 0 sl (σ.1, σ.2.1, σ.2.2.1, adA σ.2.2.2.1 i v, σ.2.2.2.2) ∧ ∀ r j, r ≠ 6 → A' r j = A r j := by
  have e := c_acc q (I := I) (A := A) (L := L) (P := P) (F := F) (G := G) (D := D) (c := 0) (i := i) (by omega) hi v
  have ac : A (19 * 0 + 2 * (0 / 5) + 6) i = σ.2.2.2.1 i := h.2.2.2.2.2.2.1 i hi
  have C := h.acc (by omega) hsl i (w32 (A (19 * 0 + 2 * (0 / 5) + 6) i + v))
  refine ⟨_, e, ?_, fun r j hr => up2_ne (by omega)⟩
  rw [ac] at C ⊢
  exact C
/-- VineyardBlends.fillBottles -/
theorem c_fill {σ : St} {sl : Nat → Nat} (h : CelAt I A 0 sl σ) (hsl : ∀ i, i < 12 → 12 * 0 ≤ sl i ∧ sl i < 12 * 0 + 12) (hr : 0 ≤ σ.2.2.1 3 ∧ σ.2.2.1 3 ≤ 1000) {n z : Int} (hn : 1 ≤ n ∧ n ≤ 10000) (hz : 10 ≤ z ∧ z ≤ 300) :
    ∃ A', rs 932 0 [vR 9 0, vI n, vI z, vU, vU, vU] [] (SX q, (I, A, L, P, F, G), D) = some (vI (fulU n z - brkU n z (σ.2.2.1 3)), (SX q, (I, A', L, P, F, G), D)) ∧ CelAt I A' 0 sl (σ.1, σ.2.1, σ.2.2.1, acB σ.2.2.2.1 n z (σ.2.2.1 3), σ.2.2.2.2) ∧ ∀ r j, r ≠ 6 → A' r j = A r j := by
  have l4 := (len_c 0 (by omega)).1
  have fu : 0 ≤ fulU n z ∧ fulU n z ≤ 1000000 := by
    unfold fulU
    exact ⟨Int.ediv_nonneg (by omega) (by omega), Int.le_trans (Int.ediv_le_self _ (by omega)) (by omega)⟩
  have bu : 0 ≤ brkU n z (σ.2.2.1 3) ∧ brkU n z (σ.2.2.1 3) ≤ fulU n z := by
    unfold brkU
    split
    · exact ⟨Int.ediv_nonneg fu.1 (by omega), Int.ediv_le_self _ fu.1⟩
    · omega
  have em : Unit → w32 (n * 100) = n * 100 := fun _ => w32_id (by omega) (by omega)
  have ef : Unit → w32 (Int.tdiv (n * 100) z) = fulU n z := fun _ => by
    rw [Int.tdiv_eq_ediv_of_nonneg (by omega)]
    exact w32_id (by unfold fulU at fu; omega) (by unfold fulU at fu; omega)
  have es : Unit → w32 (fulU n z - brkU n z (σ.2.2.1 3)) = fulU n z - brkU n z (σ.2.2.1 3) := fun _ => w32_id (by omega) (by omega)
  have et : Unit → Int.tmod (n * 100) z = n * 100 % z := fun _ => Int.tmod_eq_emod_of_nonneg (by omega)
  have e2 : rs 402 0 [vR 4 (19 * 0 + 2 * (0 / 5) + 5), vI ((3 : Nat) : Int)] [] (SX q, (I, A, L, P, F, G), D) = some (vI (σ.2.2.1 3), (SX q, (I, A, L, P, F, G), D)) := by
    rw [c_get, rget_n _ (by omega), h.2.2.2.2.2.1 3 (by omega)]
  obtain ⟨A1, a1, C1, f1⟩ := acc_st q (L := L) (P := P) (F := F) (G := G) (D := D) h hsl (i := 3) (by omega) n
  obtain ⟨A2, a2, C2, f2⟩ := acc_st q (L := L) (P := P) (F := F) (G := G) (D := D) C1 hsl (i := 5) (by omega) (fulU n z - brkU n z (σ.2.2.1 3))
  obtain ⟨A3, a3, C3, f3⟩ := acc_st q (L := L) (P := P) (F := F) (G := G) (D := D) C2 hsl (i := 6) (by omega) (brkU n z (σ.2.2.1 3))
  obtain ⟨A4, a4, C4, f4⟩ := acc_st q (L := L) (P := P) (F := F) (G := G) (D := D) C3 hsl (i := 7) (by omega) (n * 100 % z)
  refine ⟨A4, ?_, C4, fun r j hr => (f4 r j hr).trans ((f3 r j hr).trans ((f2 r j hr).trans (f1 r j hr)))⟩
  have run : rs 932 0 [vR 9 0, vI n, vI z, vU, vU, vU] [] (SX q, (I, A, L, P, F, G), D) = rs 932 41 [vR 9 0, vI n, vI z, vI (fulU n z), vI (σ.2.2.1 3), vI (brkU n z (σ.2.2.1 3))] [] (SX q, (I, A, L, P, F, G), D) := by
    simp only [s932_0, s932_1, unJ_I, unJ_J, unJ_F, unJ_R, unJ_N, unJ_U, pushR_I, pushR_J, pushR_F, pushR_R, pushR_N, pushR_U, rfV_s, rfV_n, Option.bind_some, true_or, or_true, if_true]
    rw [if_pos (by omega)]
    simp only [s932_6, s932_7, s932_9, s932_10, s932_11, s932_12, s932_13, s932_14, s932_17, s932_20, s932_21, unJ_I, unJ_J, unJ_F, unJ_R, unJ_N, unJ_U, pushR_I, pushR_J, pushR_F, pushR_R, pushR_N, pushR_U, rfV_s, rfV_n, Option.bind_some, true_or, or_true, if_true, em ()]
    rw [if_neg (by omega), ef ()]
    refine (congrArg (fun o => Option.bind o _) e2).trans ?_
    simp only [s932_24, s932_26, s932_28, unJ_I, unJ_J, unJ_F, unJ_R, unJ_N, unJ_U, pushR_I, pushR_J, pushR_F, pushR_R, pushR_N, pushR_U, rfV_s, rfV_n, Option.bind_some, true_or, or_true, if_true]
    by_cases hp : 0 < σ.2.2.1 3
    · rw [if_neg (by omega)]
      simp only [s932_31, s932_32, s932_34, s932_35, s932_38, s932_39, unJ_I, unJ_J, unJ_F, unJ_R, unJ_N, unJ_U, pushR_I, pushR_J, pushR_F, pushR_R, pushR_N, pushR_U, rfV_s, rfV_n, Option.bind_some, true_or, or_true, if_true]
      have eb : w32 (Int.tdiv (fulU n z) (σ.2.2.1 3)) = brkU n z (σ.2.2.1 3) := by
        have hb := bu
        unfold brkU at hb ⊢
        rw [if_pos hp] at hb ⊢
        rw [Int.tdiv_eq_ediv_of_nonneg fu.1]
        exact w32_id (by omega) (by omega)
      rw [if_neg (by omega), eb]
    · rw [if_pos (by omega)]
      simp only [s932_38, s932_39, unJ_I, unJ_J, unJ_F, unJ_R, unJ_N, unJ_U, pushR_I, pushR_J, pushR_F, pushR_R, pushR_N, pushR_U, rfV_s, rfV_n, Option.bind_some, true_or, or_true, if_true]
      have eb : brkU n z (σ.2.2.1 3) = 0 := by unfold brkU; rw [if_neg hp]
      rw [eb]
  rw [run]
  simp only [s932_41, s932_42, s932_45, s932_48, s932_49, s932_50, unJ_I, unJ_J, unJ_F, unJ_R, unJ_N, unJ_U, pushR_I, pushR_J, pushR_F, pushR_R, pushR_N, pushR_U, rfV_s, rfV_n, Option.bind_some, true_or, or_true, if_true]
  refine (congrArg (fun o => Option.bind o _) a1).trans ?_
  simp only [s932_53, s932_54, s932_57, s932_60, s932_61, s932_62, s932_64, s932_65, unJ_I, unJ_J, unJ_F, unJ_R, unJ_N, unJ_U, pushR_I, pushR_J, pushR_F, pushR_R, pushR_N, pushR_U, rfV_s, rfV_n, Option.bind_some, true_or, or_true, if_true, es ()]
  refine (congrArg (fun o => Option.bind o _) a2).trans ?_
  simp only [s932_68, s932_69, s932_72, s932_75, s932_77, s932_79, unJ_I, unJ_J, unJ_F, unJ_R, unJ_N, unJ_U, pushR_I, pushR_J, pushR_F, pushR_R, pushR_N, pushR_U, rfV_s, rfV_n, Option.bind_some, true_or, or_true, if_true]
  refine (congrArg (fun o => Option.bind o _) a3).trans ?_
  simp only [s932_82, s932_83, s932_86, s932_89, s932_91, s932_92, s932_94, s932_95, s932_96, s932_97, unJ_I, unJ_J, unJ_F, unJ_R, unJ_N, unJ_U, pushR_I, pushR_J, pushR_F, pushR_R, pushR_N, pushR_U, rfV_s, rfV_n, Option.bind_some, true_or, or_true, if_true, em ()]
  rw [if_neg (by omega), et ()]
  refine (congrArg (fun o => Option.bind o _) a4).trans ?_
  simp only [s932_100, s932_101, s932_103, s932_104, unJ_I, unJ_J, unJ_F, unJ_R, unJ_N, unJ_U, pushR_I, pushR_J, pushR_F, pushR_R, pushR_N, pushR_U, rfV_s, rfV_n, Option.bind_some, true_or, or_true, if_true, es ()]
theorem v_bottle (h : Cls I A L P X) (ho : okX T X) (l n z : Int) : Doe 918 [vR 9 0, vI l, vI n, vI z, vU] q I A L P F G D (vI (aBottle X l n z).1) (aBottle X l n z).2 := by
  obtain ⟨S, ph, a, b, c, d⟩ := id h
  have a0 := a 0 (by omega)
  have st3 := ho.2.1.2.2.2.1.2.2.2
  unfold aBottle
  by_cases h1 : 0 ≤ l ∧ (1 ≤ n ∧ n ≤ 10000) ∧ 10 ≤ z ∧ z ≤ 300
  · rw [if_pos h1]
    by_cases hf : fnd X.1.1 l < X.1.1.length
    · rw [if_pos hf]
      have w0 := b.2.2.2.1 _ hf
      have sl := (a0.1 (fnd X.1.1 l) (by have := b.2.1; omega)).2
      obtain ⟨o1, o2, o3, o4⟩ := ho.lot hf
      have v45 : I 45 (S 0 (fnd X.1.1 l)) = gsum (lt X.1.1 (fnd X.1.1 l)).2 := w0.2.2.2.2.2.2.2.2.1
      have br := c_brokenBy q (c := 0) (l := S 0 (fnd X.1.1 l)) (L := L) (P := P) (F := F) (G := G) (D := D) (by omega) b.2.2.2.2.1 ho.ru (by omega) w0 o4 o1.gs.nn ⟨o2, o3⟩
      have run : rs 918 0 [vR 9 0, vI l, vI n, vI z, vU] [] (SX q, (I, A, L, P, F, G), D) = if gsum (lt X.1.1 (fnd X.1.1 l)).2 < n then some (vI (-2), (SX q, (I, A, L, P, F, G), D)) else if brm (lt X.1.1 (fnd X.1.1 l)) X.1.2.1 X.1.2.1.length = 0 then rs 918 74 [vR 9 0, vI l, vI n, vI z, vR 2 (S 0 (fnd X.1.1 l))] [] (SX q, (I, A, L, P, F, G), D) else some (vI (-2), (SX q, (I, A, L, P, F, G), D)) := by
        simp only [s918_0, s918_1, s918_4, s918_5, s918_6, s918_9, s918_12, s918_15, s918_16, s918_18, s918_21, s918_24, s918_27, s918_28, s918_29, s918_30, s918_33, s918_34, unJ_I, unJ_J, unJ_F, unJ_R, unJ_N, unJ_U, pushR_I, pushR_J, pushR_F, pushR_R, pushR_N, pushR_U, rfV_s, rfV_n, Option.bind_some, true_or, or_true, if_true, c_within, b01_0]
        rw [if_neg (by omega), if_neg (by omega), if_neg (by omega)]
        simp only [s918_34, s918_37, s918_37n, s918_39, s918_39n, s918_41n, s918_41, s918_44, s918_46, s918_47, s918_47n, s918_49, s918_52, s918_53, s918_56, s918_57, s918_60, s918_63, s918_63n, s918_65, s918_68, s918_71, s918_73, unJ_I, unJ_J, unJ_F, unJ_R, unJ_N, unJ_U, pushR_I, pushR_J, pushR_F, pushR_R, pushR_N, pushR_U, rfV_s, rfV_n, Option.bind_some, true_or, or_true, if_true, find_y q b a0 hf, v45, br]
      by_cases h2 : n ≤ gsum (lt X.1.1 (fnd X.1.1 l)).2 ∧ brm (lt X.1.1 (fnd X.1.1 l)) X.1.2.1 X.1.2.1.length = 0
      · rw [if_pos h2]
        rw [if_neg (by omega), if_pos h2.2] at run
        obtain ⟨I1, A1, P1, e1, k1, k2, k3⟩ := v_record q (F := F) (G := G) (D := D) h ho
        have C1 := k2 _ a0 b
        have w1 := C1.2.2.2.1 _ hf
        obtain ⟨I2, A2, e2, w2, f2⟩ := c_take q (x := 0) (l := S 0 (fnd X.1.1 l)) (I := I1) (A := A1) (L := L) (P := P1) (F := F) (G := G) (D := D) (by omega) (by omega) w1 o4 o1.gs.nn ⟨o2, o3⟩ (n := n) (by omega)
        have e := lr_c (c := 0) (l := S 0 (fnd X.1.1 l)) (by omega) (by omega) (by omega)
        have C2 := C1.setLot a0 (by omega) hf w2 f2.toB
        obtain ⟨L3, sl3, e3, z0, zl, C3⟩ := c_dropEmpty q (c := 0) (I := I2) (A := A2) (L := L) (P := P1) (F := F) (G := G) (D := D) (by omega) a0 C2
        have hs3 : ∀ i, i < 12 → 12 * 0 ≤ sl3 i ∧ sl3 i < 12 * 0 + 12 := fun i hi => (z0.1 i hi).2
        have z5 : LoS L3 5 (S 5) := ⟨fun i hi => by rw [zl 5 i (by omega)]; exact (a 5 (by omega)).1 i hi, (a 5 (by omega)).2⟩
        obtain ⟨A4, e4, C4, f4⟩ := c_fill q (L := L3) (P := P1) (F := F) (G := G) (D := D) C3 hs3 st3 h1.2.1 h1.2.2
        refine ⟨_, _, _, _, F, G, ?_, k1.upd (sl0 := sl3) (sl5 := S 5) (I' := up2 I2 4 0 ((dropL (X.1.1.set (fnd X.1.1 l) ((lt X.1.1 (fnd X.1.1 l)).1, takeG (lt X.1.1 (fnd X.1.1 l)).2 n))).length : Int)) (A' := A4) (L' := L3) (fun f x z => (up2_ne (by omega)).trans (f2.1 f x (by omega))) (fun r j z => (f4 r j (by omega)).trans (f2.2.2 r j (by omega) (by omega) (by omega))) (fun d i _ _ => zl d i (by omega)) z0 z5 C4⟩
        rw [run]
        simp only [s918_74, s918_75, s918_78, s918_79, s918_82, s918_85, s918_85n, s918_87, s918_88, s918_89, s918_92, s918_95, s918_96, s918_99, s918_102, s918_103, s918_104, s918_105, s918_108, unJ_I, unJ_J, unJ_F, unJ_R, unJ_N, unJ_U, pushR_I, pushR_J, pushR_F, pushR_R, pushR_N, pushR_U, rfV_s, rfV_n, Option.bind_some, true_or, or_true, if_true, e1, e2, e3, e4]
      · rw [if_neg h2]
        refine ⟨_, _, _, _, F, G, ?_, h⟩
        rw [run]
        repeat' split
        all_goals first | rfl | (exfalso; omega)
    · rw [if_neg hf]
      refine ⟨_, _, _, _, F, G, ?_, h⟩
      simp only [s918_0, s918_1, s918_4, s918_5, s918_6, s918_9, s918_12, s918_15, s918_16, s918_18, s918_21, s918_24, s918_27, s918_28, s918_29, s918_30, s918_33, s918_34, unJ_I, unJ_J, unJ_F, unJ_R, unJ_N, unJ_U, pushR_I, pushR_J, pushR_F, pushR_R, pushR_N, pushR_U, rfV_s, rfV_n, Option.bind_some, true_or, or_true, if_true, c_within, b01_0]
      rw [if_neg (by omega), if_neg (by omega), if_neg (by omega)]
      simp only [s918_34, s918_37n, s918_39n, s918_41n, s918_44, s918_46, unJ_I, unJ_J, unJ_F, unJ_R, unJ_N, unJ_U, pushR_I, pushR_J, pushR_F, pushR_R, pushR_N, pushR_U, rfV_s, rfV_n, Option.bind_some, true_or, or_true, if_true, find_n q b a0 hf]
  · rw [if_neg h1]
    refine ⟨_, _, _, _, F, G, ?_, h⟩
    simp only [s918_0, s918_1, s918_4, s918_5, s918_6, s918_9, s918_12, s918_15, s918_16, s918_18, s918_21, s918_24, s918_27, s918_28, unJ_I, unJ_J, unJ_F, unJ_R, unJ_N, unJ_U, pushR_I, pushR_J, pushR_F, pushR_R, pushR_N, pushR_U, rfV_s, rfV_n, Option.bind_some, true_or, or_true, if_true, c_within, b01_0]
    repeat' split
    all_goals first | rfl | (exfalso; omega)
end
