/-! THE TEXT IS CHECKED -/
abbrev rngU (k s b : Int) : Prop := if tpOf k ≤ 2 then (tpI 0 (tpOf k) ≤ s ∧ s ≤ tpI 1 (tpOf k)) ∧ 0 ≤ b ∧ b ≤ 100 else tpI 0 (tpOf k) ≤ b ∧ b ≤ tpI 1 (tpOf k)
def menU (fs : List Ru) (r : Ru) : Int := if ¬ rngU r.1 r.2.1 r.2.2 then 3 else if r ∈ fs then 5 else if fs.length < 8 then 0 else 6
/-- rules found, how many read, place, reason -/
def chkU (tx : List Int) : Nat → Int → List Ru → Int → Int → List Ru × Int × Int × Int
  | 0, _, fs, n, pl => (fs, n, pl, 0)
  | d + 1, i, fs, n, pl => if (tx.length : Int) ≤ i then (fs, n, pl, 0)
    else if (frmU tx i).1 ≠ 0 then (fs, n, i, (frmU tx i).1)
    else if menU fs (frmU tx i).2.1 ≠ 0 then (fs, n, i, menU fs (frmU tx i).2.1)
    else chkU tx d (frmU tx i).2.2 (fs ++ [(frmU tx i).2.1]) (n + 1) i
/-- only the script has changed -/
def FrS (I A I' A' : M2) : Prop := (∀ f y, ¬ (123 ≤ f ∧ f ≤ 130) → ¬ (f = 103 ∧ y = 6) → I' f y = I f y) ∧ ∀ r j, ¬ (123 ≤ r ∧ r ≤ 125) → A' r j = A r j
theorem FrS.tr {I A I1 A1 I2 A2 : M2} (h : FrS I A I1 A1) (k : FrS I1 A1 I2 A2) : FrS I A I2 A2 :=
  ⟨fun f x a b => (k.1 f x a b).trans (h.1 f x a b), fun r j a => (k.2 r j a).trans (h.2 r j a)⟩
theorem FrN.toS {I A I' : M2} (h : FrN 126 130 I I') : FrS I A I' A := ⟨fun f y a _ => h f y (by omega), fun _ _ _ => rfl⟩
theorem FrS.up {I A : M2} (f : Nat) (v : Int) (h : 123 ≤ f ∧ f ≤ 130) : FrS I A (up2 I f 0 v) A := ⟨fun g y a _ => up2_ne (by omega), fun _ _ _ => rfl⟩
theorem rr6 : rr 6 = 123 := rfl
theorem FrR.toS {I A I' A' : M2} (h : FrR 6 I A I' A') : FrS I A I' A' := ⟨fun f y _ b => h.1 f y b, fun r j z => by have e := rr6; exact h.2 r j (by omega) (by omega) (by omega)⟩
theorem RulesAt.keep {I A I' A' : M2} {c : Nat} {ru : List Ru} (h : RulesAt I A c ru) (k : I' 103 c = I 103 c) (k2 : ∀ a, a < 3 → ∀ j, A' (rr c + a) j = A (rr c + a) j) : RulesAt I' A' c ru :=
  ⟨k.trans h.1, h.2.1, fun j hj => ⟨(k2 0 (by omega) j).trans (h.2.2 j hj).1, (k2 1 (by omega) j).trans (h.2.2 j hj).2.1, (k2 2 (by omega) j).trans (h.2.2 j hj).2.2⟩⟩
section
variable (q : Nat × (Nat → Int)) {I A : M2} {L P : Nat → Nat → Option Nat} {F G : Nat → Nat → UInt32} {D : MD} {tx : List Int}
/-- Script.numbersAreInRange -/
theorem c_range {k s b : Int} (h1 : I 128 0 = k) (h2 : I 129 0 = s) (h3 : I 130 0 = b) (hk : 0 ≤ k ∧ k ≤ 8) : rs 606 0 [vR 6 0, vU] [] (SX q, (I, A, L, P, F, G), D) = some (vI (b01 (rngU k s b)), (SX q, (I, A, L, P, F, G), D)) := by
  simp only [s606_0, s606_1, s606_4, s606_7, s606_7n, s606_8, s606_8n, s606_9, unJ_I, unJ_J, unJ_F, unJ_R, unJ_N, unJ_U, pushR_I, pushR_J, pushR_F, pushR_R, pushR_N, pushR_U, rfV_s, rfV_n, Option.bind_some, true_or, or_true, if_true, h1, c_ofKind _ k hk.1 hk.2, c_isOf]
  by_cases ht : tpOf k ≤ 2
  · rw [b01_t ht]
    simp only [s606_12, s606_15, s606_15n, s606_16, s606_17, s606_20, unJ_I, unJ_J, unJ_F, unJ_R, unJ_N, unJ_U, pushR_I, pushR_J, pushR_F, pushR_R, pushR_N, pushR_U, rfV_s, rfV_n, Option.bind_some, true_or, or_true, if_true, h2, c_holds]
    rw [if_neg (by omega)]
    by_cases ha : tpI 0 (tpOf k) ≤ s ∧ s ≤ tpI 1 (tpOf k)
    · simp only [b01_t ha, s606_23, s606_26, s606_27, s606_30, s606_31, s606_33, unJ_I, unJ_J, unJ_F, unJ_R, unJ_N, unJ_U, pushR_I, pushR_J, pushR_F, pushR_R, pushR_N, pushR_U, rfV_s, rfV_n, Option.bind_some, true_or, or_true, if_true, h3, c_within]
      rw [if_neg (by omega)]
      by_cases hb : 0 ≤ b ∧ b ≤ 100
      · have e : rngU k s b := by unfold rngU; rw [if_pos ht]; exact ⟨ha, hb⟩
        simp only [b01_t hb, b01_t e, s606_36, s606_39, s606_40, s606_43, s606_44, s606_47, s606_47n, s606_48, s606_49, s606_52, s606_55, unJ_I, unJ_J, unJ_F, unJ_R, unJ_N, unJ_U, pushR_I, pushR_J, pushR_F, pushR_R, pushR_N, pushR_U, rfV_s, rfV_n, Option.bind_some, true_or, or_true, if_true]
        rw [if_neg (by omega)]
      · have e : ¬ rngU k s b := by unfold rngU; rw [if_pos ht]; exact fun z => hb z.2
        simp only [b01_f hb, b01_f e, s606_36, s606_39, s606_40, s606_43, s606_44, s606_47, s606_47n, s606_48, s606_49, s606_52, s606_55, unJ_I, unJ_J, unJ_F, unJ_R, unJ_N, unJ_U, pushR_I, pushR_J, pushR_F, pushR_R, pushR_N, pushR_U, rfV_s, rfV_n, Option.bind_some, true_or, or_true, if_true]
    · have e : ¬ rngU k s b := by unfold rngU; rw [if_pos ht]; exact fun z => ha z.1
      simp only [b01_f ha, b01_f e, s606_23, s606_43, s606_44, s606_47, s606_47n, s606_48, s606_49, s606_52, s606_55, unJ_I, unJ_J, unJ_F, unJ_R, unJ_N, unJ_U, pushR_I, pushR_J, pushR_F, pushR_R, pushR_N, pushR_U, rfV_s, rfV_n, Option.bind_some, true_or, or_true, if_true]
  · rw [b01_f ht]
    simp only [s606_12, s606_47, s606_47n, s606_48, s606_49, s606_52, s606_55, unJ_I, unJ_J, unJ_F, unJ_R, unJ_N, unJ_U, pushR_I, pushR_J, pushR_F, pushR_R, pushR_N, pushR_U, rfV_s, rfV_n, Option.bind_some, true_or, or_true, if_true, h3, c_holds, b01_o]
    have e : rngU k s b ↔ tpI 0 (tpOf k) ≤ b ∧ b ≤ tpI 1 (tpOf k) := by unfold rngU; rw [if_neg ht]
    by_cases hb : tpI 0 (tpOf k) ≤ b ∧ b ≤ tpI 1 (tpOf k)
    · rw [b01_t hb, b01_t (e.mpr hb)]
    · rw [b01_f hb, b01_f (fun z => hb (e.mp z))]
/-- Script.reasonOfMeaning -/
theorem c_mean {fs : List Ru} {r : Ru} (h : RulesAt I A 6 fs) (h1 : I 128 0 = r.1) (h2 : I 129 0 = r.2.1) (h3 : I 130 0 = r.2.2) (hk : 0 ≤ r.1 ∧ r.1 ≤ 8) : rs 605 0 [vR 6 0] [] (SX q, (I, A, L, P, F, G), D) = some (vI (menU fs r), (SX q, (I, A, L, P, F, G), D)) := by
  obtain ⟨k, s, b⟩ := r
  unfold menU
  simp only [s605_0, s605_1, unJ_I, unJ_J, unJ_F, unJ_R, unJ_N, unJ_U, pushR_I, pushR_J, pushR_F, pushR_R, pushR_N, pushR_U, rfV_s, rfV_n, Option.bind_some, true_or, or_true, if_true, c_range q h1 h2 h3 hk]
  by_cases ha : rngU k s b
  · rw [if_neg (fun z => z ha)]
    simp only [b01_t ha, s605_4, s605_7, s605_8, s605_9, s605_10, s605_13, s605_14, s605_17, s605_18, s605_21, s605_22, s605_25, unJ_I, unJ_J, unJ_F, unJ_R, unJ_N, unJ_U, pushR_I, pushR_J, pushR_F, pushR_R, pushR_N, pushR_U, rfV_s, rfV_n, Option.bind_some, true_or, or_true, if_true, h1, h2, h3, c_has q (show 6 < 7 by omega) h]
    rw [if_neg (by omega)]
    by_cases hb : (k, s, b) ∈ fs
    · rw [if_pos hb]
      simp only [b01_t hb, s605_28, s605_31, s605_32, unJ_I, unJ_J, unJ_F, unJ_R, unJ_N, unJ_U, pushR_I, pushR_J, pushR_F, pushR_R, pushR_N, pushR_U, rfV_s, rfV_n, Option.bind_some, true_or, or_true, if_true]
      rw [if_neg (by omega)]
    · rw [if_neg hb]
      simp only [b01_f hb, s605_28, s605_31, s605_32, s605_33, s605_34, s605_37, s605_40, s605_42, s605_45, s605_47, s605_50, s605_51, unJ_I, unJ_J, unJ_F, unJ_R, unJ_N, unJ_U, pushR_I, pushR_J, pushR_F, pushR_R, pushR_N, pushR_U, rfV_s, rfV_n, Option.bind_some, true_or, or_true, if_true, h.1]
      by_cases hl : fs.length < 8
      · rw [if_pos (by omega), if_pos hl]
      · rw [if_neg (by omega), if_neg hl]
  · rw [if_pos ha]
    simp only [b01_f ha, s605_4, s605_7, s605_8, unJ_I, unJ_J, unJ_F, unJ_R, unJ_N, unJ_U, pushR_I, pushR_J, pushR_F, pushR_R, pushR_N, pushR_U, rfV_s, rfV_n, Option.bind_some, true_or, or_true, if_true]
theorem chk_out {t : Nat} {I A : M2} (h : I 125 0 ≠ 0) : rs 603 30 [vR 6 0, vU, vI (t : Int)] [] (SX q, (I, A, L, P, F, G), D) = some (vU, (SX q, (I, A, L, P, F, G), D)) := by
  rw [s603_30]
  simp only [s603_31, s603_33, s603_36, s603_37, s603_40, s603_41, s603_44, s603_47, s603_48, s603_51, s603_127, unJ_I, unJ_J, unJ_F, unJ_R, unJ_N, unJ_U, pushR_I, pushR_J, pushR_F, pushR_R, pushR_N, pushR_U, rfV_s, rfV_n, Option.bind_some, true_or, or_true, if_true]
  rw [if_neg h]
  split
  · rfl
  · split <;> rfl
theorem c_chk1 : ∀ (d t : Nat) (I A : M2) (i : Int) (fs : List Ru) (n pl : Int), t + d = 100 → TxAt I A tx → RulesAt I A 6 fs → 0 ≤ i → I 126 0 = i → I 123 0 = n → I 124 0 = pl → I 125 0 = 0 → 0 ≤ n → n ≤ t →
    ∃ I' A', rs 603 30 [vR 6 0, vU, vI (t : Int)] [] (SX q, (I, A, L, P, F, G), D) = some (vU, (SX q, (I', A', L, P, F, G), D)) ∧ I' 123 0 = (chkU tx d i fs n pl).2.1 ∧ I' 124 0 = (chkU tx d i fs n pl).2.2.1 ∧ I' 125 0 = (chkU tx d i fs n pl).2.2.2 ∧ RulesAt I' A' 6 (chkU tx d i fs n pl).1 ∧ FrS I A I' A' := by
  intro d
  induction d with
  | zero =>
    intro t I A i fs n pl ht hT hR hi h1 h2 h3 h4 h5 h6
    refine ⟨I, A, ?_, h2, h3, h4, hR, ⟨fun _ _ _ _ => rfl, fun _ _ _ => rfl⟩⟩
    rw [s603_30]
    simp only [s603_31, s603_33, s603_127, unJ_I, unJ_J, unJ_F, unJ_R, unJ_N, unJ_U, pushR_I, pushR_J, pushR_F, pushR_R, pushR_N, pushR_U, rfV_s, rfV_n, Option.bind_some, true_or, or_true, if_true]
    rw [if_pos (by omega)]
  | succ d ih =>
    intro t I A i fs n pl ht hT hR hi h1 h2 h3 h4 h5 h6
    have et : Unit → w32 ((t : Int) + 1) = ((t + 1 : Nat) : Int) := fun _ => by rw [w32_id (by omega) (by omega)]; omega
    rw [s603_30]
    simp only [s603_31, s603_33, s603_36, s603_37, s603_40, s603_41, s603_44, s603_47, s603_48, s603_51, s603_127, unJ_I, unJ_J, unJ_F, unJ_R, unJ_N, unJ_U, pushR_I, pushR_J, pushR_F, pushR_R, pushR_N, pushR_U, rfV_s, rfV_n, Option.bind_some, true_or, or_true, if_true, h1, hT.1, h4]
    rw [if_neg (show ¬ (100 : Int) ≤ (t : Int) by omega)]
    unfold chkU
    by_cases hl : (tx.length : Int) ≤ i
    · rw [if_pos hl, if_pos hl]
      exact ⟨I, A, rfl, h2, h3, h4, hR, ⟨fun _ _ _ _ => rfl, fun _ _ _ => rfl⟩⟩
    · rw [if_neg hl, if_neg hl]
      have h100 := hT.2.1
      have g1 : FrS I A (up2 I 124 0 i) A := FrS.up _ _ (by omega)
      obtain ⟨I2, e2, a2, f2⟩ := c_form q (I := up2 I 124 0 i) (A := A) (L := L) (P := P) (F := F) (G := G) (D := D) (hT.keep (fun f y e => up2_ne (by omega)) (fun _ => rfl)) (i := i) (by omega) ((up2_ne (by omega)).trans h1)
      simp only [s603_54, s603_55, s603_56, s603_59, s603_62, s603_63, s603_64, unJ_I, unJ_J, unJ_F, unJ_R, unJ_N, unJ_U, pushR_I, pushR_J, pushR_F, pushR_R, pushR_N, pushR_U, rfV_s, rfV_n, Option.bind_some, true_or, or_true, if_true, h1, e2]
      have g2 : FrS I A (up2 I2 125 0 (frmU tx i).1) A := (g1.tr f2.toS).tr (FrS.up _ _ (by omega))
      have u5 : up2 I2 125 0 (frmU tx i).1 125 0 = (frmU tx i).1 := up2_eq
      have u4 : up2 I2 125 0 (frmU tx i).1 124 0 = i := (up2_ne (by omega)).trans ((f2 _ _ (by omega)).trans up2_eq)
      have u3 : up2 I2 125 0 (frmU tx i).1 123 0 = n := (up2_ne (by omega)).trans ((f2 _ _ (by omega)).trans ((up2_ne (by omega)).trans h2))
      have R2 : RulesAt (up2 I2 125 0 (frmU tx i).1) A 6 fs := hR.keep ((up2_ne (by omega)).trans ((f2 _ _ (by omega)).trans (up2_ne (by omega)))) (fun _ _ _ => rfl)
      simp only [s603_67, s603_70, s603_71, s603_74, unJ_I, unJ_J, unJ_F, unJ_R, unJ_N, unJ_U, pushR_I, pushR_J, pushR_F, pushR_R, pushR_N, pushR_U, rfV_s, rfV_n, Option.bind_some, true_or, or_true, if_true, u5]
      by_cases hr : (frmU tx i).1 = 0
      · rw [if_pos hr, if_neg (fun z => z hr)]
        obtain ⟨b1, b2, b3, b4⟩ := a2 hr
        have fc := frmU_c hr
        have em := c_mean q (I := up2 I2 125 0 (frmU tx i).1) (A := A) (L := L) (P := P) (F := F) (G := G) (D := D) R2 (r := (frmU tx i).2.1) ((up2_ne (by omega)).trans b1) ((up2_ne (by omega)).trans b2) ((up2_ne (by omega)).trans b3) ⟨fc.2.2.1, fc.2.2.2⟩
        simp only [s603_77, s603_78, s603_79, unJ_I, unJ_J, unJ_F, unJ_R, unJ_N, unJ_U, pushR_I, pushR_J, pushR_F, pushR_R, pushR_N, pushR_U, rfV_s, rfV_n, Option.bind_some, true_or, or_true, if_true, em]
        generalize hI3 : up2 (up2 I2 125 0 (frmU tx i).1) 125 0 (menU fs (frmU tx i).2.1) = I3
        have v5 : I3 125 0 = menU fs (frmU tx i).2.1 := by subst hI3; exact up2_eq
        have vo : ∀ f y, f ≠ 125 → I3 f y = I2 f y := fun f y z => by subst hI3; exact (up2_ne (by omega)).trans (up2_ne (by omega))
        have g3 : FrS I A I3 A := by subst hI3; exact g2.tr (FrS.up _ _ (by omega))
        have v4 : I3 124 0 = i := (vo _ _ (by omega)).trans ((f2 _ _ (by omega)).trans up2_eq)
        have v3 : I3 123 0 = n := (vo _ _ (by omega)).trans ((f2 _ _ (by omega)).trans ((up2_ne (by omega)).trans h2))
        have R3 : RulesAt I3 A 6 fs := R2.keep ((vo _ _ (by omega)).trans (up2_ne (by omega)).symm) (fun _ _ _ => rfl)
        simp only [s603_82, s603_85, s603_86, s603_89, unJ_I, unJ_J, unJ_F, unJ_R, unJ_N, unJ_U, pushR_I, pushR_J, pushR_F, pushR_R, pushR_N, pushR_U, rfV_s, rfV_n, Option.bind_some, true_or, or_true, if_true, hI3, v5]
        by_cases hm : menU fs (frmU tx i).2.1 = 0
        · rw [if_pos hm, if_neg (fun z => z hm)]
          have l8 : fs.length < 8 := by
            unfold menU at hm
            by_cases x1 : ¬ rngU (frmU tx i).2.1.1 (frmU tx i).2.1.2.1 (frmU tx i).2.1.2.2
            · rw [if_pos x1] at hm; exact absurd hm (by decide)
            · rw [if_neg x1] at hm
              by_cases x2 : (frmU tx i).2.1 ∈ fs
              · rw [if_pos x2] at hm; exact absurd hm (by decide)
              · rw [if_neg x2] at hm
                by_cases x3 : fs.length < 8
                · exact x3
                · rw [if_neg x3] at hm; exact absurd hm (by decide)
          obtain ⟨I4, A4, e4, k4, f4⟩ := c_append q (c := 6) (I := I3) (A := A) (L := L) (P := P) (F := F) (G := G) (D := D) (by omega) R3 l8 (frmU tx i).2.1.1 (frmU tx i).2.1.2.1 (frmU tx i).2.1.2.2
          have w8 : I3 128 0 = (frmU tx i).2.1.1 := (vo _ _ (by omega)).trans b1
          have w9 : I3 129 0 = (frmU tx i).2.1.2.1 := (vo _ _ (by omega)).trans b2
          have w10 : I3 130 0 = (frmU tx i).2.1.2.2 := (vo _ _ (by omega)).trans b3
          have w3 : I4 123 0 = n := (f4.1 _ _ (by omega)).trans v3
          have en : Unit → w32 (n + 1) = n + 1 := fun _ => w32_id (by omega) (by omega)
          simp only [s603_92, s603_93, s603_96, s603_97, s603_100, s603_101, s603_104, s603_105, s603_108, s603_111, s603_112, s603_112r, s603_113, s603_116, s603_117, s603_118, s603_121, s603_124, unJ_I, unJ_J, unJ_F, unJ_R, unJ_N, unJ_U, pushR_I, pushR_J, pushR_F, pushR_R, pushR_N, pushR_U, rfV_s, rfV_n, Option.bind_some, true_or, or_true, if_true, w8, w9, w10, e4, w3, en (), et ()]
          have g4 : FrS I A (up2 I4 123 0 (n + 1)) A4 := (g3.tr f4.toS).tr (FrS.up _ _ (by omega))
          have rr := rr6
          obtain ⟨I5, A5, e5, c1, c2, c3, c4, c5⟩ := ih (t + 1) (up2 I4 123 0 (n + 1)) A4 (frmU tx i).2.2 (fs ++ [(frmU tx i).2.1]) (n + 1) i (by omega) (hT.keep (fun f y e => g4.1 f y (by omega) (by omega)) (fun j => g4.2 _ j (by omega))) (k4.keep (up2_ne (by omega)) (fun _ _ _ => rfl)) (by omega) ((up2_ne (by omega)).trans ((f4.1 _ _ (by omega)).trans ((vo _ _ (by omega)).trans b4))) up2_eq ((up2_ne (by omega)).trans ((f4.1 _ _ (by omega)).trans v4)) ((up2_ne (by omega)).trans ((f4.1 _ _ (by omega)).trans (v5.trans hm))) (by omega) (by omega)
          exact ⟨I5, A5, e5, c1, c2, c3, c4, g4.tr c5⟩
        · rw [if_neg hm, if_pos hm]
          simp only [s603_121, s603_124, unJ_I, unJ_J, unJ_F, unJ_R, unJ_N, unJ_U, pushR_I, pushR_J, pushR_F, pushR_R, pushR_N, pushR_U, rfV_s, rfV_n, Option.bind_some, true_or, or_true, if_true, et ()]
          exact ⟨I3, A, chk_out q (by rw [v5]; exact hm), v3, v4, v5, R3, g3⟩
      · rw [if_neg hr, if_pos hr]
        simp only [s603_85, s603_86, s603_89, unJ_I, unJ_J, unJ_F, unJ_R, unJ_N, unJ_U, pushR_I, pushR_J, pushR_F, pushR_R, pushR_N, pushR_U, rfV_s, rfV_n, Option.bind_some, true_or, or_true, if_true, u5]
        rw [if_neg hr]
        simp only [s603_121, s603_124, unJ_I, unJ_J, unJ_F, unJ_R, unJ_N, unJ_U, pushR_I, pushR_J, pushR_F, pushR_R, pushR_N, pushR_U, rfV_s, rfV_n, Option.bind_some, true_or, or_true, if_true, et ()]
        exact ⟨_, A, chk_out q (by rw [u5]; exact hr), u3, u4, u5, R2, g2⟩
/-- Script.check -/
theorem c_check (hT : TxAt I A tx) {fs : List Ru} (hR : RulesAt I A 0 fs) : ∃ I' A', rs 603 0 [vR 6 0, vR 5 0, vU] [] (SX q, (I, A, L, P, F, G), D) = some (vU, (SX q, (I', A', L, P, F, G), D)) ∧ I' 123 0 = (chkU tx 100 0 fs 0 0).2.1 ∧ I' 124 0 = (chkU tx 100 0 fs 0 0).2.2.1 ∧ I' 125 0 = (chkU tx 100 0 fs 0 0).2.2.2 ∧ RulesAt I' A' 6 (chkU tx 100 0 fs 0 0).1 ∧ FrS I A I' A' := by
  obtain ⟨I1, A1, e1, k1, f1⟩ := c_rcopy q (c := 6) (s := 0) (I := I) (A := A) (L := L) (P := P) (F := F) (G := G) (D := D) (by omega) (by omega) (by omega) hR
  have rr := rr6
  have g1 : FrS I A (up2 (up2 (up2 (up2 I1 123 0 0) 124 0 0) 125 0 0) 126 0 0) A1 := (((f1.toS.tr (FrS.up _ _ (by omega))).tr (FrS.up _ _ (by omega))).tr (FrS.up _ _ (by omega))).tr (FrS.up _ _ (by omega))
  obtain ⟨I5, A5, e5, c1, c2, c3, c4, c5⟩ := c_chk1 q (tx := tx) (L := L) (P := P) (F := F) (G := G) (D := D) 100 0 (up2 (up2 (up2 (up2 I1 123 0 0) 124 0 0) 125 0 0) 126 0 0) A1 0 fs 0 0 (by omega) (hT.keep (fun f y e => g1.1 f y (by omega) (by omega)) (fun j => g1.2 _ j (by omega))) (k1.keep ((up2_ne (by omega)).trans ((up2_ne (by omega)).trans ((up2_ne (by omega)).trans (up2_ne (by omega))))) (fun _ _ _ => rfl)) (by omega) up2_eq ((up2_ne (by omega)).trans ((up2_ne (by omega)).trans ((up2_ne (by omega)).trans up2_eq))) ((up2_ne (by omega)).trans ((up2_ne (by omega)).trans up2_eq)) ((up2_ne (by omega)).trans up2_eq) (by omega) (by omega)
  refine ⟨I5, A5, ?_, c1, c2, c3, c4, g1.tr c5⟩
  simp only [s603_0, s603_1, s603_4, s603_5, s603_8, s603_9, s603_10, s603_13, s603_14, s603_15, s603_18, s603_19, s603_20, s603_23, s603_24, s603_25, s603_28, s603_29, unJ_I, unJ_J, unJ_F, unJ_R, unJ_N, unJ_U, pushR_I, pushR_J, pushR_F, pushR_R, pushR_N, pushR_U, rfV_s, rfV_n, Option.bind_some, true_or, or_true, if_true, e1]
  exact e5
end
