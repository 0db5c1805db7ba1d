/-! A MONTH GOES BY -/
def evL (e : Int) (w : Lt) : Int := if w.1 4 = 1 then gsum w.2 * e / 1000 else 0
def monL (e : Int) (w : Lt) : Lt := if 0 < evL e w then (w.1, takeG w.2 (evL e w)) else w
/-- the grains of the lots of cellar c and the rows of the sharing -/
def FrM (x c : Nat) (I A I' A' : M2) : Prop := (∀ f y, ¬ (43 ≤ f ∧ f ≤ 50 ∧ 12 * c ≤ y ∧ y < 12 * c + 12) → I' f y = I f y) ∧ ∀ r j, r ≠ 19 * c + 2 * (c / 5) → r ≠ 19 * c + 2 * (c / 5) + 1 → r ≠ 95 → r ≠ 96 → A' r j = A r j
theorem FrM.rf (x c : Nat) (I A : M2) : FrM x c I A I A := ⟨fun _ _ _ => rfl, fun _ _ _ _ _ _ => rfl⟩
theorem FrM.tr {x c : Nat} {I A I1 A1 I2 A2 : M2} (h : FrM x c I A I1 A1) (k : FrM x c I1 A1 I2 A2) : FrM x c I A I2 A2 :=
  ⟨fun f y z => (k.1 f y z).trans (h.1 f y z), fun r j a b d e => (k.2 r j a b d e).trans (h.2 r j a b d e)⟩
/-- the lots of a list are in order -/
def okLs (ls : List Lt) : Prop := ∀ i, i < ls.length → okL (lt ls i) ∧ 0 < gsum (lt ls i).2
theorem ev_r {e : Int} {w : Lt} (he : 0 ≤ e ∧ e ≤ 100) (hw : 0 < gsum w.2 ∧ gsum w.2 ≤ 10000) : 0 ≤ evL e w ∧ evL e w ≤ 1000 ∧ evL e w ≤ gsum w.2 ∧ 0 ≤ gsum w.2 * e ∧ gsum w.2 * e ≤ 1000000 := by
  have h1 : 0 ≤ gsum w.2 * e := Int.mul_nonneg (by omega) he.1
  have h2 : gsum w.2 * e ≤ gsum w.2 * 100 := Int.mul_le_mul_of_nonneg_left he.2 (by omega)
  unfold evL
  split <;> omega
section
variable (q : Nat × (Nat → Int)) {I A : M2} {L P : Nat → Nat → Option Nat} {F G : Nat → Nat → UInt32} {D : MD} {l c x : Nat} {w : Lt} {σ : St} {sl : Nat → Nat}
theorem c_month (hx : x < 2) (hc : c < 6) (hL : LoS L c sl) (h : CelAt I A c sl σ) (ho : okLs σ.1) (he : 0 ≤ σ.2.2.1 2 ∧ σ.2.2.1 2 ≤ 100) :
    ∃ I' A', rs 7 0 [vR 0 c, vR 7 x, vU, vU, vU, vU] [] (SX q, (I, A, L, P, F, G), D) = some (vI (sumU (fun i => evL (σ.2.2.1 2) (lt σ.1 i)) σ.1.length), (SX q, (I', A', L, P, F, G), D)) ∧ CelAt I' A' c sl (σ.1.map (monL (σ.2.2.1 2)), σ.2) ∧ FrM x c I A I' A' := by
  obtain ⟨h1, h2, h3, h4, h5, h8, h9, ha⟩ := id h
  have rrc := rr_c hc
  have hsl : ∀ i, i < 12 → 12 * c ≤ sl i ∧ sl i < 12 * c + 12 := fun i hi => (hL.1 i hi).2
  have lc := len_c c hc
  obtain ⟨ls', μ', e, I2, A2, rfl, rfl, k1, k2, k3⟩ := rs_loopP (m := 7) (pc := 4) (ls := [vR 0 c, vR 7 x, vI 0, vI 0, vU, vU]) (μ := (SX q, (I, A, L, P, F, G), D)) (fun i ls μ => ∃ I' A', μ = (SX q, (I', A', L, P, F, G), D) ∧ ls = [vR 0 c, vR 7 x, vI (sumU (fun i => evL (σ.2.2.1 2) (lt σ.1 i)) i), vI (i : Int), vU, vU] ∧
      (∀ j, j < σ.1.length → LotAt I' A' (sl j) (if j < i then monL (σ.2.2.1 2) (lt σ.1 j) else lt σ.1 j)) ∧ FrM x c I A I' A' ∧ Asc I' sl σ.1.length) σ.1.length
    ⟨_, _, rfl, rfl, fun j hj => by rw [if_neg (Nat.not_lt_zero _)]; exact h4 j hj, FrM.rf _ _ _ _, ha⟩ (fun i hi ls μ ⟨I', A', e1, e2, k1, k2, k3⟩ => by
      subst e1 e2
      obtain ⟨o1, o2⟩ := ho i hi
      have og : gsum (lt σ.1 i).2 ≤ 10000 := o1.2.2.2.2.2.2.2.2.2.1
      have ol : (lt σ.1 i).2.length ≤ 200 := o1.2.2.2.2.2.2.2.2.2.2
      have ov : ∀ j, j < (lt σ.1 i).2.length → 0 ≤ gv (lt σ.1 i).2 j := fun j hj => by have := (o1.gv hj).2.2; omega
      have er := ev_r (w := lt σ.1 i) he ⟨o2, og⟩
      have sr := sumU_r (f := fun i => evL (σ.2.2.1 2) (lt σ.1 i)) (b := 1000) (n := i) (fun j hj => by
        obtain ⟨p1, p2⟩ := ho j (by omega)
        have := ev_r (w := lt σ.1 j) he ⟨p2, p1.2.2.2.2.2.2.2.2.2.1⟩
        omega)
      have s := hsl i (by omega)
      have kL := k1 i hi
      rw [if_neg (Nat.lt_irrefl _)] at kL
      have k46 : I' 46 (sl i) = (lt σ.1 i).1 4 := kL.2.2.2.2.1
      have k45 : I' 45 (sl i) = gsum (lt σ.1 i).2 := kL.2.2.2.2.2.2.2.2.1
      have n4 : I' 4 c = σ.1.length := (k2.1 _ _ (by omega)).trans h1
      have rse : A' (19 * c + 2 * (c / 5) + 5) 2 = σ.2.2.1 2 := (k2.2 _ _ (by omega) (by omega) (by omega) (by omega)).trans (h8 2 (by omega))
      have cat : rs 3 0 [vR 0 c, vI i] [] (SX q, (I', A', L, P, F, G), D) = some (vR 2 (sl i), (SX q, (I', A', L, P, F, G), D)) := by
        have h3 := (hL.1 i (by omega)).1
        simp only [s3_0, s3_1, s3_4, s3_5, s3_6, s3_9, s3_12, s3_13, s3_14, s3_17, s3_18, s3_21, s3_22, s3_25, s3_26, s3_27, s3_30, s3_31, s3_31n, unJ_I, unJ_J, unJ_F, unJ_R, unJ_N, unJ_U, pushR_I, pushR_J, pushR_F, pushR_R, pushR_N, pushR_U, rfV_s, rfV_n, Option.bind_some, true_or, or_true, if_true, lx15, n4]
        rw [if_neg (by omega), if_neg (by omega), if_pos (by omega), if_neg (by omega), if_pos (by omega), Int.toNat_natCast, h3]
        simp only [s3_27, s3_30, s3_31, s3_31n, unJ_I, unJ_J, unJ_F, unJ_R, unJ_N, unJ_U, pushR_I, pushR_J, pushR_F, pushR_R, pushR_N, pushR_U, rfV_s, rfV_n, Option.bind_some, true_or, or_true, if_true]
      have ei : Unit → w32 ((i : Int) + 1) = ((i + 1 : Nat) : Int) := fun _ => by rw [w32_id (by omega) (by omega)]; omega
      rw [s7_4]
      simp only [s7_5, s7_6, s7_9, s7_12, s7_13, s7_14, s7_17, s7_17n, s7_19, s7_19n, s7_21n, s7_21, s7_24, s7_24n, s7_26, s7_29, s7_30, unJ_I, unJ_J, unJ_F, unJ_R, unJ_N, unJ_U, pushR_I, pushR_J, pushR_F, pushR_R, pushR_N, pushR_U, rfV_s, rfV_n, Option.bind_some, true_or, or_true, if_true, cat, n4, k46]
      rw [if_neg (by omega), sumU]
      by_cases hz : (lt σ.1 i).1 4 = 1
      · have ev : evL (σ.2.2.1 2) (lt σ.1 i) = gsum (lt σ.1 i).2 * σ.2.2.1 2 / 1000 := if_pos hz
        have td : Unit → w32 (Int.tdiv (w32 (gsum (lt σ.1 i).2 * σ.2.2.1 2)) 1000) = evL (σ.2.2.1 2) (lt σ.1 i) := fun _ => by
          rw [w32_id (x := gsum (lt σ.1 i).2 * σ.2.2.1 2) (by omega) (by omega), Int.tdiv_eq_ediv_of_nonneg er.2.2.2.1, ← ev, w32_id (by omega) (by omega)]
        have ws : Unit → w32 (sumU (fun i => evL (σ.2.2.1 2) (lt σ.1 i)) i + evL (σ.2.2.1 2) (lt σ.1 i)) = sumU (fun i => evL (σ.2.2.1 2) (lt σ.1 i)) i + evL (σ.2.2.1 2) (lt σ.1 i) := fun _ => w32_id (by omega) (by omega)
        rw [if_pos hz]
        simp only [s7_33, s7_33n, s7_35, s7_38, s7_39, s7_42, s7_43, s7_46, s7_47, s7_50, s7_51, unJ_I, unJ_J, unJ_F, unJ_R, unJ_N, unJ_U, pushR_I, pushR_J, pushR_F, pushR_R, pushR_N, pushR_U, rfV_s, rfV_n, Option.bind_some, true_or, or_true, if_true, c_get, k45]
        rw [show (2 : Int) = ((2 : Nat) : Int) from rfl, rget_n _ (by omega), rse, if_neg (by omega), td ()]
        simp only [s7_53, s7_55, unJ_I, unJ_J, unJ_F, unJ_R, unJ_N, unJ_U, pushR_I, pushR_J, pushR_F, pushR_R, pushR_N, pushR_U, rfV_s, rfV_n, Option.bind_some, true_or, or_true, if_true]
        by_cases h0 : evL (σ.2.2.1 2) (lt σ.1 i) ≤ 0
        · rw [if_pos h0]
          simp only [s7_66, s7_67, s7_69, s7_70, s7_71, s7_74, unJ_I, unJ_J, unJ_F, unJ_R, unJ_N, unJ_U, pushR_I, pushR_J, pushR_F, pushR_R, pushR_N, pushR_U, rfV_s, rfV_n, Option.bind_some, true_or, or_true, if_true, ws (), ei ()]
          refine ⟨_, _, rfl, _, _, rfl, rfl, fun j hj => ?_, k2, k3⟩
          by_cases e : j = i
          · subst e
            rw [if_pos (by omega)]
            unfold monL
            rw [if_neg (by omega)]
            exact kL
          · have := k1 j hj
            by_cases e2 : j < i
            · rw [if_pos e2] at this; rw [if_pos (by omega)]; exact this
            · rw [if_neg e2] at this; rw [if_neg (by omega)]; exact this
        · rw [if_neg h0]
          obtain ⟨I3, A3, e3, t1, t2⟩ := c_take q (I := I') (A := A') (L := L) (P := P) (F := F) (G := G) (D := D) (x := x) (l := sl i) hx (by omega) kL ol ov ⟨o2, og⟩ (n := evL (σ.2.2.1 2) (lt σ.1 i)) (by omega)
          simp only [s7_58, s7_58n, s7_60, s7_62, s7_63, s7_66, s7_67, s7_69, s7_70, s7_71, s7_74, unJ_I, unJ_J, unJ_F, unJ_R, unJ_N, unJ_U, pushR_I, pushR_J, pushR_F, pushR_R, pushR_N, pushR_U, rfV_s, rfV_n, Option.bind_some, true_or, or_true, if_true, e3, ws (), ei ()]
          refine ⟨_, _, rfl, _, _, rfl, rfl, fun j hj => ?_, k2.tr ⟨fun f y z => t2.1 f y (by omega), fun r j a b d e => ?_⟩, k3.same (fun j hj => ?_)⟩
          by_cases e : j = i
          · subst e
            rw [if_pos (by omega)]
            unfold monL
            rw [if_pos (by omega)]
            exact t1
          · have sj := hsl j (by omega)
            have this := (k1 j hj).frB t2.toB (by omega) (by omega) (fun z => e (hL.2 j i (by omega) (by omega) z)) (k3.apa hj hi e)
            by_cases e2 : j < i
            · rw [if_pos e2] at this; rw [if_pos (by omega)]; exact this
            · rw [if_neg e2] at this; rw [if_neg (by omega)]; exact this
          · have y1 := lr_c hc s.1 s.2
            exact t2.2.2 r j (by omega) d e
          · by_cases e : j = i
            · subst e
              exact ⟨t2.1 _ _ (by omega), t2.2.1⟩
            · have ne : sl j ≠ sl i := fun z => e (hL.2 j i (by omega) (by omega) z)
              exact ⟨t2.1 _ _ (by omega), by rw [t2.1 _ _ (by omega)]; exact Int.le_refl _⟩
      · have ev : evL (σ.2.2.1 2) (lt σ.1 i) = 0 := if_neg hz
        rw [if_neg hz, ev, Int.add_zero]
        simp only [s7_71, s7_74, unJ_I, unJ_J, unJ_F, unJ_R, unJ_N, unJ_U, pushR_I, pushR_J, pushR_F, pushR_R, pushR_N, pushR_U, rfV_s, rfV_n, Option.bind_some, true_or, or_true, if_true, ei ()]
        refine ⟨_, _, rfl, _, _, rfl, rfl, fun j hj => ?_, k2, k3⟩
        by_cases e : j = i
        · subst e
          rw [if_pos (by omega)]
          unfold monL
          rw [if_neg (by omega)]
          exact kL
        · have := k1 j hj
          by_cases e2 : j < i
          · rw [if_pos e2] at this; rw [if_pos (by omega)]; exact this
          · rw [if_neg e2] at this; rw [if_neg (by omega)]; exact this)
  have n4 : I2 4 c = σ.1.length := (k2.1 _ _ (by omega)).trans h1
  refine ⟨I2, A2, ?_, ⟨?_, by show (σ.1.map _).length ≤ 12; rw [List.length_map]; exact h2, (k2.1 _ _ (by omega)).trans h3, fun i hi => ?_, ⟨(k2.1 _ _ (by omega)).trans h5.1, h5.2.1, fun j hj => ?_⟩, fun i hi => (k2.2 _ _ (by omega) (by omega) (by omega) (by omega)).trans (h8 i hi), fun i hi => (k2.2 _ _ (by omega) (by omega) (by omega) (by omega)).trans (h9 i hi), by show Asc _ _ (σ.1.map _).length; rw [List.length_map]; exact k3⟩, k2⟩
  · simp only [s7_0, s7_1, s7_2, s7_3, unJ_I, unJ_J, unJ_F, unJ_R, unJ_N, unJ_U, pushR_I, pushR_J, pushR_F, pushR_R, pushR_N, pushR_U, rfV_s, rfV_n, Option.bind_some, true_or, or_true, if_true]
    refine e.trans ?_
    rw [s7_4]
    simp only [s7_5, s7_6, s7_9, s7_77, s7_78, unJ_I, unJ_J, unJ_F, unJ_R, unJ_N, unJ_U, pushR_I, pushR_J, pushR_F, pushR_R, pushR_N, pushR_U, rfV_s, rfV_n, Option.bind_some, true_or, or_true, if_true, n4]
    rw [if_pos (by omega)]
  · rw [n4]; simp
  · have hi2 : i < σ.1.length := by simpa using hi
    have := k1 i hi2
    rw [if_pos hi2] at this
    show LotAt _ _ _ (lt (σ.1.map _) i)
    have e : lt (σ.1.map (monL (σ.2.2.1 2))) i = monL (σ.2.2.1 2) (lt σ.1 i) := by
      unfold lt
      rw [List.getD_eq_getElem?_getD, List.getD_eq_getElem?_getD, List.getElem?_map, List.getElem?_eq_getElem hi2]
      rfl
    rw [e]
    exact this
  · have r : ∀ a, a < 3 → A2 (rr c + a) j = A (rr c + a) j := fun a ha => k2.2 _ j (by omega) (by omega) (by omega) (by omega)
    exact ⟨(r 0 (by omega)).trans (h5.2.2 j hj).1, (r 1 (by omega)).trans (h5.2.2 j hj).2.1, (r 2 (by omega)).trans (h5.2.2 j hj).2.2⟩
end
