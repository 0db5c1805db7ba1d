/-! THE LAW'S evaporate -/
section
variable {e : Int}
theorem lit_mon (he : 0 ≤ e ∧ e ≤ 100) : ∀ {ls : List Lt}, okLs ls → litL (ls.map (monL e)) = litL ls - tot (evL e) ls := by
  intro ls ho
  rw [litL_t, litL_t]
  rw [okLs_mem] at ho
  induction ls with
  | nil => rfl
  | cons w r ih =>
    have i2 := ih (fun x hx => ho x (List.mem_cons_of_mem _ hx))
    have o := ho w List.mem_cons_self
    have o3 : gsum w.2 ≤ 10000 := o.1.2.2.2.2.2.2.2.2.2.1
    have r2 := ev_r he (w := w) ⟨o.2, o3⟩
    have g : gaL (monL e w) = gaL w - evL e w := by
      show gsum (monL e w).2 = gsum w.2 - evL e w
      unfold monL
      by_cases z : 0 < evL e w
      · rw [if_pos z]
        exact take_gsum ⟨o.1.2.2.2.2.2.2.2.1, o.1.2.2.2.2.2.2.2.2.1⟩ r2.1 o.2 r2.2.2.1
      · rw [if_neg z]; omega
    rw [List.map_cons, tot, tot, tot, i2, g]
    omega
theorem lit_mons (he : 0 ≤ e ∧ e ≤ 100) {ls : List Lt} (ho : okLs ls) : ∀ n, litL (monLs e ls n) = litL ls - evS e ls n
  | 0 => by rw [monLs, evS]; omega
  | n + 1 => by
    rw [monLs, evS, lit_mon he (mons_ok he ho n).1, lit_mons he ho n, tot_sum (evL e)]
    omega
theorem evS_1 (ls : List Lt) : evS e ls 1 = tot (evL e) ls := by
  rw [evS, evS, monLs, tot_sum (evL e)]
  omega
theorem monLs_1 (ls : List Lt) : monLs e ls 1 = ls.map (monL e) := rfl
theorem w32_w (a b : Int) : w32 (w32 a + b) = w32 (a + b) := by unfold w32; simp
theorem adA_adA (acc : Nat → Int) (j : Nat) (a b : Int) : adA (adA acc j a) j b = adA acc j (a + b) := by
  funext i
  unfold adA
  by_cases z : i = j
  · subst z
    rw [sup_e, sup_e, sup_e, w32_w, Int.add_assoc]
  · rw [sup_n z, sup_n z, sup_n z]
end
section
variable {q : Nat × (Nat → Int)} {μ : Mem} {X Y : XS} {T T' B : Int}
/-- behind n months -/
noncomputable def monX (σ : St) (n : Nat) : St := (monLs (σ.2.2.1 2) σ.1 n, σ.2.1, σ.2.2.1, adA σ.2.2.2.1 2 (evS (σ.2.2.1 2) σ.1 n), σ.2.2.2.2)
/-- an hour of the other cellar: what evaporates, told by its lots -/
theorem p_one (h : Bl q 1 μ Y) (ho : okX T Y) {l2 l3 l4 l5 : AV} {m : Int} : rs 1607 39 [vR 9 0, vR 9 1, l2, l3, l4, l5, vU, vI m, vI 0, vI ((0 : Nat) : Int)] [] μ = rs 1607 94 [vR 9 0, vR 9 1, l2, l3, l4, l5, vU, vI m, vI (tot (evL (Y.1.2.2.1 2)) Y.1.1), vI ((Y.1.2.2.2.2.toNat : Nat) : Int)] [] μ := by
  have hn := ho.2.1.2.2.2.2.2.1
  have hT := ho.1
  have hl12 := ho.2.1.2.1
  have st2 := ho.2.1.2.2.2.1.2.2.1
  have up := ho.2.1.lots.2.2.2.2.2
  have c0 := p_count (k := 1) (by omega) h ho
  have l0 := p_lot (k := 1) (by omega) h ho
  have mem := lots_mem ho
  have g1 : ∀ w ∈ Y.1.1, 0 ≤ evL (Y.1.2.2.1 2) w ∧ evL (Y.1.2.2.1 2) w ≤ 1000 := fun w hw => by
    have m := (mem w hw).1
    have := ev_r st2 (w := w) ⟨m.2, m.1.2.2.2.2.2.2.2.2.2.1⟩
    omega
  have t1 := tot_r g1
  have z1 : smF (evL (Y.1.2.2.1 2)) Y.1.1 ((0 : Nat) : Int) = 0 := smF_0 (fun w hw => (mem w hw).1.1.1.1)
  have n9 : aCount Y 9 = Y.1.2.2.1 2 := rfl
  have LL : rs 1607 39 [vR 9 0, vR 9 1, l2, l3, l4, l5, vU, vI m, vI (smF (evL (Y.1.2.2.1 2)) Y.1.1 ((0 : Nat) : Int)), vI ((0 : Nat) : Int)] [] μ = rs 1607 39 [vR 9 0, vR 9 1, l2, l3, l4, l5, vU, vI m, vI (smF (evL (Y.1.2.2.1 2)) Y.1.1 ((Y.1.2.2.2.2.toNat : Nat) : Int)), vI ((Y.1.2.2.2.2.toNat : Nat) : Int)] [] μ := by
    refine rs_loop (fun i => [vR 9 0, vR 9 1, l2, l3, l4, l5, vU, vI m, vI (smF (evL (Y.1.2.2.1 2)) Y.1.1 (i : Int)), vI (i : Int)]) (fun _ => μ) Y.1.2.2.2.2.toNat (fun i hi => ?_)
    have s1 : smF (evL (Y.1.2.2.1 2)) Y.1.1 ((i + 1 : Nat) : Int) = smF (evL (Y.1.2.2.1 2)) Y.1.1 (i : Int) + (if fnd Y.1.1 (i : Int) < Y.1.1.length then evL (Y.1.2.2.1 2) (lt Y.1.1 (fnd Y.1.1 (i : Int))) else 0) := by
      rw [show ((i + 1 : Nat) : Int) = (i : Int) + 1 by omega]
      exact smF_step up
    have r1 := smF_r (n := ((i + 1 : Nat) : Int)) (fun w hw => (g1 w hw).1)
    have r0 := smF_r (n := (i : Int)) (fun w hw => (g1 w hw).1)
    have e0 : w32 (smF (evL (Y.1.2.2.1 2)) Y.1.1 (i : Int) + 0) = smF (evL (Y.1.2.2.1 2)) Y.1.1 (i : Int) := by rw [Int.add_zero]; exact w32_id (by omega) (by omega)
    rw [s1607_39]
    simp only [s1607_41, s1607_42, s1607_44, unJ_I, unJ_J, unJ_F, unJ_R, unJ_N, unJ_U, pushR_I, pushR_J, pushR_F, pushR_R, pushR_N, pushR_U, rfV_s, rfV_n, Option.bind_some, true_or, or_true, if_true, c0, cnt_6, Option.bind_some]
    rw [s1607_47, if_neg (show ¬ Y.1.2.2.2.2 ≤ (i : Int) by omega)]
    simp only [s1607_50, s1607_52, s1607_53, s1607_55, s1607_56, s1607_59, unJ_I, unJ_J, unJ_F, unJ_R, unJ_N, unJ_U, pushR_I, pushR_J, pushR_F, pushR_R, pushR_N, pushR_U, rfV_s, rfV_n, Option.bind_some, true_or, or_true, if_true, l0, Option.bind_some]
    by_cases hf : fnd Y.1.1 (i : Int) < Y.1.1.length
    · rw [if_pos hf] at s1
      have lo := ho.lot hf
      have er := ev_r st2 (w := lt Y.1.1 (fnd Y.1.1 (i : Int))) ⟨lo.2.1, lo.2.2.1⟩
      have v0 : aLot Y (i : Int) 0 = gsum (lt Y.1.1 (fnd Y.1.1 (i : Int))).2 := by
        unfold aLot; rw [if_pos (by omega), if_pos hf]; rfl
      have v5 : aLot Y (i : Int) 5 = (lt Y.1.1 (fnd Y.1.1 (i : Int))).1 4 := by
        unfold aLot; rw [if_pos (by omega), if_pos hf]; rfl
      have e1 : w32 (smF (evL (Y.1.2.2.1 2)) Y.1.1 (i : Int) + evL (Y.1.2.2.1 2) (lt Y.1.1 (fnd Y.1.1 (i : Int)))) = smF (evL (Y.1.2.2.1 2)) Y.1.1 ((i + 1 : Nat) : Int) := by rw [← s1]; exact w32_id (by omega) (by omega)
      rw [v5, s1607_60]
      by_cases hz : (lt Y.1.1 (fnd Y.1.1 (i : Int))).1 4 = 1
      · have k1 : evL (Y.1.2.2.1 2) (lt Y.1.1 (fnd Y.1.1 (i : Int))) = gsum (lt Y.1.1 (fnd Y.1.1 (i : Int))).2 * Y.1.2.2.1 2 / 1000 := if_pos hz
        have k2 : w32 (gsum (lt Y.1.1 (fnd Y.1.1 (i : Int))).2 * Y.1.2.2.1 2) = gsum (lt Y.1.1 (fnd Y.1.1 (i : Int))).2 * Y.1.2.2.1 2 := w32_id (by omega) (by omega)
        have k3 : w32 (Int.tdiv (gsum (lt Y.1.1 (fnd Y.1.1 (i : Int))).2 * Y.1.2.2.1 2) 1000) = evL (Y.1.2.2.1 2) (lt Y.1.1 (fnd Y.1.1 (i : Int))) := by
          rw [Int.tdiv_eq_ediv_of_nonneg er.2.2.2.1, ← k1]
          exact w32_id (by omega) (by omega)
        rw [if_pos hz]
        simp only [s1607_63, s1607_64, s1607_66, s1607_67, s1607_70, s1607_71, s1607_73, s1607_76, s1607_77, unJ_I, unJ_J, unJ_F, unJ_R, unJ_N, unJ_U, pushR_I, pushR_J, pushR_F, pushR_R, pushR_N, pushR_U, rfV_s, rfV_n, Option.bind_some, true_or, or_true, if_true, l0, c0, v0, n9, k2, Option.bind_some]
        rw [s1607_80, if_neg (by decide)]
        simp only [s1607_81, s1607_85, s1607_86, s1607_88, s1607_91, unJ_I, unJ_J, unJ_F, unJ_R, unJ_N, unJ_U, pushR_I, pushR_J, pushR_F, pushR_R, pushR_N, pushR_U, rfV_s, rfV_n, Option.bind_some, true_or, or_true, if_true, k3, e1]
        rw [w32_s hi (by omega)]
      · have k1 : evL (Y.1.2.2.1 2) (lt Y.1.1 (fnd Y.1.1 (i : Int))) = 0 := if_neg hz
        rw [k1, Int.add_zero] at s1
        rw [if_neg hz]
        simp only [s1607_84, s1607_85, s1607_86, s1607_88, s1607_91, unJ_I, unJ_J, unJ_F, unJ_R, unJ_N, unJ_U, pushR_I, pushR_J, pushR_F, pushR_R, pushR_N, pushR_U, rfV_s, rfV_n, Option.bind_some, true_or, or_true, if_true, e0]
        rw [w32_s hi (by omega), s1]
    · rw [if_neg hf, Int.add_zero] at s1
      have v5 : aLot Y (i : Int) 5 = -4 := by
        unfold aLot; rw [if_pos (by omega), if_neg hf]
      rw [v5, s1607_60, if_neg (by decide)]
      simp only [s1607_84, s1607_85, s1607_86, s1607_88, s1607_91, unJ_I, unJ_J, unJ_F, unJ_R, unJ_N, unJ_U, pushR_I, pushR_J, pushR_F, pushR_R, pushR_N, pushR_U, rfV_s, rfV_n, Option.bind_some, true_or, or_true, if_true, e0]
      rw [w32_s hi (by omega), s1]
  have mx : ∀ w ∈ Y.1.1, w.1 0 < ((Y.1.2.2.2.2.toNat : Nat) : Int) := fun w hw => by have := (mem w hw).2; omega
  rw [z1, smF_all mx] at LL
  refine LL.trans ?_
  rw [s1607_39]
  simp only [s1607_41, s1607_42, s1607_44, unJ_I, unJ_J, unJ_F, unJ_R, unJ_N, unJ_U, pushR_I, pushR_J, pushR_F, pushR_R, pushR_N, pushR_U, rfV_s, rfV_n, Option.bind_some, true_or, or_true, if_true, c0, cnt_6, Option.bind_some]
  rw [s1607_47, if_pos (show Y.1.2.2.2.2 ≤ ((Y.1.2.2.2.2.toNat : Nat) : Int) by omega)]
theorem mon_0 (ho : okX T X) (ha : accO B X.1) (hB : B ≤ 1000000000) : monX X.1 0 = X.1 := by
  have a2 := ha.2 2 (by decide)
  unfold monX
  have e : adA X.1.2.2.2.1 2 (evS (X.1.2.2.1 2) X.1.1 0) = X.1.2.2.2.1 := by
    funext i
    unfold adA
    by_cases z : i = 2
    · subst z
      rw [sup_e, evS, Int.add_zero]
      exact w32_id (by omega) (by omega)
    · rw [sup_n z]
  rw [e]
  rfl
theorem mon_s (σ : St) (n : Nat) : (monLs ((monX σ n).2.2.1 2) (monX σ n).1 1, (monX σ n).2.1, (monX σ n).2.2.1, adA (monX σ n).2.2.2.1 2 (evS ((monX σ n).2.2.1 2) (monX σ n).1 1), (monX σ n).2.2.2.2) = monX σ (n + 1) := by
  unfold monX
  dsimp only
  rw [adA_adA, evS_1, ← tot_sum (evL (σ.2.2.1 2))]
  rfl
theorem mon_acc (ho : okX T X) (ha : accO B X.1) (hB : B ≤ 1000000000) (n : Nat) : accO B (monX X.1 n) := by
  have st2 := ho.2.1.2.2.2.1.2.2.1
  have l := lit_mons st2 ho.2.1.1 n
  have ok := (mons_ok st2 ho.2.1.1 n).1
  have r := evS_r st2 ho.2.1.1 ho.2.1.2.1 n
  refine accO.out (ls := X.1.1) (r := X.1.2.1) (s := X.1.2.2.1) (a := X.1.2.2.2.1) (nx := X.1.2.2.2.2) 2 (by omega) ha hB r.2.1 l ?_
  rw [litL_t]
  exact (tot_r (b := 10000) (fun w hw => by
    have := okLs_mem.mp ok w hw
    have o := this.1.2.2.2.2.2.2.2.2.2.1
    unfold gaL; omega)).1
theorem p_evap (h0 : Bl q 0 μ X) (h1 : Bl q 1 μ Y) (hI : Inv T B X) (ho1 : okX T' Y) (hy1 : okY Y) (hB : B ≤ 1000000000) (he : X.1 = Y.1) {n : Nat} (hn : 1 ≤ n ∧ n ≤ 60) :
    ∃ μ' X' Y', rs 1607 0 [vR 9 0, vR 9 1, vI (n : Int), vU, vU, vU, vU, vU, vU, vU] [] μ = some (vI 1, μ') ∧ Bl q 0 μ' X' ∧ Bl q 1 μ' Y' ∧ Inv T B X' ∧ okX T' Y' ∧ okY Y' ∧ X'.1 = Y'.1 ∧ Still μ μ' := by
  obtain ⟨ho, hy, ha, hr, hx⟩ := hI
  have a0 := p_account (k := 0) (by omega) h0 ho
  have am : aMonths X (n : Int) = (evS (X.1.2.2.1 2) X.1.1 n, chg X (monX X.1 n)) := by
    unfold aMonths
    rw [if_pos (by omega), Int.toNat_natCast]
    rfl
  obtain ⟨μ1, e1, b1, f1, s1⟩ := p_months (k := 0) (by omega) h0 ho (n : Int)
  have okX' := ok_months ho (n : Int)
  have kyX' := ky_months hy (n : Int)
  rw [am] at e1 b1 okX' kyX'
  have b1Y := h1.keep (k := 0) (j := 1) (by omega) (by omega) (by omega) f1
  obtain ⟨ls, μ2, e2, rfl, Y', y1, y2, y3, y4, y5, y6⟩ := rs_loopP (m := 1607) (pc := 22) (fun i ls μ' => ls = [vR 9 0, vR 9 1, vI (n : Int), vI (aAccount X 2), vI (evS (X.1.2.2.1 2) X.1.1 n), vI (evS (X.1.2.2.1 2) X.1.1 i), vI 1, vI (i : Int), vU, vU] ∧ ∃ Y', Y'.1 = monX X.1 i ∧ okX T' Y' ∧ okY Y' ∧ Bl q 1 μ' Y' ∧ Fra 1 μ1 μ' ∧ Still μ1 μ') n
    (ls := [vR 9 0, vR 9 1, vI (n : Int), vI (aAccount X 2), vI (evS (X.1.2.2.1 2) X.1.1 n), vI (evS (X.1.2.2.1 2) X.1.1 0), vI 1, vI ((0 : Nat) : Int), vU, vU]) (μ := μ1) ⟨rfl, Y, by rw [mon_0 ho ha hB, he], ho1, hy1, b1Y, Fra.rf _ _, rfl, rfl⟩ (fun i hi ls μ2 hP => by
      obtain ⟨rfl, Y', y1, y2, y3, y4, y5, y6⟩ := hP
      obtain ⟨μ3, e3, b3, f3, s3⟩ := p_months (k := 1) (by omega) y4 y2 1
      have am1 : aMonths Y' 1 = (evS (Y'.1.2.2.1 2) Y'.1.1 1, chg Y' (monX X.1 (i + 1))) := by
        unfold aMonths
        rw [if_pos (by decide), show (1 : Int).toNat = 1 from rfl, ← mon_s X.1 i, ← y1]
      have tk := tot_sum (evL (X.1.2.2.1 2)) (monX X.1 i).1
      have et : tot (evL (Y'.1.2.2.1 2)) Y'.1.1 = evS (Y'.1.2.2.1 2) Y'.1.1 1 := (evS_1 _).symm
      have st2 := ho.2.1.2.2.2.1.2.2.1
      have er := evS_r st2 ho.2.1.1 ho.2.1.2.1 (i + 1)
      have es : w32 (evS (X.1.2.2.1 2) X.1.1 i + evS (Y'.1.2.2.1 2) Y'.1.1 1) = evS (X.1.2.2.1 2) X.1.1 (i + 1) := by
        have q1 : evS (Y'.1.2.2.1 2) Y'.1.1 1 = sumU (fun j => evL (X.1.2.2.1 2) (lt (monLs (X.1.2.2.1 2) X.1.1 i) j)) (monLs (X.1.2.2.1 2) X.1.1 i).length := by
          rw [← et, y1]
          exact (tot_sum (evL (X.1.2.2.1 2)) (monLs (X.1.2.2.1 2) X.1.1 i)).symm
        rw [q1]
        have q2 : evS (X.1.2.2.1 2) X.1.1 (i + 1) = evS (X.1.2.2.1 2) X.1.1 i + sumU (fun j => evL (X.1.2.2.1 2) (lt (monLs (X.1.2.2.1 2) X.1.1 i) j)) (monLs (X.1.2.2.1 2) X.1.1 i).length := rfl
        rw [← q2]
        exact w32_id (by omega) (by omega)
      rw [am1] at e3 b3
      have ok3 := ok_months y2 1
      have ky3 := ky_months y3 1
      rw [am1] at ok3 ky3
      refine ⟨[vR 9 0, vR 9 1, vI (n : Int), vI (aAccount X 2), vI (evS (X.1.2.2.1 2) X.1.1 n), vI (evS (X.1.2.2.1 2) X.1.1 (i + 1)), vI 1, vI ((i + 1 : Nat) : Int), vU, vU], μ3, ?_, rfl, chg Y' (monX X.1 (i + 1)), rfl, ok3, ky3, b3, y5.tr f3, y6.still s3⟩
      rw [s1607_22]
      simp only [s1607_24, unJ_I, unJ_J, unJ_F, unJ_R, unJ_N, unJ_U, pushR_I, pushR_J, pushR_F, pushR_R, pushR_N, pushR_U, rfV_s, rfV_n, Option.bind_some, true_or, or_true, if_true]
      rw [s1607_25, if_neg (show ¬ ((n : Nat) : Int) ≤ (i : Int) by omega)]
      simp only [s1607_28, s1607_30, s1607_33, s1607_34, s1607_36, s1607_37, unJ_I, unJ_J, unJ_F, unJ_R, unJ_N, unJ_U, pushR_I, pushR_J, pushR_F, pushR_R, pushR_N, pushR_U, rfV_s, rfV_n, Option.bind_some, true_or, or_true, if_true, Int.reduceEq, reduceIte]
      refine (p_one y4 y2).trans ?_
      rw [et]
      simp only [s1607_94, s1607_95, s1607_96, s1607_99, unJ_I, unJ_J, unJ_F, unJ_R, unJ_N, unJ_U, pushR_I, pushR_J, pushR_F, pushR_R, pushR_N, pushR_U, rfV_s, rfV_n, Option.bind_some, true_or, or_true, if_true, e3, Option.bind_some]
      rw [s1607_101, if_pos rfl]
      simp only [s1607_104, s1607_105, s1607_109, s1607_111, s1607_113, s1607_115, s1607_116, s1607_118, s1607_121, unJ_I, unJ_J, unJ_F, unJ_R, unJ_N, unJ_U, pushR_I, pushR_J, pushR_F, pushR_R, pushR_N, pushR_U, rfV_s, rfV_n, Option.bind_some, true_or, or_true, if_true, es]
      rw [w32_s hi (by omega)])
  have b2X := b1.keep (k := 1) (j := 0) (by omega) (by omega) (by omega) y5
  have a2 := p_account (k := 0) (by omega) b2X okX'
  have ac2 : aAccount (chg X (monX X.1 n)) 2 = w32 (aAccount X 2 + evS (X.1.2.2.1 2) X.1.1 n) := by
    show adA X.1.2.2.2.1 2 (evS (X.1.2.2.1 2) X.1.1 n) 2 = _
    unfold adA
    rw [sup_e]
    rfl
  refine ⟨μ2, chg X (monX X.1 n), Y', ?_, b2X, y4, ⟨okX', kyX', mon_acc ho ha hB n, hr, hx⟩, y2, y3, y1.symm, s1.still y6⟩
  simp only [s1607_0, s1607_1, s1607_2, unJ_I, unJ_J, unJ_F, unJ_R, unJ_N, unJ_U, pushR_I, pushR_J, pushR_F, pushR_R, pushR_N, pushR_U, rfV_s, rfV_n, Option.bind_some, true_or, or_true, if_true, a0, Option.bind_some]
  simp only [s1607_5, s1607_6, s1607_7, s1607_8, unJ_I, unJ_J, unJ_F, unJ_R, unJ_N, unJ_U, pushR_I, pushR_J, pushR_F, pushR_R, pushR_N, pushR_U, rfV_s, rfV_n, Option.bind_some, true_or, or_true, if_true, e1, Option.bind_some]
  simp only [s1607_11, s1607_13, s1607_14, s1607_16, s1607_17, s1607_19, s1607_20, unJ_I, unJ_J, unJ_F, unJ_R, unJ_N, unJ_U, pushR_I, pushR_J, pushR_F, pushR_R, pushR_N, pushR_U, rfV_s, rfV_n, Option.bind_some, true_or, or_true, if_true]
  refine e2.trans ?_
  rw [s1607_22]
  simp only [s1607_24, unJ_I, unJ_J, unJ_F, unJ_R, unJ_N, unJ_U, pushR_I, pushR_J, pushR_F, pushR_R, pushR_N, pushR_U, rfV_s, rfV_n, Option.bind_some, true_or, or_true, if_true]
  rw [s1607_25, if_pos (show ((n : Nat) : Int) ≤ (n : Int) by omega)]
  simp only [s1607_124, s1607_126, s1607_129, s1607_131, unJ_I, unJ_J, unJ_F, unJ_R, unJ_N, unJ_U, pushR_I, pushR_J, pushR_F, pushR_R, pushR_N, pushR_U, rfV_s, rfV_n, Option.bind_some, true_or, or_true, if_true, Int.reduceEq, reduceIte]
  rw [s1607_133, if_pos rfl]
  simp only [s1607_136, s1607_137, s1607_138, s1607_141, s1607_142, s1607_144, unJ_I, unJ_J, unJ_F, unJ_R, unJ_N, unJ_U, pushR_I, pushR_J, pushR_F, pushR_R, pushR_N, pushR_U, rfV_s, rfV_n, Option.bind_some, true_or, or_true, if_true, a2, ac2, Option.bind_some]
  rw [s1607_145, if_pos rfl]
  simp only [s1607_148, s1607_149, s1607_153, unJ_I, unJ_J, unJ_F, unJ_R, unJ_N, unJ_U, pushR_I, pushR_J, pushR_F, pushR_R, pushR_N, pushR_U, rfV_s, rfV_n, Option.bind_some, true_or, or_true, if_true]
end
