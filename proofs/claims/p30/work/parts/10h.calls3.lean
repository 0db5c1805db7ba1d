/-! CALLS: mostLitres, panel, ranked, months, bottle -/
def panV (d : Nat → Int) (span x : Int) : Int := if x = 0 then midU d else if x = 1 then kepN d span 8 else if x = 2 then outU d span 8 else if x = 3 then f_raw (mrkU d span) else f_f2i (mrkU d span)
def aPanel (X : XS) (l x : Int) : Int := if 0 ≤ l ∧ 0 ≤ x ∧ x ≤ 4 then (if fnd X.1.1 l < X.1.1.length ∧ 0 < scN (lt X.1.1 (fnd X.1.1 l)) then panV (lt X.1.1 (fnd X.1.1 l)).1 (X.1.2.2.1 1) x else -4) else -1
def aRanked (X : XS) (p : Int) : Int := if 0 ≤ p then rkU X.1.1 (X.1.2.2.1 1) p 12 0 else -1
def monLs (e : Int) (ls : List Lt) : Nat → List Lt
  | 0 => ls
  | m + 1 => (monLs e ls m).map (monL e)
def evS (e : Int) (ls : List Lt) : Nat → Int
  | 0 => 0
  | m + 1 => evS e ls m + sumU (fun i => evL e (lt (monLs e ls m) i)) (monLs e ls m).length
def aMonths (X : XS) (m : Int) : Int × XS := if 1 ≤ m ∧ m ≤ 60 then (evS (X.1.2.2.1 2) X.1.1 m.toNat, chg X (monLs (X.1.2.2.1 2) X.1.1 m.toNat, X.1.2.1, X.1.2.2.1, adA X.1.2.2.2.1 2 (evS (X.1.2.2.1 2) X.1.1 m.toNat), X.1.2.2.2.2)) else (-1, X)
def fulU (n z : Int) : Int := n * 100 / z
def brkU (n z r : Int) : Int := if 0 < r then fulU n z / r else 0
def acB (acc : Nat → Int) (n z r : Int) : Nat → Int := adA (adA (adA (adA acc 3 n) 5 (fulU n z - brkU n z r)) 6 (brkU n z r)) 7 (n * 100 % z)
def aBottle (X : XS) (l n z : Int) : Int × XS :=
  if 0 ≤ l ∧ (1 ≤ n ∧ n ≤ 10000) ∧ 10 ≤ z ∧ z ≤ 300 then
    (if fnd X.1.1 l < X.1.1.length then
      (if n ≤ gsum (lt X.1.1 (fnd X.1.1 l)).2 ∧ brm (lt X.1.1 (fnd X.1.1 l)) X.1.2.1 X.1.2.1.length = 0 then
        (fulU n z - brkU n z (X.1.2.2.1 3), chg X (dropL (X.1.1.set (fnd X.1.1 l) ((lt X.1.1 (fnd X.1.1 l)).1, takeG (lt X.1.1 (fnd X.1.1 l)).2 n)), X.1.2.1, X.1.2.2.1, acB X.1.2.2.2.1 n z (X.1.2.2.1 3), X.1.2.2.2.2))
      else (-2, X))
    else (-4, X))
  else (-1, X)
theorem mon_ok {e : Int} (he : 0 ≤ e ∧ e ≤ 100) {ls : List Lt} (ho : okLs ls) : okLs (ls.map (monL e)) := by
  rw [okLs_mem] at ho ⊢
  intro w hw
  obtain ⟨v, hv, rfl⟩ := List.mem_map.mp hw
  obtain ⟨o1, o2⟩ := ho v hv
  have o3 : gsum v.2 ≤ 10000 := o1.2.2.2.2.2.2.2.2.2.1
  have r := ev_r (w := v) he ⟨o2, o3⟩
  unfold monL
  by_cases h : 0 < evL e v
  · rw [if_pos h]
    have b : evL e v * 10 ≤ gsum v.2 := by
      have h2 : gsum v.2 * e ≤ gsum v.2 * 100 := Int.mul_le_mul_of_nonneg_left he.2 (by omega)
      unfold evL
      split <;> omega
    refine ⟨o1.take (by omega) o2, ?_⟩
    show 0 < gsum (takeG v.2 (evL e v))
    rw [take_gsum o1.gs (by omega) o2 (by omega)]
    omega
  · rw [if_neg h]
    exact ⟨o1, o2⟩
theorem mons_ok {e : Int} (he : 0 ≤ e ∧ e ≤ 100) {ls : List Lt} (ho : okLs ls) (m : Nat) : okLs (monLs e ls m) ∧ (monLs e ls m).length = ls.length := by
  induction m with
  | zero => exact ⟨ho, rfl⟩
  | succ m ih => exact ⟨mon_ok he ih.1, by rw [monLs, List.length_map]; exact ih.2⟩
theorem evS_r {e : Int} (he : 0 ≤ e ∧ e ≤ 100) {ls : List Lt} (ho : okLs ls) (hl : ls.length ≤ 12) (m : Nat) : (0 ≤ sumU (fun i => evL e (lt (monLs e ls m) i)) (monLs e ls m).length ∧ sumU (fun i => evL e (lt (monLs e ls m) i)) (monLs e ls m).length ≤ 12000) ∧ 0 ≤ evS e ls m ∧ evS e ls m ≤ m * 12000 := by
  have one : ∀ m, 0 ≤ sumU (fun i => evL e (lt (monLs e ls m) i)) (monLs e ls m).length ∧ sumU (fun i => evL e (lt (monLs e ls m) i)) (monLs e ls m).length ≤ 12000 := fun m => by
    obtain ⟨o, l⟩ := mons_ok he ho m
    have := sumU_r (f := fun i => evL e (lt (monLs e ls m) i)) (b := 1000) (n := (monLs e ls m).length) (fun i hi => by
      have r := ev_r (w := lt (monLs e ls m) i) he ⟨(o i hi).2, (o i hi).1.2.2.2.2.2.2.2.2.2.1⟩
      omega)
    omega
  refine ⟨one m, ?_⟩
  induction m with
  | zero => exact ⟨Int.le_refl _, by show (0 : Int) ≤ _; omega⟩
  | succ m ih =>
    have o := one m
    rw [evS]
    omega
section
variable (q : Nat × (Nat → Int)) {I A : M2} {L P : Nat → Nat → Option Nat} {F G : Nat → Nat → UInt32} {D : MD} {T : Int} {X : XS}
theorem v_most (h : Cls I A L P X) (ho : okX T X) : Doe 912 [vR 9 0] q I A L P F G D (vI (aMost X)) X := by
  obtain ⟨S, ph, a, b, c, d⟩ := id h
  have a0 := a 0 (by omega)
  have kr : rs 9 0 [vR 0 0, vU, vU, vU] [] (SX q, (I, A, L, P, F, G), D) = some (vI (rcpN X.1.1), (SX q, (I, A, L, P, F, G), D)) := c_recipe q (F := F) (G := G) (P := P) (D := D) b a0
  have cr := cntU_r (fun i => 0 < (lt X.1.1 i).1 5) X.1.1.length
  unfold aMost
  by_cases hz : rcpN X.1.1 = 0
  · rw [if_pos hz]
    refine ⟨_, _, _, _, F, G, ?_, h⟩
    simp only [s912_0, s912_1, s912_4, s912_7, s912_10, s912_12, s912_26, unJ_I, unJ_J, unJ_F, unJ_R, unJ_N, unJ_U, pushR_I, pushR_J, pushR_F, pushR_R, pushR_N, pushR_U, rfV_s, rfV_n, Option.bind_some, true_or, or_true, if_true, kr]
    rw [if_pos hz]
  · rw [if_neg hz]
    have hp : 0 < rcpN X.1.1 := by unfold rcpN at hz ⊢; omega
    obtain ⟨A', e, f⟩ := c_greatestB q (c := 0) (I := I) (A := A) (L := L) (P := P) (F := F) (G := G) (D := D) (by omega) a0 b ho.2.1.1 (rcp_sum ho.2.1.1 hp)
    refine ⟨I, A', L, P, F, G, ?_, h.same (fun f y z => rfl) (fun r j z => f r j (by omega))⟩
    simp only [s912_0, s912_1, s912_4, s912_7, unJ_I, unJ_J, unJ_F, unJ_R, unJ_N, unJ_U, pushR_I, pushR_J, pushR_F, pushR_R, pushR_N, pushR_U, rfV_s, rfV_n, Option.bind_some, true_or, or_true, if_true, kr]
    rw [if_neg hz]
    simp only [s912_15, s912_16, s912_19, s912_20, s912_23, s912_26, unJ_I, unJ_J, unJ_F, unJ_R, unJ_N, unJ_U, pushR_I, pushR_J, pushR_F, pushR_R, pushR_N, pushR_U, rfV_s, rfV_n, Option.bind_some, true_or, or_true, if_true, e]
theorem v_ranked (h : Cls I A L P X) (ho : okX T X) (p : Int) : Doe 916 [vR 9 0, vI p] q I A L P F G D (vI (aRanked X p)) X := by
  obtain ⟨S, ph, a, b, c, d⟩ := id h
  have a0 := a 0 (by omega)
  unfold aRanked
  by_cases h1 : 0 ≤ p
  · rw [if_pos h1]
    obtain ⟨I', A', F', G', e, fr⟩ := c_lotAt q (c := 0) (I := I) (A := A) (L := L) (P := P) (F := F) (G := G) (D := D) (by omega) a0 b ho.2.1.1 ho.2.1.2.2.2.1.2.1 p
    refine ⟨I', A', L, P, F', G', ?_, h.same (fun f y z => fr.1 f y (by omega)) (fun r j z => fr.2 r j (by omega))⟩
    simp only [s916_0, s916_1, unJ_I, unJ_J, unJ_F, unJ_R, unJ_N, unJ_U, pushR_I, pushR_J, pushR_F, pushR_R, pushR_N, pushR_U, rfV_s, rfV_n, Option.bind_some, true_or, or_true, if_true]
    rw [if_pos h1]
    simp only [s916_8, s916_9, s916_12, s916_13, s916_14, s916_17, s916_20, unJ_I, unJ_J, unJ_F, unJ_R, unJ_N, unJ_U, pushR_I, pushR_J, pushR_F, pushR_R, pushR_N, pushR_U, rfV_s, rfV_n, Option.bind_some, true_or, or_true, if_true, e]
  · rw [if_neg h1]
    refine ⟨_, _, _, _, F, G, ?_, h⟩
    simp only [s916_0, s916_1, s916_4, s916_5, s916_20, unJ_I, unJ_J, unJ_F, unJ_R, unJ_N, unJ_U, pushR_I, pushR_J, pushR_F, pushR_R, pushR_N, pushR_U, rfV_s, rfV_n, Option.bind_some, true_or, or_true, if_true]
    rw [if_neg h1]
theorem v_months (h : Cls I A L P X) (ho : okX T X) (m : Int) : Doe 917 [vR 9 0, vI m, vU, vU] q I A L P F G D (vI (aMonths X m).1) (aMonths X m).2 := by
  obtain ⟨S, ph, a, b, c, d⟩ := id h
  have a0 := a 0 (by omega)
  have hs0 : ∀ i, i < 12 → 12 * 0 ≤ S 0 i ∧ S 0 i < 12 * 0 + 12 := fun i hi => (a0.1 i hi).2
  have st2 := ho.2.1.2.2.2.1.2.2.1
  have ok := ho.2.1.1
  have l12 := ho.2.1.2.1
  unfold aMonths
  by_cases h1 : 1 ≤ m ∧ m ≤ 60
  · rw [if_pos h1]
    obtain ⟨n, rfl⟩ : ∃ n : Nat, m = n := ⟨m.toNat, by omega⟩
    rw [Int.toNat_natCast]
    obtain ⟨I1, A1, P1, e1, k1, k2, k3⟩ := v_record q (F := F) (G := G) (D := D) h ho
    have C1 := k2 _ a0 b
    obtain ⟨ls', μ', e, I2, A2, rfl, rfl, C2, f2⟩ := rs_loopP (m := 917) (pc := 27) (ls := [vR 9 0, vI (n : Int), vI 0, vI 0]) (μ := (SX q, (I1, A1, L, P1, F, G), D)) (fun i ls μ => ∃ I' A', μ = (SX q, (I', A', L, P1, F, G), D) ∧ ls = [vR 9 0, vI (n : Int), vI (evS (X.1.2.2.1 2) X.1.1 i), vI (i : Int)] ∧ CelAt I' A' 0 (S 0) (monLs (X.1.2.2.1 2) X.1.1 i, X.1.2) ∧ FrM 0 0 I1 A1 I' A') n
      ⟨_, _, rfl, rfl, C1, FrM.rf _ _ _ _⟩ (fun i hi ls μ ⟨I', A', e1, e2, C, f⟩ => by
        subst e1 e2
        obtain ⟨o, l⟩ := mons_ok st2 ok i
        obtain ⟨I3, A3, e3, C3, f3⟩ := c_month q (x := 0) (c := 0) (I := I') (A := A') (L := L) (P := P1) (F := F) (G := G) (D := D) (by omega) (by omega) a0 C o st2
        have er := evS_r st2 ok l12 i
        have ei : Unit → w32 ((i : Int) + 1) = ((i + 1 : Nat) : Int) := fun _ => by rw [w32_id (by omega) (by omega)]; omega
        have es : Unit → w32 (evS (X.1.2.2.1 2) X.1.1 i + sumU (fun j => evL (X.1.2.2.1 2) (lt (monLs (X.1.2.2.1 2) X.1.1 i) j)) (monLs (X.1.2.2.1 2) X.1.1 i).length) = evS (X.1.2.2.1 2) X.1.1 (i + 1) := fun _ => by rw [evS]; exact w32_id (by omega) (by omega)
        have e3' : rs 7 0 [vR 0 0, vR 7 0, vU, vU, vU, vU] [] (SX q, (I', A', L, P1, F, G), D) = some (vI (sumU (fun j => evL (X.1.2.2.1 2) (lt (monLs (X.1.2.2.1 2) X.1.1 i) j)) (monLs (X.1.2.2.1 2) X.1.1 i).length), (SX q, (I3, A3, L, P1, F, G), D)) := e3
        rw [s917_27]
        simp only [s917_28, s917_29, s917_32, s917_33, s917_34, s917_37, s917_38, s917_41, s917_44, s917_45, s917_46, s917_49, unJ_I, unJ_J, unJ_F, unJ_R, unJ_N, unJ_U, pushR_I, pushR_J, pushR_F, pushR_R, pushR_N, pushR_U, rfV_s, rfV_n, Option.bind_some, true_or, or_true, if_true, e3', ei (), es ()]
        rw [if_neg (by omega)]
        exact ⟨_, _, rfl, _, _, rfl, rfl, C3, f.tr f3⟩)
    have C3 := C2.acc (by omega) hs0 2 (w32 (A2 (19 * 0 + 2 * (0 / 5) + 6) 2 + evS (X.1.2.2.1 2) X.1.1 n))
    have ac : A2 (19 * 0 + 2 * (0 / 5) + 6) 2 = X.1.2.2.2.1 2 := C2.2.2.2.2.2.2.1 2 (by omega)
    have e5 := c_acc q (I := I2) (A := A2) (L := L) (P := P1) (F := F) (G := G) (D := D) (c := 0) (i := 2) (by omega) (by omega) (evS (X.1.2.2.1 2) X.1.1 n)
    rw [ac] at C3
    refine ⟨_, _, _, _, F, G, ?_, k1.upd (sl0 := S 0) (sl5 := S 5) (I' := I2) (A' := up2 A2 (19 * 0 + 2 * (0 / 5) + 6) 2 (w32 (X.1.2.2.2.1 2 + evS (X.1.2.2.1 2) X.1.1 n))) (L' := L) (fun f x z => f2.1 f x (by omega)) (fun r j z => (up2_ne (by omega)).trans (f2.2 r j (by omega) (by omega) (by omega) (by omega))) (fun _ _ _ _ => rfl) a0 (a 5 (by omega)) C3⟩
    simp only [s917_0, s917_1, s917_2, s917_4, s917_7, s917_10, s917_11, s917_12, s917_13, s917_16, s917_17, s917_20, s917_23, s917_24, s917_25, s917_26, unJ_I, unJ_J, unJ_F, unJ_R, unJ_N, unJ_U, pushR_I, pushR_J, pushR_F, pushR_R, pushR_N, pushR_U, rfV_s, rfV_n, Option.bind_some, true_or, or_true, if_true, c_within, b01_0]
    rw [if_neg (by omega)]
    simp only [s917_12, s917_13, s917_16, s917_17, s917_20, s917_23, s917_24, s917_25, s917_26, unJ_I, unJ_J, unJ_F, unJ_R, unJ_N, unJ_U, pushR_I, pushR_J, pushR_F, pushR_R, pushR_N, pushR_U, rfV_s, rfV_n, Option.bind_some, true_or, or_true, if_true, e1]
    rw [e, s917_27]
    simp only [s917_28, s917_29, s917_52, s917_53, s917_56, s917_59, s917_60, s917_61, unJ_I, unJ_J, unJ_F, unJ_R, unJ_N, unJ_U, pushR_I, pushR_J, pushR_F, pushR_R, pushR_N, pushR_U, rfV_s, rfV_n, Option.bind_some, true_or, or_true, if_true]
    rw [if_pos (by omega)]
    refine (congrArg (fun o => Option.bind o _) e5).trans ?_
    simp only [s917_64, s917_65, unJ_I, unJ_J, unJ_F, unJ_R, unJ_N, unJ_U, pushR_I, pushR_J, pushR_F, pushR_R, pushR_N, pushR_U, rfV_s, rfV_n, Option.bind_some, true_or, or_true, if_true, ac]
  · rw [if_neg h1]
    refine ⟨_, _, _, _, F, G, ?_, h⟩
    simp only [s917_0, s917_1, s917_2, s917_4, s917_7, s917_10, s917_11, unJ_I, unJ_J, unJ_F, unJ_R, unJ_N, unJ_U, pushR_I, pushR_J, pushR_F, pushR_R, pushR_N, pushR_U, rfV_s, rfV_n, Option.bind_some, true_or, or_true, if_true, c_within, b01_0]
    rw [if_pos h1]
end
