/-! THE MODEL: shareOut -/
section
variable {n : Int} {W : Nat → Int} {m : Nat}
theorem cnt_rank2 (hS : 0 < sumU W m) {k : Int} (h0 : 0 ≤ k) (hk : k ≤ m) : cntU (fun j => fK n W m j < k) m = k := by
  by_cases hl : k = 0
  · rw [hl]
    exact cnt_no (fun i _ z => by
      have := (cntU_r (fun k => fR n W m i < fR n W m k ∨ (fR n W m k = fR n W m i ∧ k < i)) m).1
      unfold fK at z
      omega)
  · obtain ⟨b, b1, b2, b3⟩ := bnd_ex (R := fun v => cntU (fun i => (v : Int) ≤ fR n W m i) m) (k := k) (by
      show k ≤ cntU (fun i => ((0 : Nat) : Int) ≤ fR n W m i) m
      rw [cnt_all (fun i _ => by have := (fR_r (n := n) hS i).1; omega)]; exact hk) (sumU W m).toNat (by
      show cntU (fun i => ((sumU W m).toNat : Int) ≤ fR n W m i) m < k
      rw [cnt_no (fun i _ => by have := (fR_r (n := n) hS i).2; omega)]; omega)
    have b3' : cntU (fun i => (b : Int) + 1 ≤ fR n W m i) m < k := b3
    have b2' : k ≤ cntU (fun i => (b : Int) ≤ fR n W m i) m := b2
    have e1 : cntU (fun j => fK n W m j < k) m = cntU (fun j => (b : Int) < fR n W m j ∨ (fR n W m j = b ∧ cntU (fun i => fR n W m i = b) j < k - cntU (fun i => (b : Int) + 1 ≤ fR n W m i) m)) m :=
      cnt_congr fun i hi => (rank_eq b2' b3' hi).symm
    have e2 : cntU (fun j => (b : Int) < fR n W m j ∨ (fR n W m j = b ∧ cntU (fun i => fR n W m i = b) j < k - cntU (fun i => (b : Int) + 1 ≤ fR n W m i) m)) m = cntU (fun i => (b : Int) + 1 ≤ fR n W m i) m + cntU (fun j => fR n W m j = b ∧ cntU (fun i => fR n W m i = b) j < k - cntU (fun i => (b : Int) + 1 ≤ fR n W m i) m) m :=
      cnt_or (fun i _ => ⟨fun z => z.imp (fun y => by omega) id, fun z => z.imp (fun y => by omega) id⟩) (fun i _ y z => by omega)
    have e3 := cnt_min (fun i => fR n W m i = b) (k - cntU (fun i => (b : Int) + 1 ≤ fR n W m i) m) (by omega) m
    have e4 : cntU (fun i => (b : Int) ≤ fR n W m i) m = cntU (fun i => (b : Int) + 1 ≤ fR n W m i) m + cntU (fun i => fR n W m i = b) m := cnt_or (fun i _ => by omega) (fun i _ y z => by omega)
    rw [e1, e2, e3]
    split <;> omega
theorem rank_ex (hS : 0 < sumU W m) {t : Nat} (ht : t < m) : ∃ j, j < m ∧ fK n W m j = t := by
  have a := cnt_rank2 (n := n) hS (k := (t : Int)) (by omega) (by omega)
  have b := cnt_rank2 (n := n) hS (k := (t : Int) + 1) (by omega) (by omega)
  refine Classical.byContradiction (fun no => ?_)
  have c : cntU (fun j => fK n W m j < (t : Int) + 1) m = cntU (fun j => fK n W m j < (t : Int)) m := cnt_congr (fun j hj => by
    have : fK n W m j ≠ t := fun z => no ⟨j, hj, z⟩
    omega)
  omega
/-- who comes before has the lower rank -/
theorem rank_lt {i j : Nat} (hi : i < m) (h : fR n W m j < fR n W m i ∨ (fR n W m i = fR n W m j ∧ i < j)) : fK n W m i < fK n W m j := by
  have := cnt_lt (p := fun k => fR n W m i < fR n W m k ∨ (fR n W m k = fR n W m i ∧ k < i)) (r := fun k => fR n W m j < fR n W m k ∨ (fR n W m k = fR n W m j ∧ k < j)) (n := m) (j := i) (fun k _ z => by omega) hi h (by omega)
  unfold fK
  omega
theorem rank_inj {i j : Nat} (hi : i < m) (hj : j < m) (e : fK n W m i = fK n W m j) : i = j := by
  rcases Nat.lt_trichotomy i j with z | z | z
  · by_cases c : fR n W m j ≤ fR n W m i
    · have := rank_lt (n := n) (W := W) hi (j := j) (by omega); omega
    · have := rank_lt (n := n) (W := W) hj (j := i) (by omega); omega
  · exact z
  · by_cases c : fR n W m i ≤ fR n W m j
    · have := rank_lt (n := n) (W := W) hj (j := i) (by omega); omega
    · have := rank_lt (n := n) (W := W) hi (j := j) (by omega); omega
def rsT (n : Int) (W : Nat → Int) (m t j : Nat) : Int := if fK n W m j < t then -1 else fR n W m j
theorem best_is (hS : 0 < sumU W m) {t b j : Nat} (hb : b < m) (hj : j < m) (ej : fK n W m j = t) (h : ∀ i, i < m → rsT n W m t i < rsT n W m t b ∨ (rsT n W m t i = rsT n W m t b ∧ b ≤ i)) : b = j := by
  refine Classical.byContradiction (fun ne => ?_)
  have rj : rsT n W m t j = fR n W m j := if_neg (by omega)
  have r0 := (fR_r (n := n) hS j).1
  have hh := h j hj
  rw [rj] at hh
  by_cases hl : fK n W m b < t
  · have : rsT n W m t b = -1 := if_pos hl
    omega
  · have rb : rsT n W m t b = fR n W m b := if_neg hl
    rw [rb] at hh
    have := rank_lt (n := n) (W := W) hb (j := j) (by omega)
    omega
end
section
variable (q : Nat × (Nat → Int)) {C : MC} {J M T : M2}
theorem best_loop {m : Nat} (hm : m ≤ 400) (hJ : J 213 0 = m) (left : Int) {R : Nat → Int} (hR : ∀ j, j < m → M 7 j = R j) : ∀ (d k b : Nat), k + d = m → b < k → (∀ i, i < k → R i < R b ∨ (R i = R b ∧ b ≤ i)) →
    ∃ b', rs 1014 111 [vR 10 0, vU, vU, vI left, vI (b : Int), vI (k : Int)] [] (SX q, C, (J, M, T)) = rs 1014 152 [vR 10 0, vU, vU, vI left, vI ((b' : Nat) : Int), vI (m : Int)] [] (SX q, C, (J, M, T)) ∧ b' < m ∧ ∀ i, i < m → R i < R b' ∨ (R i = R b' ∧ b' ≤ i) := by
  intro d
  induction d with
  | zero =>
    intro k b hk hb h
    refine ⟨b, ?_, by omega, fun i hi => h i (by omega)⟩
    rw [s1014_111]
    simp only [s1014_113, s1014_114, s1014_117, unJ_I, unJ_J, unJ_F, unJ_R, unJ_N, unJ_U, pushR_I, pushR_J, pushR_F, pushR_R, pushR_N, pushR_U, rfV_s, rfV_n, Option.bind_some, true_or, or_true, if_true, hJ]
    rw [if_pos (by omega), show k = m by omega]
  | succ d ih =>
    intro k b hk hb h
    have ek : Unit → w32 ((k : Int) + 1) = ((k + 1 : Nat) : Int) := fun _ => by rw [w32_id (by omega) (by omega)]; omega
    have rk := hR k (by omega)
    have rb := hR b (by omega)
    rw [s1014_111]
    simp only [s1014_113, s1014_114, s1014_117, s1014_120, s1014_121, s1014_124, s1014_126, s1014_127, s1014_128, s1014_131, s1014_133, s1014_134, unJ_I, unJ_J, unJ_F, unJ_R, unJ_N, unJ_U, pushR_I, pushR_J, pushR_F, pushR_R, pushR_N, pushR_U, rfV_s, rfV_n, Option.bind_some, true_or, or_true, if_true, hJ, lm7, Int.toNat_natCast, rk, rb]
    rw [if_neg (by omega), if_pos (by omega), if_pos (by omega)]
    by_cases hz : R k ≤ R b
    · rw [if_pos hz]
      simp only [s1014_142, s1014_144, s1014_146, s1014_149, unJ_I, unJ_J, unJ_F, unJ_R, unJ_N, unJ_U, pushR_I, pushR_J, pushR_F, pushR_R, pushR_N, pushR_U, rfV_s, rfV_n, Option.bind_some, true_or, or_true, if_true, ek ()]
      exact ih (k + 1) b (by omega) (by omega) (fun i hi => by
        by_cases e : i = k
        · subst e; omega
        · exact h i (by omega))
    · rw [if_neg hz]
      simp only [s1014_137, s1014_139, s1014_142, s1014_144, s1014_146, s1014_149, unJ_I, unJ_J, unJ_F, unJ_R, unJ_N, unJ_U, pushR_I, pushR_J, pushR_F, pushR_R, pushR_N, pushR_U, rfV_s, rfV_n, Option.bind_some, true_or, or_true, if_true, ek ()]
      exact ih (k + 1) k (by omega) (by omega) (fun i hi => by
        by_cases e : i = k
        · subst e; omega
        · have := h i (by omega); omega)
/-- shareOut -/
theorem w_share {m : Nat} (hm : m ≤ 400) (hJ : J 213 0 = m) {n : Int} (hn : 0 ≤ n ∧ n ≤ 10000) {W : Nat → Int} (hW : ∀ j, j < m → M 5 j = W j ∧ 0 ≤ W j ∧ W j ≤ 10000) (hS : 0 < sumU W m) :
    ∃ M', rs 1014 0 [vR 10 0, vI n, vU, vU, vU, vU] [] (SX q, C, (J, M, T)) = some (vU, (SX q, C, (J, M', T))) ∧ (∀ j, j < m → M' 6 j = shr n W m j) ∧ ∀ r, r ≠ 6 → r ≠ 7 → M' r = M r := by
  have sr := fun k (hk : k ≤ m) => sumU_r (f := W) (b := 10000) (n := k) (fun j hj => (hW j (by omega)).2)
  have loop1 := rs_loop (m := 1014) (pc := 4) (fun k => [vR 10 0, vI n, vI (sumU W k), vI (k : Int), vU, vU]) (fun _ => (SX q, C, (J, M, T))) m (fun k hk => by
    have ek : Unit → w32 ((k : Int) + 1) = ((k + 1 : Nat) : Int) := fun _ => by rw [w32_id (by omega) (by omega)]; omega
    have s := sr k (by omega)
    obtain ⟨w1, w2, w3⟩ := hW k hk
    have es : Unit → w32 (sumU W k + W k) = sumU W (k + 1) := fun _ => by rw [sumU]; exact w32_id (by omega) (by omega)
    rw [s1014_4]
    simp only [s1014_5, s1014_6, s1014_9, s1014_12, s1014_13, s1014_14, s1014_17, s1014_18, s1014_19, s1014_20, s1014_21, s1014_24, unJ_I, unJ_J, unJ_F, unJ_R, unJ_N, unJ_U, pushR_I, pushR_J, pushR_F, pushR_R, pushR_N, pushR_U, rfV_s, rfV_n, Option.bind_some, true_or, or_true, if_true, hJ, lm5, Int.toNat_natCast, w1, es (), ek ()]
    rw [if_neg (by omega), if_pos (by omega)])
  have sm := sr m (Nat.le_refl _)
  obtain ⟨ls', μ', e2, Ma, rfl, rfl, g1, g2⟩ := rs_loopP (m := 1014) (pc := 32) (ls := [vR 10 0, vI n, vI (sumU W m), vI n, vI 0, vU]) (μ := (SX q, C, (J, M, T))) (fun k ls μ => ∃ M', μ = (SX q, C, (J, M', T)) ∧ ls = [vR 10 0, vI n, vI (sumU W m), vI (n - sumU (fS n W m) k), vI (k : Int), vU] ∧
      (∀ j, j < k → M' 6 j = fS n W m j ∧ M' 7 j = fR n W m j) ∧ ∀ r, r ≠ 6 → r ≠ 7 → M' r = M r) m
    ⟨M, rfl, by simp [sumU], fun j hj => absurd hj (Nat.not_lt_zero _), fun _ _ _ => rfl⟩ (fun k hk ls μ ⟨M', e1, e2, g1, g2⟩ => by
      subst e1 e2
      have ek : Unit → w32 ((k : Int) + 1) = ((k + 1 : Nat) : Int) := fun _ => by rw [w32_id (by omega) (by omega)]; omega
      obtain ⟨w1, w2, w3⟩ := hW k hk
      have m5 : M' 5 k = W k := by rw [g2 5 (by omega) (by omega)]; exact w1
      have pr : 0 ≤ n * W k ∧ n * W k ≤ 100000000 := ⟨Int.mul_nonneg hn.1 w2, by
        have a := Int.mul_le_mul hn.2 w3 w2 (by omega)
        omega⟩
      have f0 := fS_r (n := n) hn.1 hS k w2
      have fs := fS_sum (n := n) hn.1 (fun j hj => (hW j hj).2.1) hS k (by omega)
      have fs1 := fS_sum (n := n) hn.1 (fun j hj => (hW j hj).2.1) hS (k + 1) (by omega)
      rw [sumU] at fs1
      have fr := fR_r (n := n) hS k
      have p1 : Unit → w64 (n * W k) = n * W k := fun _ => w64_id (by omega) (by omega)
      have d1 : Unit → w32 (w64 (Int.tdiv (n * W k) (sumU W m))) = fS n W m k := fun _ => by
        rw [Int.tdiv_eq_ediv_of_nonneg pr.1]
        have : n * W k / sumU W m = fS n W m k := rfl
        rw [this, w64_id (by omega) (by omega), w32_id (by omega) (by omega)]
      have d2 : Unit → w32 (Int.tmod (n * W k) (sumU W m)) = fR n W m k := fun _ => by
        rw [Int.tmod_eq_emod_of_nonneg pr.1]
        have : n * W k % sumU W m = fR n W m k := rfl
        rw [this, w32_id (by omega) (by omega)]
      have u5 : up2 M' 6 k (fS n W m k) 5 k = W k := (up2_ne (by omega)).trans m5
      have u6 : up2 (up2 M' 6 k (fS n W m k)) 7 k (fR n W m k) 6 k = fS n W m k := (up2_ne (by omega)).trans up2_eq
      have el : Unit → w32 (n - sumU (fS n W m) k - fS n W m k) = n - sumU (fS n W m) (k + 1) := fun _ => by
        rw [w32_id (by omega) (by omega), sumU]; omega
      refine ⟨[vR 10 0, vI n, vI (sumU W m), vI (n - sumU (fS n W m) (k + 1)), vI ((k + 1 : Nat) : Int), vU], (SX q, C, (J, up2 (up2 M' 6 k (fS n W m k)) 7 k (fR n W m k), T)), ?_, _, rfl, rfl, fun j hj => ?_, fun r a b => ?_⟩
      · rw [s1014_32]
        simp only [s1014_34, s1014_35, s1014_38, s1014_41, s1014_42, s1014_45, s1014_47, s1014_48, s1014_49, s1014_50, s1014_53, s1014_55, s1014_56, s1014_57, s1014_58, s1014_59, s1014_60, unJ_I, unJ_J, unJ_F, unJ_R, unJ_N, unJ_U, pushR_I, pushR_J, pushR_F, pushR_R, pushR_N, pushR_U, rfV_s, rfV_n, Option.bind_some, true_or, or_true, if_true, hJ, lm5, Int.toNat_natCast, m5, p1 ()]
        rw [if_neg (by omega), if_pos (by omega), if_neg (by omega)]
        simp only [s1014_61, s1014_62, s1014_63, s1014_64, s1014_67, s1014_69, s1014_70, s1014_71, s1014_72, s1014_75, s1014_77, s1014_78, s1014_79, s1014_80, s1014_81, s1014_82, unJ_I, unJ_J, unJ_F, unJ_R, unJ_N, unJ_U, pushR_I, pushR_J, pushR_F, pushR_R, pushR_N, pushR_U, rfV_s, rfV_n, Option.bind_some, true_or, or_true, if_true, hJ, lm5, lm6, Int.toNat_natCast, d1 (), u5, p1 ()]
        rw [if_pos (by omega), if_pos (by omega), if_neg (by omega)]
        simp only [s1014_83, s1014_84, s1014_85, s1014_86, s1014_87, s1014_90, s1014_92, s1014_93, s1014_94, s1014_95, s1014_98, unJ_I, unJ_J, unJ_F, unJ_R, unJ_N, unJ_U, pushR_I, pushR_J, pushR_F, pushR_R, pushR_N, pushR_U, rfV_s, rfV_n, Option.bind_some, true_or, or_true, if_true, lm6, lm7, Int.toNat_natCast, d2 (), u6, el (), ek ()]
        rw [if_pos (by omega), if_pos (by omega)]
      · by_cases e : j = k
        · subst e; exact ⟨u6, up2_eq⟩
        · have := g1 j (by omega)
          exact ⟨(up2_ne (by omega)).trans ((up2_ne (by omega)).trans this.1), (up2_ne (by omega)).trans ((up2_ne (by omega)).trans this.2)⟩
      · rw [← g2 r a b]
        funext y
        exact (up2_ne (by omega)).trans (up2_ne (by omega)))
  have fl := fL_r (n := n) hS
  have main : ∀ (d t : Nat) (M' : M2), (t : Int) + d = fL n W m → (∀ j, j < m → M' 6 j = fS n W m j + b01 (fK n W m j < (t : Int)) ∧ M' 7 j = rsT n W m t j) → (∀ r, r ≠ 6 → r ≠ 7 → M' r = M r) →
      ∃ M'', rs 1014 101 [vR 10 0, vU, vU, vI (d : Int), vU, vU] [] (SX q, C, (J, M', T)) = some (vU, (SX q, C, (J, M'', T))) ∧ (∀ j, j < m → M'' 6 j = shr n W m j) ∧ ∀ r, r ≠ 6 → r ≠ 7 → M'' r = M r := by
    intro d
    induction d with
    | zero =>
      intro t M' ht h1 h2
      refine ⟨M', ?_, fun j hj => ?_, h2⟩
      · rw [s1014_101]
        simp only [s1014_102, s1014_177, unJ_I, unJ_J, unJ_F, unJ_R, unJ_N, unJ_U, pushR_I, pushR_J, pushR_F, pushR_R, pushR_N, pushR_U, rfV_s, rfV_n, Option.bind_some, true_or, or_true, if_true]
        rw [if_pos (by omega)]
      · rw [(h1 j hj).1]
        unfold shr
        rw [show (t : Int) = fL n W m by omega]
    | succ d ih =>
      intro t M' ht h1 h2
      obtain ⟨j, hj, ej⟩ := rank_ex (n := n) hS (t := t) (by omega)
      obtain ⟨b, eb, hb, hbest⟩ := best_loop q (C := C) (J := J) (M := M') (T := T) hm hJ ((d + 1 : Nat) : Int) (R := rsT n W m t) (fun i hi => (h1 i hi).2) (m - 1) 1 0 (by omega) (by omega) (fun i hi => by
        have : i = 0 := by omega
        subst this; exact Or.inr ⟨rfl, Nat.le_refl _⟩)
      have bj := best_is hS hb hj ej hbest
      subst bj
      have b6 := (h1 b hb).1
      rw [b01_f (show ¬ fK n W m b < (t : Int) by omega), Int.add_zero] at b6
      have f0 := fS_r (n := n) hn.1 hS b (hW b hb).2.1
      have fs1 := fS_sum (n := n) hn.1 (fun j hj => (hW j hj).2.1) hS (b + 1) (by omega)
      have fs0 := fS_sum (n := n) hn.1 (fun j hj => (hW j hj).2.1) hS b (by omega)
      rw [sumU] at fs1
      have e1 : Unit → w32 (fS n W m b + 1) = fS n W m b + 1 := fun _ => w32_id (by omega) (by omega)
      have e2 : Unit → w32 (((d + 1 : Nat) : Int) + -1) = (d : Int) := fun _ => by rw [w32_id (by omega) (by omega)]; omega
      obtain ⟨M'', e3, p1, p2⟩ := ih (t + 1) (up2 (up2 M' 6 b (fS n W m b + 1)) 7 b (-1)) (by omega) (fun i hi => by
        have hx := h1 i hi
        by_cases e : i = b
        · subst e
          refine ⟨(up2_ne (by omega)).trans (up2_eq.trans ?_), up2_eq.trans ?_⟩
          · rw [b01_t (show fK n W m i < ((t + 1 : Nat) : Int) by omega)]
          · exact (if_pos (by omega)).symm
        · have ne : fK n W m i ≠ t := fun z => e (rank_inj (n := n) (W := W) hi hb (z.trans ej.symm))
          have iff : (fK n W m i < ((t + 1 : Nat) : Int)) ↔ fK n W m i < (t : Int) := by omega
          refine ⟨(up2_ne (by omega)).trans ((up2_ne (by omega)).trans (hx.1.trans ?_)), (up2_ne (by omega)).trans ((up2_ne (by omega)).trans (hx.2.trans ?_))⟩
          · unfold b01
            by_cases z : fK n W m i < (t : Int)
            · rw [if_pos z, if_pos (iff.mpr z)]
            · rw [if_neg z, if_neg (fun y => z (iff.mp y))]
          · unfold rsT
            by_cases z : fK n W m i < (t : Int)
            · rw [if_pos z, if_pos (iff.mpr z)]
            · rw [if_neg z, if_neg (fun y => z (iff.mp y))]) (fun r a b => by
        rw [← h2 r a b]
        funext y
        exact (up2_ne (by omega)).trans (up2_ne (by omega)))
      refine ⟨M'', ?_, p1, p2⟩
      rw [s1014_101]
      simp only [s1014_102, s1014_105, s1014_106, s1014_108, s1014_109, unJ_I, unJ_J, unJ_F, unJ_R, unJ_N, unJ_U, pushR_I, pushR_J, pushR_F, pushR_R, pushR_N, pushR_U, rfV_s, rfV_n, Option.bind_some, true_or, or_true, if_true]
      rw [if_neg (by omega)]
      refine eb.trans ?_
      simp only [s1014_152, s1014_153, s1014_156, s1014_158, s1014_159, s1014_160, s1014_161, s1014_162, s1014_163, s1014_164, s1014_167, s1014_169, s1014_170, s1014_171, s1014_174, unJ_I, unJ_J, unJ_F, unJ_R, unJ_N, unJ_U, pushR_I, pushR_J, pushR_F, pushR_R, pushR_N, pushR_U, rfV_s, rfV_n, Option.bind_some, true_or, or_true, if_true, lm6, lm7, Int.toNat_natCast, b6, e1 (), e2 ()]
      rw [if_pos (by omega), if_pos (by omega), if_pos (by omega)]
      exact e3
  obtain ⟨M3, e3, p1, p2⟩ := main (fL n W m).toNat 0 Ma (by omega) (fun j hj => by
    have hx := g1 j hj
    have nn : ¬ fK n W m j < ((0 : Nat) : Int) := by
      have := (cntU_r (fun k => fR n W m j < fR n W m k ∨ (fR n W m k = fR n W m j ∧ k < j)) m).1
      unfold fK
      omega
    refine ⟨by rw [b01_f nn, Int.add_zero]; exact hx.1, hx.2.trans ?_⟩
    exact (if_neg nn).symm) g2
  refine ⟨M3, ?_, p1, p2⟩
  simp only [s1014_0, s1014_1, s1014_2, s1014_3, unJ_I, unJ_J, unJ_F, unJ_R, unJ_N, unJ_U, pushR_I, pushR_J, pushR_F, pushR_R, pushR_N, pushR_U, rfV_s, rfV_n, Option.bind_some, true_or, or_true, if_true]
  refine loop1.trans ?_
  rw [s1014_4]
  simp only [s1014_5, s1014_6, s1014_9, s1014_27, s1014_28, s1014_29, s1014_30, unJ_I, unJ_J, unJ_F, unJ_R, unJ_N, unJ_U, pushR_I, pushR_J, pushR_F, pushR_R, pushR_N, pushR_U, rfV_s, rfV_n, Option.bind_some, true_or, or_true, if_true, hJ]
  rw [if_pos (by omega)]
  refine e2.trans ?_
  rw [s1014_32]
  simp only [s1014_34, s1014_35, s1014_38, unJ_I, unJ_J, unJ_F, unJ_R, unJ_N, unJ_U, pushR_I, pushR_J, pushR_F, pushR_R, pushR_N, pushR_U, rfV_s, rfV_n, Option.bind_some, true_or, or_true, if_true, hJ]
  rw [if_pos (by omega)]
  have el : n - sumU (fS n W m) m = (((fL n W m).toNat : Nat) : Int) := by
    have : fL n W m = n - sumU (fS n W m) m := rfl
    omega
  rw [el]
  exact e3
end
