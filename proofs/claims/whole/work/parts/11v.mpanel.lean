/-! THE MODEL CALLS: panel -/
def shT (M : M2) (m n : Nat) : M2 := fun r j => if r = 10 ∧ m < j ∧ j ≤ n then M r (j - 1) else M r j
theorem shT_s (M : M2) (m n : Nat) (h : m + 1 ≤ n) : up2 (shT M (m + 1) n) 10 (m + 1) (M 10 m) = shT M m n := by
  funext r j
  unfold up2 shT
  by_cases h1 : r = 10 ∧ j = m + 1
  · obtain ⟨rfl, rfl⟩ := h1
    rw [if_pos ⟨rfl, rfl⟩, if_pos (by omega)]
    rfl
  · rw [if_neg h1]
    by_cases h3 : r = 10 ∧ m + 1 < j ∧ j ≤ n
    · rw [if_pos h3, if_pos (by omega)]
    · rw [if_neg h3, if_neg (by omega)]
def W10 (M M' : M2) : Prop := ∀ r, r ≠ 10 → M' r = M r
theorem W10.rf (M : M2) : W10 M M := fun _ _ => rfl
theorem W10.tr {M M1 M2' : M2} (h : W10 M M1) (k : W10 M1 M2') : W10 M M2' := fun r hr => (k r hr).trans (h r hr)
theorem outU_32 (d : Nat → Int) (span : Int) (k : Nat) : ∃ X : Int32, outU d span k = X.toInt := by
  induction k with
  | zero => exact ⟨0, rfl⟩
  | succ k ih =>
    unfold outU
    split
    · exact ⟨_, rfl⟩
    · exact ih
section
variable (q : Nat × (Nat → Int)) {C : MC} {J M T : M2} {t : Int} {X : XS} {σ : St} {gs : List Gx} {s : Nat}
theorem w_ins {n t : Nat} (hn : n < 8) {f : Nat → Int} (hf : ∀ j, j < n → M 10 j = f j) (v : Int) : ∃ M', rs 1046 26 [vR 10 0, vI (s : Int), vI (n : Int), vI (t : Int), vI v, vU] [] (SX q, C, (J, M, T)) = rs 1046 79 [vR 10 0, vI (s : Int), vI (n : Int), vI (t : Int), vI v, vI (posE f v n : Int)] [] (SX q, C, (J, M', T)) ∧ (∀ j, j < n + 1 → M' 10 j = insF f n v j) ∧ W10 M M' := by
  have hp := posE_le f v n
  have loop := rs_loop (m := 1046) (pc := 29) (fun k => [vR 10 0, vI (s : Int), vI (n : Int), vI (t : Int), vI v, vI ((n - k : Nat) : Int)]) (fun k => (SX q, C, (J, shT M (n - k) n, T))) (n - posE f v n) (fun k hk => by
    have hm : n - k = (n - (k + 1)) + 1 := by omega
    have hm2 : n - (k + 1) + 1 ≤ n := by omega
    have hm3 : posE f v n ≤ n - (k + 1) := by omega
    rw [hm]
    generalize n - (k + 1) = m at hm2 hm3
    have gt := posE_hi hm3 (by omega)
    have fm := hf m (by omega)
    have v1 : shT M (m + 1) n 10 m = M 10 m := if_neg (by omega)
    have e1 : Unit → w32 (((m + 1 : Nat) : Int) - 1) = (m : Int) := fun _ => by rw [w32_id (by omega) (by omega)]; omega
    have e2 : Unit → w32 (((m + 1 : Nat) : Int) + -1) = (m : Int) := fun _ => by rw [w32_id (by omega) (by omega)]; omega
    rw [s1046_29]
    simp only [s1046_31, s1046_34, s1046_35, s1046_38, s1046_40, s1046_41, s1046_42, unJ_I, unJ_J, unJ_F, unJ_R, unJ_N, unJ_U, pushR_I, pushR_J, pushR_F, pushR_R, pushR_N, pushR_U, rfV_s, rfV_n, Option.bind_some, true_or, or_true, if_true, lm10, e1 ()]
    rw [if_neg (by omega), if_pos (by omega)]
    simp only [s1046_43, s1046_45, s1046_48, s1046_49, s1046_52, s1046_54, s1046_55, s1046_58, s1046_60, s1046_61, s1046_62, unJ_I, unJ_J, unJ_F, unJ_R, unJ_N, unJ_U, pushR_I, pushR_J, pushR_F, pushR_R, pushR_N, pushR_U, rfV_s, rfV_n, Option.bind_some, true_or, or_true, if_true, lm10, e1 (), Int.toNat_natCast, v1]
    rw [if_neg (by omega), if_pos (by omega)]
    simp only [s1046_63, s1046_64, s1046_67, unJ_I, unJ_J, unJ_F, unJ_R, unJ_N, unJ_U, pushR_I, pushR_J, pushR_F, pushR_R, pushR_N, pushR_U, rfV_s, rfV_n, Option.bind_some, true_or, or_true, if_true, lm10, e2 (), Int.toNat_natCast]
    rw [if_pos (by omega), shT_s M m n hm2])
  have a0 : M = shT M (n - 0) n := by
    funext r j
    unfold shT
    rw [if_neg (by omega)]
  have e0 : rs 1046 29 [vR 10 0, vI (s : Int), vI (n : Int), vI (t : Int), vI v, vI (n : Int)] [] (SX q, C, (J, M, T)) = rs 1046 29 [vR 10 0, vI (s : Int), vI (n : Int), vI (t : Int), vI v, vI ((n - 0 : Nat) : Int)] [] (SX q, C, (J, shT M (n - 0) n, T)) := by rw [← a0]; rfl
  simp only [s1046_26, s1046_27, unJ_I, unJ_J, unJ_F, unJ_R, unJ_N, unJ_U, pushR_I, pushR_J, pushR_F, pushR_R, pushR_N, pushR_U, rfV_s, rfV_n, Option.bind_some, true_or, or_true, if_true]
  rw [e0, loop, show n - (n - posE f v n) = posE f v n by omega]
  have out : rs 1046 29 [vR 10 0, vI (s : Int), vI (n : Int), vI (t : Int), vI v, vI (posE f v n : Int)] [] (SX q, C, (J, shT M (posE f v n) n, T)) = rs 1046 70 [vR 10 0, vI (s : Int), vI (n : Int), vI (t : Int), vI v, vI (posE f v n : Int)] [] (SX q, C, (J, shT M (posE f v n) n, T)) := by
    rw [s1046_29]
    by_cases hz : posE f v n = 0
    · simp only [s1046_31, hz]
      rw [if_pos (by omega)]
    · have lo := posE_lo (f := f) (v := v) (n := n) (by omega)
      have e1 : Unit → w32 ((posE f v n : Int) - 1) = ((posE f v n - 1 : Nat) : Int) := fun _ => by rw [w32_id (by omega) (by omega)]; omega
      have v1 : shT M (posE f v n) n 10 (posE f v n - 1) = f (posE f v n - 1) := (if_neg (by omega)).trans (hf _ (by omega))
      simp only [s1046_31, s1046_34, s1046_35, s1046_38, s1046_40, s1046_41, s1046_42, unJ_I, unJ_J, unJ_F, unJ_R, unJ_N, unJ_U, pushR_I, pushR_J, pushR_F, pushR_R, pushR_N, pushR_U, rfV_s, rfV_n, Option.bind_some, true_or, or_true, if_true, lm10, e1 ()]
      rw [if_neg (by omega), if_pos (by omega)]
      simp only [s1046_43, s1046_45, unJ_I, unJ_J, unJ_F, unJ_R, unJ_N, unJ_U, pushR_I, pushR_J, pushR_F, pushR_R, pushR_N, pushR_U, rfV_s, rfV_n, Option.bind_some, true_or, or_true, if_true, Int.toNat_natCast, v1]
      rw [if_pos lo]
  rw [out]
  simp only [s1046_70, s1046_71, s1046_74, s1046_76, s1046_78, unJ_I, unJ_J, unJ_F, unJ_R, unJ_N, unJ_U, pushR_I, pushR_J, pushR_F, pushR_R, pushR_N, pushR_U, rfV_s, rfV_n, Option.bind_some, true_or, or_true, if_true, lm10, Int.toNat_natCast]
  rw [if_pos (by omega)]
  refine ⟨_, rfl, fun j hj => ?_, fun r hr => ?_⟩
  · unfold insF
    by_cases c1 : j < posE f v n
    · rw [if_pos c1, up2_ne (by omega)]
      exact (if_neg (by omega)).trans (hf j (by omega))
    · rw [if_neg c1]
      by_cases c2 : j = posE f v n
      · rw [if_pos c2, c2, up2_eq]
      · rw [if_neg c2, up2_ne (by omega)]
        exact (if_pos ⟨rfl, by omega, by omega⟩).trans (hf _ (by omega))
  · funext j
    rw [up2_ne (by omega)]
    exact if_neg (by omega)
/-- one score of a lot -/
theorem w_sco (h : MRow (M 0) σ gs) (hs : s < σ.1.length) {t : Nat} (ht : t < 8) : w32 (6 + (t : Int)) = ((6 + t : Nat) : Int) ∧ rs 1008 0 [vR 10 0, vI (s : Int), vI ((6 + t : Nat) : Int)] [] (SX q, C, (J, M, T)) = some (vI ((lt σ.1 s).1 (6 + t)), (SX q, C, (J, M, T))) :=
  ⟨by rw [w32_id (by omega) (by omega)]; omega, w_at q h hs (by omega)⟩
/-- middleOf -/
theorem w_mid (h : MRow (M 0) σ gs) (hs : s < σ.1.length) (hd : okSc (lt σ.1 s).1) (hq : 0 < scN (lt σ.1 s)) : ∃ M', rs 1046 0 [vR 10 0, vI (s : Int), vU, vU, vU, vU] [] (SX q, C, (J, M, T)) = some (vI (midU (lt σ.1 s).1), (SX q, C, (J, M', T))) ∧ W10 M M' := by
  obtain ⟨ls', μ', e, Ma, rfl, rfl, k1, k2⟩ := rs_loopP (m := 1046) (pc := 4) (ls := [vR 10 0, vI (s : Int), vI 0, vI 0, vU, vU]) (μ := (SX q, C, (J, M, T))) (fun t ls μ => ∃ M', μ = (SX q, C, (J, M', T)) ∧ ls = [vR 10 0, vI (s : Int), vI ((arrU (lt σ.1 s).1 t).1 : Int), vI (t : Int), vU, vU] ∧
      (∀ j, j < (arrU (lt σ.1 s).1 t).1 → M' 10 j = (arrU (lt σ.1 s).1 t).2 j) ∧ W10 M M') 8
    ⟨_, rfl, rfl, fun j hj => absurd hj (Nat.not_lt_zero _), W10.rf M⟩ (fun t ht ls μ ⟨M', e1, e2, k1, k2⟩ => by
      subst e1 e2
      have hM : MRow (M' 0) σ gs := by rw [k2 0 (by omega)]; exact h
      obtain ⟨e6, at6⟩ := w_sco q (C := C) (J := J) (T := T) hM hs ht
      have dt := hd t ht
      have na := arrU_le (lt σ.1 s).1 t
      have et : Unit → w32 ((t : Int) + 1) = ((t + 1 : Nat) : Int) := fun _ => by rw [w32_id (by omega) (by omega)]; omega
      have en : Unit → w32 (((arrU (lt σ.1 s).1 t).1 : Int) + 1) = (((arrU (lt σ.1 s).1 t).1 + 1 : Nat) : Int) := fun _ => by rw [w32_id (by omega) (by omega)]; omega
      rw [s1046_4]
      simp only [s1046_5, s1046_7, s1046_10, s1046_11, s1046_12, s1046_14, s1046_15, s1046_16, unJ_I, unJ_J, unJ_F, unJ_R, unJ_N, unJ_U, pushR_I, pushR_J, pushR_F, pushR_R, pushR_N, pushR_U, rfV_s, rfV_n, Option.bind_some, true_or, or_true, if_true, e6]
      rw [if_neg (by omega)]
      have at6' := at6
      rw [at6']
      simp only [s1046_19, s1046_21, s1046_23, unJ_I, unJ_J, unJ_F, unJ_R, unJ_N, unJ_U, pushR_I, pushR_J, pushR_F, pushR_R, pushR_N, pushR_U, rfV_s, rfV_n, Option.bind_some, true_or, or_true, if_true]
      by_cases hz : (lt σ.1 s).1 (6 + t) = -1
      · rw [if_pos (by omega)]
        simp only [s1046_82, s1046_85, unJ_I, unJ_J, unJ_F, unJ_R, unJ_N, unJ_U, pushR_I, pushR_J, pushR_F, pushR_R, pushR_N, pushR_U, rfV_s, rfV_n, Option.bind_some, true_or, or_true, if_true, et ()]
        exact ⟨_, _, rfl, M', rfl, by rw [arrU, if_pos hz], by rw [arrU, if_pos hz]; exact k1, k2⟩
      · rw [if_neg (by omega)]
        obtain ⟨M3, e3, f1, f2⟩ := w_ins q (C := C) (J := J) (M := M') (T := T) (s := s) (t := t) (show (arrU (lt σ.1 s).1 t).1 < 8 by omega) k1 ((lt σ.1 s).1 (6 + t))
        rw [e3]
        simp only [s1046_79, s1046_82, s1046_85, unJ_I, unJ_J, unJ_F, unJ_R, unJ_N, unJ_U, pushR_I, pushR_J, pushR_F, pushR_R, pushR_N, pushR_U, rfV_s, rfV_n, Option.bind_some, true_or, or_true, if_true, et (), en ()]
        exact ⟨_, _, rfl, M3, rfl, by rw [arrU, if_neg hz], by rw [arrU, if_neg hz]; exact f1, k2.tr f2⟩)
  have an := arrU_n (lt σ.1 s).1 8
  have al := arrU_le (lt σ.1 s).1 8
  have sn : scN (lt σ.1 s) = ((arrU (lt σ.1 s).1 8).1 : Int) := an.symm
  have e2 : Unit → w32 (Int.tdiv (w32 (((arrU (lt σ.1 s).1 8).1 : Int) - 1)) 2) = ((((arrU (lt σ.1 s).1 8).1 - 1) / 2 : Nat) : Int) := fun _ => by
    rw [w32_id (x := ((arrU (lt σ.1 s).1 8).1 : Int) - 1) (by omega) (by omega), Int.tdiv_eq_ediv_of_nonneg (by omega), w32_id (by omega) (by omega)]
    omega
  refine ⟨Ma, ?_, k2⟩
  simp only [s1046_0, s1046_1, s1046_2, s1046_3, unJ_I, unJ_J, unJ_F, unJ_R, unJ_N, unJ_U, pushR_I, pushR_J, pushR_F, pushR_R, pushR_N, pushR_U, rfV_s, rfV_n, Option.bind_some, true_or, or_true, if_true]
  refine e.trans ?_
  rw [s1046_4]
  simp only [s1046_5, s1046_7, s1046_88, s1046_89, s1046_92, s1046_93, s1046_94, s1046_95, s1046_96, unJ_I, unJ_J, unJ_F, unJ_R, unJ_N, unJ_U, pushR_I, pushR_J, pushR_F, pushR_R, pushR_N, pushR_U, rfV_s, rfV_n, Option.bind_some, true_or, or_true, if_true]
  rw [if_pos (by omega), if_neg (by omega), e2 ()]
  simp only [s1046_97, s1046_98, unJ_I, unJ_J, unJ_F, unJ_R, unJ_N, unJ_U, pushR_I, pushR_J, pushR_F, pushR_R, pushR_N, pushR_U, rfV_s, rfV_n, Option.bind_some, true_or, or_true, if_true, lm10, Int.toNat_natCast]
  rw [if_pos (by omega), k1 _ (by omega)]
  rfl
/-- isOutlier -/
theorem w_out (h : MRow (M 0) σ gs) (hs : s < σ.1.length) (hd : okSc (lt σ.1 s).1) (hq : 0 < scN (lt σ.1 s)) {t : Nat} (ht : t < 8) : rs 1047 0 [vR 10 0, vI (s : Int), vI (t : Int), vI (midU (lt σ.1 s).1), vU] [] (SX q, C, (J, M, T)) = some (vI (b01 (isOut (lt σ.1 s).1 (σ.2.2.1 1) t)), (SX q, C, (J, M, T))) := by
  obtain ⟨e6, at6⟩ := w_sco q (C := C) (J := J) (T := T) h hs ht
  have dt := hd t ht
  have m05 : M 0 5 = σ.2.2.1 1 := h.2.2.1 1 (by omega)
  have an := arrU_n (lt σ.1 s).1 8
  have sn : scN (lt σ.1 s) = ((arrU (lt σ.1 s).1 8).1 : Int) := an.symm
  obtain ⟨u, u1, u2, u3⟩ := mid_mem (d := (lt σ.1 s).1) (by omega)
  have mr := hd u u1
  have ed : Unit → w32 ((lt σ.1 s).1 (6 + t) - midU (lt σ.1 s).1) = (lt σ.1 s).1 (6 + t) - midU (lt σ.1 s).1 := fun _ => w32_id (by omega) (by omega)
  have ea : Unit → w32 (-((lt σ.1 s).1 (6 + t) - midU (lt σ.1 s).1)) = -((lt σ.1 s).1 (6 + t) - midU (lt σ.1 s).1) := fun _ => by rw [w32_id (by omega) (by omega)]
  have eA : (if 0 ≤ (lt σ.1 s).1 (6 + t) - midU (lt σ.1 s).1 then (lt σ.1 s).1 (6 + t) - midU (lt σ.1 s).1 else -((lt σ.1 s).1 (6 + t) - midU (lt σ.1 s).1)) = absI ((lt σ.1 s).1 (6 + t) - midU (lt σ.1 s).1) := rfl
  simp only [s1047_0, s1047_1, s1047_2, s1047_4, s1047_5, s1047_6, unJ_I, unJ_J, unJ_F, unJ_R, unJ_N, unJ_U, pushR_I, pushR_J, pushR_F, pushR_R, pushR_N, pushR_U, rfV_s, rfV_n, Option.bind_some, true_or, or_true, if_true, e6]
  refine (congrArg (fun o => Option.bind o _) at6).trans ?_
  simp only [s1047_9, s1047_10, s1047_11, s1047_13, s1047_14, s1047_15, s1047_17, s1047_18, s1047_19, unJ_I, unJ_J, unJ_F, unJ_R, unJ_N, unJ_U, pushR_I, pushR_J, pushR_F, pushR_R, pushR_N, pushR_U, rfV_s, rfV_n, Option.bind_some, true_or, or_true, if_true, e6, ed ()]
  refine (congrArg (fun o => Option.bind o _) at6).trans ?_
  unfold b01
  by_cases hz : (lt σ.1 s).1 (6 + t) = -1
  · simp only [s1047_22, s1047_51, s1047_52, unJ_I, unJ_J, unJ_F, unJ_R, unJ_N, unJ_U, pushR_I, pushR_J, pushR_F, pushR_R, pushR_N, pushR_U, rfV_s, rfV_n, Option.bind_some, true_or, or_true, if_true]
    rw [if_pos (by omega), if_neg (fun z => z.1 hz)]
  · simp only [s1047_22, s1047_25, s1047_27, s1047_30, s1047_32, s1047_33, s1047_36, s1047_38, unJ_I, unJ_J, unJ_F, unJ_R, unJ_N, unJ_U, pushR_I, pushR_J, pushR_F, pushR_R, pushR_N, pushR_U, rfV_s, rfV_n, Option.bind_some, true_or, or_true, if_true, ea ()]
    rw [if_neg (by omega)]
    have fin : ∀ v : Int, v = absI ((lt σ.1 s).1 (6 + t) - midU (lt σ.1 s).1) → ∀ l4 : AV, rs 1047 38 [vR 10 0, vI (s : Int), vI (t : Int), vI (midU (lt σ.1 s).1), l4] [vI v] (SX q, C, (J, M, T)) = some (vI (if isOut (lt σ.1 s).1 (σ.2.2.1 1) t then 1 else 0), (SX q, C, (J, M, T))) := fun v hv l4 => by
      simp only [s1047_38, s1047_39, s1047_42, s1047_43, unJ_I, unJ_J, unJ_F, unJ_R, unJ_N, unJ_U, pushR_I, pushR_J, pushR_F, pushR_R, pushR_N, pushR_U, rfV_s, rfV_n, Option.bind_some, true_or, or_true, if_true, lm0]
      rw [if_pos (by omega)]
      simp only [show Int.toNat 5 = 5 from rfl, m05]
      simp only [s1047_44, s1047_47, s1047_48, s1047_51, s1047_52, unJ_I, unJ_J, unJ_F, unJ_R, unJ_N, unJ_U, pushR_I, pushR_J, pushR_F, pushR_R, pushR_N, pushR_U, rfV_s, rfV_n, Option.bind_some, true_or, or_true, if_true]
      by_cases c : v ≤ σ.2.2.1 1
      · rw [if_pos c, if_neg (fun z => by have := z.2; omega)]
      · rw [if_neg c, if_pos ⟨hz, by omega⟩]
    by_cases c : 0 ≤ (lt σ.1 s).1 (6 + t) - midU (lt σ.1 s).1
    · rw [if_pos c]
      rw [if_pos c] at eA
      refine Eq.trans ?_ (fin _ eA (vI ((lt σ.1 s).1 (6 + t) - midU (lt σ.1 s).1)))
      simp only [s1047_38, unJ_I, unJ_J, unJ_F, unJ_R, unJ_N, unJ_U, pushR_I, pushR_J, pushR_F, pushR_R, pushR_N, pushR_U, rfV_s, rfV_n, Option.bind_some, true_or, or_true, if_true]
    · rw [if_neg c]
      rw [if_neg c] at eA
      refine Eq.trans ?_ (fin _ eA (vI ((lt σ.1 s).1 (6 + t) - midU (lt σ.1 s).1)))
      simp only [s1047_38, unJ_I, unJ_J, unJ_F, unJ_R, unJ_N, unJ_U, pushR_I, pushR_J, pushR_F, pushR_R, pushR_N, pushR_U, rfV_s, rfV_n, Option.bind_some, true_or, or_true, if_true]
end
