/-! A TRIAL: the ceiling, the greatest blend -/
def por (ls : List Lt) (n : Int) : Prop := ∀ i, i < ls.length → shr n (wtL ls) ls.length i ≤ gsum (lt ls i).2
noncomputable def mostU (p : Int → Prop) : Nat → Int
  | 0 => -4
  | n + 1 => @ite Int (p ((n + 1 : Nat) : Int)) (Classical.propDecidable _) ((n + 1 : Nat) : Int) (mostU p n)
theorem mostU_t {p : Int → Prop} {n : Nat} (h : p ((n + 1 : Nat) : Int)) : mostU p (n + 1) = ((n + 1 : Nat) : Int) := if_pos h
theorem mostU_f {p : Int → Prop} {n : Nat} (h : ¬ p ((n + 1 : Nat) : Int)) : mostU p (n + 1) = mostU p n := if_neg h
theorem mostU_up {p : Int → Prop} {n m : Nat} (h : n ≤ m) (hp : ∀ k : Nat, n < k → k ≤ m → ¬ p k) : mostU p m = mostU p n := by
  obtain ⟨d, rfl⟩ := Nat.exists_eq_add_of_le h
  induction d with
  | zero => rfl
  | succ d ih =>
    rw [← Nat.add_assoc, mostU_f (hp _ (by omega) (by omega))]
    exact ih (by omega) (fun k a b => hp k a (by omega))
theorem por_no {ls : List Lt} (ho : okLs ls) (hS : 0 < sumU (wtL ls) ls.length) {i : Nat} (hi : i < ls.length) {n : Int} (hn : 0 ≤ n) (h : ((gsum (lt ls i).2 + 1) * sumU (wtL ls) ls.length - 1) / wtL ls i < n) (hw : 0 < wtL ls i) : ¬ por ls n := fun z => by
  have a := z i hi
  have b : (gsum (lt ls i).2 + 1) * sumU (wtL ls) ls.length - 1 < n * wtL ls i := by
    exact Int.lt_mul_of_ediv_lt hw h
  have c : gsum (lt ls i).2 + 1 ≤ fS n (wtL ls) ls.length i := Int.le_ediv_of_mul_le hS (by omega)
  unfold shr b01 at a
  split at a <;> omega
section
variable (q : Nat × (Nat → Int)) {I A : M2} {L P : Nat → Nat → Option Nat} {F G : Nat → Nat → UInt32} {D : MD} {l c x : Nat} {w : Lt} {σ : St} {sl : Nat → Nat}
theorem c_ceiling (hL : LoS L c sl) (h : CelAt I A c sl σ) (ho : okLs σ.1) (hS : 0 < sumU (wtL σ.1) σ.1.length) :
    ∃ z : Nat, rs 807 0 [vR 8 0, vR 0 c, vU, vU, vU, vU] [] (SX q, (I, A, L, P, F, G), D) = some (vI z, (SX q, (I, A, L, P, F, G), D)) ∧ z ≤ 10000 ∧ ∀ n : Int, (z : Int) < n → n ≤ 10000 → ¬ por σ.1 n := by
  have h1 := h.1
  have h2 := h.2.1
  have ww : ∀ i, i < σ.1.length → 0 ≤ wtL σ.1 i ∧ wtL σ.1 i ≤ 20 := fun i hi => (ho i hi).1.2.2.2.2.2.1
  have sr := fun i (hi : i ≤ σ.1.length) => sumU_r (f := wtL σ.1) (b := 20) (n := i) (fun k hk => ww k (by omega))
  have k50 : ∀ i, i < σ.1.length → I 50 (sl i) = wtL σ.1 i := fun i hi => (h.2.2.2.1 i hi).2.2.2.2.2.1
  have k45 : ∀ i, i < σ.1.length → I 45 (sl i) = gsum (lt σ.1 i).2 := fun i hi => (h.2.2.2.1 i hi).2.2.2.2.2.2.2.2.1
  have loop1 := rs_loop (m := 807) (pc := 4) (fun i => [vU, vR 0 c, vI (sumU (wtL σ.1) i), vI i, vU, vU]) (fun _ => (SX q, (I, A, L, P, F, G), D)) σ.1.length (fun i hi => by
    have s1 := sr i (by omega)
    have w1 := ww i hi
    have ei : Unit → w32 ((i : Int) + 1) = ((i + 1 : Nat) : Int) := fun _ => by rw [w32_id (by omega) (by omega)]; omega
    have e2 : Unit → w32 (sumU (wtL σ.1) i + wtL σ.1 i) = sumU (wtL σ.1) (i + 1) := fun _ => by rw [sumU]; exact w32_id (by omega) (by omega)
    rw [s807_4]
    simp only [s807_5, s807_6, s807_9, s807_12, s807_13, s807_14, s807_17, s807_17n, s807_19, s807_20, s807_20n, s807_22n, s807_22, s807_25, s807_26, s807_29, s807_29n, s807_31, s807_34, s807_35, s807_36, s807_39, unJ_I, unJ_J, unJ_F, unJ_R, unJ_N, unJ_U, pushR_I, pushR_J, pushR_F, pushR_R, pushR_N, pushR_U, rfV_s, rfV_n, Option.bind_some, true_or, or_true, if_true, c_cat q h hL hi, h1, k50 i hi, ei ()]
    rw [if_neg (by omega), e2 ()])
  obtain ⟨ls', μ', e, z, rfl, rfl, k1, k2⟩ := rs_loopP (m := 807) (pc := 49) (ls := [vU, vR 0 c, vI (sumU (wtL σ.1) σ.1.length), vI 10000, vI 0, vU]) (μ := (SX q, (I, A, L, P, F, G), D)) (fun i ls μ => ∃ z : Nat, μ = (SX q, (I, A, L, P, F, G), D) ∧ ls = [vU, vR 0 c, vI (sumU (wtL σ.1) σ.1.length), vI (z : Int), vI (i : Int), vU] ∧
      z ≤ 10000 ∧ ∀ n : Int, (z : Int) < n → n ≤ 10000 → ¬ por σ.1 n) σ.1.length
    ⟨10000, rfl, rfl, by omega, fun n a b => by omega⟩ (fun i hi ls μ ⟨z, e1, e2, k1, k2⟩ => by
      subst e1 e2
      obtain ⟨o1, o2⟩ := ho i hi
      have og : gsum (lt σ.1 i).2 ≤ 10000 := o1.2.2.2.2.2.2.2.2.2.1
      have s1 := sr σ.1.length (Nat.le_refl _)
      have w1 := ww i hi
      have ei : Unit → w32 ((i : Int) + 1) = ((i + 1 : Nat) : Int) := fun _ => by rw [w32_id (by omega) (by omega)]; omega
      rw [s807_49]
      simp only [s807_51, s807_52, s807_55, s807_58, s807_59, s807_61, s807_64, s807_64n, s807_66, s807_66n, s807_68n, s807_68, s807_71, s807_71n, s807_73, s807_76, unJ_I, unJ_J, unJ_F, unJ_R, unJ_N, unJ_U, pushR_I, pushR_J, pushR_F, pushR_R, pushR_N, pushR_U, rfV_s, rfV_n, Option.bind_some, true_or, or_true, if_true, c_cat q h hL hi, h1, k50 i hi, ei ()]
      rw [if_neg (by omega)]
      by_cases hz : wtL σ.1 i ≤ 0
      · rw [if_pos hz]
        simp only [s807_101, s807_104, unJ_I, unJ_J, unJ_F, unJ_R, unJ_N, unJ_U, pushR_I, pushR_J, pushR_F, pushR_R, pushR_N, pushR_U, rfV_s, rfV_n, Option.bind_some, true_or, or_true, if_true, ei ()]
        exact ⟨_, _, rfl, z, rfl, rfl, k1, k2⟩
      · rw [if_neg hz]
        have m1 : 0 ≤ (gsum (lt σ.1 i).2 + 1) * sumU (wtL σ.1) σ.1.length ∧ (gsum (lt σ.1 i).2 + 1) * sumU (wtL σ.1) σ.1.length ≤ 10001 * 240 := ⟨Int.mul_nonneg (by omega) (by omega), Int.mul_le_mul (by omega) (by omega) (by omega) (by omega)⟩
        have m2 : 1 ≤ (gsum (lt σ.1 i).2 + 1) * sumU (wtL σ.1) σ.1.length := by
          have := Int.mul_le_mul_of_nonneg_right (show 1 ≤ gsum (lt σ.1 i).2 + 1 by omega) (show 0 ≤ sumU (wtL σ.1) σ.1.length by omega)
          omega
        have nn := fun (n : Int) (a : 0 ≤ n) (b : ((gsum (lt σ.1 i).2 + 1) * sumU (wtL σ.1) σ.1.length - 1) / wtL σ.1 i < n) => por_no ho hS hi a b (show 0 < wtL σ.1 i by omega)
        have eg : Unit → w32 (gsum (lt σ.1 i).2 + 1) = gsum (lt σ.1 i).2 + 1 := fun _ => w32_id (by omega) (by omega)
        simp only [s807_79, s807_80, s807_80n, s807_82, s807_85, s807_86, s807_87, s807_88, s807_89, s807_90, s807_91, s807_91n, s807_93, s807_96, s807_97, s807_100, s807_101, s807_104, unJ_I, unJ_J, unJ_F, unJ_R, unJ_N, unJ_U, pushR_I, pushR_J, pushR_F, pushR_R, pushR_N, pushR_U, rfV_s, rfV_n, Option.bind_some, true_or, or_true, if_true, k45 i hi, k50 i hi, eg (), ei ()]
        generalize (gsum (lt σ.1 i).2 + 1) * sumU (wtL σ.1) σ.1.length = t at m1 m2 nn
        have d0 : 0 ≤ (t - 1) / wtL σ.1 i ∧ (t - 1) / wtL σ.1 i ≤ t - 1 := ⟨Int.ediv_nonneg (by omega) (by omega), Int.ediv_le_self _ (by omega)⟩
        rw [w32_id (x := t) (by omega) (by omega), w32_id (x := t - 1) (by omega) (by omega), if_neg (by omega), Int.tdiv_eq_ediv_of_nonneg (by omega), w32_id (x := (t - 1) / wtL σ.1 i) (by omega) (by omega)]
        generalize (t - 1) / wtL σ.1 i = dd at d0 nn
        by_cases hd : dd < z
        · rw [if_pos hd]
          exact ⟨_, _, rfl, dd.toNat, rfl, by rw [Int.toNat_of_nonneg d0.1], by omega, fun n a b => nn n (by omega) (by omega)⟩
        · rw [if_neg hd]
          exact ⟨_, _, rfl, z, rfl, rfl, k1, k2⟩)
  refine ⟨z, ?_, k1, k2⟩
  simp only [s807_0, s807_1, s807_2, s807_3, unJ_I, unJ_J, unJ_F, unJ_R, unJ_N, unJ_U, pushR_I, pushR_J, pushR_F, pushR_R, pushR_N, pushR_U, rfV_s, rfV_n, Option.bind_some, true_or, or_true, if_true]
  refine loop1.trans ?_
  rw [s807_4]
  simp only [s807_5, s807_6, s807_9, s807_42, s807_45, s807_46, s807_47, unJ_I, unJ_J, unJ_F, unJ_R, unJ_N, unJ_U, pushR_I, pushR_J, pushR_F, pushR_R, pushR_N, pushR_U, rfV_s, rfV_n, Option.bind_some, true_or, or_true, if_true, h1]
  rw [if_pos (by omega)]
  refine e.trans ?_
  rw [s807_49]
  simp only [s807_51, s807_52, s807_55, s807_107, s807_108, unJ_I, unJ_J, unJ_F, unJ_R, unJ_N, unJ_U, pushR_I, pushR_J, pushR_F, pushR_R, pushR_N, pushR_U, rfV_s, rfV_n, Option.bind_some, true_or, or_true, if_true, h1]
  rw [if_pos (by omega)]
end
