/-! THE MODEL: order -/
def mkK (gs : List Gx) (idx : Nat → Nat) (j : Nat) : Int := mk (gg gs (idx j)).2.1
def insI (idx : Nat → Nat) (p k : Nat) : Nat → Nat := fun j => if j < p then idx j else if j = p then k else idx (j - 1)
def shM (M : M2) (m n : Nat) : M2 := fun r j => if r = 8 ∧ m < j ∧ j ≤ n then M r (j - 1) else M r j
theorem shM_s (M : M2) (m n : Nat) (h : m + 1 ≤ n) : up2 (shM M (m + 1) n) 8 (m + 1) (M 8 m) = shM M m n := by
  funext r j
  unfold up2 shM
  by_cases h1 : r = 8 ∧ j = m + 1
  · obtain ⟨rfl, rfl⟩ := h1
    rw [if_pos ⟨rfl, rfl⟩, if_pos (by omega)]
    rfl
  · rw [if_neg h1]
    by_cases h3 : r = 8 ∧ m + 1 < j ∧ j ≤ n
    · rw [if_pos h3, if_pos (by omega)]
    · rw [if_neg h3, if_neg (by omega)]
section
variable (q : Nat × (Nat → Int)) {C : MC} {J M T : M2} {σ : St} {gs : List Gx}
theorem ord_in (h : MRow (M 0) σ gs) {x : Int} {n k : Nat} (hk : k < gs.length) (hn : n ≤ k) {idx : Nat → Nat} (hi : ∀ j, j < n → M 8 j = (idx j : Int) ∧ idx j < gs.length) :
    ∃ M', rs 1013 32 [vR 10 0, vI x, vI (k : Int), vI (n : Int)] [] (SX q, C, (J, M, T)) = rs 1013 85 [vR 10 0, vI x, vI (k : Int), vI (posE (mkK gs idx) (mk (gg gs k).2.1) n : Int)] [] (SX q, C, (J, M', T)) ∧
      (∀ j, j < n + 1 → M' 8 j = (insI idx (posE (mkK gs idx) (mk (gg gs k).2.1) n) k j : Int)) ∧ ∀ r, r ≠ 8 → M' r = M r := by
  have b2 := h.2.1.2.1
  generalize hv : mk (gg gs k).2.1 = v
  have hp := posE_le (mkK gs idx) v n
  have rowk : ∀ {M1 : M2}, M1 0 = M 0 → ∀ {j : Nat}, j < gs.length → rs 1010 0 [vR 10 0, vI (j : Int), vI 1] [] (SX q, C, (J, M1, T)) = some (vI (mk (gg gs j).2.1), (SX q, C, (J, M1, T))) := fun {M1} hm {j} hj => (w_cell q (C := C) (J := J) (M := M1) (T := T) h hm hj).2.1
  have m0 : ∀ m, shM M m n 0 = M 0 := fun m => by funext y; exact if_neg (by omega)
  have loop := rs_loop (m := 1013) (pc := 32) (fun d => [vR 10 0, vI x, vI (k : Int), vI ((n - d : Nat) : Int)]) (fun d => (SX q, C, (J, shM M (n - d) n, T))) (n - posE (mkK gs idx) v n) (fun d hd => by
    have hm : n - d = (n - (d + 1)) + 1 := by omega
    have hm2 : n - (d + 1) + 1 ≤ n := by omega
    have hm3 : posE (mkK gs idx) v n ≤ n - (d + 1) := by omega
    rw [hm]
    generalize n - (d + 1) = m at hm2 hm3
    have gt := posE_hi hm3 (by omega)
    obtain ⟨f1, f2⟩ := hi m (by omega)
    have v1 : shM M (m + 1) n 8 m = (idx m : Int) := (if_neg (by omega)).trans f1
    have e1 : Unit → w32 (((m + 1 : Nat) : Int) - 1) = (m : Int) := fun _ => by rw [w32_id (by omega) (by omega)]; omega
    have e2 : Unit → w32 (((m + 1 : Nat) : Int) + -1) = (m : Int) := fun _ => by rw [w32_id (by omega) (by omega)]; omega
    have c1 := rowk (m0 (m + 1)) f2
    have c2 := rowk (m0 (m + 1)) hk
    rw [hv] at c2
    have gt' : v < mk (gg gs (idx m)).2.1 := gt
    have st := shM_s M m n hm2
    rw [f1] at st
    rw [s1013_32]
    simp only [s1013_33, s1013_36, s1013_37, s1013_38, s1013_41, s1013_42, s1013_43, s1013_44, unJ_I, unJ_J, unJ_F, unJ_R, unJ_N, unJ_U, pushR_I, pushR_J, pushR_F, pushR_R, pushR_N, pushR_U, rfV_s, rfV_n, Option.bind_some, true_or, or_true, if_true, lm8, e1 (), Int.toNat_natCast, v1]
    rw [if_neg (by omega), if_pos (by omega)]
    simp only [s1013_45, s1013_46, unJ_I, unJ_J, unJ_F, unJ_R, unJ_N, unJ_U, pushR_I, pushR_J, pushR_F, pushR_R, pushR_N, pushR_U, rfV_s, rfV_n, Option.bind_some, true_or, or_true, if_true]
    refine (congrArg (fun o => Option.bind o _) c1).trans ?_
    simp only [s1013_49, s1013_50, s1013_51, s1013_52, unJ_I, unJ_J, unJ_F, unJ_R, unJ_N, unJ_U, pushR_I, pushR_J, pushR_F, pushR_R, pushR_N, pushR_U, rfV_s, rfV_n, Option.bind_some, true_or, or_true, if_true]
    refine (congrArg (fun o => Option.bind o _) c2).trans ?_
    simp only [s1013_55, unJ_I, unJ_J, unJ_F, unJ_R, unJ_N, unJ_U, pushR_I, pushR_J, pushR_F, pushR_R, pushR_N, pushR_U, rfV_s, rfV_n, Option.bind_some, true_or, or_true, if_true]
    rw [if_neg (by omega)]
    simp only [s1013_58, s1013_59, s1013_62, s1013_63, s1013_64, s1013_67, s1013_68, s1013_69, s1013_70, s1013_71, s1013_72, s1013_75, unJ_I, unJ_J, unJ_F, unJ_R, unJ_N, unJ_U, pushR_I, pushR_J, pushR_F, pushR_R, pushR_N, pushR_U, rfV_s, rfV_n, Option.bind_some, true_or, or_true, if_true, lm8, e1 (), e2 (), Int.toNat_natCast, v1]
    rw [if_pos (by omega), if_pos (by omega), st])
  have a0 : M = shM M (n - 0) n := by
    funext r j
    unfold shM
    rw [if_neg (by omega)]
  have e0 : rs 1013 32 [vR 10 0, vI x, vI (k : Int), vI (n : Int)] [] (SX q, C, (J, M, T)) = rs 1013 32 [vR 10 0, vI x, vI (k : Int), vI ((n - 0 : Nat) : Int)] [] (SX q, C, (J, shM M (n - 0) n, T)) := by rw [← a0]; rfl
  rw [e0, loop, show n - (n - posE (mkK gs idx) v n) = posE (mkK gs idx) v n by omega]
  have out : rs 1013 32 [vR 10 0, vI x, vI (k : Int), vI (posE (mkK gs idx) v n : Int)] [] (SX q, C, (J, shM M (posE (mkK gs idx) v n) n, T)) = rs 1013 78 [vR 10 0, vI x, vI (k : Int), vI (posE (mkK gs idx) v n : Int)] [] (SX q, C, (J, shM M (posE (mkK gs idx) v n) n, T)) := by
    rw [s1013_32]
    by_cases hz : posE (mkK gs idx) v n = 0
    · simp only [s1013_33, hz]
      rw [if_pos (by omega)]
    · have lo := posE_lo (f := mkK gs idx) (v := v) (n := n) (by omega)
      obtain ⟨f1, f2⟩ := hi (posE (mkK gs idx) v n - 1) (by omega)
      have v1 : shM M (posE (mkK gs idx) v n) n 8 (posE (mkK gs idx) v n - 1) = (idx (posE (mkK gs idx) v n - 1) : Int) := (if_neg (by omega)).trans f1
      have e1 : Unit → w32 ((posE (mkK gs idx) v n : Int) - 1) = ((posE (mkK gs idx) v n - 1 : Nat) : Int) := fun _ => by rw [w32_id (by omega) (by omega)]; omega
      have c1 := rowk (m0 (posE (mkK gs idx) v n)) f2
      have c2 := rowk (m0 (posE (mkK gs idx) v n)) hk
      rw [hv] at c2
      have lo' : mk (gg gs (idx (posE (mkK gs idx) v n - 1))).2.1 ≤ v := lo
      simp only [s1013_33, s1013_36, s1013_37, s1013_38, s1013_41, s1013_42, s1013_43, s1013_44, unJ_I, unJ_J, unJ_F, unJ_R, unJ_N, unJ_U, pushR_I, pushR_J, pushR_F, pushR_R, pushR_N, pushR_U, rfV_s, rfV_n, Option.bind_some, true_or, or_true, if_true, lm8, e1 (), Int.toNat_natCast, v1]
      rw [if_neg (by omega), if_pos (by omega)]
      simp only [s1013_45, s1013_46, unJ_I, unJ_J, unJ_F, unJ_R, unJ_N, unJ_U, pushR_I, pushR_J, pushR_F, pushR_R, pushR_N, pushR_U, rfV_s, rfV_n, Option.bind_some, true_or, or_true, if_true]
      refine (congrArg (fun o => Option.bind o _) c1).trans ?_
      simp only [s1013_49, s1013_50, s1013_51, s1013_52, unJ_I, unJ_J, unJ_F, unJ_R, unJ_N, unJ_U, pushR_I, pushR_J, pushR_F, pushR_R, pushR_N, pushR_U, rfV_s, rfV_n, Option.bind_some, true_or, or_true, if_true]
      refine (congrArg (fun o => Option.bind o _) c2).trans ?_
      simp only [s1013_55, unJ_I, unJ_J, unJ_F, unJ_R, unJ_N, unJ_U, pushR_I, pushR_J, pushR_F, pushR_R, pushR_N, pushR_U, rfV_s, rfV_n, Option.bind_some, true_or, or_true, if_true]
      rw [if_pos lo']
  rw [out]
  simp only [s1013_78, s1013_79, s1013_82, s1013_83, s1013_84, unJ_I, unJ_J, unJ_F, unJ_R, unJ_N, unJ_U, pushR_I, pushR_J, pushR_F, pushR_R, pushR_N, pushR_U, rfV_s, rfV_n, Option.bind_some, true_or, or_true, if_true, lm8, Int.toNat_natCast]
  rw [if_pos (by omega)]
  refine ⟨_, rfl, fun j hj => ?_, fun r hr => ?_⟩
  · unfold insI
    by_cases c1 : j < posE (mkK gs idx) v n
    · rw [if_pos c1, up2_ne (by omega)]
      exact (if_neg (by omega)).trans (hi j (by omega)).1
    · rw [if_neg c1]
      by_cases c2 : j = posE (mkK gs idx) v n
      · rw [if_pos c2, c2, up2_eq]
      · rw [if_neg c2, up2_ne (by omega)]
        exact (if_pos ⟨rfl, by omega, by omega⟩).trans (hi _ (by omega)).1
  · funext y
    rw [up2_ne (by omega)]
    exact if_neg (by omega)
theorem w_order (h : MRow (M 0) σ gs) (ho : okGx gs) {x : Int} {g : Gr} (hg : upG g) (hm : ∀ y, y ∈ g ↔ (x, y.1, y.2) ∈ gs) :
    ∃ J' M' idx, rs 1013 0 [vR 10 0, vI x, vU, vU] [] (SX q, C, (J, M, T)) = some (vU, (SX q, C, (J', M', T))) ∧ J' 213 0 = g.length ∧ (∀ j, j < g.length → M' 8 j = ((idx : Nat → Nat) j : Int) ∧ idx j < gs.length ∧ gg gs (idx j) = (x, gk g j, gv g j)) ∧
      (∀ f y, f ≠ 213 → J' f y = J f y) ∧ ∀ r, r ≠ 8 → M' r = M r := by
  have a2 := h.1.2.2.1
  have b2 := h.2.1.2.1
  have kr : ∀ i, i < gs.length → 0 ≤ (gg gs i).2.1 ∧ (gg gs i).2.1 < 5120 := fun i hi => by have := ho.1 _ (gg_mem hi); omega
  obtain ⟨ls', μ', e, J2, M2, n, idx, rfl, rfl, k1, k2, k3, k4, k5, k6, k7⟩ := rs_loopP (m := 1013) (pc := 7) (ls := [vR 10 0, vI x, vI 0, vU]) (μ := (SX q, C, (up2 J 213 0 0, M, T))) (fun k ls μ => ∃ (J' M' : M2) (n : Nat) (idx : Nat → Nat), μ = (SX q, C, (J', M', T)) ∧ ls = [vR 10 0, vI x, vI (k : Int), vU] ∧
      (J' 213 0 = n ∧ n ≤ k) ∧ (∀ j, j < n → M' 8 j = (idx j : Int) ∧ idx j < k ∧ (gg gs (idx j)).1 = x) ∧ (∀ i j, i < j → j < n → mkK gs idx i < mkK gs idx j) ∧ (∀ i, i < k → (gg gs i).1 = x → ∃ j, j < n ∧ idx j = i) ∧ k ≤ gs.length ∧ (∀ f y, f ≠ 213 → J' f y = J f y) ∧ ∀ r, r ≠ 8 → M' r = M r) gs.length
    ⟨_, _, 0, fun _ => 0, rfl, rfl, ⟨up2_eq, Nat.le_refl _⟩, fun j hj => absurd hj (Nat.not_lt_zero _), fun i j _ hj => absurd hj (Nat.not_lt_zero _), fun i hi => absurd hi (Nat.not_lt_zero _), Nat.zero_le _, fun f y a => up2_ne (by omega), fun _ _ => rfl⟩ (fun k hk ls μ ⟨J', M', n, idx, e1, e2, ⟨k1, k1'⟩, k2, k3, k4, k5, k6, k7⟩ => by
      subst e1 e2
      have m0 : M' 0 = M 0 := k7 0 (by omega)
      have hM : MRow (M' 0) σ gs := by rw [m0]; exact h
      have ek : Unit → w32 ((k : Int) + 1) = ((k + 1 : Nat) : Int) := fun _ => by rw [w32_id (by omega) (by omega)]; omega
      have en : Unit → w32 ((n : Int) + 1) = ((n + 1 : Nat) : Int) := fun _ => by rw [w32_id (by omega) (by omega)]; omega
      obtain ⟨c0, c1, c2⟩ := w_cell q (C := C) (J := J') (T := T) hM rfl hk
      rw [s1013_7]
      simp only [s1013_8, s1013_9, s1013_12, s1013_13, s1013_14, unJ_I, unJ_J, unJ_F, unJ_R, unJ_N, unJ_U, pushR_I, pushR_J, pushR_F, pushR_R, pushR_N, pushR_U, rfV_s, rfV_n, Option.bind_some, true_or, or_true, if_true, lm0]
      rw [if_pos (by omega), m0]
      simp only [show Int.toNat 2 = 2 from rfl, a2]
      rw [if_neg (by omega)]
      simp only [s1013_17, s1013_18, s1013_19, s1013_20, unJ_I, unJ_J, unJ_F, unJ_R, unJ_N, unJ_U, pushR_I, pushR_J, pushR_F, pushR_R, pushR_N, pushR_U, rfV_s, rfV_n, Option.bind_some, true_or, or_true, if_true]
      refine Exists.intro [vR 10 0, vI x, vI ((k + 1 : Nat) : Int), vU] ?_
      by_cases hz : (gg gs k).1 = x
      · obtain ⟨M3, e3, f1, f2⟩ := ord_in q (C := C) (J := J') (M := M') (T := T) (x := x) hM hk k1' (idx := idx) (fun j hj => ⟨(k2 j hj).1, by have := (k2 j hj).2.1; omega⟩)
        generalize hp : posE (mkK gs idx) (mk (gg gs k).2.1) n = p at e3 f1
        have ple : p ≤ n := by rw [← hp]; exact posE_le _ _ _
        have hi : ∀ j, p ≤ j → j < n → mk (gg gs k).2.1 < mkK gs idx j := fun j a b => posE_hi (by rw [hp]; exact a) b
        have lo : ∀ j, j < p → mkK gs idx j < mk (gg gs k).2.1 := fun j hj => by
          have l1 : mkK gs idx (p - 1) ≤ mk (gg gs k).2.1 := by
            have := posE_lo (f := mkK gs idx) (v := mk (gg gs k).2.1) (n := n) (by rw [hp]; omega)
            rw [hp] at this
            exact this
          have l2 : mkK gs idx j ≤ mkK gs idx (p - 1) := by
            by_cases e : j = p - 1
            · rw [e]; exact Int.le_refl _
            · have := k3 j (p - 1) (by omega) (by omega); omega
          have kj := k2 j (by omega)
          have ne := gg_ne ho (i := idx j) (j := k) (by omega) hk (by omega)
          have l3 : mkK gs idx j ≠ mk (gg gs k).2.1 := fun z => by
            have := (mk_eq (kr (idx j) (by omega)) (kr k hk)).mp z
            exact ne ⟨by rw [kj.2.2, hz], this⟩
          omega
        have val : ∀ j, j < n + 1 → (j < p → insI idx p k j = idx j) ∧ (j = p → insI idx p k j = k) ∧ (p < j → insI idx p k j = idx (j - 1)) := fun j hj => by
          unfold insI
          exact ⟨fun z => if_pos z, fun z => by rw [if_neg (by omega), if_pos z], fun z => by rw [if_neg (by omega), if_neg (by omega)]⟩
        refine ⟨(SX q, C, (up2 J' 213 0 ((n + 1 : Nat) : Int), M3, T)), ?_, up2 J' 213 0 ((n + 1 : Nat) : Int), M3, n + 1, insI idx p k, rfl, rfl, ⟨up2_eq, by omega⟩, fun j hj => ⟨f1 j hj, ?_⟩, fun i j hij hj => ?_, fun i hi2 hx => ?_, by omega, fun f y a => (up2_ne (by omega)).trans (k6 f y a), fun r hr => (f2 r hr).trans (k7 r hr)⟩
        · refine (congrArg (fun o => Option.bind o _) c0).trans ?_
          simp only [s1013_23, s1013_24, s1013_27, s1013_28, s1013_31, unJ_I, unJ_J, unJ_F, unJ_R, unJ_N, unJ_U, pushR_I, pushR_J, pushR_F, pushR_R, pushR_N, pushR_U, rfV_s, rfV_n, Option.bind_some, true_or, or_true, if_true, k1]
          rw [if_pos hz, e3]
          simp only [s1013_85, s1013_86, s1013_86r, s1013_87, s1013_90, s1013_91, s1013_92, s1013_95, s1013_98, unJ_I, unJ_J, unJ_F, unJ_R, unJ_N, unJ_U, pushR_I, pushR_J, pushR_F, pushR_R, pushR_N, pushR_U, rfV_s, rfV_n, Option.bind_some, true_or, or_true, if_true, k1, en (), ek ()]
        · obtain ⟨v1, v2, v3⟩ := val j hj
          rcases Nat.lt_trichotomy j p with z | z | z
          · rw [v1 z]; have := k2 j (by omega); exact ⟨by omega, this.2.2⟩
          · rw [v2 z]; exact ⟨by omega, hz⟩
          · rw [v3 z]; have := k2 (j - 1) (by omega); exact ⟨by omega, this.2.2⟩
        · obtain ⟨v1, v2, v3⟩ := val i (by omega)
          obtain ⟨u1, u2, u3⟩ := val j hj
          have mi : ∀ a, mkK gs (insI idx p k) a = mk (gg gs (insI idx p k a)).2.1 := fun _ => rfl
          have mo : ∀ a, mkK gs idx a = mk (gg gs (idx a)).2.1 := fun _ => rfl
          rw [mi, mi]
          rcases Nat.lt_trichotomy i p with z | z | z <;> rcases Nat.lt_trichotomy j p with w | w | w
          · rw [v1 z, u1 w]; exact k3 i j hij (by omega)
          · rw [v1 z, u2 w]; exact lo i z
          · rw [v1 z, u3 w]
            have a := lo i z
            have b := hi (j - 1) (by omega) (by omega)
            rw [mo] at a b
            omega
          · omega
          · omega
          · rw [v2 z, u3 w]; exact hi (j - 1) (by omega) (by omega)
          · omega
          · omega
          · rw [v3 z, u3 w]; exact k3 (i - 1) (j - 1) (by omega) (by omega)
        · by_cases e : i = k
          · refine ⟨p, by omega, ?_⟩
            rw [(val p (by omega)).2.1 rfl, e]
          · obtain ⟨j, hj, ej⟩ := k4 i (by omega) hx
            by_cases z : j < p
            · exact ⟨j, by omega, by rw [(val j (by omega)).1 z]; exact ej⟩
            · exact ⟨j + 1, by omega, by rw [(val (j + 1) (by omega)).2.2 (by omega)]; exact ej⟩
      · refine ⟨(SX q, C, (J', M', T)), ?_, J', M', n, idx, rfl, rfl, ⟨k1, by omega⟩, fun j hj => ?_, k3, fun i hi2 hx => ?_, by omega, k6, k7⟩
        · refine (congrArg (fun o => Option.bind o _) c0).trans ?_
          simp only [s1013_23, s1013_24, s1013_95, s1013_98, unJ_I, unJ_J, unJ_F, unJ_R, unJ_N, unJ_U, pushR_I, pushR_J, pushR_F, pushR_R, pushR_N, pushR_U, rfV_s, rfV_n, Option.bind_some, true_or, or_true, if_true, ek ()]
          rw [if_neg hz]
        · have := k2 j hj; exact ⟨this.1, by omega, this.2.2⟩
        · by_cases e : i = k
          · subst e; exact absurd hx hz
          · exact k4 i (by omega) hx)
  have se := seq_eq hg (n := n) (s := fun j => ((gg gs (idx j)).2.1, (gg gs (idx j)).2.2)) (fun i j hij hj => by
    have a := k2 i (by omega)
    have b := k2 j hj
    exact (mk_lt (kr _ a.2.1) (kr _ b.2.1)).mp (k3 i j hij hj)) (fun j hj => by
    have a := k2 j hj
    refine (hm _).mpr ?_
    have := gg_mem a.2.1
    rw [show gg gs (idx j) = (x, (gg gs (idx j)).2.1, (gg gs (idx j)).2.2) by rw [← a.2.2]] at this
    exact this) (fun y hy => by
    obtain ⟨k, hk, e⟩ := gg_of ((hm y).mp hy)
    obtain ⟨j, hj, ej⟩ := k4 k hk (by rw [e])
    exact ⟨j, hj, by rw [ej, e]⟩)
  obtain ⟨en, es⟩ := se
  refine ⟨J2, M2, idx, ?_, by rw [k1.1, en], fun j hj => ?_, k6, k7⟩
  · simp only [s1013_0, s1013_1, s1013_2, s1013_5, s1013_6, unJ_I, unJ_J, unJ_F, unJ_R, unJ_N, unJ_U, pushR_I, pushR_J, pushR_F, pushR_R, pushR_N, pushR_U, rfV_s, rfV_n, Option.bind_some, true_or, or_true, if_true]
    refine e.trans ?_
    rw [s1013_7]
    simp only [s1013_8, s1013_9, s1013_12, s1013_13, s1013_14, s1013_101, unJ_I, unJ_J, unJ_F, unJ_R, unJ_N, unJ_U, pushR_I, pushR_J, pushR_F, pushR_R, pushR_N, pushR_U, rfV_s, rfV_n, Option.bind_some, true_or, or_true, if_true, lm0]
    rw [if_pos (by omega), k7 0 (by omega)]
    simp only [show Int.toNat 2 = 2 from rfl, a2]
    rw [if_pos (by omega)]
  · have a := k2 j (by omega)
    have s := es j (by omega)
    refine ⟨a.1, a.2.1, ?_⟩
    have s1 : (gg gs (idx j)).2.1 = gk g j := congrArg Prod.fst s
    have s2 : (gg gs (idx j)).2.2 = gv g j := congrArg Prod.snd s
    rw [← s1, ← s2, ← a.2.2]
end
