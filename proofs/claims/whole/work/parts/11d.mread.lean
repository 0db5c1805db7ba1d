/-! THE MODEL: what it reads of lots; mix -/
/-- the lots of the recipe, up to a place -/
def rIx (ls : List Lt) (n : Nat) : List Nat := (List.range n).filter (fun i => decide (0 < (lt ls i).1 5))
theorem rIx_s (ls : List Lt) (n : Nat) : rIx ls (n + 1) = if 0 < (lt ls n).1 5 then rIx ls n ++ [n] else rIx ls n := by
  unfold rIx
  rw [List.range_succ, List.filter_append]
  by_cases h : 0 < (lt ls n).1 5
  · rw [if_pos h, List.filter_cons_of_pos (by simpa using h), List.filter_nil]
  · rw [if_neg h, List.filter_cons_of_neg (by simpa using h), List.filter_nil, List.append_nil]
theorem rIx_n (ls : List Lt) (n : Nat) : ((rIx ls n).length : Int) = cntU (fun i => 0 < (lt ls i).1 5) n := by
  induction n with
  | zero => rfl
  | succ n ih =>
    rw [rIx_s, cntU, ← ih]
    split
    · rw [List.length_append]; simp
    · omega
theorem getD_app {α : Type} (a : List α) (x d : α) (j : Nat) : (a ++ [x]).getD j d = if j < a.length then a.getD j d else if j = a.length then x else d := by
  rw [List.getD_eq_getElem?_getD, List.getD_eq_getElem?_getD]
  by_cases h : j < a.length
  · rw [if_pos h, List.getElem?_append_left h]
  · rw [if_neg h, List.getElem?_append_right (by omega)]
    by_cases e : j = a.length
    · rw [if_pos e, e, Nat.sub_self]; rfl
    · rw [if_neg e, List.getElem?_eq_none (by simp; omega)]; rfl
section
variable (q : Nat × (Nat → Int)) {C : MC} {J M T : M2} {σ : St} {gs : List Gx}
theorem w_slot (h : MRow (M 0) σ gs) (x : Int) : rs 1011 0 [vR 10 0, vI x, vU] [] (SX q, C, (J, M, T)) = some (vI (if fnd σ.1 x < σ.1.length then (fnd σ.1 x : Int) else -1), (SX q, C, (J, M, T))) := by
  obtain ⟨⟨a1, -⟩, ⟨b1, -⟩, -, -, -, l, -⟩ := h
  have fl := fnd_le σ.1 x
  have main : ∀ (d i : Nat), i + d = σ.1.length → i ≤ fnd σ.1 x → rs 1011 2 [vR 10 0, vI x, vI (i : Int)] [] (SX q, C, (J, M, T)) = some (vI (if fnd σ.1 x < σ.1.length then (fnd σ.1 x : Int) else -1), (SX q, C, (J, M, T))) := by
    intro d
    induction d with
    | zero =>
      intro i hi hf
      rw [s1011_2]
      simp only [s1011_3, s1011_4, s1011_7, s1011_8, s1011_9, s1011_30, s1011_31, unJ_I, unJ_J, unJ_F, unJ_R, unJ_N, unJ_U, pushR_I, pushR_J, pushR_F, pushR_R, pushR_N, pushR_U, rfV_s, rfV_n, Option.bind_some, true_or, or_true, if_true, lm0]
      rw [if_pos (by omega)]
      simp only [Int.toNat_zero, a1]
      rw [if_pos (by omega), if_neg (by omega)]
    | succ d ih =>
      intro i hi hf
      have ei : Unit → w32 ((i : Int) + 1) = ((i + 1 : Nat) : Int) := fun _ => by rw [w32_id (by omega) (by omega)]; omega
      have at0 : rs 1008 0 [vR 10 0, vI (i : Int), vI 0] [] (SX q, C, (J, M, T)) = some (vI ((lt σ.1 i).1 0), (SX q, C, (J, M, T))) := by
        have e := c_mat q (C := C) (J := J) (M := M) (T := T) (s := i) (w := 0) (by omega) (by omega)
        rw [l i (by omega) 0 (by omega)] at e
        exact e
      rw [s1011_2]
      simp only [s1011_3, s1011_4, s1011_7, s1011_8, s1011_9, unJ_I, unJ_J, unJ_F, unJ_R, unJ_N, unJ_U, pushR_I, pushR_J, pushR_F, pushR_R, pushR_N, pushR_U, rfV_s, rfV_n, Option.bind_some, true_or, or_true, if_true, lm0]
      rw [if_pos (by omega)]
      simp only [Int.toNat_zero, a1]
      rw [if_neg (by omega)]
      simp only [s1011_12, s1011_13, s1011_14, s1011_15, s1011_18, s1011_19, unJ_I, unJ_J, unJ_F, unJ_R, unJ_N, unJ_U, pushR_I, pushR_J, pushR_F, pushR_R, pushR_N, pushR_U, rfV_s, rfV_n, Option.bind_some, true_or, or_true, if_true, at0]
      by_cases hz : (lt σ.1 i).1 0 = x
      · have ef : fnd σ.1 x = i := by
          rcases Nat.lt_or_ge i (fnd σ.1 x) with z | z
          · exact absurd hz (fnd_lt z)
          · omega
        rw [if_pos hz]
        simp only [s1011_22, s1011_23, unJ_I, unJ_J, unJ_F, unJ_R, unJ_N, unJ_U, pushR_I, pushR_J, pushR_F, pushR_R, pushR_N, pushR_U, rfV_s, rfV_n, Option.bind_some, true_or, or_true, if_true]
        rw [ef, if_pos (by omega)]
      · have hn : i ≠ fnd σ.1 x := fun e => hz (by have := fnd_is (ls := σ.1) (x := x) (by omega); rw [← e] at this; exact this)
        rw [if_neg hz]
        simp only [s1011_24, s1011_27, unJ_I, unJ_J, unJ_F, unJ_R, unJ_N, unJ_U, pushR_I, pushR_J, pushR_F, pushR_R, pushR_N, pushR_U, rfV_s, rfV_n, Option.bind_some, true_or, or_true, if_true, ei ()]
        exact ih (i + 1) (by omega) (by omega)
  simp only [s1011_0, s1011_1, unJ_I, unJ_J, unJ_F, unJ_R, unJ_N, unJ_U, pushR_I, pushR_J, pushR_F, pushR_R, pushR_N, pushR_U, rfV_s, rfV_n, Option.bind_some, true_or, or_true, if_true]
  exact main σ.1.length 0 (by omega) (Nat.zero_le _)
theorem w_lots (h : MRow (M 0) σ gs) (k : Int) : rs 1018 0 [vR 10 0, vI k, vU, vU] [] (SX q, C, (J, M, T)) = some (vI (kndN σ.1 k), (SX q, C, (J, M, T))) := by
  obtain ⟨⟨a1, -⟩, ⟨b1, -⟩, -, -, -, l, -⟩ := h
  have loop := rs_loop (m := 1018) (pc := 4) (fun i => [vR 10 0, vI k, vI (cntU (fun i => (lt σ.1 i).1 4 = k) i), vI (i : Int)]) (fun _ => (SX q, C, (J, M, T))) σ.1.length (fun i hi => by
    have r := cntU_r (fun i => (lt σ.1 i).1 4 = k) i
    have ei : Unit → w32 ((i : Int) + 1) = ((i + 1 : Nat) : Int) := fun _ => by rw [w32_id (by omega) (by omega)]; omega
    have e1 : Unit → w32 (cntU (fun i => (lt σ.1 i).1 4 = k) i + 1) = cntU (fun i => (lt σ.1 i).1 4 = k) i + 1 := fun _ => w32_id (by omega) (by omega)
    have e2 : Unit → w32 (cntU (fun i => (lt σ.1 i).1 4 = k) i) = cntU (fun i => (lt σ.1 i).1 4 = k) i := fun _ => w32_id (by omega) (by omega)
    have at4 : rs 1008 0 [vR 10 0, vI (i : Int), vI 4] [] (SX q, C, (J, M, T)) = some (vI ((lt σ.1 i).1 4), (SX q, C, (J, M, T))) := by
      have e := c_mat q (C := C) (J := J) (M := M) (T := T) (s := i) (w := 4) (by omega) (by omega)
      rw [l i (by omega) 4 (by omega)] at e
      exact e
    rw [s1018_4]
    simp only [s1018_5, s1018_6, s1018_9, s1018_10, s1018_11, unJ_I, unJ_J, unJ_F, unJ_R, unJ_N, unJ_U, pushR_I, pushR_J, pushR_F, pushR_R, pushR_N, pushR_U, rfV_s, rfV_n, Option.bind_some, true_or, or_true, if_true, lm0]
    rw [if_pos (by omega)]
    simp only [Int.toNat_zero, a1]
    rw [if_neg (by omega)]
    simp only [s1018_14, s1018_15, s1018_16, s1018_17, s1018_18, s1018_21, s1018_22, unJ_I, unJ_J, unJ_F, unJ_R, unJ_N, unJ_U, pushR_I, pushR_J, pushR_F, pushR_R, pushR_N, pushR_U, rfV_s, rfV_n, Option.bind_some, true_or, or_true, if_true, at4]
    rw [cntU]
    by_cases hz : (lt σ.1 i).1 4 = k
    · rw [if_pos hz, if_pos hz]
      simp only [s1018_25, s1018_26, s1018_29, s1018_30, s1018_31, s1018_32, s1018_35, unJ_I, unJ_J, unJ_F, unJ_R, unJ_N, unJ_U, pushR_I, pushR_J, pushR_F, pushR_R, pushR_N, pushR_U, rfV_s, rfV_n, Option.bind_some, true_or, or_true, if_true, ei (), e1 ()]
    · rw [if_neg hz, if_neg hz]
      simp only [s1018_29, s1018_30, s1018_31, s1018_32, s1018_35, unJ_I, unJ_J, unJ_F, unJ_R, unJ_N, unJ_U, pushR_I, pushR_J, pushR_F, pushR_R, pushR_N, pushR_U, rfV_s, rfV_n, Option.bind_some, true_or, or_true, if_true, ei (), e2 (), Int.add_zero])
  simp only [s1018_0, s1018_1, s1018_2, s1018_3, unJ_I, unJ_J, unJ_F, unJ_R, unJ_N, unJ_U, pushR_I, pushR_J, pushR_F, pushR_R, pushR_N, pushR_U, rfV_s, rfV_n, Option.bind_some, true_or, or_true, if_true]
  refine loop.trans ?_
  rw [s1018_4]
  simp only [s1018_5, s1018_6, s1018_9, s1018_10, s1018_11, s1018_38, s1018_39, unJ_I, unJ_J, unJ_F, unJ_R, unJ_N, unJ_U, pushR_I, pushR_J, pushR_F, pushR_R, pushR_N, pushR_U, rfV_s, rfV_n, Option.bind_some, true_or, or_true, if_true, lm0]
  rw [if_pos (by omega)]
  simp only [Int.toNat_zero, a1]
  rw [if_pos (by omega)]
  rfl
theorem w_scores (h : MRow (M 0) σ gs) {s : Nat} (hs : s < σ.1.length) (hd : okSc (lt σ.1 s).1) : rs 1026 0 [vR 10 0, vI s, vU, vU] [] (SX q, C, (J, M, T)) = some (vI (scN (lt σ.1 s)), (SX q, C, (J, M, T))) := by
  obtain ⟨⟨a1, -⟩, ⟨b1, -⟩, -, -, -, l, -⟩ := h
  have loop := rs_loop (m := 1026) (pc := 4) (fun i => [vR 10 0, vI (s : Int), vI (cntU (fun t => (lt σ.1 s).1 (6 + t) ≠ -1) i), vI (i : Int)]) (fun _ => (SX q, C, (J, M, T))) 8 (fun i hi => by
    have r := cntU_r (fun t => (lt σ.1 s).1 (6 + t) ≠ -1) i
    have d := hd i hi
    have ei : Unit → w32 ((i : Int) + 1) = ((i + 1 : Nat) : Int) := fun _ => by rw [w32_id (by omega) (by omega)]; omega
    have e6 : Unit → w32 (6 + (i : Int)) = ((6 + i : Nat) : Int) := fun _ => by rw [w32_id (by omega) (by omega)]; omega
    have e1 : Unit → w32 (cntU (fun t => (lt σ.1 s).1 (6 + t) ≠ -1) i + 1) = cntU (fun t => (lt σ.1 s).1 (6 + t) ≠ -1) i + 1 := fun _ => w32_id (by omega) (by omega)
    have e2 : Unit → w32 (cntU (fun t => (lt σ.1 s).1 (6 + t) ≠ -1) i) = cntU (fun t => (lt σ.1 s).1 (6 + t) ≠ -1) i := fun _ => w32_id (by omega) (by omega)
    have at6 : rs 1008 0 [vR 10 0, vI (s : Int), vI ((6 + i : Nat) : Int)] [] (SX q, C, (J, M, T)) = some (vI ((lt σ.1 s).1 (6 + i)), (SX q, C, (J, M, T))) := by
      have e := c_mat q (C := C) (J := J) (M := M) (T := T) (s := s) (w := 6 + i) (by omega) (by omega)
      rw [l s hs (6 + i) (by omega)] at e
      exact e
    rw [s1026_4]
    simp only [s1026_5, s1026_7, s1026_10, s1026_11, s1026_12, s1026_13, s1026_15, s1026_16, s1026_17, s1026_20, unJ_I, unJ_J, unJ_F, unJ_R, unJ_N, unJ_U, pushR_I, pushR_J, pushR_F, pushR_R, pushR_N, pushR_U, rfV_s, rfV_n, Option.bind_some, true_or, or_true, if_true, e6 (), at6]
    rw [if_neg (by omega), cntU]
    by_cases hz : 0 ≤ (lt σ.1 s).1 (6 + i)
    · rw [if_pos hz, if_pos (by omega)]
      simp only [s1026_27, s1026_28, s1026_29, s1026_30, s1026_33, unJ_I, unJ_J, unJ_F, unJ_R, unJ_N, unJ_U, pushR_I, pushR_J, pushR_F, pushR_R, pushR_N, pushR_U, rfV_s, rfV_n, Option.bind_some, true_or, or_true, if_true, ei (), e1 ()]
    · rw [if_neg hz, if_neg (by omega)]
      simp only [s1026_23, s1026_24, s1026_27, s1026_28, s1026_29, s1026_30, s1026_33, unJ_I, unJ_J, unJ_F, unJ_R, unJ_N, unJ_U, pushR_I, pushR_J, pushR_F, pushR_R, pushR_N, pushR_U, rfV_s, rfV_n, Option.bind_some, true_or, or_true, if_true, ei (), e2 (), Int.add_zero])
  simp only [s1026_0, s1026_1, s1026_2, s1026_3, unJ_I, unJ_J, unJ_F, unJ_R, unJ_N, unJ_U, pushR_I, pushR_J, pushR_F, pushR_R, pushR_N, pushR_U, rfV_s, rfV_n, Option.bind_some, true_or, or_true, if_true]
  refine loop.trans ?_
  rw [s1026_4]
  simp only [s1026_5, s1026_7, s1026_36, s1026_37, unJ_I, unJ_J, unJ_F, unJ_R, unJ_N, unJ_U, pushR_I, pushR_J, pushR_F, pushR_R, pushR_N, pushR_U, rfV_s, rfV_n, Option.bind_some, true_or, or_true, if_true]
  rw [if_pos (by omega)]
  rfl
/-- mix -/
theorem w_mix (h : MRow (M 0) σ gs) (h6 : rcpN σ.1 ≤ 6) : ∃ J' M', rs 1037 0 [vR 10 0, vU] [] (SX q, C, (J, M, T)) = some (vU, (SX q, C, (J', M', T))) ∧ J' 219 0 = rcpN σ.1 ∧ J' 213 0 = rcpN σ.1 ∧ (∀ j, j < (rIx σ.1 σ.1.length).length → M' 9 j = (lt σ.1 ((rIx σ.1 σ.1.length).getD j 0)).1 0 ∧ M' 5 j = (lt σ.1 ((rIx σ.1 σ.1.length).getD j 0)).1 5) ∧
    (∀ f y, f ≠ 213 → f ≠ 219 → J' f y = J f y) ∧ ∀ r, r ≠ 5 → r ≠ 9 → M' r = M r := by
  obtain ⟨⟨a1, -⟩, ⟨b1, -⟩, -, -, -, l, -⟩ := h
  have cm : ∀ i, i ≤ σ.1.length → cntU (fun i => 0 < (lt σ.1 i).1 5) i ≤ rcpN σ.1 := by
    intro i hi
    obtain ⟨d, hd⟩ := Nat.exists_eq_add_of_le hi
    unfold rcpN
    rw [hd]
    clear hd
    induction d with
    | zero => exact Int.le_refl _
    | succ d ih => rw [← Nat.add_assoc, cntU]; split <;> omega
  obtain ⟨ls', μ', e, J2, M2, rfl, rfl, k1, k2, k3, k4⟩ := rs_loopP (m := 1037) (pc := 12) (ls := [vR 10 0, vI 0]) (μ := (SX q, C, (up2 (up2 J 219 0 0) 213 0 0, M, T))) (fun i ls μ => ∃ J' M', μ = (SX q, C, (J', M', T)) ∧ ls = [vR 10 0, vI (i : Int)] ∧
      J' 219 0 = ((rIx σ.1 i).length : Int) ∧ (∀ j, j < (rIx σ.1 i).length → M' 9 j = (lt σ.1 ((rIx σ.1 i).getD j 0)).1 0 ∧ M' 5 j = (lt σ.1 ((rIx σ.1 i).getD j 0)).1 5) ∧ (∀ f y, f ≠ 213 → f ≠ 219 → J' f y = J f y) ∧ ∀ r, r ≠ 5 → r ≠ 9 → M' r = M r) σ.1.length
    ⟨_, _, rfl, rfl, (up2_ne (by omega)).trans up2_eq, fun j hj => absurd hj (Nat.not_lt_zero _), fun f y a b => (up2_ne (by omega)).trans (up2_ne (by omega)), fun _ _ _ => rfl⟩ (fun i hi ls μ ⟨J', M', e1, e2, k1, k2, k3, k4⟩ => by
      subst e1 e2
      have nr := rIx_n σ.1 i
      have nr1 := rIx_n σ.1 (i + 1)
      have c1 := cm (i + 1) (by omega)
      have ei : Unit → w32 ((i : Int) + 1) = ((i + 1 : Nat) : Int) := fun _ => by rw [w32_id (by omega) (by omega)]; omega
      have m0 : M' 0 = M 0 := k4 0 (by omega) (by omega)
      have atw : ∀ {J1 M1 : M2}, M1 0 = M 0 → ∀ w : Nat, w < 14 → rs 1008 0 [vR 10 0, vI (i : Int), vI (w : Int)] [] (SX q, C, (J1, M1, T)) = some (vI ((lt σ.1 i).1 w), (SX q, C, (J1, M1, T))) := fun {J1 M1} hm w hw => by
        have e := c_mat q (C := C) (J := J1) (M := M1) (T := T) (s := i) (w := w) (by omega) hw
        rw [hm, l i (by omega) w hw] at e
        exact e
      have at5 := atw (J1 := J') m0 5 (by omega)
      have at0 := atw (J1 := J') m0 0 (by omega)
      rw [s1037_12]
      simp only [s1037_13, s1037_14, s1037_17, s1037_18, s1037_19, unJ_I, unJ_J, unJ_F, unJ_R, unJ_N, unJ_U, pushR_I, pushR_J, pushR_F, pushR_R, pushR_N, pushR_U, rfV_s, rfV_n, Option.bind_some, true_or, or_true, if_true, lm0]
      rw [if_pos (by omega), m0]
      simp only [Int.toNat_zero, a1]
      rw [if_neg (by omega)]
      simp only [s1037_22, s1037_23, s1037_24, s1037_25, unJ_I, unJ_J, unJ_F, unJ_R, unJ_N, unJ_U, pushR_I, pushR_J, pushR_F, pushR_R, pushR_N, pushR_U, rfV_s, rfV_n, Option.bind_some, true_or, or_true, if_true]
      refine Exists.intro [vR 10 0, vI ((i + 1 : Nat) : Int)] ?_
      by_cases hz : (lt σ.1 i).1 5 ≤ 0
      · refine ⟨_, ?_, J', M', rfl, rfl, by rw [rIx_s, if_neg (by omega)]; exact k1, by rw [rIx_s, if_neg (by omega)]; exact k2, k3, k4⟩
        refine (congrArg (fun o => Option.bind o _) at5).trans ?_
        simp only [s1037_28, s1037_71, s1037_74, unJ_I, unJ_J, unJ_F, unJ_R, unJ_N, unJ_U, pushR_I, pushR_J, pushR_F, pushR_R, pushR_N, pushR_U, rfV_s, rfV_n, Option.bind_some, true_or, or_true, if_true, ei ()]
        rw [if_pos hz]
      · have hz' : 0 < (lt σ.1 i).1 5 := by omega
        rw [rIx_s, if_pos hz', List.length_append] at nr1
        have n6 : (rIx σ.1 i).length < 6 := by simp at nr1; omega
        have en : Unit → w32 (((rIx σ.1 i).length : Int) + 1) = (((rIx σ.1 i).length + 1 : Nat) : Int) := fun _ => by rw [w32_id (by omega) (by omega)]; omega
        have at5' := atw (J1 := J') (M1 := up2 M' 9 (rIx σ.1 i).length ((lt σ.1 i).1 0)) (by rw [← m0]; funext y; exact up2_ne (by omega)) 5 (by omega)
        refine ⟨(SX q, C, (up2 J' 219 0 (((rIx σ.1 i).length + 1 : Nat) : Int), up2 (up2 M' 9 (rIx σ.1 i).length ((lt σ.1 i).1 0)) 5 (rIx σ.1 i).length ((lt σ.1 i).1 5), T)), ?_, _, _, rfl, rfl, ?_, fun j hj => ?_, fun f y a b => (up2_ne (by omega)).trans (k3 f y a b), fun r a b => ?_⟩
        · refine (congrArg (fun o => Option.bind o _) at5).trans ?_
          simp only [s1037_28, s1037_31, s1037_32, s1037_35, s1037_36, s1037_39, s1037_40, s1037_41, s1037_42, unJ_I, unJ_J, unJ_F, unJ_R, unJ_N, unJ_U, pushR_I, pushR_J, pushR_F, pushR_R, pushR_N, pushR_U, rfV_s, rfV_n, Option.bind_some, true_or, or_true, if_true, k1]
          rw [if_neg hz]
          refine (congrArg (fun o => Option.bind o _) at0).trans ?_
          simp only [s1037_45, s1037_46, s1037_47, s1037_50, s1037_51, s1037_54, s1037_55, s1037_56, s1037_57, unJ_I, unJ_J, unJ_F, unJ_R, unJ_N, unJ_U, pushR_I, pushR_J, pushR_F, pushR_R, pushR_N, pushR_U, rfV_s, rfV_n, Option.bind_some, true_or, or_true, if_true, lm9, k1, Int.toNat_natCast]
          rw [if_pos (by omega)]
          refine (congrArg (fun o => Option.bind o _) at5').trans ?_
          simp only [s1037_60, s1037_61, s1037_62, s1037_62r, s1037_63, s1037_66, s1037_67, s1037_68, s1037_71, s1037_74, unJ_I, unJ_J, unJ_F, unJ_R, unJ_N, unJ_U, pushR_I, pushR_J, pushR_F, pushR_R, pushR_N, pushR_U, rfV_s, rfV_n, Option.bind_some, true_or, or_true, if_true, lm5, k1, Int.toNat_natCast, en (), ei ()]
          rw [if_pos (by omega)]
        · rw [rIx_s, if_pos hz', up2_eq, List.length_append]; rfl
        · rw [rIx_s, if_pos hz'] at hj ⊢
          rw [getD_app]
          rw [List.length_append] at hj
          by_cases e : j < (rIx σ.1 i).length
          · rw [if_pos e]
            have kk := k2 j e
            exact ⟨(up2_ne (by omega)).trans ((up2_ne (by omega)).trans kk.1), (up2_ne (by omega)).trans ((up2_ne (by omega)).trans kk.2)⟩
          · have ej : j = (rIx σ.1 i).length := by simp at hj; omega
            rw [if_neg e, if_pos ej, ej]
            exact ⟨(up2_ne (by omega)).trans up2_eq, up2_eq⟩
        · rw [← k4 r a b]
          funext y
          exact (up2_ne (by omega)).trans (up2_ne (by omega)))
  have nr := rIx_n σ.1 σ.1.length
  have nr' : ((rIx σ.1 σ.1.length).length : Int) = rcpN σ.1 := nr
  refine ⟨up2 J2 213 0 (J2 219 0), M2, ?_, (up2_ne (by omega)).trans (k1.trans nr'), up2_eq.trans (k1.trans nr'), k2, fun f y a b => (up2_ne (by omega)).trans (k3 f y a b), k4⟩
  simp only [s1037_0, s1037_1, s1037_2, s1037_5, s1037_6, s1037_7, s1037_10, s1037_11, unJ_I, unJ_J, unJ_F, unJ_R, unJ_N, unJ_U, pushR_I, pushR_J, pushR_F, pushR_R, pushR_N, pushR_U, rfV_s, rfV_n, Option.bind_some, true_or, or_true, if_true]
  refine e.trans ?_
  rw [s1037_12]
  simp only [s1037_13, s1037_14, s1037_17, s1037_18, s1037_19, s1037_77, s1037_78, s1037_79, s1037_82, s1037_85, unJ_I, unJ_J, unJ_F, unJ_R, unJ_N, unJ_U, pushR_I, pushR_J, pushR_F, pushR_R, pushR_N, pushR_U, rfV_s, rfV_n, Option.bind_some, true_or, or_true, if_true, lm0]
  rw [if_pos (by omega), k4 0 (by omega) (by omega)]
  simp only [Int.toNat_zero, a1]
  rw [if_pos (by omega)]
end
