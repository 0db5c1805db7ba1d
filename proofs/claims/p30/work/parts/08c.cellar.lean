/-! A CELLAR IS READ: at, find, the counts -/
theorem lx15 (n k : Nat) : LX n 15 k = 12 := id rfl
theorem lx16 (n k : Nat) : LX n 16 k = 4 := id rfl
theorem lx17 (n k : Nat) : LX n 17 k = 12 := id rfl
theorem lx19 (n k : Nat) : LX n 19 k = n := id rfl
/-- the place of a lot of a number, or how many there are -/
def fnd (ls : List Lt) (x : Int) : Nat := ls.findIdx fun w => decide (w.1 0 = x)
theorem fnd_le (ls : List Lt) (x : Int) : fnd ls x ≤ ls.length := List.findIdx_le_length
theorem fnd_lt {ls : List Lt} {x : Int} {i : Nat} (h : i < fnd ls x) : (lt ls i).1 0 ≠ x := by
  have hl := fnd_le ls x
  have := List.not_of_lt_findIdx h
  unfold lt
  rw [List.getD_eq_getElem?_getD, List.getElem?_eq_getElem (by omega)]
  simpa using this
theorem fnd_is {ls : List Lt} {x : Int} (h : fnd ls x < ls.length) : (lt ls (fnd ls x)).1 0 = x := by
  have := List.findIdx_getElem (w := h)
  unfold lt
  rw [List.getD_eq_getElem?_getD, List.getElem?_eq_getElem h]
  exact of_decide_eq_true this
section
variable (q : Nat × (Nat → Int)) {I A : M2} {L P : Nat → Nat → Option Nat} {F G : Nat → Nat → UInt32} {D : MD} {c l : Nat} {sl : Nat → Nat} {σ : St} {w : Lt}
theorem c_cat (h : CelAt I A c sl σ) (hL : LoS L c sl) {i : Nat} (hi : i < σ.1.length) : rs 3 0 [vR 0 c, vI i] [] (SX q, (I, A, L, P, F, G), D) = some (vR 2 (sl i), (SX q, (I, A, L, P, F, G), D)) := by
  have h1 := h.1
  have h2 := h.2.1
  have h3 := (hL.1 i (by omega)).1
  simp only [s3_0, s3_1, s3_4, s3_5, s3_6, s3_9, s3_12, s3_13, s3_14, s3_17, s3_18, s3_21, s3_22, s3_25, s3_26, s3_27, s3_30, s3_31, s3_31n, unJ_I, unJ_J, unJ_F, unJ_R, unJ_N, unJ_U, pushR_I, pushR_J, pushR_F, pushR_R, pushR_N, pushR_U, rfV_s, rfV_n, Option.bind_some, true_or, or_true, if_true, lx15, h1]
  rw [if_neg (by omega), if_neg (by omega), if_pos (by omega), if_neg (by omega), if_pos (by omega), Int.toNat_natCast, h3]
  simp only [s3_27, s3_30, s3_31, s3_31n, unJ_I, unJ_J, unJ_F, unJ_R, unJ_N, unJ_U, pushR_I, pushR_J, pushR_F, pushR_R, pushR_N, pushR_U, rfV_s, rfV_n, Option.bind_some, true_or, or_true, if_true]
theorem c_catN (h : CelAt I A c sl σ) {i : Nat} (hi : σ.1.length ≤ i) : rs 3 0 [vR 0 c, vI i] [] (SX q, (I, A, L, P, F, G), D) = some (vN, (SX q, (I, A, L, P, F, G), D)) := by
  have h1 := h.1
  simp only [s3_0, s3_1, s3_4, s3_5, s3_6, s3_9, s3_12, s3_13, s3_14, s3_17, s3_18, s3_21, s3_22, s3_25, s3_26, s3_27, s3_30, s3_31, s3_31n, unJ_I, unJ_J, unJ_F, unJ_R, unJ_N, unJ_U, pushR_I, pushR_J, pushR_F, pushR_R, pushR_N, pushR_U, rfV_s, rfV_n, Option.bind_some, true_or, or_true, if_true, lx15, h1]
  rw [if_neg (by omega), if_pos (by omega)]
/-- Cellar.find -/
theorem c_find (h : CelAt I A c sl σ) (hL : LoS L c sl) (x : Int) : rs 4 0 [vR 0 c, vI x, vU, vU] [] (SX q, (I, A, L, P, F, G), D) = some (if fnd σ.1 x < σ.1.length then vR 2 (sl (fnd σ.1 x)) else vN, (SX q, (I, A, L, P, F, G), D)) := by
  have h1 := h.1
  have h2 := h.2.1
  have hf := fnd_le σ.1 x
  have hw : ∀ i : Nat, i < σ.1.length → I 43 (sl i) = (lt σ.1 i).1 0 := fun i hi => (h.2.2.2.1 i hi).1
  have loop := rs_loop (m := 4) (pc := 2) (fun i => [vR 0 c, vI x, vI i, vU]) (fun _ => (SX q, (I, A, L, P, F, G), D)) (fnd σ.1 x) (fun i hi => by
    rw [s4_2]
    simp only [s4_3, s4_4, s4_7, s4_10, s4_11, s4_12, s4_15, s4_15n, s4_16, s4_16n, s4_17n, s4_17, s4_20, s4_20n, s4_21, s4_24, s4_25, s4_28, s4_28n, s4_29, s4_29n, s4_30, s4_33, unJ_I, unJ_J, unJ_F, unJ_R, unJ_N, unJ_U, pushR_I, pushR_J, pushR_F, pushR_R, pushR_N, pushR_U, rfV_s, rfV_n, Option.bind_some, true_or, or_true, if_true, c_cat q h hL (show i < σ.1.length by omega), h1, hw i (by omega)]
    rw [if_neg (by omega), if_neg (fnd_lt hi), w32_id (by omega) (by omega), show (i : Int) + 1 = ((i + 1 : Nat) : Int) by omega])
  simp only [s4_0, s4_1, unJ_I, unJ_J, unJ_F, unJ_R, unJ_N, unJ_U, pushR_I, pushR_J, pushR_F, pushR_R, pushR_N, pushR_U, rfV_s, rfV_n, Option.bind_some, true_or, or_true, if_true]
  refine loop.trans ?_
  rw [s4_2]
  simp only [s4_3, s4_4, s4_7, h1]
  by_cases hx : fnd σ.1 x < σ.1.length
  · rw [if_neg (by omega), if_pos hx]
    simp only [s4_10, s4_11, s4_12, s4_15, s4_15n, s4_16, s4_16n, s4_17n, s4_17, s4_20, s4_20n, s4_21, s4_24, s4_25, s4_28, s4_28n, s4_29, s4_29n, unJ_I, unJ_J, unJ_F, unJ_R, unJ_N, unJ_U, pushR_I, pushR_J, pushR_F, pushR_R, pushR_N, pushR_U, rfV_s, rfV_n, Option.bind_some, true_or, or_true, if_true, c_cat q h hL hx, hw _ hx]
    rw [if_pos (fnd_is hx)]
  · rw [if_pos (by omega), if_neg hx]
    simp only [s4_36, s4_37n, unJ_I, unJ_J, unJ_F, unJ_R, unJ_N, unJ_U, pushR_I, pushR_J, pushR_F, pushR_R, pushR_N, pushR_U, rfV_s, rfV_n, Option.bind_some, true_or, or_true, if_true]
theorem c_kind (h : CelAt I A c sl σ) (hL : LoS L c sl) (x : Int) : rs 8 0 [vR 0 c, vI x, vU, vU, vU] [] (SX q, (I, A, L, P, F, G), D) = some (vI (cntU (fun i => (lt σ.1 i).1 4 = x) σ.1.length), (SX q, (I, A, L, P, F, G), D)) := by
  have h1 := h.1
  have h2 := h.2.1
  have hw : ∀ i : Nat, i < σ.1.length → I 46 (sl i) = (lt σ.1 i).1 4 := fun i hi => (h.2.2.2.1 i hi).2.2.2.2.1
  have loop := rs_loop (m := 8) (pc := 4) (fun i => [vR 0 c, vI x, vI (cntU (fun i => (lt σ.1 i).1 4 = x) i), vI i, vU]) (fun _ => (SX q, (I, A, L, P, F, G), D)) σ.1.length (fun i hi => by
    have r := cntU_r (fun i => (lt σ.1 i).1 4 = x) i
    rw [s8_4]
    simp only [s8_5, s8_6, s8_9, s8_12, s8_13, s8_14, s8_17, s8_17n, s8_19, s8_19n, s8_21n, s8_21, s8_24, s8_24n, s8_26, s8_29, s8_30, s8_33, s8_36, s8_39, unJ_I, unJ_J, unJ_F, unJ_R, unJ_N, unJ_U, pushR_I, pushR_J, pushR_F, pushR_R, pushR_N, pushR_U, rfV_s, rfV_n, Option.bind_some, true_or, or_true, if_true, c_cat q h hL hi, h1, hw i hi]
    rw [if_neg (by omega), cntU, w32_id (x := (i : Int) + 1) (by omega) (by omega), w32_id (x := cntU _ i + 1) (by omega) (by omega), show (i : Int) + 1 = ((i + 1 : Nat) : Int) by omega]
    split <;> simp)
  simp only [s8_0, s8_1, s8_2, s8_3, unJ_I, unJ_J, unJ_F, unJ_R, unJ_N, unJ_U, pushR_I, pushR_J, pushR_F, pushR_R, pushR_N, pushR_U, rfV_s, rfV_n, Option.bind_some, true_or, or_true, if_true]
  refine loop.trans ?_
  rw [s8_4]
  simp only [s8_5, s8_6, s8_9, s8_12, s8_13, s8_14, s8_17, s8_17n, s8_19, s8_19n, s8_21n, s8_21, s8_24, s8_24n, s8_26, s8_29, s8_30, s8_33, s8_36, s8_39, s8_42, s8_43, h1]
  rw [if_pos (by omega)]
theorem c_recipe (h : CelAt I A c sl σ) (hL : LoS L c sl) : rs 9 0 [vR 0 c, vU, vU, vU] [] (SX q, (I, A, L, P, F, G), D) = some (vI (cntU (fun i => 0 < (lt σ.1 i).1 5) σ.1.length), (SX q, (I, A, L, P, F, G), D)) := by
  have h1 := h.1
  have h2 := h.2.1
  have hw : ∀ i : Nat, i < σ.1.length → I 50 (sl i) = (lt σ.1 i).1 5 := fun i hi => (h.2.2.2.1 i hi).2.2.2.2.2.1
  have loop := rs_loop (m := 9) (pc := 4) (fun i => [vR 0 c, vI (cntU (fun i => 0 < (lt σ.1 i).1 5) i), vI i, vU]) (fun _ => (SX q, (I, A, L, P, F, G), D)) σ.1.length (fun i hi => by
    have r := cntU_r (fun i => 0 < (lt σ.1 i).1 5) i
    rw [s9_4]
    simp only [s9_5, s9_6, s9_9, s9_12, s9_13, s9_14, s9_17, s9_17n, s9_18, s9_18n, s9_19n, s9_19, s9_22, s9_22n, s9_23, s9_26, s9_29, s9_32, s9_35, unJ_I, unJ_J, unJ_F, unJ_R, unJ_N, unJ_U, pushR_I, pushR_J, pushR_F, pushR_R, pushR_N, pushR_U, rfV_s, rfV_n, Option.bind_some, true_or, or_true, if_true, c_cat q h hL hi, h1, hw i hi]
    rw [if_neg (by omega), cntU, w32_id (x := (i : Int) + 1) (by omega) (by omega), w32_id (x := cntU _ i + 1) (by omega) (by omega), show (i : Int) + 1 = ((i + 1 : Nat) : Int) by omega]
    by_cases hz : 0 < (lt σ.1 i).1 5
    · rw [if_neg (by omega), if_pos hz]
    · rw [if_pos (by omega), if_neg hz, Int.add_zero])
  simp only [s9_0, s9_1, s9_2, s9_3, unJ_I, unJ_J, unJ_F, unJ_R, unJ_N, unJ_U, pushR_I, pushR_J, pushR_F, pushR_R, pushR_N, pushR_U, rfV_s, rfV_n, Option.bind_some, true_or, or_true, if_true]
  refine loop.trans ?_
  rw [s9_4]
  simp only [s9_5, s9_6, s9_9, s9_12, s9_13, s9_14, s9_17, s9_17n, s9_18, s9_18n, s9_19n, s9_19, s9_22, s9_22n, s9_23, s9_26, s9_29, s9_32, s9_35, s9_38, s9_39, h1]
  rw [if_pos (by omega)]
/-- more of the same -/
theorem c_scored (h : CelAt I A c sl σ) (hL : LoS L c sl) (hc : c < 6) : rs 10 0 [vR 0 c, vU, vU, vU] [] (SX q, (I, A, L, P, F, G), D) = some (vI (cntU (fun i => 0 < scN (lt σ.1 i)) σ.1.length), (SX q, (I, A, L, P, F, G), D)) := by
  have h1 := h.1
  have h2 := h.2.1
  have hw : ∀ i : Nat, i < σ.1.length → LotAt I A (sl i) (lt σ.1 i) := h.2.2.2.1
  have loop := rs_loop (m := 10) (pc := 4) (fun i => [vR 0 c, vI (cntU (fun i => 0 < scN (lt σ.1 i)) i), vI i, vU]) (fun _ => (SX q, (I, A, L, P, F, G), D)) σ.1.length (fun i hi => by
    have r := cntU_r (fun i => 0 < scN (lt σ.1 i)) i
    have hl := hL.lt74 hc (show i < 12 by omega)
    rw [s10_4]
    simp only [s10_5, s10_6, s10_9, s10_12, s10_13, s10_14, s10_17, s10_17n, s10_18, s10_18n, s10_19n, s10_19, s10_22, s10_22n, s10_23, s10_26, s10_29, s10_32, s10_35, unJ_I, unJ_J, unJ_F, unJ_R, unJ_N, unJ_U, pushR_I, pushR_J, pushR_F, pushR_R, pushR_N, pushR_U, rfV_s, rfV_n, Option.bind_some, true_or, or_true, if_true, c_cat q h hL hi, h1, c_scores q (hw i hi) (show sl i < 74 by omega)]
    rw [if_neg (by omega), cntU, w32_id (x := (i : Int) + 1) (by omega) (by omega), w32_id (x := cntU _ i + 1) (by omega) (by omega), show (i : Int) + 1 = ((i + 1 : Nat) : Int) by omega]
    by_cases hz : 0 < scN (lt σ.1 i)
    · rw [if_neg (by omega), if_pos hz]
    · rw [if_pos (by omega), if_neg hz, Int.add_zero])
  simp only [s10_0, s10_1, s10_2, s10_3, unJ_I, unJ_J, unJ_F, unJ_R, unJ_N, unJ_U, pushR_I, pushR_J, pushR_F, pushR_R, pushR_N, pushR_U, rfV_s, rfV_n, Option.bind_some, true_or, or_true, if_true]
  refine loop.trans ?_
  rw [s10_4]
  simp only [s10_5, s10_6, s10_9, s10_12, s10_13, s10_14, s10_17, s10_17n, s10_18, s10_18n, s10_19n, s10_19, s10_22, s10_22n, s10_23, s10_26, s10_29, s10_32, s10_35, s10_38, s10_39, h1]
  rw [if_pos (by omega)]
theorem c_grains (h : CelAt I A c sl σ) (hL : LoS L c sl) (hg : ∀ i, i < σ.1.length → (lt σ.1 i).2.length ≤ 200) : rs 11 0 [vR 0 c, vU, vU, vU] [] (SX q, (I, A, L, P, F, G), D) = some (vI (sumU (fun i => (lt σ.1 i).2.length) σ.1.length), (SX q, (I, A, L, P, F, G), D)) := by
  have h1 := h.1
  have h2 := h.2.1
  have hw : ∀ i : Nat, i < σ.1.length → I 44 (sl i) = (lt σ.1 i).2.length := fun i hi => (h.2.2.2.1 i hi).2.2.2.2.2.2.2.1
  have loop := rs_loop (m := 11) (pc := 4) (fun i => [vR 0 c, vI (sumU (fun i => (lt σ.1 i).2.length) i), vI i, vU]) (fun _ => (SX q, (I, A, L, P, F, G), D)) σ.1.length (fun i hi => by
    have r := sumU_r (f := fun i => ((lt σ.1 i).2.length : Int)) (b := 200) (n := i) (fun k hk => by have := hg k (by omega); omega)
    have r2 := hg i hi
    rw [s11_4]
    simp only [s11_5, s11_6, s11_9, s11_12, s11_13, s11_14, s11_17, s11_17n, s11_18, s11_18n, s11_19n, s11_19, s11_22, s11_23, s11_23n, s11_24, s11_27, s11_28, s11_29, s11_32, unJ_I, unJ_J, unJ_F, unJ_R, unJ_N, unJ_U, pushR_I, pushR_J, pushR_F, pushR_R, pushR_N, pushR_U, rfV_s, rfV_n, Option.bind_some, true_or, or_true, if_true, c_cat q h hL hi, h1, hw i hi]
    rw [if_neg (by omega), sumU, w32_id (x := (i : Int) + 1) (by omega) (by omega), w32_id (x := sumU _ i + _) (by omega) (by omega), show (i : Int) + 1 = ((i + 1 : Nat) : Int) by omega])
  simp only [s11_0, s11_1, s11_2, s11_3, unJ_I, unJ_J, unJ_F, unJ_R, unJ_N, unJ_U, pushR_I, pushR_J, pushR_F, pushR_R, pushR_N, pushR_U, rfV_s, rfV_n, Option.bind_some, true_or, or_true, if_true]
  refine loop.trans ?_
  rw [s11_4]
  simp only [s11_5, s11_6, s11_9, s11_12, s11_13, s11_14, s11_17, s11_17n, s11_18, s11_18n, s11_19n, s11_19, s11_22, s11_23, s11_23n, s11_24, s11_27, s11_28, s11_29, s11_32, s11_35, s11_36, h1]
  rw [if_pos (by omega)]
theorem c_litres (h : CelAt I A c sl σ) (hL : LoS L c sl) (hg : ∀ i, i < σ.1.length → 0 ≤ gsum (lt σ.1 i).2 ∧ gsum (lt σ.1 i).2 ≤ 10000) : rs 12 0 [vR 0 c, vU, vU, vU] [] (SX q, (I, A, L, P, F, G), D) = some (vI (sumU (fun i => gsum (lt σ.1 i).2) σ.1.length), (SX q, (I, A, L, P, F, G), D)) := by
  have h1 := h.1
  have h2 := h.2.1
  have hw : ∀ i : Nat, i < σ.1.length → I 45 (sl i) = gsum (lt σ.1 i).2 := fun i hi => (h.2.2.2.1 i hi).2.2.2.2.2.2.2.2.1
  have loop := rs_loop (m := 12) (pc := 4) (fun i => [vR 0 c, vI (sumU (fun i => gsum (lt σ.1 i).2) i), vI i, vU]) (fun _ => (SX q, (I, A, L, P, F, G), D)) σ.1.length (fun i hi => by
    have r := sumU_r (f := fun i => gsum (lt σ.1 i).2) (b := 10000) (n := i) (fun k hk => hg k (by omega))
    have r2 := hg i hi
    rw [s12_4]
    simp only [s12_5, s12_6, s12_9, s12_12, s12_13, s12_14, s12_17, s12_17n, s12_18, s12_18n, s12_19n, s12_19, s12_22, s12_23, s12_23n, s12_24, s12_27, s12_28, s12_29, s12_32, unJ_I, unJ_J, unJ_F, unJ_R, unJ_N, unJ_U, pushR_I, pushR_J, pushR_F, pushR_R, pushR_N, pushR_U, rfV_s, rfV_n, Option.bind_some, true_or, or_true, if_true, c_cat q h hL hi, h1, hw i hi]
    rw [if_neg (by omega), sumU, w32_id (x := (i : Int) + 1) (by omega) (by omega), w32_id (x := sumU _ i + _) (by omega) (by omega), show (i : Int) + 1 = ((i + 1 : Nat) : Int) by omega])
  simp only [s12_0, s12_1, s12_2, s12_3, unJ_I, unJ_J, unJ_F, unJ_R, unJ_N, unJ_U, pushR_I, pushR_J, pushR_F, pushR_R, pushR_N, pushR_U, rfV_s, rfV_n, Option.bind_some, true_or, or_true, if_true]
  refine loop.trans ?_
  rw [s12_4]
  simp only [s12_5, s12_6, s12_9, s12_12, s12_13, s12_14, s12_17, s12_17n, s12_18, s12_18n, s12_19n, s12_19, s12_22, s12_23, s12_23n, s12_24, s12_27, s12_28, s12_29, s12_32, s12_35, s12_36, h1]
  rw [if_pos (by omega)]
end
