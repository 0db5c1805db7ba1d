/-! A TRIAL: measures blended, whether it fits -/
def blU (p : Nat → Int) (ls : List Lt) (t : Nat) (j : Nat) : Int := p j * msu (lt ls j) t
section
variable (q : Nat × (Nat → Int)) {I A : M2} {L P : Nat → Nat → Option Nat} {F G : Nat → Nat → UInt32} {D : MD} {l c x : Nat} {w : Lt} {σ : St} {sl : Nat → Nat}
theorem msu_r {w : Lt} (h : okL w) (t : Nat) : 0 ≤ msu w t ∧ msu w t ≤ 2000 := by
  obtain ⟨-, h1, h2, h3, -⟩ := h
  unfold msu
  repeat' split
  all_goals omega
theorem c_blended (hL : LoS L 5 sl) (h : CelAt I A 5 sl σ) (ho : okLs σ.1) {p : Nat → Int} (hp : ∀ i, i < σ.1.length → A 120 i = p i ∧ 0 ≤ p i ∧ p i ≤ 10001) {n : Int} (hn : 1 ≤ n ∧ n ≤ 10000) (t : Nat) :
    rs 804 0 [vR 8 0, vR 11 t, vI n, vU, vU, vU] [] (SX q, (I, A, L, P, F, G), D) = some (vI (sumU (blU p σ.1 t) σ.1.length / n), (SX q, (I, A, L, P, F, G), D)) := by
  have h1 := h.1
  have h2 := h.2.1
  have l2 : rowLen 120 = 12 := by decide
  have br : ∀ i, i < σ.1.length → 0 ≤ blU p σ.1 t i ∧ blU p σ.1 t i ≤ 20002000 := fun i hi => by
    have m := msu_r (ho i hi).1 t
    have pp := hp i hi
    unfold blU
    exact ⟨Int.mul_nonneg pp.2.1 m.1, Int.le_trans (Int.mul_le_mul pp.2.2 m.2 m.1 (by omega)) (by omega)⟩
  have loop := rs_loop (m := 804) (pc := 5) (fun i => [vR 8 0, vR 11 t, vI n, vI (sumU (blU p σ.1 t) i), vI i, vU]) (fun _ => (SX q, (I, A, L, P, F, G), D)) σ.1.length (fun i hi => by
    have sr := sumU_r (f := blU p σ.1 t) (b := 20002000) (n := i) (fun k hk => br k (by omega))
    have bi := br i hi
    have pi := (hp i hi).1
    have ei : Unit → w32 ((i : Int) + 1) = ((i + 1 : Nat) : Int) := fun _ => by rw [w32_id (by omega) (by omega)]; omega
    have ms : rs 209 0 [vR 2 (sl i), vR 11 t] [] (SX q, (I, A, L, P, F, G), D) = some (vI (msu (lt σ.1 i) t), (SX q, (I, A, L, P, F, G), D)) := c_measure q (h.2.2.2.1 i hi) t
    rw [s804_5]
    simp only [s804_7, s804_8, s804_11, s804_14, s804_17, s804_18, s804_21, s804_23, s804_26, s804_26n, s804_28, s804_28n, s804_30n, s804_30, s804_33, s804_34, s804_35, s804_38, s804_40, s804_43, s804_43n, s804_45, s804_46, s804_49, s804_50, s804_51, s804_52, s804_55, unJ_I, unJ_J, unJ_F, unJ_R, unJ_N, unJ_U, pushR_I, pushR_J, pushR_F, pushR_R, pushR_N, pushR_U, rfV_s, rfV_n, Option.bind_some, true_or, or_true, if_true, c_cat q h hL hi, c_get, h1, ms, ei ()]
    rw [if_neg (by omega), rget_n _ (by omega), pi]
    have e1 : Unit → w32 (p i * msu (lt σ.1 i) t) = blU p σ.1 t i := fun _ => by unfold blU at bi ⊢; exact w32_id (by omega) (by omega)
    have e2 : Unit → w32 (sumU (blU p σ.1 t) i + blU p σ.1 t i) = sumU (blU p σ.1 t) (i + 1) := fun _ => by rw [sumU]; exact w32_id (by omega) (by omega)
    rw [e1 (), e2 ()])
  have sr := sumU_r (f := blU p σ.1 t) (b := 20002000) (n := σ.1.length) br
  simp only [s804_0, s804_1, s804_2, s804_3, unJ_I, unJ_J, unJ_F, unJ_R, unJ_N, unJ_U, pushR_I, pushR_J, pushR_F, pushR_R, pushR_N, pushR_U, rfV_s, rfV_n, Option.bind_some, true_or, or_true, if_true]
  refine loop.trans ?_
  rw [s804_5]
  simp only [s804_7, s804_8, s804_11, s804_14, s804_58, s804_59, s804_62, s804_63, s804_64, s804_65, s804_68, s804_69, unJ_I, unJ_J, unJ_F, unJ_R, unJ_N, unJ_U, pushR_I, pushR_J, pushR_F, pushR_R, pushR_N, pushR_U, rfV_s, rfV_n, Option.bind_some, true_or, or_true, if_true, h1]
  rw [if_pos (by omega), if_neg (by omega), if_neg (by omega), Int.tdiv_eq_ediv_of_nonneg sr.1]
  have hd : 0 ≤ sumU (blU p σ.1 t) σ.1.length / n ∧ sumU (blU p σ.1 t) σ.1.length / n ≤ sumU (blU p σ.1 t) σ.1.length := ⟨Int.ediv_nonneg sr.1 (by omega), Int.ediv_le_self _ sr.1⟩
  rw [w32_id (by omega) (by omega)]
/-- Trial.fits -/
theorem c_fits (hL : LoS L 5 sl) (h : CelAt I A 5 sl σ) (hg : ∀ i, i < σ.1.length → (lt σ.1 i).2.length ≤ 200) (hw : LotAt I A 72 w) (hwl : w.2.length ≤ 200) (k : Int) :
    rs 805 0 [vR 8 0, vI k] [] (SX q, (I, A, L, P, F, G), D) = some (vI (b01 ((σ.1.length : Int) + 1 ≤ 12 ∧ cntU (fun i => (lt σ.1 i).1 4 = k) σ.1.length + 1 ≤ 6 ∧ sumU (fun i => (lt σ.1 i).2.length) σ.1.length + w.2.length ≤ 200)), (SX q, (I, A, L, P, F, G), D)) := by
  have h1 := h.1
  have h2 := h.2.1
  have k44 : I 44 72 = w.2.length := hw.2.2.2.2.2.2.2.1
  have cr := cntU_r (fun i => (lt σ.1 i).1 4 = k) σ.1.length
  have sr := sumU_r (f := fun i => ((lt σ.1 i).2.length : Int)) (b := 200) (n := σ.1.length) (fun i hi => by have := hg i hi; omega)
  have e1 : Unit → w32 ((σ.1.length : Int) + 1) = (σ.1.length : Int) + 1 := fun _ => w32_id (by omega) (by omega)
  have e2 : Unit → w32 (cntU (fun i => (lt σ.1 i).1 4 = k) σ.1.length + 1) = cntU (fun i => (lt σ.1 i).1 4 = k) σ.1.length + 1 := fun _ => w32_id (by omega) (by omega)
  have e3 : Unit → w32 (sumU (fun i => ((lt σ.1 i).2.length : Int)) σ.1.length + (w.2.length : Int)) = sumU (fun i => ((lt σ.1 i).2.length : Int)) σ.1.length + (w.2.length : Int) := fun _ => w32_id (by omega) (by omega)
  simp only [s805_0, s805_1, s805_4, s805_7, s805_8, s805_9, s805_11, s805_14, s805_15, s805_18, s805_19, s805_22, s805_23, s805_24, s805_26, s805_29, s805_30, s805_33, s805_36, s805_37, s805_40, s805_43, s805_44, s805_47, s805_50, s805_51, s805_54, s805_55, unJ_I, unJ_J, unJ_F, unJ_R, unJ_N, unJ_U, pushR_I, pushR_J, pushR_F, pushR_R, pushR_N, pushR_U, rfV_s, rfV_n, Option.bind_some, true_or, or_true, if_true, h1, c_kind q h hL, c_grains q h hL hg, k44, e1 (), e2 (), e3 ()]
  unfold b01
  by_cases a : 12 < (σ.1.length : Int) + 1
  · rw [if_pos a, if_neg (by omega)]
  · rw [if_neg a]
    by_cases b : 6 < cntU (fun i => (lt σ.1 i).1 4 = k) σ.1.length + 1
    · rw [if_pos b, if_neg (by omega)]
    · rw [if_neg b]
      by_cases d : 200 < sumU (fun i => ((lt σ.1 i).2.length : Int)) σ.1.length + (w.2.length : Int)
      · rw [if_pos d, if_neg (by omega)]
      · rw [if_neg d, if_pos (by omega)]
end
