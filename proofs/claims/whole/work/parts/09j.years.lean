/-! YEARS AND ORIGINS AS BITS -/
def yrU (g : Gr) : Nat → Int
  | 0 => 0
  | i + 1 => j_or (yrU g i) (j_shl 1 (gk g i / 10 % 64))
def orU (g : Gr) : Nat → Int
  | 0 => 0
  | i + 1 => j_or (orU g i) (j_shl 1 (56 + gk g i / 640))
def yoU (g : Gr) : Int := j_or (j_ushr (yrU g g.length) 8) (orU g g.length)
theorem ofG_1 {k : Int} (h : 0 ≤ k ∧ k < 5120) : ofG 1 k = 2000 + k / 10 % 64 := by
  unfold ofG
  rw [if_neg (by omega), if_pos rfl, Int.tdiv_eq_ediv_of_nonneg h.1, w32_id (x := k / 10) (by omega) (by omega), Int.tmod_eq_emod_of_nonneg (by omega), w32_id (by omega) (by omega)]
theorem ofG_0 {k : Int} (h : 0 ≤ k ∧ k < 5120) : ofG 0 k = k / 640 := by
  unfold ofG
  rw [if_pos rfl, Int.tdiv_eq_ediv_of_nonneg h.1, w32_id (by omega) (by omega)]
theorem ofG_2 {k : Int} (h : 0 ≤ k ∧ k < 5120) : ofG 2 k = k % 10 := by
  unfold ofG
  rw [if_neg (by omega), if_neg (by omega), Int.tmod_eq_emod_of_nonneg h.1]
section
variable (q : Nat × (Nat → Int)) {I A : M2} {L P : Nat → Nat → Option Nat} {F G : Nat → Nat → UInt32} {D : MD} {l : Nat} {w : Lt}
/-- Lot.yearsAndOrigins -/
theorem c_years (h : LotAt I A l w) (hl : l < 74) (hg : w.2.length ≤ 200) (ho : okGs w.2) : rs 211 0 [vR 2 l, vU, vU, vU, vU, vU, vU] [] (SX q, (I, A, L, P, F, G), D) = some (vJ (yoU w.2), (SX q, (I, A, L, P, F, G), D)) := by
  have n44 : I 44 l = w.2.length := h.2.2.2.2.2.2.2.1
  have hlen := (len_l l hl).1
  have loop := rs_loop (m := 211) (pc := 7) (fun i => [vR 2 l, vJ (yrU w.2 i), vU, vJ (orU w.2 i), vU, vI (i : Int), vU]) (fun _ => (SX q, (I, A, L, P, F, G), D)) w.2.length (fun i hi => by
    have kr := okGs_gv ho hi
    have ei : Unit → w32 ((i : Int) + 1) = ((i + 1 : Nat) : Int) := fun _ => by rw [w32_id (by omega) (by omega)]; omega
    have e1 : Unit → w32 (2000 + gk w.2 i / 10 % 64 - 2000) = gk w.2 i / 10 % 64 := fun _ => by rw [w32_id (by omega) (by omega)]; omega
    have e2 : Unit → w32 (56 + gk w.2 i / 640) = 56 + gk w.2 i / 640 := fun _ => w32_id (by omega) (by omega)
    rw [s211_7]
    simp only [s211_9, s211_10, s211_13, s211_16, s211_17, s211_19, unJ_I, unJ_J, unJ_F, unJ_R, unJ_N, unJ_U, pushR_I, pushR_J, pushR_F, pushR_R, pushR_N, pushR_U, rfV_s, rfV_n, Option.bind_some, true_or, or_true, if_true, c_key q h hl hi, n44]
    rw [if_neg (by omega)]
    simp only [s211_22, s211_24, s211_25, s211_26, s211_29, s211_31, s211_34, s211_37, s211_38, s211_39, s211_40, s211_41, s211_42, s211_43, s211_45, s211_48, s211_50, s211_53, s211_54, s211_55, s211_56, s211_57, s211_60, unJ_I, unJ_J, unJ_F, unJ_R, unJ_N, unJ_U, pushR_I, pushR_J, pushR_F, pushR_R, pushR_N, pushR_U, rfV_s, rfV_n, Option.bind_some, true_or, or_true, if_true, c_ofGrain, ofG_1 ⟨kr.1, kr.2.1⟩, ofG_0 ⟨kr.1, kr.2.1⟩, ei (), e1 (), e2 (), yrU, orU])
  simp only [s211_0, s211_1, s211_2, s211_3, s211_4, s211_5, unJ_I, unJ_J, unJ_F, unJ_R, unJ_N, unJ_U, pushR_I, pushR_J, pushR_F, pushR_R, pushR_N, pushR_U, rfV_s, rfV_n, Option.bind_some, true_or, or_true, if_true]
  refine loop.trans ?_
  rw [s211_7]
  simp only [s211_9, s211_10, s211_13, s211_63, s211_64, s211_66, s211_67, s211_68, s211_69, unJ_I, unJ_J, unJ_F, unJ_R, unJ_N, unJ_U, pushR_I, pushR_J, pushR_F, pushR_R, pushR_N, pushR_U, rfV_s, rfV_n, Option.bind_some, true_or, or_true, if_true, n44]
  rw [if_pos (by omega)]
  rfl
end
