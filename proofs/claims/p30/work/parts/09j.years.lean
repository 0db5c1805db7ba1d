/-! YEARS AND ORIGINS AS BITS -/
def yrU (g : Gr) : Nat → Int
  | 0 => 0
  | i + 1 => j_or (yrU g i) (j_shl 1 (gk g i / 10 % 64))
def orU (g : Gr) : Nat → Int
  | 0 => 0
  | i + 1 => j_or (orU g i) (j_shl 1 (56 + gk g i / 640))
def yoU (g : Gr) : Int := j_or (j_ushr (yrU g g.length) 8) (orU g g.length)
theorem ofG_1 {k : Int} (h : 0 ≤ k ∧ k < 5120) : ofG 1 k = 2000 + k / 10 % 64 := by
  unfold ofG
  rw [if_neg (by omega), if_pos rfl, Int.tdiv_eq_ediv_of_nonneg h.1, w32_id (x := k / 10) (by omega) (by omega), Int.tmod_eq_emod_of_nonneg (by omega), w32_id (by omega) (by omega)]
theorem ofG_0 {k : Int} (h : 0 ≤ k ∧ k < 5120) : ofG 0 k = k / 640 := by
  unfold ofG
  rw [if_pos rfl, Int.tdiv_eq_ediv_of_nonneg h.1, w32_id (by omega) (by omega)]
theorem ofG_2 {k : Int} (h : 0 ≤ k ∧ k < 5120) : ofG 2 k = k % 10 := by
  unfold ofG
  rw [if_neg (by omega), if_neg (by omega), Int.tmod_eq_emod_of_nonneg h.1]
