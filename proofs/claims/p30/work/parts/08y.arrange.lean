/-! SCORES ARE ARRANGED -/
def posE (f : Nat → Int) (v : Int) : Nat → Nat
  | 0 => 0
  | n + 1 => if v < f n then posE f v n else n + 1
theorem posE_le (f : Nat → Int) (v : Int) (n : Nat) : posE f v n ≤ n := by
  induction n with
  | zero => exact Nat.le_refl _
  | succ n ih => unfold posE; split <;> omega
theorem posE_hi {f : Nat → Int} {v : Int} : ∀ {n j : Nat}, posE f v n ≤ j → j < n → v < f j := by
  intro n
  induction n with
  | zero => intro j _ h; omega
  | succ n ih =>
    intro j h1 h2
    unfold posE at h1
    split at h1
    · by_cases e : j = n
      · subst e; assumption
      · exact ih h1 (by omega)
    · omega
theorem posE_lo {f : Nat → Int} {v : Int} : ∀ {n : Nat}, 0 < posE f v n → f (posE f v n - 1) ≤ v := by
  intro n
  induction n with
  | zero => intro h; exact absurd h (Nat.lt_irrefl _)
  | succ n ih =>
    intro h
    unfold posE at h ⊢
    split
    · rename_i hx
      rw [if_pos hx] at h
      exact ih h
    · simp; omega
theorem posE_congr {f g : Nat → Int} {v : Int} {n : Nat} (h : ∀ j, j < n → f j = g j) : posE f v n = posE g v n := by
  induction n with
  | zero => rfl
  | succ n ih => unfold posE; rw [h n (by omega), ih (fun j hj => h j (by omega))]
def insF (f : Nat → Int) (n : Nat) (v : Int) : Nat → Int := fun j => if j < posE f v n then f j else if j = posE f v n then v else f (j - 1)
section
variable (q : Nat × (Nat → Int)) {I A : M2} {L P : Nat → Nat → Option Nat} {F G : Nat → Nat → UInt32} {D : MD} {l : Nat} {w : Lt}
def shB (A : M2) (m n : Nat) : M2 := fun r j => if r = 121 ∧ m < j ∧ j ≤ n then A r (j - 1) else A r j
theorem shB_s (A : M2) (m n : Nat) (h : m + 1 ≤ n) : up2 (shB A (m + 1) n) 121 (m + 1) (A 121 m) = shB A m n := by
  funext r j
  unfold up2 shB
  by_cases h1 : r = 121 ∧ j = m + 1
  · obtain ⟨rfl, rfl⟩ := h1
    rw [if_pos ⟨rfl, rfl⟩, if_pos (by omega)]
    rfl
  · rw [if_neg h1]
    by_cases h3 : r = 121 ∧ m + 1 < j ∧ j ≤ n
    · rw [if_pos h3, if_pos (by omega)]
    · rw [if_neg h3, if_neg (by omega)]
/-- one score is put in -/
theorem arr_in {n t : Nat} (hn : n < 8) {f : Nat → Int} (hf : ∀ j, j < n → A 121 j = f j) (v : Int) : ∃ A', rs 303 32 [vR 3 0, vR 2 l, vI (n : Int), vI (t : Int), vI v, vI (n : Int)] [] (SX q, (I, A, L, P, F, G), D) = rs 303 90 [vR 3 0, vR 2 l, vI (n : Int), vI (t : Int), vI v, vI (posE f v n : Int)] [] (SX q, (I, A', L, P, F, G), D) ∧ (∀ j, j < n + 1 → A' 121 j = insF f n v j) ∧ ∀ r j, r ≠ 121 → A' r j = A r j := by
  have l5 : rowLen 121 = 8 := by decide
  have hp := posE_le f v n
  have loop := rs_loop (m := 303) (pc := 32) (fun k => [vR 3 0, vR 2 l, vI (n : Int), vI (t : Int), vI v, vI ((n - k : Nat) : Int)]) (fun k => (SX q, (I, shB A (n - k) n, L, P, F, G), D)) (n - posE f v n) (fun k hk => by
    have hm : n - k = (n - (k + 1)) + 1 := by omega
    have hm2 : n - (k + 1) + 1 ≤ n := by omega
    have hm3 : posE f v n ≤ n - (k + 1) := by omega
    rw [hm]
    generalize n - (k + 1) = m at hm2 hm3
    have gt := posE_hi hm3 (by omega)
    have fm := hf m (by omega)
    have v1 : shB A (m + 1) n 121 m = A 121 m := if_neg (by omega)
    have e1 : Unit → w32 (((m + 1 : Nat) : Int) - 1) = (m : Int) := fun _ => by rw [w32_id (by omega) (by omega)]; omega
    have e2 : Unit → w32 (((m + 1 : Nat) : Int) + -1) = (m : Int) := fun _ => by rw [w32_id (by omega) (by omega)]; omega
    rw [s303_32]
    simp only [s303_34, s303_37, s303_38, s303_41, s303_43, s303_44, s303_45, s303_48, s303_50, s303_53, s303_54, s303_57, s303_59, s303_60, s303_63, s303_65, s303_66, s303_67, s303_70, s303_73, s303_76, unJ_I, unJ_J, unJ_F, unJ_R, unJ_N, unJ_U, pushR_I, pushR_J, pushR_F, pushR_R, pushR_N, pushR_U, rfV_s, rfV_n, Option.bind_some, true_or, or_true, if_true, c_get, c_put, e1 (), e2 ()]
    rw [if_neg (by omega), rget_n _ (by omega), v1, if_neg (by omega), rput_n _ _ (by omega), shB_s A m n hm2])
  have a0 : A = shB A (n - 0) n := by
    funext r j
    unfold shB
    rw [if_neg (by omega)]
  have e0 : rs 303 32 [vR 3 0, vR 2 l, vI (n : Int), vI (t : Int), vI v, vI (n : Int)] [] (SX q, (I, A, L, P, F, G), D) = rs 303 32 [vR 3 0, vR 2 l, vI (n : Int), vI (t : Int), vI v, vI ((n - 0 : Nat) : Int)] [] (SX q, (I, shB A (n - 0) n, L, P, F, G), D) := by rw [← a0]; rfl
  rw [e0, loop, show n - (n - posE f v n) = posE f v n by omega]
  have out : rs 303 32 [vR 3 0, vR 2 l, vI (n : Int), vI (t : Int), vI v, vI (posE f v n : Int)] [] (SX q, (I, shB A (posE f v n) n, L, P, F, G), D) = rs 303 79 [vR 3 0, vR 2 l, vI (n : Int), vI (t : Int), vI v, vI (posE f v n : Int)] [] (SX q, (I, shB A (posE f v n) n, L, P, F, G), D) := by
    rw [s303_32]
    by_cases hz : posE f v n = 0
    · simp only [s303_34, hz]
      rw [if_pos (by omega)]
    · have lo := posE_lo (f := f) (v := v) (n := n) (by omega)
      have e1 : Unit → w32 ((posE f v n : Int) - 1) = ((posE f v n - 1 : Nat) : Int) := fun _ => by rw [w32_id (by omega) (by omega)]; omega
      have v1 : shB A (posE f v n) n 121 (posE f v n - 1) = f (posE f v n - 1) := (if_neg (by omega)).trans (hf _ (by omega))
      simp only [s303_34, s303_37, s303_38, s303_41, s303_43, s303_44, s303_45, s303_48, s303_50, unJ_I, unJ_J, unJ_F, unJ_R, unJ_N, unJ_U, pushR_I, pushR_J, pushR_F, pushR_R, pushR_N, pushR_U, rfV_s, rfV_n, Option.bind_some, true_or, or_true, if_true, c_get, e1 ()]
      rw [if_neg (by omega), rget_n _ (by omega), v1, if_pos lo]
  rw [out]
  simp only [s303_79, s303_80, s303_83, s303_85, s303_87, unJ_I, unJ_J, unJ_F, unJ_R, unJ_N, unJ_U, pushR_I, pushR_J, pushR_F, pushR_R, pushR_N, pushR_U, rfV_s, rfV_n, Option.bind_some, true_or, or_true, if_true, c_put]
  rw [rput_n _ _ (by omega)]
  refine ⟨_, rfl, fun j hj => ?_, fun r j hr => ?_⟩
  · unfold insF
    by_cases c1 : j < posE f v n
    · rw [if_pos c1, up2_ne (by omega)]
      exact (if_neg (by omega)).trans (hf j (by omega))
    · rw [if_neg c1]
      by_cases c2 : j = posE f v n
      · rw [if_pos c2, c2, up2_eq]
      · rw [if_neg c2, up2_ne (by omega)]
        exact (if_pos ⟨rfl, by omega, by omega⟩).trans (hf _ (by omega))
  · rw [up2_ne (by omega)]
    exact if_neg (by omega)
end
