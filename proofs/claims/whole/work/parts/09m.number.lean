/-! NUMBERS OF THE TEXT -/
abbrev isDg (c : Int) : Prop := 48 ≤ c ∧ c ≤ 57
/-- value and digits, of at most k digits -/
def nmS (tx : List Int) (i : Int) : Nat → Int × Nat
  | 0 => (0, 0)
  | k + 1 => if (nmS tx i k).2 = k ∧ isDg (txC tx (i + k)) then ((nmS tx i k).1 * 10 + txC tx (i + k) - 48, k + 1) else nmS tx i k
theorem nmS_r (tx : List Int) (i : Int) (k : Nat) : (nmS tx i k).2 ≤ k ∧ 0 ≤ (nmS tx i k).1 ∧ (nmS tx i k).1 < 10 ^ k := by
  induction k with
  | zero => exact ⟨Nat.le_refl _, Int.le_refl _, by show (0 : Int) < 10 ^ 0; decide⟩
  | succ k ih =>
    have e : (10 : Int) ^ (k + 1) = 10 ^ k * 10 := Int.pow_succ _ _
    unfold nmS
    split
    · rename_i h
      have h2 := h.2
      unfold isDg at h2
      rw [e]
      refine ⟨Nat.le_refl _, ?_, ?_⟩
      · show 0 ≤ (nmS tx i k).1 * 10 + txC tx (i + k) - 48
        omega
      · show (nmS tx i k).1 * 10 + txC tx (i + k) - 48 < 10 ^ k * 10
        omega
    · rw [e]
      exact ⟨by omega, ih.2.1, by omega⟩
theorem nmS_st {tx : List Int} {i : Int} {k : Nat} (h : (nmS tx i k).2 < k) : ∀ {m : Nat}, k ≤ m → nmS tx i m = nmS tx i k := by
  intro m hm
  obtain ⟨d, rfl⟩ := Nat.exists_eq_add_of_le hm
  induction d with
  | zero => rfl
  | succ d ih =>
    have e := ih (by omega)
    show nmS tx i (k + d + 1) = _
    rw [nmS, e, if_neg (fun z => by have := z.1; omega)]
section
variable (q : Nat × (Nat → Int)) {I A : M2} {L P : Nat → Nat → Option Nat} {F G : Nat → Nat → UInt32} {D : MD} {tx : List Int}
theorem TxAt.keep {I' A' : M2} (h : TxAt I A tx) (k : ∀ f y, f = 122 → I' f y = I f y) (k2 : ∀ j, A' 122 j = A 122 j) : TxAt I' A' tx := ⟨(k _ _ rfl).trans h.1, h.2.1, fun j hj => (k2 j).trans (h.2.2 j hj)⟩
/-- only numbers of the script from 126 to 130 have changed -/
def FrN (lo hi : Nat) (I I' : M2) : Prop := ∀ f y, ¬ (lo ≤ f ∧ f ≤ hi) → I' f y = I f y
/-- Script.passNumber -/
theorem c_passNumber (h : TxAt I A tx) {i : Int} (hi : 0 ≤ i ∧ i ≤ 10000) (hc : I 126 0 = i) : ∃ I', rs 610 0 [vR 6 0, vU] [] (SX q, (I, A, L, P, F, G), D) = some (vI (b01 (0 < (nmS tx i 4).2)), (SX q, (I', A, L, P, F, G), D)) ∧ I' 127 0 = (nmS tx i 4).1 ∧ I' 126 0 = i + (nmS tx i 4).2 ∧ FrN 126 127 I I' := by
  have main : ∀ (d k : Nat) (I' : M2), k + d = 4 → (nmS tx i k).2 = k → I' 127 0 = (nmS tx i k).1 → I' 126 0 = i + k → FrN 126 127 I I' → ∃ I'', rs 610 7 [vR 6 0, vI (k : Int)] [] (SX q, (I', A, L, P, F, G), D) = some (vI (b01 (0 < (nmS tx i 4).2)), (SX q, (I'', A, L, P, F, G), D)) ∧ I'' 127 0 = (nmS tx i 4).1 ∧ I'' 126 0 = i + (nmS tx i 4).2 ∧ FrN 126 127 I I'' := by
    intro d
    induction d with
    | zero =>
      intro k I' hk h1 h2 h3 h4
      have : k = 4 := by omega
      subst this
      refine ⟨I', ?_, h2, by rw [h1]; exact h3, h4⟩
      rw [s610_7]
      simp only [s610_8, s610_9, s610_69, s610_70, s610_73, s610_74, s610_77, s610_78, unJ_I, unJ_J, unJ_F, unJ_R, unJ_N, unJ_U, pushR_I, pushR_J, pushR_F, pushR_R, pushR_N, pushR_U, rfV_s, rfV_n, Option.bind_some, true_or, or_true, if_true, b01]
      rw [h1]
      simp
    | succ d ih =>
      intro k I' hk h1 h2 h3 h4
      have hT : TxAt I' A tx := h.keep (fun f y e => h4 f y (by omega)) (fun _ => rfl)
      have r := nmS_r tx i k
      have r2 : (nmS tx i k).1 < 10000 := by
        have : k = 0 ∨ k = 1 ∨ k = 2 ∨ k = 3 := by omega
        have p := r.2.2
        rcases this with rfl | rfl | rfl | rfl <;> simp at p <;> omega
      rw [s610_7]
      simp only [s610_8, s610_9, s610_12, s610_13, s610_14, s610_17, s610_20, s610_22, s610_24, s610_27, unJ_I, unJ_J, unJ_F, unJ_R, unJ_N, unJ_U, pushR_I, pushR_J, pushR_F, pushR_R, pushR_N, pushR_U, rfV_s, rfV_n, Option.bind_some, true_or, or_true, if_true, h3, c_codeAt q hT (show 0 ≤ i + (k : Int) by omega), c_within]
      rw [if_neg (by omega)]
      by_cases hz : isDg (txC tx (i + k))
      · have hz' := hz
        unfold isDg at hz'
        rw [if_neg (by rw [b01_0]; exact fun z => z hz')]
        have e1 : Unit → w32 ((nmS tx i k).1 * 10) = (nmS tx i k).1 * 10 := fun _ => w32_id (by omega) (by omega)
        have e2 : Unit → w32 ((nmS tx i k).1 * 10 + txC tx (i + k)) = (nmS tx i k).1 * 10 + txC tx (i + k) := fun _ => w32_id (by omega) (by omega)
        have e3 : Unit → w32 ((nmS tx i k).1 * 10 + txC tx (i + k) - 48) = (nmS tx i k).1 * 10 + txC tx (i + k) - 48 := fun _ => w32_id (by omega) (by omega)
        have e4 : Unit → w32 (i + (k : Int) + 1) = i + ((k + 1 : Nat) : Int) := fun _ => by rw [w32_id (by omega) (by omega)]; omega
        have ek : Unit → w32 ((k : Int) + 1) = ((k + 1 : Nat) : Int) := fun _ => by rw [w32_id (by omega) (by omega)]; omega
        have u1 : ∀ v : Int, up2 I' 127 0 v 126 0 = i + (k : Int) := fun v => (up2_ne (by omega)).trans h3
        have ns : nmS tx i (k + 1) = ((nmS tx i k).1 * 10 + txC tx (i + k) - 48, k + 1) := by rw [nmS, if_pos ⟨h1, hz⟩]
        simp only [s610_30, s610_31, s610_32, s610_35, s610_37, s610_38, s610_39, s610_40, s610_43, s610_46, s610_47, s610_49, s610_50, s610_53, s610_54, s610_54r, s610_55, s610_58, s610_59, s610_60, s610_63, s610_66, unJ_I, unJ_J, unJ_F, unJ_R, unJ_N, unJ_U, pushR_I, pushR_J, pushR_F, pushR_R, pushR_N, pushR_U, rfV_s, rfV_n, Option.bind_some, true_or, or_true, if_true, h2, h3, u1, c_codeAt q hT (show 0 ≤ i + (k : Int) by omega), e1 (), e2 (), e3 (), e4 (), ek ()]
        exact ih (k + 1) _ (by omega) (by rw [ns]) ((up2_ne (by omega)).trans (up2_eq.trans (by rw [ns]))) up2_eq (fun f y z => (up2_ne (by omega)).trans ((up2_ne (by omega)).trans (h4 f y z)))
      · have ns : nmS tx i (k + 1) = nmS tx i k := by rw [nmS, if_neg (fun z => hz z.2)]
        have nf : nmS tx i 4 = nmS tx i k := by rw [nmS_st (k := k + 1) (by rw [ns]; omega) (by omega), ns]
        rw [if_pos (by rw [b01_0]; exact fun z => hz z)]
        refine ⟨I', ?_, by rw [nf]; exact h2, by rw [nf, h1]; exact h3, h4⟩
        simp only [s610_69, s610_70, s610_73, s610_74, s610_77, s610_78, unJ_I, unJ_J, unJ_F, unJ_R, unJ_N, unJ_U, pushR_I, pushR_J, pushR_F, pushR_R, pushR_N, pushR_U, rfV_s, rfV_n, Option.bind_some, true_or, or_true, if_true, b01]
        rw [nf, h1]
        by_cases k0 : k = 0
        · subst k0; simp
        · rw [if_neg (by omega), if_pos (by omega)]
  simp only [s610_0, s610_1, s610_2, s610_5, s610_6, unJ_I, unJ_J, unJ_F, unJ_R, unJ_N, unJ_U, pushR_I, pushR_J, pushR_F, pushR_R, pushR_N, pushR_U, rfV_s, rfV_n, Option.bind_some, true_or, or_true, if_true]
  exact main 4 0 _ rfl rfl up2_eq ((up2_ne (by omega)).trans (by rw [hc]; simp)) (fun f y z => up2_ne (by omega))
/-- a blank and a number -/
abbrev bnOk (tx : List Int) (i : Int) : Prop := txC tx i = 32 ∧ 0 < (nmS tx (i + 1) 4).2
def bnV (tx : List Int) (i : Int) : Int := (nmS tx (i + 1) 4).1
def bnC (tx : List Int) (i : Int) : Int := i + 1 + (nmS tx (i + 1) 4).2
theorem c_passBN (h : TxAt I A tx) {i : Int} (hi : 0 ≤ i ∧ i < 10000) (hc : I 126 0 = i) : ∃ I', rs 609 0 [vR 6 0] [] (SX q, (I, A, L, P, F, G), D) = some (vI (b01 (bnOk tx i)), (SX q, (I', A, L, P, F, G), D)) ∧ (bnOk tx i → I' 127 0 = bnV tx i ∧ I' 126 0 = bnC tx i) ∧ FrN 126 127 I I' := by
  simp only [s609_0, s609_1, s609_3, unJ_I, unJ_J, unJ_F, unJ_R, unJ_N, unJ_U, pushR_I, pushR_J, pushR_F, pushR_R, pushR_N, pushR_U, rfV_s, rfV_n, Option.bind_some, true_or, or_true, if_true, c_pass q h (show 0 ≤ i ∧ i ≤ 100000 by omega) hc]
  by_cases hz : txC tx i = 32
  · obtain ⟨I', e, a, b, c⟩ := c_passNumber q (I := up2 I 126 0 (i + 1)) (A := A) (L := L) (P := P) (F := F) (G := G) (D := D) (h.keep (fun f y e => up2_ne (by omega)) (fun _ => rfl)) (i := i + 1) (by omega) up2_eq
    simp only [if_pos hz, b01_t hz, s609_6, s609_9, s609_10, unJ_I, unJ_J, unJ_F, unJ_R, unJ_N, unJ_U, pushR_I, pushR_J, pushR_F, pushR_R, pushR_N, pushR_U, rfV_s, rfV_n, Option.bind_some, true_or, or_true, if_true, e]
    rw [if_neg (by omega)]
    refine ⟨I', ?_, fun _ => ⟨a, b⟩, fun f y z => (c f y z).trans (up2_ne (by omega))⟩
    simp only [s609_13, s609_16, s609_17, s609_20, s609_21, unJ_I, unJ_J, unJ_F, unJ_R, unJ_N, unJ_U, pushR_I, pushR_J, pushR_F, pushR_R, pushR_N, pushR_U, rfV_s, rfV_n, Option.bind_some, true_or, or_true, if_true]
    by_cases hd : 0 < (nmS tx (i + 1) 4).2
    · rw [if_neg (by rw [b01_0]; exact fun z => z hd), b01_t (show bnOk tx i from ⟨hz, hd⟩)]
    · rw [if_pos (by rw [b01_0]; exact hd), b01_f (show ¬ bnOk tx i from fun z => hd z.2)]
  · simp only [if_neg hz, b01_f hz, s609_6, s609_9, s609_10, s609_13, s609_16, s609_17, s609_20, s609_21, unJ_I, unJ_J, unJ_F, unJ_R, unJ_N, unJ_U, pushR_I, pushR_J, pushR_F, pushR_R, pushR_N, pushR_U, rfV_s, rfV_n, Option.bind_some, true_or, or_true, if_true]
    exact ⟨I, by rw [b01_f (show ¬ bnOk tx i from fun z => hz z.1)], fun z => absurd z.1 hz, fun _ _ _ => rfl⟩
end
