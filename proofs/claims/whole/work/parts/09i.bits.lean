/-! MARKS AS FLOATS -/
theorem kepS_le {d : Nat → Int} (hd : okSc d) (span : Int) {n : Nat} (hn : n ≤ 8) : kepS d span n ≤ 200 * kepN d span n := by
  induction n with
  | zero => exact Int.le_refl _
  | succ n ih =>
    have a := ih (by omega)
    have b := hd n (by omega)
    rw [kepS_s, kepN_s]
    split
    · omega
    · omega
theorem mk_all {d : Nat → Int} (hd : okSc d) {span : Int} (hs : 0 ≤ span) (h : 0 < scN (d, [])) : ∃ s k : Nat, kepS d span 8 = s ∧ kepN d span 8 = k ∧ mrkU d span = mkF s k ∧ flP s k = true := by
  have kr := kep_r d hd span 8 (by omega)
  have kp := kep_pos (d := d) hs (by have := arrU_n d 8; unfold scN at h; have h' : 0 < cntU (fun t => d (6 + t) ≠ -1) 8 := h; omega)
  have kl := kepS_le hd span (n := 8) (by omega)
  refine ⟨(kepS d span 8).toNat, (kepN d span 8).toNat, by omega, by omega, ?_, ?_⟩
  · unfold mrkU mkF
    rw [Int.toNat_of_nonneg (by omega), Int.toNat_of_nonneg (by omega)]
  · exact flA _ _ (by omega) (by omega) (by omega)
theorem flP_and {s k : Nat} (h : flP s k = true) : f_ok (mkF s k) = true ∧ f_cmp .l (mkF s k) (mkF s k) = 0 ∧ 0 ≤ f_cmp .l (mkF s k) FP.fconst0 ∧ f_cmp .l 3212836864 (mkF s k) < 0 ∧
    ((f_cmp .g (mkF s k) FP.fconst0 ≤ 0 ∧ f_raw (mkF s k) = 0) ∨ (0 < f_cmp .g (mkF s k) FP.fconst0 ∧ bitsOk 100 (mkF s k) 150 (f_raw (mkF s k)) = true)) := by
  unfold flP at h
  simp only [Bool.and_eq_true, decide_eq_true_eq] at h
  obtain ⟨⟨⟨⟨⟨a, b⟩, c⟩, d⟩, r⟩, e⟩ := h
  refine ⟨fb_ok (by omega), b, c, d, ?_⟩
  by_cases z : s = 0
  · rw [if_pos z] at e
    simp only [Bool.and_eq_true, decide_eq_true_eq] at e
    exact Or.inl ⟨e.1, by rw [r, e.2]; rfl⟩
  · rw [if_neg z] at e
    simp only [Bool.and_eq_true, decide_eq_true_eq] at e
    exact Or.inr ⟨e.1, bits_ok2 e.2 a r⟩
/-- what is decided of a mark -/
theorem mrk_f {d : Nat → Int} (hd : okSc d) {span : Int} (hs : 0 ≤ span) (h : 0 < scN (d, [])) : f_ok (mrkU d span) = true ∧ f_cmp .l (mrkU d span) (mrkU d span) = 0 ∧ 0 ≤ f_cmp .l (mrkU d span) FP.fconst0 ∧ f_cmp .l 3212836864 (mrkU d span) < 0 ∧
    ((f_cmp .g (mrkU d span) FP.fconst0 ≤ 0 ∧ f_raw (mrkU d span) = 0) ∨ (0 < f_cmp .g (mrkU d span) FP.fconst0 ∧ bitsOk 100 (mrkU d span) 150 (f_raw (mrkU d span)) = true)) := by
  obtain ⟨s, k, e1, e2, e3, e4⟩ := mk_all hd hs h
  rw [e3]
  exact flP_and e4
section
variable (q : Nat × (Nat → Int)) {I A : M2} {L P : Nat → Nat → Option Nat} {F G : Nat → Nat → UInt32} {D : MD} {l : Nat} {w : Lt}
theorem c_bits1 {μ : Mem} : ∀ (n : Nat) (x : UInt32) (e r : Int) (i : Nat), bitsOk n x e r = true → i + n ≤ 100 → -1000 + n ≤ e → e ≤ 1000 → rs 304 22 [vU, vF x, vI e, vI i] [] μ = some (vI r, μ) := by
  intro n
  induction n with
  | zero => intro x e r i h; exact absurd h (by simp [bitsOk])
  | succ n ih =>
    intro x e r i h hi h1 h2
    unfold bitsOk at h
    have ee : Unit → w32 (e + -1) = e - 1 := fun _ => by rw [w32_id (by omega) (by omega)]; omega
    have ei : Unit → w32 ((i : Int) + 1) = ((i + 1 : Nat) : Int) := fun _ => by rw [w32_id (by omega) (by omega)]; omega
    rw [s304_22]
    simp only [s304_23, s304_25, s304_28, s304_29, s304_31, s304_32, unJ_I, unJ_J, unJ_F, unJ_R, unJ_N, unJ_U, pushR_I, pushR_J, pushR_F, pushR_R, pushR_N, pushR_U, rfV_s, rfV_n, Option.bind_some, true_or, or_true, if_true]
    rw [if_neg (by omega)]
    by_cases z : 0 ≤ f_cmp .g x 1258291200
    · rw [if_pos z] at h ⊢
      simp only [s304_48, s304_49, s304_51, s304_52, s304_53, s304_54, s304_56, s304_57, s304_58, unJ_I, unJ_J, unJ_F, unJ_R, unJ_N, unJ_U, pushR_I, pushR_J, pushR_F, pushR_R, pushR_N, pushR_U, rfV_s, rfV_n, Option.bind_some, true_or, or_true, if_true]
      rw [of_decide_eq_true h]
    · rw [if_neg z] at h ⊢
      simp only [Bool.and_eq_true] at h
      simp only [s304_35, s304_36, s304_37, s304_38, s304_39, s304_42, s304_45, unJ_I, unJ_J, unJ_F, unJ_R, unJ_N, unJ_U, pushR_I, pushR_J, pushR_F, pushR_R, pushR_N, pushR_U, rfV_s, rfV_n, Option.bind_some, true_or, or_true, if_true]
      rw [if_pos h.1, ee (), ei ()]
      exact ih _ _ _ _ h.2 (by omega) (by omega) (by omega)
/-- Panel.markAsBits -/
theorem c_bits (m : UInt32) (hm : G 65 0 = m) (h : (f_cmp .g m FP.fconst0 ≤ 0 ∧ f_raw m = 0) ∨ (0 < f_cmp .g m FP.fconst0 ∧ bitsOk 100 m 150 (f_raw m) = true)) :
    rs 304 0 [vR 3 0, vU, vU, vU] [] (SX q, (I, A, L, P, F, G), D) = some (vI (f_raw m), (SX q, (I, A, L, P, F, G), D)) := by
  simp only [s304_0, s304_1, s304_4, s304_5, s304_6, unJ_I, unJ_J, unJ_F, unJ_R, unJ_N, unJ_U, pushR_I, pushR_J, pushR_F, pushR_R, pushR_N, pushR_U, rfV_s, rfV_n, Option.bind_some, true_or, or_true, if_true, hm]
  rcases h with ⟨h1, h2⟩ | ⟨h1, h2⟩
  · rw [if_neg (by omega)]
    simp only [s304_9, s304_10, unJ_I, unJ_J, unJ_F, unJ_R, unJ_N, unJ_U, pushR_I, pushR_J, pushR_F, pushR_R, pushR_N, pushR_U, rfV_s, rfV_n, Option.bind_some, true_or, or_true, if_true, h2]
  · rw [if_pos h1]
    simp only [s304_11, s304_12, s304_15, s304_16, s304_19, s304_20, s304_21, unJ_I, unJ_J, unJ_F, unJ_R, unJ_N, unJ_U, pushR_I, pushR_J, pushR_F, pushR_R, pushR_N, pushR_U, rfV_s, rfV_n, Option.bind_some, true_or, or_true, if_true, hm]
    exact c_bits1 100 m 150 (f_raw m) 0 h2 (by omega) (by omega) (by omega)
end
