/-! MARKS AS FLOATS -/
theorem kepS_le {d : Nat → Int} (hd : okSc d) (span : Int) {n : Nat} (hn : n ≤ 8) : kepS d span n ≤ 200 * kepN d span n := by
  induction n with
  | zero => exact Int.le_refl _
  | succ n ih =>
    have a := ih (by omega)
    have b := hd n (by omega)
    rw [kepS_s, kepN_s]
    split
    · omega
    · omega
theorem mk_all {d : Nat → Int} (hd : okSc d) {span : Int} (hs : 0 ≤ span) (h : 0 < scN (d, [])) : ∃ s k : Nat, kepS d span 8 = s ∧ kepN d span 8 = k ∧ mrkU d span = mkF s k ∧ flP s k = true := by
  have kr := kep_r d hd span 8 (by omega)
  have kp := kep_pos (d := d) hs (by have := arrU_n d 8; unfold scN at h; have h' : 0 < cntU (fun t => d (6 + t) ≠ -1) 8 := h; omega)
  have kl := kepS_le hd span (n := 8) (by omega)
  refine ⟨(kepS d span 8).toNat, (kepN d span 8).toNat, by omega, by omega, ?_, ?_⟩
  · unfold mrkU mkF
    rw [Int.toNat_of_nonneg (by omega), Int.toNat_of_nonneg (by omega)]
  · exact flA _ _ (by omega) (by omega) (by omega)
theorem flP_and {s k : Nat} (h : flP s k = true) : f_ok (mkF s k) = true ∧ f_cmp .l (mkF s k) (mkF s k) = 0 ∧ 0 ≤ f_cmp .l (mkF s k) FP.fconst0 ∧ f_cmp .l 3212836864 (mkF s k) < 0 ∧
    ((f_cmp .g (mkF s k) FP.fconst0 ≤ 0 ∧ f_raw (mkF s k) = 0) ∨ (0 < f_cmp .g (mkF s k) FP.fconst0 ∧ bitsOk 100 (mkF s k) 150 (f_raw (mkF s k)) = true)) := by
  unfold flP at h
  simp only [Bool.and_eq_true, decide_eq_true_eq] at h
  obtain ⟨⟨⟨⟨⟨a, b⟩, c⟩, d⟩, r⟩, e⟩ := h
  refine ⟨fb_ok (by omega), b, c, d, ?_⟩
  by_cases z : s = 0
  · rw [if_pos z] at e
    simp only [Bool.and_eq_true, decide_eq_true_eq] at e
    exact Or.inl ⟨e.1, by rw [r, e.2]; rfl⟩
  · rw [if_neg z] at e
    simp only [Bool.and_eq_true, decide_eq_true_eq] at e
    exact Or.inr ⟨e.1, bits_ok2 e.2 a r⟩
/-- what is decided of a mark -/
theorem mrk_f {d : Nat → Int} (hd : okSc d) {span : Int} (hs : 0 ≤ span) (h : 0 < scN (d, [])) : f_ok (mrkU d span) = true ∧ f_cmp .l (mrkU d span) (mrkU d span) = 0 ∧ 0 ≤ f_cmp .l (mrkU d span) FP.fconst0 ∧ f_cmp .l 3212836864 (mrkU d span) < 0 ∧
    ((f_cmp .g (mrkU d span) FP.fconst0 ≤ 0 ∧ f_raw (mrkU d span) = 0) ∨ (0 < f_cmp .g (mrkU d span) FP.fconst0 ∧ bitsOk 100 (mrkU d span) 150 (f_raw (mrkU d span)) = true)) := by
  obtain ⟨s, k, e1, e2, e3, e4⟩ := mk_all hd hs h
  rw [e3]
  exact flP_and e4
