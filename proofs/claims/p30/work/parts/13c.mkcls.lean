/-! WHAT THE CONSTRUCTORS MAKE: the class's parts -/
section
variable {q : Nat × (Nat → Int)} {C : MC} {D : MD} {R : Nat → Nat → Option Nat} {N : Nat → Nat} {k z : Nat} {I A : M2} {L P : Nat → Nat → Option Nat} {F G : Nat → Nat → UInt32}
/-- Sharing.<init> -/
theorem k_sharing (h4 : N 4 = 95) (h13 : N 13 = 95) : Mk q 701 [vR 7 0] 269 z N R C D 4 402 (fun t => if t = 4 ∨ t = 13 then 2 else 0) (fun f y => (f = 80 ∧ 95 ≤ y ∧ y < 97) ∨ (140 ≤ f ∧ f ≤ 141 ∧ y = 0)) C D := by
  obtain ⟨a1, b1⟩ := k_new (q := q) (C := C) (D := D) (R := R) (N := N) (k := 269) (z := z) (i := 95) (n := 200) h4 h13 (by omega) (by decide) (by decide) (by decide)
  obtain ⟨a2, b2⟩ := k_new (q := q) (C := C) (D := D) (R := up2 (up2 R 80 (95) (some (95))) 140 0 (some (95))) (N := inc (inc N 4) 13) (k := 269 + 1 + 1) (z := z + 1 + 200) (i := 96) (n := 200) (by rw [inc_n (by decide), inc_e, h4]) (by rw [inc_e, inc_n (by decide), h13]) (by omega) (by decide) (by decide) (by decide)
  have c := ((((Cov.rf R).up (f := 80) (x := 95) rfl).up (f := 140) (x := 0) rfl).up (f := 80) (x := 96) rfl).up (f := 141) (x := 0) rfl
  refine ⟨_, _, ?_, c.iff (fun f x => ?_), (((((Inc.rf N).up 4).up 13).up 4).up 13).iff (fun t => ?_)⟩
  · simp only [s701_0, s701_1, s701_4]
    rw [s701_5 _ _ _ _ _ _ _ a1]
    simp only [s701_8r, s701_9]
    rw [s701_12]
    refine (congrArg (fun o => Option.bind o _) b1).trans ?_
    simp only [Option.bind_some, pushR_U, s701_15, s701_18]
    rw [s701_19 _ _ _ _ _ _ _ a2]
    simp only [s701_22r, s701_23]
    rw [s701_26]
    refine (congrArg (fun o => Option.bind o _) b2).trans ?_
    simp only [Option.bind_some, pushR_U, s701_29, s701_32]
  · (try simp only [false_or])
    omega
  · by_cases h4 : t = 4
    · subst h4; rfl
    · by_cases h13 : t = 13
      · subst h13; rfl
      · simp [h4, h13]
/-- Panel.<init> -/
theorem k_panel (h4 : N 4 = 121) (h13 : N 13 = 121) (h17 : N 17 = 0) : Mk q 301 [vR 3 0] 339 z N R C D 3 21 (fun t => if t = 4 ∨ t = 13 ∨ t = 17 then 1 else 0) (fun f y => (f = 80 ∧ y = 121) ∨ (60 ≤ f ∧ f ≤ 61 ∧ y = 0)) C D := by
  obtain ⟨a1, b1⟩ := k_new (q := q) (C := C) (D := D) (R := R) (N := N) (k := 339) (z := z) (i := 121) (n := 8) h4 h13 (by omega) (by decide) (by decide) (by decide)
  have a2 := mk_ok (q := q) (R := up2 (up2 R 80 121 (some 121)) 60 0 (some 121)) (N := inc (inc N 4) 13) (k := 339 + 1 + 1) (z := z + 1 + 8) (t := 17) (i := 0) (zz := 12) (by rw [inc_n (by decide), inc_n (by decide)]; exact h17) (by decide) (by decide) rfl
  have c := (((Cov.rf R).up (f := 80) (x := 121) rfl).up (f := 60) (x := 0) rfl).up (f := 61) (x := 0) rfl
  refine ⟨_, _, ?_, c.iff (fun f x => ?_), ((((Inc.rf N).up 4).up 13).up 17).iff (fun t => ?_)⟩
  · simp only [s301_0, s301_1, s301_4]
    rw [s301_5 _ _ _ _ _ _ _ a1]
    simp only [s301_8r, s301_9]
    rw [s301_11]
    refine (congrArg (fun o => Option.bind o _) b1).trans ?_
    simp only [Option.bind_some, pushR_U, s301_14, s301_17, s301_18]
    rw [s301_20 _ 12 _ _ _ _ 0 _ (by omega) a2]
    simp only [s301_22, s301_25]
  · (try simp only [false_or])
    omega
  · by_cases h4 : t = 4
    · subst h4; rfl
    · by_cases h13 : t = 13
      · subst h13; rfl
      · by_cases h17 : t = 17
        · subst h17; rfl
        · simp [h4, h13, h17]
/-- Script.<init> -/
theorem k_script (h4 : N 4 = 122) (h13 : N 13 = 122) (h5 : N 5 = 6) : Mk q 601 [vR 6 0] 343 z N R C D 9 132 (fun t => if t = 4 ∨ t = 13 then 4 else if t = 5 then 1 else 0) (fun f y => (f = 80 ∧ 122 ≤ y ∧ y < 126) ∨ (100 ≤ f ∧ f ≤ 102 ∧ y = 6) ∨ (120 ≤ f ∧ f ≤ 121 ∧ y = 0)) C D := by
  obtain ⟨a1, b1⟩ := k_new (q := q) (C := C) (D := D) (R := R) (N := N) (k := 343) (z := z) (i := 122) (n := 100) h4 h13 (by omega) (by decide) (by decide) (by decide)
  have a2 := mk_ok (q := q) (R := up2 (up2 R 80 122 (some 122)) 120 0 (some 122)) (N := inc (inc N 4) 13) (k := 343 + 1 + 1) (z := z + 1 + 100) (t := 5) (i := 6) (zz := 4) (by rw [inc_n (by decide), inc_n (by decide)]; exact h5) (by decide) (by decide) rfl
  obtain ⟨R3, N3, e3, c3, i3⟩ := k_rules (q := q) (C := C) (D := D) (R := up2 (up2 R 80 122 (some 122)) 120 0 (some 122)) (N := inc (inc (inc N 4) 13) 5) (k := 343 + 1 + 1 + 1) (z := z + 1 + 100 + 4) (r := 6) (by omega) (by rw [inc_n (by decide), inc_n (by decide), inc_e, h4]; rfl) (by rw [inc_n (by decide), inc_e, inc_n (by decide), h13]; rfl) (by decide)
  have c := ((((Cov.rf R).up (f := 80) (x := 122) rfl).up (f := 120) (x := 0) rfl).tr c3).up (f := 121) (x := 0) rfl
  refine ⟨_, _, ?_, c.iff (fun f x => ?_), (((((Inc.rf N).up 4).up 13).up 5).tr i3).iff (fun t => ?_)⟩
  · simp only [s601_0, s601_1, s601_4]
    rw [s601_5 _ _ _ _ _ _ _ a1]
    simp only [s601_8r, s601_9]
    rw [s601_11]
    refine (congrArg (fun o => Option.bind o _) b1).trans ?_
    simp only [Option.bind_some, pushR_U, s601_14, s601_17]
    rw [s601_18 _ _ _ _ _ _ _ a2]
    simp only [s601_21r]
    rw [s601_22]
    refine (congrArg (fun o => Option.bind o _) e3).trans ?_
    simp only [Option.bind_some, pushR_U, s601_25, s601_28]
  · have : rr 6 = 123 := rfl
    (try simp only [false_or])
    omega
  · by_cases h4 : t = 4
    · subst h4; rfl
    · by_cases h13 : t = 13
      · subst h13; rfl
      · by_cases h5 : t = 5
        · subst h5; rfl
        · simp [h4, h13, h5]
end
