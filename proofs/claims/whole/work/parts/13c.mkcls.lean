/-! WHAT THE CONSTRUCTORS MAKE: the class's parts -/
section
variable {q : Nat × (Nat → Int)} {C : MC} {D : MD} {R : Nat → Nat → Option Nat} {N : Nat → Nat} {k z : Nat} {I A : M2} {L P : Nat → Nat → Option Nat} {F G : Nat → Nat → UInt32}
/-- Sharing.<init> -/
theorem k_sharing {x : Nat} (hx : x < 2) (h4 : N 4 = 249 + 4 * x) (h13 : N 13 = 249 + 4 * x) (hk : k = offX 7 x + 1) : Mk q 701 [vR 7 x] k z N R C D 4 402 (fun t => if t = 4 ∨ t = 13 then 2 else 0) (fun f y => (f = 80 ∧ 249 + 4 * x ≤ y ∧ y < 251 + 4 * x) ∨ (140 ≤ f ∧ f ≤ 141 ∧ y = x)) C D := by
  have o : ∀ x, x < 2 → offX 4 (249 + 4 * x) = offX 7 x + 1 ∧ offX 13 (249 + 4 * x) = offX 7 x + 2 ∧ offX 4 (250 + 4 * x) = offX 7 x + 3 ∧ offX 13 (250 + 4 * x) = offX 7 x + 4 ∧ rowLen (249 + 4 * x) = 200 ∧ rowLen (250 + 4 * x) = 200 := by decide +kernel
  obtain ⟨o1, o2, o3, o4, n1, n2⟩ := o x hx
  obtain ⟨a1, b1⟩ := k_new (q := q) (C := C) (D := D) (R := R) (N := N) (k := k) (z := z) (i := 249 + 4 * x) (n := 200) h4 h13 (by omega) (by omega) (by omega) n1
  obtain ⟨a2, b2⟩ := k_new (q := q) (C := C) (D := D) (R := up2 (up2 R 80 (249 + 4 * x) (some (249 + 4 * x))) 140 x (some (249 + 4 * x))) (N := inc (inc N 4) 13) (k := k + 1 + 1) (z := z + 1 + 200) (i := 250 + 4 * x) (n := 200) (by rw [inc_n (by decide), inc_e, h4]; omega) (by rw [inc_e, inc_n (by decide), h13]; omega) (by omega) (by omega) (by omega) n2
  have c := ((((Cov.rf R).up (f := 80) (x := 249 + 4 * x) rfl).up (f := 140) (x := x) rfl).up (f := 80) (x := 250 + 4 * x) rfl).up (f := 141) (x := x) rfl
  refine ⟨_, _, ?_, c.iff (fun f x => ?_), (((((Inc.rf N).up 4).up 13).up 4).up 13).iff (fun t => ?_)⟩
  · simp only [s701_0, s701_1, s701_4]
    rw [s701_5 _ _ _ _ _ _ _ a1]
    simp only [s701_8r, s701_9]
    rw [s701_12]
    refine (congrArg (fun o => Option.bind o _) b1).trans ?_
    simp only [Option.bind_some, pushR_U, s701_15, s701_18]
    rw [s701_19 _ _ _ _ _ _ _ a2]
    simp only [s701_22r, s701_23]
    rw [s701_26]
    refine (congrArg (fun o => Option.bind o _) b2).trans ?_
    simp only [Option.bind_some, pushR_U, s701_29, s701_32]
  · omega
  · by_cases h4 : t = 4
    · subst h4; rfl
    · by_cases h13 : t = 13
      · subst h13; rfl
      · simp [h4, h13]
/-- Panel.<init> -/
theorem k_panel (h4 : N 4 = 255) (h13 : N 13 = 255) (h17 : N 17 = 0) : Mk q 301 [vR 3 0] 608 z N R C D 3 21 (fun t => if t = 4 ∨ t = 13 ∨ t = 17 then 1 else 0) (fun f y => (f = 80 ∧ y = 255) ∨ (60 ≤ f ∧ f ≤ 61 ∧ y = 0)) C D := by
  obtain ⟨a1, b1⟩ := k_new (q := q) (C := C) (D := D) (R := R) (N := N) (k := 608) (z := z) (i := 255) (n := 8) h4 h13 (by omega) (by decide) (by decide) (by decide)
  have a2 := mk_ok (q := q) (R := up2 (up2 R 80 255 (some 255)) 60 0 (some 255)) (N := inc (inc N 4) 13) (k := 608 + 1 + 1) (z := z + 1 + 8) (t := 17) (i := 0) (zz := 12) (by rw [inc_n (by decide), inc_n (by decide)]; exact h17) (by decide) (by decide) rfl
  have c := (((Cov.rf R).up (f := 80) (x := 255) rfl).up (f := 60) (x := 0) rfl).up (f := 61) (x := 0) rfl
  refine ⟨_, _, ?_, c.iff (fun f x => ?_), ((((Inc.rf N).up 4).up 13).up 17).iff (fun t => ?_)⟩
  · simp only [s301_0, s301_1, s301_4]
    rw [s301_5 _ _ _ _ _ _ _ a1]
    simp only [s301_8r, s301_9]
    rw [s301_11]
    refine (congrArg (fun o => Option.bind o _) b1).trans ?_
    simp only [Option.bind_some, pushR_U, s301_14, s301_17, s301_18]
    rw [s301_20 _ 12 _ _ _ _ 0 _ (by omega) a2]
    simp only [s301_22, s301_25]
  · omega
  · by_cases h4 : t = 4
    · subst h4; rfl
    · by_cases h13 : t = 13
      · subst h13; rfl
      · by_cases h17 : t = 17
        · subst h17; rfl
        · simp [h4, h13, h17]
/-- Script.<init> -/
theorem k_script (h4 : N 4 = 256) (h13 : N 13 = 256) (h5 : N 5 = 6) : Mk q 601 [vR 6 0] 612 z N R C D 9 132 (fun t => if t = 4 ∨ t = 13 then 4 else if t = 5 then 1 else 0) (fun f y => (f = 80 ∧ 256 ≤ y ∧ y < 260) ∨ (100 ≤ f ∧ f ≤ 102 ∧ y = 6) ∨ (120 ≤ f ∧ f ≤ 121 ∧ y = 0)) C D := by
  obtain ⟨a1, b1⟩ := k_new (q := q) (C := C) (D := D) (R := R) (N := N) (k := 612) (z := z) (i := 256) (n := 100) h4 h13 (by omega) (by decide) (by decide) (by decide)
  have a2 := mk_ok (q := q) (R := up2 (up2 R 80 256 (some 256)) 120 0 (some 256)) (N := inc (inc N 4) 13) (k := 612 + 1 + 1) (z := z + 1 + 100) (t := 5) (i := 6) (zz := 4) (by rw [inc_n (by decide), inc_n (by decide)]; exact h5) (by decide) (by decide) rfl
  obtain ⟨R3, N3, e3, c3, i3⟩ := k_rules (q := q) (C := C) (D := D) (R := up2 (up2 R 80 256 (some 256)) 120 0 (some 256)) (N := inc (inc (inc N 4) 13) 5) (k := 612 + 1 + 1 + 1) (z := z + 1 + 100 + 4) (r := 6) (by omega) (by rw [inc_n (by decide), inc_n (by decide), inc_e, h4]; rfl) (by rw [inc_n (by decide), inc_e, inc_n (by decide), h13]; rfl) (by decide)
  have c := ((((Cov.rf R).up (f := 80) (x := 256) rfl).up (f := 120) (x := 0) rfl).tr c3).up (f := 121) (x := 0) rfl
  refine ⟨_, _, ?_, c.iff (fun f x => ?_), (((((Inc.rf N).up 4).up 13).up 5).tr i3).iff (fun t => ?_)⟩
  · simp only [s601_0, s601_1, s601_4]
    rw [s601_5 _ _ _ _ _ _ _ a1]
    simp only [s601_8r, s601_9]
    rw [s601_11]
    refine (congrArg (fun o => Option.bind o _) b1).trans ?_
    simp only [Option.bind_some, pushR_U, s601_14, s601_17]
    rw [s601_18 _ _ _ _ _ _ _ a2]
    simp only [s601_21r]
    rw [s601_22]
    refine (congrArg (fun o => Option.bind o _) e3).trans ?_
    simp only [Option.bind_some, pushR_U, s601_25, s601_28]
  · have : rr 6 = 257 := rfl
    omega
  · by_cases h4 : t = 4
    · subst h4; rfl
    · by_cases h13 : t = 13
      · subst h13; rfl
      · by_cases h5 : t = 5
        · subst h5; rfl
        · simp [h4, h13, h5]
/-- History.<init> -/
theorem k_hist (h0 : N 0 = 1) (h2 : N 2 = 12) (h4 : N 4 = 41) (h5 : N 5 = 1) (h13 : N 13 = 41) (h15 : N 15 = 1) (h16 : N 16 = 0) :
    ∃ L' A' P', CelS 1 5 L L' A A' ∧ (∀ a j, P' a j = if a = 0 ∧ j < 4 then some (j + 1) else P a j) ∧ Mk q 101 [vR 1 0, vU] 99 z N R (I, A, L, P, F, G) D 389 20512 (fun t => if t = 0 ∨ t = 5 ∨ t = 15 then 4 else if t = 2 then 48 else if t = 4 ∨ t = 13 then 164 else if t = 16 then 1 else 0)
      (fun f x => (f = 80 ∧ 41 ≤ x ∧ x < 205) ∨ (100 ≤ f ∧ f ≤ 102 ∧ 1 ≤ x ∧ x < 5) ∨ (f ≤ 3 ∧ 1 ≤ x ∧ x < 5) ∨ (40 ≤ f ∧ f ≤ 42 ∧ 12 ≤ x ∧ x < 60) ∨ (f = 20 ∧ x = 0)) (I, A', L', P', F, G) D := by
  have m1 := mk_ok (q := q) (R := R) (N := N) (k := 99) (z := z) (t := 16) (i := 0) (zz := 4) h16 (by decide) (by decide) rfl
  have ofc : ∀ i, i < 4 → offX 0 (i + 1) = 100 + 97 * i ∧ cbX (i + 1) = 100 + 97 * i := by decide
  have le : LX q.1 16 0 = 4 := rfl
  obtain ⟨ls', μ', el, R5, N5, L5, A5, P5, rfl, rfl, c5, i5, l5, p5⟩ := rs_loopP (m := 101) (pc := 14) (ls := [vR 1 0, vI 0]) (μ := ((up2 R 20 0 (some 0), inc N 16, LX q.1, 99 + 1, z + 4, q.2), (I, A, L, P, F, G), D)) (fun i ls μ => ∃ R' N' L' A' P', μ = ((R', N', LX q.1, 100 + 97 * i, z + 4 + 5127 * i, q.2), (I, A', L', P', F, G), D) ∧ ls = [vR 1 0, vI (i : Int)] ∧
      Cov (fun f x => (f = 80 ∧ 41 ≤ x ∧ x < 41 + 41 * i) ∨ (100 ≤ f ∧ f ≤ 102 ∧ 1 ≤ x ∧ x < 1 + i) ∨ (f ≤ 3 ∧ 1 ≤ x ∧ x < 1 + i) ∨ (40 ≤ f ∧ f ≤ 42 ∧ 12 ≤ x ∧ x < 12 + 12 * i) ∨ (f = 20 ∧ x = 0)) R R' ∧ Inc (fun t => if t = 0 ∨ t = 5 ∨ t = 15 then i else if t = 2 then 12 * i else if t = 4 ∨ t = 13 then 41 * i else if t = 16 then 1 else 0) N N' ∧ CelS 1 (i + 1) L L' A A' ∧ ∀ a j, P' a j = if a = 0 ∧ j < i then some (j + 1) else P a j) 4
    ⟨up2 R 20 0 (some 0), inc N 16, L, A, P, rfl, rfl, ((Cov.rf R).up (f := 20) (x := 0) rfl).iff (fun f x => by omega), ((Inc.rf N).up 16).iff (fun t => by
      by_cases e : t = 16
      · subst e; rfl
      · simp [e]), CelS.rf 1 L A, fun d j => (if_neg (by omega)).symm⟩ (fun i hi ls μ ⟨R', N', L', A', P', e1, e2, cv, iv, lv, pv⟩ => by
      subst e1 e2
      obtain ⟨of0, ofb⟩ := ofc i hi
      have r0 : R' 20 0 = some 0 := (cv 20 0).1 (by omega)
      have ei : Unit → w32 ((i : Int) + 1) = ((i + 1 : Nat) : Int) := fun _ => by rw [w32_id (by omega) (by omega)]; omega
      have n0 : N' 0 = i + 1 := by rw [iv 0, h0]; show 1 + i = i + 1; omega
      have n2 : N' 2 = 12 * (i + 1) := by rw [iv 2, h2]; show 12 + 12 * i = 12 * (i + 1); omega
      have n4 : N' 4 = 41 * (i + 1) := by rw [iv 4, h4]; show 41 + 41 * i = 41 * (i + 1); omega
      have n5 : N' 5 = i + 1 := by rw [iv 5, h5]; show 1 + i = i + 1; omega
      have n13 : N' 13 = 41 * (i + 1) := by rw [iv 13, h13]; show 41 + 41 * i = 41 * (i + 1); omega
      have n15 : N' 15 = i + 1 := by rw [iv 15, h15]; show 1 + i = i + 1; omega
      have m6 := mk_ok (q := q) (R := R') (N := N') (k := 100 + 97 * i) (z := z + 4 + 5127 * i) (t := 0) (i := i + 1) (zz := 6) n0 (by show i + 1 < 6; omega) (by omega) rfl
      obtain ⟨L6, A6, s6, R6, N6, e6, c6, i6⟩ := k_cellar (q := q) (D := D) (R := R') (N := inc N' 0) (k := 100 + 97 * i + 1) (z := z + 4 + 5127 * i + 6) (I := I) (A := A') (L := L') (P := P') (F := F) (G := G) (c := i + 1) (by omega) (by rw [inc_n (by decide)]; exact n2) (by rw [inc_n (by decide)]; exact n4) (by rw [inc_n (by decide)]; exact n5) (by rw [inc_n (by decide)]; exact n13) (by rw [inc_n (by decide)]; exact n15) (by omega)
      refine ⟨[vR 1 0, vI ((i + 1 : Nat) : Int)], ((R6, N6, LX q.1, 100 + 97 * i + 1 + 96, z + 4 + 5127 * i + 6 + 5121, q.2), (I, A6, L6, up2 P' 0 i (some (i + 1)), F, G), D), ?_, R6, N6, L6, A6, _, ?_, rfl, (cv.tr c6).iff (fun f x => by omega), ((iv.up 0).tr i6).iff (fun t => ?_), lv.tr (by omega) (by omega) s6, fun d j => ?_⟩
      · simp only [s101_14, s101_15, s101_16, r0, rfV_s, s101_19, le]
        rw [if_pos (by decide)]
        simp only [s101_20]
        rw [if_neg (by omega)]
        simp only [s101_23, s101_24, r0, rfV_s, s101_27]
        rw [s101_28 _ _ _ _ _ _ _ _ m6]
        simp only [s101_31r]
        rw [s101_32]
        refine (congrArg (fun o => Option.bind o _) e6).trans ?_
        simp only [Option.bind_some, pushR_U, s101_35, le]
        rw [if_pos (by omega), Int.toNat_natCast]
        simp only [s101_36, s101_39, unJ_R, ei ()]
      · rw [show 100 + 97 * (i + 1) = 100 + 97 * i + 1 + 96 by omega, show z + 4 + 5127 * (i + 1) = z + 4 + 5127 * i + 6 + 5121 by omega]
      · by_cases e0 : t = 0
        · subst e0; show i + 1 + 0 = i + 1; omega
        · by_cases e5 : t = 5
          · subst e5; show i + 0 + 1 = i + 1; omega
          · by_cases e15 : t = 15
            · subst e15; show i + 0 + 1 = i + 1; omega
            · by_cases e2 : t = 2
              · subst e2; show 12 * i + 0 + 12 = 12 * (i + 1); omega
              · by_cases e4 : t = 4
                · subst e4; show 41 * i + 0 + 41 = 41 * (i + 1); omega
                · by_cases e13 : t = 13
                  · subst e13; show 41 * i + 0 + 41 = 41 * (i + 1); omega
                  · simp [e0, e5, e15, e2, e4, e13]
      · unfold up2
        by_cases e : d = 0 ∧ j = i
        · rw [if_pos e, if_pos (by omega), e.2]
        · rw [if_neg e, pv d j]
          by_cases e2 : d = 0 ∧ j < i
          · rw [if_pos e2, if_pos (by omega)]
          · rw [if_neg e2, if_neg (by omega)])
  have r0 : R5 20 0 = some 0 := (c5 20 0).1 (by omega)
  refine ⟨L5, A5, P5, l5, p5, R5, N5, ?_, c5.iff (fun f x => by omega), i5.iff (fun t => rfl)⟩
  simp only [s101_0, s101_1, s101_4, s101_5]
  rw [s101_6 _ _ 4 _ _ _ _ 0 _ (by omega) m1]
  simp only [s101_9, s101_12, s101_13, unJ_R]
  refine el.trans ?_
  simp only [s101_14, s101_15, s101_16, r0, rfV_s, s101_19, le]
  rw [if_pos (by decide)]
  simp only [s101_20]
  rw [if_pos (by omega)]
  simp only [s101_42]
/-- Trial.<init> -/
theorem k_trial (h0 : N 0 = 5) (h2 : N 2 = 60) (h4 : N 4 = 205) (h5 : N 5 = 5) (h13 : N 13 = 205) (h15 : N 15 = 5) (h7 : N 7 = 0) :
    ∃ L' A', CelS 5 6 L L' A A' ∧ Mk q 801 [vR 8 0] 489 z N R (I, A, L, P, F, G) D 113 5979 (fun t => if t = 0 ∨ t = 5 ∨ t = 15 ∨ t = 7 then 1 else if t = 2 then 13 else if t = 4 ∨ t = 13 then 48 else 0)
      (fun f x => (f = 80 ∧ 205 ≤ x ∧ x < 253) ∨ (100 ≤ f ∧ f ≤ 102 ∧ x = 5) ∨ (f ≤ 3 ∧ x = 5) ∨ (40 ≤ f ∧ f ≤ 42 ∧ 60 ≤ x ∧ x < 73) ∨ (140 ≤ f ∧ f ≤ 141 ∧ x = 0) ∨ (160 ≤ f ∧ f ≤ 164 ∧ x = 0)) (I, A', L', P, F, G) D := by
  have m1 := mk_ok (q := q) (R := R) (N := N) (k := 489) (z := z) (t := 0) (i := 5) (zz := 6) h0 (by decide) (by decide) rfl
  obtain ⟨L1, A1, s1, R1, N1, e1, c1, i1⟩ := k_cellar (q := q) (D := D) (R := R) (N := inc N 0) (k := 489 + 1) (z := z + 6) (I := I) (A := A) (L := L) (P := P) (F := F) (G := G) (c := 5) (by omega) (by rw [inc_n (by decide)]; exact h2) (by rw [inc_n (by decide)]; exact h4) (by rw [inc_n (by decide)]; exact h5) (by rw [inc_n (by decide)]; exact h13) (by rw [inc_n (by decide)]; exact h15) (by decide)
  have n2 : N1 2 = 72 := by rw [i1 2, inc_n (by decide), h2]; rfl
  have n4 : N1 4 = 246 := by rw [i1 4, inc_n (by decide), h4]; rfl
  have n13 : N1 13 = 246 := by rw [i1 13, inc_n (by decide), h13]; rfl
  have n7 : N1 7 = 0 := by rw [i1 7, inc_n (by decide), h7]; rfl
  have m2 := mk_ok (q := q) (R := up2 R1 160 0 (some 5)) (N := N1) (k := 489 + 1 + 96) (z := z + 6 + 5121) (t := 2) (i := 72) (zz := 11) n2 (by decide) (by decide) rfl
  obtain ⟨R2, N2, e2, c2, i2⟩ := k_lot (q := q) (C := (I, A1, L1, P, F, G)) (D := D) (R := up2 R1 160 0 (some 5)) (N := inc N1 2) (k := 489 + 1 + 96 + 1) (z := z + 6 + 5121 + 11) (l := 72) (by omega) (by rw [inc_n (by decide), n4]; rfl) (by rw [inc_n (by decide), n13]; rfl) (by decide)
  have n4' : N2 4 = 249 := by rw [i2 4, inc_n (by decide), n4]; rfl
  have n13' : N2 13 = 249 := by rw [i2 13, inc_n (by decide), n13]; rfl
  have n7' : N2 7 = 0 := by rw [i2 7, inc_n (by decide), n7]; rfl
  have m3 := mk_ok (q := q) (R := up2 R2 161 0 (some 72)) (N := N2) (k := 489 + 1 + 96 + 1 + 6) (z := z + 6 + 5121 + 11 + 411) (t := 7) (i := 0) (zz := 2) n7' (by decide) (by decide) rfl
  obtain ⟨R3, N3, e3, c3, i3⟩ := k_sharing (q := q) (C := (I, A1, L1, P, F, G)) (D := D) (R := up2 R2 161 0 (some 72)) (N := inc N2 7) (k := 489 + 1 + 96 + 1 + 6 + 1) (z := z + 6 + 5121 + 11 + 411 + 2) (x := 0) (by omega) (by rw [inc_n (by decide), n4']) (by rw [inc_n (by decide), n13']) (by decide)
  have n4'' : N3 4 = 251 := by rw [i3 4, inc_n (by decide), n4']; rfl
  have n13'' : N3 13 = 251 := by rw [i3 13, inc_n (by decide), n13']; rfl
  obtain ⟨m4, e4⟩ := k_new (q := q) (C := (I, A1, L1, P, F, G)) (D := D) (R := up2 R3 162 0 (some 0)) (N := N3) (k := 489 + 1 + 96 + 1 + 6 + 1 + 4) (z := z + 6 + 5121 + 11 + 411 + 2 + 402) (i := 251) (n := 12) n4'' n13'' (by omega) (by decide) (by decide) (by decide)
  obtain ⟨m5, e5⟩ := k_new (q := q) (C := (I, A1, L1, P, F, G)) (D := D) (R := up2 (up2 (up2 R3 162 0 (some 0)) 80 251 (some 251)) 163 0 (some 251)) (N := inc (inc N3 4) 13) (k := 489 + 1 + 96 + 1 + 6 + 1 + 4 + 1 + 1) (z := z + 6 + 5121 + 11 + 411 + 2 + 402 + 1 + 12) (i := 252) (n := 12) (by rw [inc_n (by decide), inc_e, n4'']) (by rw [inc_e, inc_n (by decide), n13'']) (by omega) (by decide) (by decide) (by decide)
  have c := ((((((((((Cov.rf R).tr c1).up (f := 160) (x := 0) rfl).tr c2).up (f := 161) (x := 0) rfl).tr c3).up (f := 162) (x := 0) rfl).up (f := 80) (x := 251) rfl).up (f := 163) (x := 0) rfl).up (f := 80) (x := 252) rfl).up (f := 164) (x := 0) rfl
  have l72 : lr 72 = 246 := rfl
  refine ⟨L1, A1, s1, _, _, ?_, c.iff (fun f x => ?_), ((((((((((Inc.rf N).up 0).tr i1).up 2).tr i2).up 7).tr i3).up 4).up 13).up 4 |>.up 13).iff (fun t => ?_)⟩
  · simp only [s801_0, s801_1, s801_4]
    rw [s801_5 _ _ _ _ _ _ _ m1]
    simp only [s801_8r]
    rw [s801_9]
    refine (congrArg (fun o => Option.bind o _) e1).trans ?_
    simp only [Option.bind_some, pushR_U, s801_12, s801_15]
    rw [s801_16 _ _ _ _ _ _ _ m2]
    simp only [s801_19r]
    rw [s801_20]
    refine (congrArg (fun o => Option.bind o _) e2).trans ?_
    simp only [Option.bind_some, pushR_U, s801_23, s801_26]
    rw [s801_27 _ _ _ _ _ _ _ m3]
    simp only [s801_30r]
    rw [s801_31]
    refine (congrArg (fun o => Option.bind o _) e3).trans ?_
    simp only [Option.bind_some, pushR_U, s801_34, s801_37]
    rw [s801_38 _ _ _ _ _ _ _ m4]
    simp only [s801_41r, s801_42]
    rw [s801_44]
    refine (congrArg (fun o => Option.bind o _) e4).trans ?_
    simp only [Option.bind_some, pushR_U, s801_47, s801_50]
    rw [s801_51 _ _ _ _ _ _ _ m5]
    simp only [s801_54r, s801_55]
    rw [s801_57]
    refine (congrArg (fun o => Option.bind o _) e5).trans ?_
    simp only [Option.bind_some, pushR_U, s801_60, s801_63]
  · omega
  · by_cases e0 : t = 0
    · subst e0; rfl
    · by_cases e5 : t = 5
      · subst e5; rfl
      · by_cases e15 : t = 15
        · subst e15; rfl
        · by_cases e7 : t = 7
          · subst e7; rfl
          · by_cases e2 : t = 2
            · subst e2; rfl
            · by_cases e4 : t = 4
              · subst e4; rfl
              · by_cases e13 : t = 13
                · subst e13; rfl
                · simp [e0, e5, e15, e7, e2, e4, e13]
end
