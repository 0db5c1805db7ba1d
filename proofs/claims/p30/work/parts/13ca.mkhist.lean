/-! WHAT THE CONSTRUCTORS MAKE: the history -/
section
variable {q : Nat × (Nat → Int)} {C : MC} {D : MD} {R : Nat → Nat → Option Nat} {N : Nat → Nat} {k z : Nat} {I A : M2} {L P : Nat → Nat → Option Nat} {F G : Nat → Nat → UInt32}
/-- History.<init> -/
theorem k_hist (h0 : N 0 = 1) (h2 : N 2 = 12) (h4 : N 4 = 19) (h5 : N 5 = 1) (h13 : N 13 = 19) (h15 : N 15 = 1) (h16 : N 16 = 0) :
    ∃ L' A' P', CelS 1 5 L L' A A' ∧ (∀ a j, P' a j = if a = 0 ∧ j < 4 then some (j + 1) else P a j) ∧ Mk q 101 [vR 1 0, vU] 55 z N R (I, A, L, P, F, G) D 213 2880 (fun t => if t = 0 ∨ t = 5 ∨ t = 15 then 4 else if t = 2 then 48 else if t = 4 ∨ t = 13 then 76 else if t = 16 then 1 else 0)
      (fun f x => (f = 80 ∧ 19 ≤ x ∧ x < 95) ∨ (100 ≤ f ∧ f ≤ 102 ∧ 1 ≤ x ∧ x < 5) ∨ ((f ≤ 3 ∨ f = 6 ∨ f = 7) ∧ 1 ≤ x ∧ x < 5) ∨ (40 ≤ f ∧ f ≤ 42 ∧ 12 ≤ x ∧ x < 60) ∨ (f = 20 ∧ x = 0)) (I, A', L', P', F, G) D := by
  have m1 := mk_ok (q := q) (R := R) (N := N) (k := 55) (z := z) (t := 16) (i := 0) (zz := 4) h16 (by decide) (by decide) rfl
  have ofc : ∀ i, i < 4 → of1 0 (i + 1) = 56 + 53 * i ∧ cbX (i + 1) = 56 + 53 * i := by decide
  have le : LX q.1 16 0 = 4 := rfl
  obtain ⟨ls', μ', el, R5, N5, L5, A5, P5, rfl, rfl, c5, i5, l5, p5⟩ := rs_loopP (m := 101) (pc := 14) (ls := [vR 1 0, vI 0]) (μ := ((up2 R 20 0 (some 0), inc N 16, LX q.1, 55 + 1, z + 4, q.2), (I, A, L, P, F, G), D)) (fun i ls μ => ∃ R' N' L' A' P', μ = ((R', N', LX q.1, 56 + 53 * i, z + 4 + 719 * i, q.2), (I, A', L', P', F, G), D) ∧ ls = [vR 1 0, vI (i : Int)] ∧
      Cov (fun f x => (f = 80 ∧ 19 ≤ x ∧ x < 19 + 19 * i) ∨ (100 ≤ f ∧ f ≤ 102 ∧ 1 ≤ x ∧ x < 1 + i) ∨ ((f ≤ 3 ∨ f = 6 ∨ f = 7) ∧ 1 ≤ x ∧ x < 1 + i) ∨ (40 ≤ f ∧ f ≤ 42 ∧ 12 ≤ x ∧ x < 12 + 12 * i) ∨ (f = 20 ∧ x = 0)) R R' ∧ Inc (fun t => if t = 0 ∨ t = 5 ∨ t = 15 then i else if t = 2 then 12 * i else if t = 4 ∨ t = 13 then 19 * i else if t = 16 then 1 else 0) N N' ∧ CelS 1 (i + 1) L L' A A' ∧ ∀ a j, P' a j = if a = 0 ∧ j < i then some (j + 1) else P a j) 4
    ⟨up2 R 20 0 (some 0), inc N 16, L, A, P, rfl, rfl, ((Cov.rf R).up (f := 20) (x := 0) rfl).iff (fun f x => by (try simp only [false_or]); omega), ((Inc.rf N).up 16).iff (fun t => by
      by_cases e : t = 16
      · subst e; rfl
      · simp [e]), CelS.rf 1 L A, fun d j => (if_neg (by omega)).symm⟩ (fun i hi ls μ ⟨R', N', L', A', P', e1, e2, cv, iv, lv, pv⟩ => by
      subst e1 e2
      obtain ⟨of0, ofb⟩ := ofc i hi
      have r0 : R' 20 0 = some 0 := (cv 20 0).1 (by omega)
      have ei : Unit → w32 ((i : Int) + 1) = ((i + 1 : Nat) : Int) := fun _ => by rw [w32_id (by omega) (by omega)]; omega
      have n0 : N' 0 = i + 1 := by rw [iv 0, h0]; show 1 + i = i + 1; omega
      have n2 : N' 2 = 12 * (i + 1) := by rw [iv 2, h2]; show 12 + 12 * i = 12 * (i + 1); omega
      have e5 : (i + 1) / 5 = 0 := by omega
      have n4 : N' 4 = 19 * (i + 1) + 2 * ((i + 1) / 5) := by rw [iv 4, h4, e5]; show 19 + 19 * i = 19 * (i + 1) + 2 * 0; omega
      have n5 : N' 5 = i + 1 := by rw [iv 5, h5]; show 1 + i = i + 1; omega
      have n13 : N' 13 = 19 * (i + 1) + 2 * ((i + 1) / 5) := by rw [iv 13, h13, e5]; show 19 + 19 * i = 19 * (i + 1) + 2 * 0; omega
      have n15 : N' 15 = i + 1 := by rw [iv 15, h15]; show 1 + i = i + 1; omega
      have m6 := mk_ok (q := q) (R := R') (N := N') (k := 56 + 53 * i) (z := z + 4 + 719 * i) (t := 0) (i := i + 1) (zz := 8) n0 (by show i + 1 < 6; omega) (by omega) rfl
      obtain ⟨L6, A6, s6, R6, N6, e6, c6, i6⟩ := k_cellar (q := q) (D := D) (R := R') (N := inc N' 0) (k := 56 + 53 * i + 1) (z := z + 4 + 719 * i + 8) (I := I) (A := A') (L := L') (P := P') (F := F) (G := G) (c := i + 1) (by omega) (by rw [inc_n (by decide)]; exact n2) (by rw [inc_n (by decide)]; exact n4) (by rw [inc_n (by decide)]; exact n5) (by rw [inc_n (by decide)]; exact n13) (by rw [inc_n (by decide)]; exact n15) (by omega)
      simp only [e5] at c6
      refine ⟨[vR 1 0, vI ((i + 1 : Nat) : Int)], ((R6, N6, LX q.1, 56 + 53 * i + 1 + 52, z + 4 + 719 * i + 8 + 711, q.2), (I, A6, L6, up2 P' 0 i (some (i + 1)), F, G), D), ?_, R6, N6, L6, A6, up2 P' 0 i (some (i + 1)), ?_, rfl, (cv.tr c6).iff (fun f x => by (try simp only [false_or]); omega), ((iv.up 0).tr i6).iff (fun t => ?_), lv.tr (by omega) (by omega) s6, fun d j => ?_⟩
      · rw [s101_14]
        simp only [s101_15, s101_16, r0, rfV_s, s101_19, le]
        rw [if_pos (by decide)]
        simp only [s101_20]
        rw [if_neg (by omega)]
        simp only [s101_23, s101_24, r0, rfV_s, s101_27]
        rw [s101_28 _ _ _ _ _ _ _ _ m6]
        simp only [s101_31r]
        rw [s101_32]
        refine (congrArg (fun o => Option.bind o _) e6).trans ?_
        simp only [Option.bind_some, pushR_U, s101_35, le]
        rw [if_pos (by omega), Int.toNat_natCast]
        simp only [s101_36, s101_39, unJ_R, ei ()]
      · rw [show 56 + 53 * (i + 1) = 56 + 53 * i + 1 + 52 by omega, show z + 4 + 719 * (i + 1) = z + 4 + 719 * i + 8 + 711 by omega]
      · by_cases e0 : t = 0
        · subst e0; show i + 1 + 0 = i + 1; omega
        · by_cases e5 : t = 5
          · subst e5; show i + 0 + 1 = i + 1; omega
          · by_cases e15 : t = 15
            · subst e15; show i + 0 + 1 = i + 1; omega
            · by_cases e2 : t = 2
              · subst e2; show 12 * i + 0 + 12 = 12 * (i + 1); omega
              · by_cases e4 : t = 4
                · subst e4; show 19 * i + 0 + 19 = 19 * (i + 1); omega
                · by_cases e13 : t = 13
                  · subst e13; show 19 * i + 0 + 19 = 19 * (i + 1); omega
                  · simp [e0, e5, e15, e2, e4, e13]
      · unfold up2
        by_cases e : d = 0 ∧ j = i
        · rw [if_pos e, if_pos (by omega), e.2]
        · rw [if_neg e, pv d j]
          by_cases e2 : d = 0 ∧ j < i
          · rw [if_pos e2, if_pos (by omega)]
          · rw [if_neg e2, if_neg (by omega)])
  have r0 : R5 20 0 = some 0 := (c5 20 0).1 (by omega)
  refine ⟨L5, A5, P5, l5, p5, R5, N5, ?_, c5.iff (fun f x => by first | omega | simp), i5.iff (fun t => rfl)⟩
  rw [show z + 2880 = z + 4 + 719 * 4 by omega]
  simp only [s101_0, s101_1, s101_4, s101_5]
  rw [s101_6 _ _ 4 _ _ _ _ 0 _ (by omega) m1]
  simp only [s101_9, s101_12, s101_13, unJ_R]
  refine el.trans ?_
  simp only [s101_14, s101_15, s101_16, r0, rfV_s, s101_19, le]
  rw [if_pos (by decide)]
  simp only [s101_20]
  rw [if_pos (by omega)]
  simp only [s101_42]
end
