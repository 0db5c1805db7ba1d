/-! THE LAW -/
section
variable (q : Nat × (Nat → Int)) {I A : M2} {L P : Nat → Nat → Option Nat} {F G : Nat → Nat → UInt32} {J M T : M2} {X : XS} {t : Int} {i : Nat}
/-- a turn -/
theorem tn_turn (h : Cls I A L P X) (m : Mod J M X) (ho : okX t X) (hy : okY X) (ht : t + 1 ≤ 100000) (hi : i + 7 ≤ q.1) (hq : q.1 ≤ 3584) : Trn q 27 i I A L P F G J M T t := by
  have run : rs 1601 27 [vR 19 0, vR 9 0, vR 10 0, vI (i : Int)] [] (SX q, (I, A, L, P, F, G), (J, M, T)) = rs 1601 33 [vR 19 0, vR 9 0, vR 10 0, vI (i : Int)] [vI (i_and (q.2 i) 31)] (SX q, (I, A, L, P, F, G), (J, M, T)) := by
    have b : (0 ≤ (i : Int) ∧ (i : Int) < ((LX q.1 19 0 : Nat) : Int)) = True := eq_true ⟨by omega, by show (i : Int) < ((q.1 : Nat) : Int); omega⟩
    simp only [s1601_27, s1601_28, s1601_29, s1601_30, s1601_32, b, if_true, Int.toNat_natCast]
  generalize i_and (q.2 i) 31 = x at run
  unfold Trn
  rw [run, s1601_33]
  by_cases y0 : x = 0
  · rw [if_pos y0]
    exact tn_bring q h m ho hy ht hi hq
  rw [if_neg y0]
  by_cases y1 : x = 1
  · rw [if_pos y1]
    exact tn_sweeten q h m ho hy ht hi hq
  rw [if_neg y1]
  by_cases y2 : x = 2
  · rw [if_pos y2]
    exact tn_move q h m ho hy ht hi hq
  rw [if_neg y2]
  by_cases y3 : x = 3
  · rw [if_pos y3]
    exact tn_lot q h m ho hy ht hi hq
  rw [if_neg y3]
  by_cases y4 : x = 4
  · rw [if_pos y4]
    exact tn_grain q h m ho hy ht hi hq
  rw [if_neg y4]
  by_cases y5 : x = 5
  · rw [if_pos y5]
    exact tn_share q h m ho hy ht hi hq
  rw [if_neg y5]
  by_cases y6 : x = 6
  · rw [if_pos y6]
    exact tn_bits q h m ho hy ht hi hq
  rw [if_neg y6]
  by_cases y7 : x = 7
  · rw [if_pos y7]
    exact tn_recipe q h m ho hy ht hi hq
  rw [if_neg y7]
  by_cases y8 : x = 8
  · rw [if_pos y8]
    exact tn_blend q h m ho hy ht hi hq
  rw [if_neg y8]
  by_cases y9 : x = 9
  · rw [if_pos y9]
    exact tn_ifBlend q h m ho hy ht hi hq
  rw [if_neg y9]
  by_cases y10 : x = 10
  · rw [if_pos y10]
    exact tn_most q h m ho hy ht hi hq
  rw [if_neg y10]
  by_cases y11 : x = 11
  · rw [if_pos y11]
    exact tn_parts q h m ho hy ht hi hq
  rw [if_neg y11]
  by_cases y12 : x = 12
  · rw [if_pos y12]
    exact tn_score q h m ho hy ht hi hq
  rw [if_neg y12]
  by_cases y13 : x = 13
  · rw [if_pos y13]
    exact tn_panel q h m ho hy ht hi hq
  rw [if_neg y13]
  by_cases y14 : x = 14
  · rw [if_pos y14]
    exact tn_ranked q h m ho hy ht hi hq
  rw [if_neg y14]
  by_cases y15 : x = 15
  · rw [if_pos y15]
    exact tn_months q h m ho hy ht hi hq
  rw [if_neg y15]
  by_cases y16 : x = 16
  · rw [if_pos y16]
    exact tn_bottle q h m ho hy ht hi hq
  rw [if_neg y16]
  by_cases y17 : x = 17
  · rw [if_pos y17]
    exact tn_set q h m ho hy ht hi hq
  rw [if_neg y17]
  by_cases y18 : x = 18
  · rw [if_pos y18]
    exact tn_account q h m ho hy ht hi hq
  rw [if_neg y18]
  by_cases y19 : x = 19
  · rw [if_pos y19]
    exact tn_count q h m ho hy ht hi hq
  rw [if_neg y19]
  by_cases y20 : x = 20
  · rw [if_pos y20]
    exact tn_undo q h m ho hy ht hi hq
  rw [if_neg y20]
  by_cases y21 : x = 21
  · rw [if_pos y21]
    exact tn_rule q h m ho hy ht hi hq
  rw [if_neg y21]
  by_cases y22 : x = 22
  · rw [if_pos y22]
    exact tn_dropRule q h m ho hy ht hi hq
  rw [if_neg y22]
  by_cases y23 : x = 23
  · rw [if_pos y23]
    exact tn_type q h m ho hy ht hi hq
  rw [if_neg y23]
  by_cases y24 : x = 24
  · rw [if_pos y24]
    exact tn_clear q h m ho hy ht hi hq
  rw [if_neg y24]
  by_cases y25 : x = 25
  · rw [if_pos y25]
    exact tn_fault q h m ho hy ht hi hq
  rw [if_neg y25]
  by_cases y26 : x = 26
  · rw [if_pos y26]
    exact tn_read q h m ho hy ht hi hq
  rw [if_neg y26]
  exact ⟨X, I, A, L, P, F, G, J, M, T, rfl, h, m, okX.wk ho (by omega) ht, hy⟩
/-- all turns -/
theorem tn_loop (h : Cls I A L P X) (m : Mod J M X) (ho : okX 0 X) (hy : okY X) (hq : q.1 ≤ 3584) : ∃ C' D', rs 1601 18 [vR 19 0, vR 9 0, vR 10 0, vI 0] [] (SX q, (I, A, L, P, F, G), (J, M, T)) = some (vI 1, (SX q, C', D')) := by
  have lq : LX q.1 19 0 = q.1 := rfl
  obtain ⟨ls', μ', e, X1, I1, A1, L1, P1, F1, G1, J1, M1, T1, rfl, rfl, c1, c2, c3, c4⟩ := rs_loopP (m := 1601) (pc := 18) (ls := [vR 19 0, vR 9 0, vR 10 0, vI 0]) (μ := (SX q, (I, A, L, P, F, G), (J, M, T))) (fun n ls μ => ∃ (X1 : XS) (I1 A1 : M2) (L1 P1 : Nat → Nat → Option Nat) (F1 G1 : Nat → Nat → UInt32) (J1 M1 T1 : M2), μ = (SX q, (I1, A1, L1, P1, F1, G1), (J1, M1, T1)) ∧ ls = [vR 19 0, vR 9 0, vR 10 0, vI ((7 * n : Nat) : Int)] ∧ Cls I1 A1 L1 P1 X1 ∧ Mod J1 M1 X1 ∧ okX (n : Int) X1 ∧ okY X1) (q.1 / 7)
    ⟨X, I, A, L, P, F, G, J, M, T, rfl, rfl, h, m, ho, hy⟩ (fun n hn ls μ ⟨X1, I1, A1, L1, P1, F1, G1, J1, M1, T1, e1, e2, c1, c2, c3, c4⟩ => by
      subst e1 e2
      have hd : 7 * n + 7 ≤ q.1 := by omega
      obtain ⟨X2, I2, A2, L2, P2, F2, G2, J2, M2, T2, e2, d1, d2, d3, d4⟩ := tn_turn q (F := F1) (G := G1) (T := T1) (i := 7 * n) c1 c2 c3 c4 (by omega) hd hq
      refine ⟨[vR 19 0, vR 9 0, vR 10 0, vI ((7 * (n + 1) : Nat) : Int)], _, ?_, X2, I2, A2, L2, P2, F2, G2, J2, M2, T2, rfl, rfl, d1, d2, by rw [show ((n + 1 : Nat) : Int) = (n : Int) + 1 by omega]; exact d3, d4⟩
      have w1 : Unit → w32 ((q.1 : Int) - 7) = (q.1 : Int) - 7 := fun _ => w32_id (by omega) (by omega)
      have w2 : Unit → w32 (((7 * n : Nat) : Int) + 7) = ((7 * (n + 1) : Nat) : Int) := fun _ => by rw [w32_id (by omega) (by omega)]; omega
      rw [s1601_18]
      simp only [s1601_19, s1601_20, lq]
      rw [if_pos (by omega)]
      simp only [s1601_21, s1601_23, w1 (), s1601_24]
      rw [if_neg (by omega)]
      refine e2.trans ?_
      simp only [s1601_990, s1601_993, unJ_R, w2 ()])
  refine ⟨(I1, A1, L1, P1, F1, G1), (J1, M1, T1), e.trans ?_⟩
  have w1 : Unit → w32 ((q.1 : Int) - 7) = (q.1 : Int) - 7 := fun _ => w32_id (by omega) (by omega)
  rw [s1601_18]
  simp only [s1601_19, s1601_20, lq]
  rw [if_pos (by omega)]
  simp only [s1601_21, s1601_23, w1 (), s1601_24]
  rw [if_pos (by omega)]
  simp only [s1601_996, s1601_997]
  rw [if_pos (Or.inr trivial)]
end
/-- the law answers 1 -/
theorem law_one {n : Nat} (hn : n ≤ 3584) (sc : Nat → Int) : ∃ C' D', rs 1601 0 [vR 19 0, vU, vU, vU] [] (mem0 n sc) = some (vI 1, (SX (n, sc), C', D')) := by
  have m1 := mk_ok (q := (n, sc)) (R := R0) (N := fun _ => 0) (k := 0) (z := 0) (t := 9) (i := 0) (zz := 7) rfl (by decide) (by decide) rfl
  obtain ⟨L1, A1, P1, s1, p1, R1, N1, e1, c1, i1⟩ := k_class (q := (n, sc)) (D := ((fun _ _ => 0), (fun _ _ => 0), (fun _ _ => 0))) (R := R0) (N := inc (fun _ => 0) 9) (z := 0 + 7) (I := fun _ _ => 0) (A := fun _ _ => 0) (L := fun _ _ => none) (P := fun _ _ => none) (F := fun _ _ => 0) (G := fun _ _ => 0) (fun t ht => inc_n ht)
  have n10 : N1 10 = 0 := by rw [i1 10, inc_n (by decide)]; rfl
  have n14 : N1 14 = 0 := by rw [i1 14, inc_n (by decide)]; rfl
  have n18 : N1 18 = 0 := by rw [i1 18, inc_n (by decide)]; rfl
  have m2 := mk_ok (q := (n, sc)) (R := R1) (N := N1) (k := 1 + 358) (z := 0 + 7 + 5374) (t := 10) (i := 0) (zz := 25) n10 (by decide) (by decide) rfl
  obtain ⟨R2, N2, e2, c2, i2⟩ := k_model (q := (n, sc)) (C := ((fun _ _ => 0), A1, L1, P1, (fun _ _ => 0), (fun _ _ => 0))) (J := fun _ _ => 0) (M := fun _ _ => 0) (T := fun _ _ => 0) (R := R1) (N := inc N1 10) (z := 0 + 7 + 5374 + 25) (by rw [inc_n (by decide)]; exact n14) (by rw [inc_n (by decide)]; exact n18)
  have eR : R2 = RX := R_all (c1.1.tr c2.1) (fun f x h => c2.1.keep (c1.2 f x h)) c2.2
  have eN : N2 = NX := N_all (fun t => (((((Inc.rf (fun _ => 0)).up 9).tr i1).up 10).tr i2) t) (by decide) (fun t ht => by
    have a : ∀ j, j < 19 → t ≠ j := fun j hj => by omega
    simp [a 0 (by decide), a 1 (by decide), a 2 (by decide), a 3 (by decide), a 4 (by decide), a 5 (by decide), a 6 (by decide), a 7 (by decide), a 8 (by decide), a 9 (by decide), a 10 (by decide), a 13 (by decide), a 14 (by decide), a 15 (by decide), a 16 (by decide), a 17 (by decide), a 18 (by decide)])
  have hC : Cls (fun _ _ => 0) A1 L1 P1 (([], [], stv, (fun _ => 0), 0), [], []) := by
    refine ⟨fun c i => 12 * c + i, fun i => i + 1, fun c hc => ⟨fun i hi => ⟨by rw [s1.1 c i, if_pos (by omega)], by show 12 * c ≤ 12 * c + i; omega, by show 12 * c + i < 12 * c + 12; omega⟩, fun i j _ _ e => by have e : 12 * c + i = 12 * c + j := e; omega⟩, ⟨rfl, by decide, rfl, fun i hi => absurd hi (Nat.not_lt_zero _), ⟨rfl, by decide, fun j hj => absurd hj (Nat.not_lt_zero _)⟩, fun i hi => s1.2.1 0 i (by omega) (by omega) hi, fun i hi => ?_, fun i j _ hj => absurd hj (Nat.not_lt_zero _)⟩, ⟨rfl, by decide, fun i hi => ⟨by rw [p1 0 i, if_pos ⟨rfl, hi⟩], by show 1 ≤ i + 1; omega, by show i + 1 ≤ 4; omega⟩, fun i j _ _ e => by have e : i + 1 = j + 1 := e; omega, fun i hi => absurd hi (Nat.not_lt_zero _)⟩, ⟨rfl, by decide, fun j hj => absurd hj (Nat.not_lt_zero _)⟩⟩
    exact s1.2.2 _ _ (fun ⟨c, h1, h2, h3⟩ => by omega)
  have hM : Mod (fun _ _ => 0) (up2 (up2 (up2 (fun _ _ => 0) 0 4 10) 0 5 40) 0 6 5) (([], [], stv, (fun _ => 0), 0), [], []) := by
    refine ⟨⟨[], ⟨⟨rfl, rfl, rfl, rfl⟩, ⟨by decide, by decide, by decide⟩, fun i hi => ?_, fun i hi => ?_, fun k hk => absurd hk (Nat.not_lt_zero _), fun i hi => absurd hi (Nat.not_lt_zero _), fun k hk => absurd hk (Nat.not_lt_zero _)⟩, List.Perm.refl _⟩, ⟨rfl, by decide, fun i hi => absurd hi (Nat.not_lt_zero _)⟩, rfl, by decide, fun j hj => absurd hj (Nat.not_lt_zero _)⟩
    · have : i = 0 ∨ i = 1 ∨ i = 2 ∨ i = 3 := by omega
      rcases this with rfl | rfl | rfl | rfl <;> rfl
    · rw [up2_ne (by omega), up2_ne (by omega), up2_ne (by omega)]
  have ho : okX 0 (([], [], stv, (fun _ => 0), 0), [], []) := by
    refine ⟨by decide, ⟨fun i hi => absurd hi (Nat.not_lt_zero _), by decide, by decide, ⟨by decide, by decide, by decide, by decide⟩, ⟨fun r hr => by simp at hr, by decide⟩, by decide, fun i hi => absurd hi (Nat.not_lt_zero _), fun i j _ hj => absurd hj (Nat.not_lt_zero _)⟩, fun s hs => by simp at hs, by decide, by decide⟩
  have hy : okY (([], [], stv, (fun _ => 0), 0), [], []) := ⟨⟨by decide, by decide, by decide⟩, fun s hs => by simp at hs⟩
  obtain ⟨C', D', e3⟩ := tn_loop (n, sc) (F := fun _ _ => 0) (G := fun _ _ => 0) (T := fun _ _ => 0) hC hM ho hy hn
  refine ⟨C', D', ?_⟩
  unfold mem0
  rw [s1601_0 _ _ _ _ _ _ _ _ _ _ m1]
  simp only [s1601_3r]
  rw [s1601_4]
  refine (congrArg (fun o => Option.bind o _) e1).trans ?_
  simp only [Option.bind_some, pushR_U, s1601_7, unJ_U, unJ_R]
  rw [s1601_8 _ _ _ _ _ _ _ _ _ _ m2]
  simp only [s1601_11r]
  rw [s1601_12]
  refine (congrArg (fun o => Option.bind o _) e2).trans ?_
  simp only [Option.bind_some, pushR_U, s1601_15, unJ_U, unJ_R, s1601_16, s1601_17]
  subst eR eN
  exact e3
