/-! WHAT THE CONSTRUCTORS MAKE: cellars -/
/-- the settings of a new cellar -/
def stv : Nat → Int := fun j => if j = 0 then 10 else if j = 1 then 40 else if j = 2 then 5 else 0
/-- cellars from a to below b have lots, settings -/
def CelS (a b : Nat) (L L' : Nat → Nat → Option Nat) (A A' : M2) : Prop := (∀ d i, L' d i = if a ≤ d ∧ d < b ∧ i < 12 then some (12 * d + i) else L d i) ∧ (∀ c i, a ≤ c → c < b → i < 4 → A' (41 * c + 3) i = stv i) ∧ ∀ r j, ¬ (∃ c, a ≤ c ∧ c < b ∧ r = 41 * c + 3) → A' r j = A r j
theorem CelS.tr {a b c : Nat} {L L1 L2 : Nat → Nat → Option Nat} {A A1 A2 : M2} (h1 : a ≤ b) (h2 : b ≤ c) (h : CelS a b L L1 A A1) (k : CelS b c L1 L2 A1 A2) : CelS a c L L2 A A2 := by
  refine ⟨fun d i => ?_, fun d i ha hc hi => ?_, fun r j hn => ?_⟩
  · rw [k.1 d i, h.1 d i]
    repeat' split
    all_goals first | rfl | (exfalso; omega)
  · by_cases z : b ≤ d
    · exact k.2.1 d i z hc hi
    · rw [k.2.2 _ i (fun ⟨e, h1, h2, h3⟩ => by omega)]
      exact h.2.1 d i ha (by omega) hi
  · rw [k.2.2 r j (fun ⟨e, h1, h2, h3⟩ => hn ⟨e, by omega, h2, h3⟩)]
    exact h.2.2 r j (fun ⟨e, h1, h2, h3⟩ => hn ⟨e, h1, by omega, h3⟩)
theorem CelS.rf (a : Nat) (L : Nat → Nat → Option Nat) (A : M2) : CelS a a L L A A := ⟨fun d i => (if_neg (by omega)).symm, fun c i h1 h2 => absurd h2 (by omega), fun _ _ _ => rfl⟩
theorem off_c : ∀ c, c < 6 → offX 5 c = cbX c + 1 ∧ rr c = 41 * c ∧ offX 4 (41 * c + 3) = cbX c + 8 ∧ offX 13 (41 * c + 3) = cbX c + 9 ∧ offX 4 (41 * c + 4) = cbX c + 10 ∧ offX 13 (41 * c + 4) = cbX c + 11 ∧ offX 15 c = cbX c + 12 ∧ rowLen (41 * c + 3) = 4 ∧ rowLen (41 * c + 4) = 8 := by decide +kernel
theorem off_cl : ∀ c, c < 6 → ∀ i, i < 12 → offX 2 (12 * c + i) = cbX c + 13 + 7 * i ∧ lr (12 * c + i) = 41 * c + 5 + 3 * i := by decide +kernel
section
variable {q : Nat × (Nat → Int)} {D : MD} {R : Nat → Nat → Option Nat} {N : Nat → Nat} {k z : Nat} {I A : M2} {L P : Nat → Nat → Option Nat} {F G : Nat → Nat → UInt32}
/-- Cellar.<init> -/
theorem k_cellar {c : Nat} (hc : c < 6) (h2 : N 2 = 12 * c) (h4 : N 4 = 41 * c) (h5 : N 5 = c) (h13 : N 13 = 41 * c) (h15 : N 15 = c) (hk : k = cbX c + 1) :
    ∃ L' A', CelS c (c + 1) L L' A A' ∧ Mk q 1 [vR 0 c, vU] k z N R (I, A, L, P, F, G) D 96 5121 (fun t => if t = 2 then 12 else if t = 4 ∨ t = 13 then 41 else if t = 5 ∨ t = 15 then 1 else 0)
      (fun f x => (f = 80 ∧ 41 * c ≤ x ∧ x < 41 * c + 41) ∨ (100 ≤ f ∧ f ≤ 102 ∧ x = c) ∨ (f ≤ 3 ∧ x = c) ∨ (40 ≤ f ∧ f ≤ 42 ∧ 12 * c ≤ x ∧ x < 12 * c + 12)) (I, A', L', P, F, G) D := by
  obtain ⟨o5, orr, o43, o133, o44, o134, o15, n3, n4⟩ := off_c c hc
  have nr := off_r c (by omega)
  -- the rules
  have m1 := mk_ok (q := q) (R := R) (N := N) (k := k) (z := z) (t := 5) (i := c) (zz := 4) h5 (by show c < 7; omega) (by omega) rfl
  obtain ⟨R1, N1, e1, c1, i1⟩ := k_rules (q := q) (C := (I, A, L, P, F, G)) (D := D) (R := R) (N := inc N 5) (k := k + 1) (z := z + 4) (r := c) (by omega) (by rw [inc_n (by decide), h4, orr]) (by rw [inc_n (by decide), h13, orr]) (by omega)
  have a4 : N1 4 = 41 * c + 3 := by rw [i1 4, inc_n (by decide), h4]; rfl
  have a13 : N1 13 = 41 * c + 3 := by rw [i1 13, inc_n (by decide), h13]; rfl
  -- settings, accounts
  obtain ⟨m2, e2⟩ := k_new (q := q) (C := (I, A, L, P, F, G)) (D := D) (R := up2 R1 1 c (some c)) (N := N1) (k := k + 1 + 6) (z := z + 4 + 27) (i := 41 * c + 3) (n := 4) a4 a13 (by omega) (by omega) (by omega) n3
  obtain ⟨m3, e3⟩ := k_new (q := q) (C := (I, A, L, P, F, G)) (D := D) (R := up2 (up2 (up2 R1 1 c (some c)) 80 (41 * c + 3) (some (41 * c + 3))) 2 c (some (41 * c + 3))) (N := inc (inc N1 4) 13) (k := k + 1 + 6 + 1 + 1) (z := z + 4 + 27 + 1 + 4) (i := 41 * c + 4) (n := 8) (by rw [inc_n (by decide), inc_e, a4]) (by rw [inc_e, inc_n (by decide), a13]) (by omega) (by omega) (by omega) n4
  generalize hR3 : up2 (up2 (up2 (up2 (up2 R1 1 c (some c)) 80 (41 * c + 3) (some (41 * c + 3))) 2 c (some (41 * c + 3))) 80 (41 * c + 4) (some (41 * c + 4))) 3 c (some (41 * c + 4)) = R3
  have c3 : Cov (fun f x => (f = 80 ∧ 41 * c ≤ x ∧ x < 41 * c + 5) ∨ (100 ≤ f ∧ f ≤ 102 ∧ x = c) ∨ (1 ≤ f ∧ f ≤ 3 ∧ x = c)) R R3 := by
    subst hR3
    refine (((((c1.up (f := 1) (x := c) rfl).up (f := 80) (x := 41 * c + 3) rfl).up (f := 2) (x := c) rfl).up (f := 80) (x := 41 * c + 4) rfl).up (f := 3) (x := c) rfl).iff (fun f x => ?_)
    (try simp only [false_or])
    rw [orr]
    omega
  generalize hN3 : inc (inc (inc (inc N1 4) 13) 4) 13 = N3
  have i3 : Inc (fun t => if t = 4 ∨ t = 13 then 5 else if t = 5 then 1 else 0) N N3 := by
    subst hN3
    refine (((((((Inc.rf N).up 5).tr i1).up 4).up 13).up 4).up 13).iff (fun t => ?_)
    by_cases h4 : t = 4
    · subst h4; rfl
    · by_cases h13 : t = 13
      · subst h13; rfl
      · by_cases h5 : t = 5
        · subst h5; rfl
        · simp [h4, h13, h5]
  have b15 : N3 15 = c := by rw [i3 15, h15]; rfl
  have m4 := mk_ok (q := q) (R := R3) (N := N3) (k := k + 1 + 6 + 1 + 1 + 1 + 1) (z := z + 4 + 27 + 1 + 4 + 1 + 8) (t := 15) (i := c) (zz := 12) b15 (by show c < 6; omega) (by omega) rfl
  -- the lots
  obtain ⟨ls', μ', el, R5, N5, L5, rfl, rfl, c5, i5, l5⟩ := rs_loopP (m := 1) (pc := 51) (ls := [vR 0 c, vI 0]) (μ := ((up2 R3 0 c (some c), inc N3 15, LX q.1, k + 1 + 6 + 1 + 1 + 1 + 1 + 1, z + 4 + 27 + 1 + 4 + 1 + 8 + 12, q.2), (I, A, L, P, F, G), D)) (fun i ls μ => ∃ R' N' L', μ = ((R', N', LX q.1, k + 12 + 7 * i, z + 57 + 422 * i, q.2), (I, A, L', P, F, G), D) ∧ ls = [vR 0 c, vI (i : Int)] ∧
      Cov (fun f x => (f = 80 ∧ 41 * c ≤ x ∧ x < 41 * c + 5 + 3 * i) ∨ (100 ≤ f ∧ f ≤ 102 ∧ x = c) ∨ (f ≤ 3 ∧ x = c) ∨ (40 ≤ f ∧ f ≤ 42 ∧ 12 * c ≤ x ∧ x < 12 * c + i)) R R' ∧ Inc (fun t => if t = 2 then i else if t = 4 ∨ t = 13 then 5 + 3 * i else if t = 5 ∨ t = 15 then 1 else 0) N N' ∧ ∀ d j, L' d j = if d = c ∧ j < i then some (12 * c + j) else L d j) 12
    ⟨up2 R3 0 c (some c), inc N3 15, L, rfl, rfl, (c3.up (f := 0) (x := c) rfl).iff (fun f x => by (try simp only [false_or]); omega), (i3.up 15).iff (fun t => by
      by_cases h4 : t = 4
      · subst h4; rfl
      · by_cases h13 : t = 13
        · subst h13; rfl
        · by_cases h5 : t = 5
          · subst h5; rfl
          · by_cases h15 : t = 15
            · subst h15; rfl
            · simp [h4, h13, h5, h15]), fun d j => (if_neg (by omega)).symm⟩ (fun i hi ls μ ⟨R', N', L', e1, e2, cv, iv, lv⟩ => by
      subst e1 e2
      obtain ⟨of2, olr⟩ := off_cl c hc i hi
      have r0 : R' 0 c = some c := (cv 0 c).1 (by omega)
      have le : LX q.1 15 c = 12 := rfl
      have ei : Unit → w32 ((i : Int) + 1) = ((i + 1 : Nat) : Int) := fun _ => by rw [w32_id (by omega) (by omega)]; omega
      have n2 : N' 2 = 12 * c + i := by rw [iv 2, h2]; rfl
      have n4' : N' 4 = 41 * c + (5 + 3 * i) := by rw [iv 4, h4]; rfl
      have n13' : N' 13 = 41 * c + (5 + 3 * i) := by rw [iv 13, h13]; rfl
      have m6 := mk_ok (q := q) (R := R') (N := N') (k := k + 12 + 7 * i) (z := z + 57 + 422 * i) (t := 2) (i := 12 * c + i) (zz := 11) n2 (by show 12 * c + i < 74; omega) (by omega) rfl
      obtain ⟨R6, N6, e6, c6, i6⟩ := k_lot (q := q) (C := (I, A, L', P, F, G)) (D := D) (R := R') (N := inc N' 2) (k := k + 12 + 7 * i + 1) (z := z + 57 + 422 * i + 11) (l := 12 * c + i) (by omega) (by rw [inc_n (by decide)]; omega) (by rw [inc_n (by decide)]; omega) (by omega)
      refine ⟨[vR 0 c, vI ((i + 1 : Nat) : Int)], ((R6, N6, LX q.1, k + 12 + 7 * i + 1 + 6, z + 57 + 422 * i + 11 + 411, q.2), (I, A, up2 L' c i (some (12 * c + i)), P, F, G), D), ?_, R6, N6, up2 L' c i (some (12 * c + i)), ?_, rfl, (cv.tr c6).iff (fun f x => by rw [olr]; (try simp only [false_or]); omega), ((iv.up 2).tr i6).iff (fun t => ?_), fun d j => ?_⟩
      · rw [s1_51]
        simp only [s1_52, s1_53, r0, rfV_s, s1_56, le]
        rw [if_pos (by decide)]
        simp only [s1_57]
        rw [if_neg (by omega)]
        simp only [s1_60, s1_61, r0, rfV_s, s1_64]
        rw [s1_65 _ _ _ _ _ _ _ _ m6]
        simp only [s1_68r]
        rw [s1_69]
        refine (congrArg (fun o => Option.bind o _) e6).trans ?_
        simp only [Option.bind_some, pushR_U, s1_72, le]
        rw [if_pos (by omega), Int.toNat_natCast]
        simp only [s1_73, s1_76, unJ_R, ei ()]
      · rw [show k + 12 + 7 * (i + 1) = k + 12 + 7 * i + 1 + 6 by omega, show z + 57 + 422 * (i + 1) = z + 57 + 422 * i + 11 + 411 by omega]
      · by_cases t2 : t = 2
        · subst t2; rfl
        · by_cases h4 : t = 4
          · subst h4; show 5 + 3 * i + 0 + 3 = 5 + 3 * (i + 1); omega
          · by_cases h13 : t = 13
            · subst h13; show 5 + 3 * i + 0 + 3 = 5 + 3 * (i + 1); omega
            · simp [t2, h4, h13]
      · unfold up2
        by_cases e : d = c ∧ j = i
        · rw [if_pos e, if_pos (by omega), e.2]
        · rw [if_neg e, lv d j]
          by_cases e2 : d = c ∧ j < i
          · rw [if_pos e2, if_pos (by omega)]
          · rw [if_neg e2, if_neg (by omega)])
  have r0 : R5 0 c = some c := (c5 0 c).1 (by omega)
  have r2 : R5 2 c = some (41 * c + 3) := (c5 2 c).1 (by omega)
  have r80 : R5 80 (41 * c + 3) = some (41 * c + 3) := (c5 80 (41 * c + 3)).1 (by omega)
  have le : LX q.1 15 c = 12 := rfl
  have p0 := fun A' => k_put (q := q) (N := N5) (k := k + 12 + 7 * 12) (z := z + 57 + 422 * 12) (D := D) (I := I) (A := A') (L := L5) (P := P) (F := F) (G := G) (i := 0) r80 (by omega) 10
  have p1 := fun A' => k_put (q := q) (N := N5) (k := k + 12 + 7 * 12) (z := z + 57 + 422 * 12) (D := D) (I := I) (A := A') (L := L5) (P := P) (F := F) (G := G) (i := 1) r80 (by omega) 40
  have p2 := fun A' => k_put (q := q) (N := N5) (k := k + 12 + 7 * 12) (z := z + 57 + 422 * 12) (D := D) (I := I) (A := A') (L := L5) (P := P) (F := F) (G := G) (i := 2) r80 (by omega) 5
  have p3 := fun A' => k_put (q := q) (N := N5) (k := k + 12 + 7 * 12) (z := z + 57 + 422 * 12) (D := D) (I := I) (A := A') (L := L5) (P := P) (F := F) (G := G) (i := 3) r80 (by omega) 0
  refine ⟨L5, up2 (up2 (up2 (up2 A (41 * c + 3) 0 10) (41 * c + 3) 1 40) (41 * c + 3) 2 5) (41 * c + 3) 3 0, ⟨fun d i => ?_, fun d i h1 h2 hi => ?_, fun r j hn => ?_⟩, R5, N5, ?_, c5.iff (fun f x => by first | omega | simp), i5.iff (fun t => rfl)⟩
  · rw [l5 d i]
    by_cases e : d = c ∧ i < 12
    · rw [if_pos e, if_pos (by omega), e.1]
    · rw [if_neg e, if_neg (by omega)]
  · have e : d = c := by omega
    subst e
    have : i = 0 ∨ i = 1 ∨ i = 2 ∨ i = 3 := by omega
    rcases this with rfl | rfl | rfl | rfl
    · rw [up2_ne (by omega), up2_ne (by omega), up2_ne (by omega), up2_eq]; rfl
    · rw [up2_ne (by omega), up2_ne (by omega), up2_eq]; rfl
    · rw [up2_ne (by omega), up2_eq]; rfl
    · rw [up2_eq]; rfl
  · have : r ≠ 41 * c + 3 := fun e => hn ⟨c, by omega, by omega, e⟩
    rw [up2_ne (by omega), up2_ne (by omega), up2_ne (by omega), up2_ne (by omega)]
  · simp only [s1_0, s1_1, s1_4]
    rw [s1_5 _ _ _ _ _ _ _ _ m1]
    simp only [s1_8r]
    rw [s1_9]
    refine (congrArg (fun o => Option.bind o _) e1).trans ?_
    simp only [Option.bind_some, pushR_U, s1_12, s1_15]
    rw [s1_16 _ _ _ _ _ _ _ _ m2]
    simp only [s1_19r, s1_20]
    rw [s1_21]
    refine (congrArg (fun o => Option.bind o _) e2).trans ?_
    simp only [Option.bind_some, pushR_U, s1_24, s1_27]
    rw [s1_28 _ _ _ _ _ _ _ _ m3]
    simp only [s1_31r, s1_32]
    rw [s1_34]
    refine (congrArg (fun o => Option.bind o _) e3).trans ?_
    simp only [Option.bind_some, pushR_U, s1_37, s1_40, s1_41, hR3, hN3]
    rw [s1_43 _ _ 12 _ _ _ _ c _ (by omega) m4]
    simp only [s1_46, s1_49, s1_50, unJ_R]
    refine el.trans ?_
    simp only [s1_51, s1_52, s1_53, r0, rfV_s, s1_56, le]
    rw [if_pos (by decide)]
    simp only [s1_57]
    rw [if_pos (by omega)]
    simp only [s1_79, s1_80, r2, rfV_s, s1_83, s1_84]
    rw [s1_86]
    refine (congrArg (fun o => Option.bind o _) (p0 _)).trans ?_
    simp only [Option.bind_some, pushR_U, s1_89, s1_90, r2, rfV_s, s1_93, s1_94]
    rw [s1_96]
    refine (congrArg (fun o => Option.bind o _) (p1 _)).trans ?_
    simp only [Option.bind_some, pushR_U, s1_99, s1_100, r2, rfV_s, s1_103, s1_104]
    rw [s1_105]
    refine (congrArg (fun o => Option.bind o _) (p2 _)).trans ?_
    simp only [Option.bind_some, pushR_U, s1_108, s1_109, r2, rfV_s, s1_112, s1_113]
    rw [s1_114]
    refine (congrArg (fun o => Option.bind o _) (p3 _)).trans ?_
    simp only [Option.bind_some, pushR_U, s1_117]
end
