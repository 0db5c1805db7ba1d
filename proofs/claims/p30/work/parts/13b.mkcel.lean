/-! WHAT THE CONSTRUCTORS MAKE: cellars -/
/-- the settings of a new cellar -/
def stv : Nat → Int := fun j => if j = 0 then 10 else if j = 1 then 40 else if j = 2 then 5 else 0
theorem cb_inj {d e : Nat} (h : 19 * d + 2 * (d / 5) = 19 * e + 2 * (e / 5)) : d = e := by
  rcases Nat.lt_trichotomy d e with z | z | z
  · have := Nat.div_le_div_right (c := 5) (Nat.le_of_lt z); omega
  · exact z
  · have := Nat.div_le_div_right (c := 5) (Nat.le_of_lt z); omega
/-- cellars from a to below b have lots, settings -/
def CelS (a b : Nat) (L L' : Nat → Nat → Option Nat) (A A' : M2) : Prop := (∀ d i, L' d i = if a ≤ d ∧ d < b ∧ i < 12 then some (12 * d + i) else L d i) ∧ (∀ c i, a ≤ c → c < b → i < 4 → A' (19 * c + 2 * (c / 5) + 5) i = stv i) ∧ ∀ r j, ¬ (∃ c, a ≤ c ∧ c < b ∧ r = 19 * c + 2 * (c / 5) + 5) → A' r j = A r j
theorem CelS.tr {a b c : Nat} {L L1 L2 : Nat → Nat → Option Nat} {A A1 A2 : M2} (h1 : a ≤ b) (h2 : b ≤ c) (h : CelS a b L L1 A A1) (k : CelS b c L1 L2 A1 A2) : CelS a c L L2 A A2 := by
  refine ⟨fun d i => ?_, fun d i ha hc hi => ?_, fun r j hn => ?_⟩
  · rw [k.1 d i, h.1 d i]
    repeat' split
    all_goals first | rfl | (exfalso; omega)
  · by_cases z : b ≤ d
    · exact k.2.1 d i z hc hi
    · rw [k.2.2 _ i (fun ⟨e, h1, h2, h3⟩ => by have := cb_inj (d := d) (e := e) (Nat.add_right_cancel h3); omega)]
      exact h.2.1 d i ha (by omega) hi
  · rw [k.2.2 r j (fun ⟨e, h1, h2, h3⟩ => hn ⟨e, by omega, h2, h3⟩)]
    exact h.2.2 r j (fun ⟨e, h1, h2, h3⟩ => hn ⟨e, h1, by omega, h3⟩)
theorem CelS.rf (a : Nat) (L : Nat → Nat → Option Nat) (A : M2) : CelS a a L L A A := ⟨fun d i => (if_neg (by omega)).symm, fun c i h1 h2 => absurd h2 (by omega), fun _ _ _ => rfl⟩
theorem off_c : ∀ c, c < 6 → of1 4 (19 * c + 2 * (c / 5)) = cbX c + 1 ∧ of1 13 (19 * c + 2 * (c / 5)) = cbX c + 2 ∧ of1 4 (19 * c + 2 * (c / 5) + 1) = cbX c + 3 ∧ of1 13 (19 * c + 2 * (c / 5) + 1) = cbX c + 4 ∧ of1 5 c = cbX c + 5 ∧ rr c = 19 * c + 2 * (c / 5) + 2 ∧ of1 4 (19 * c + 2 * (c / 5) + 5) = cbX c + 12 ∧ of1 13 (19 * c + 2 * (c / 5) + 5) = cbX c + 13 ∧ of1 4 (19 * c + 2 * (c / 5) + 6) = cbX c + 14 ∧ of1 13 (19 * c + 2 * (c / 5) + 6) = cbX c + 15 ∧ of1 15 c = cbX c + 16 ∧ rr c = 19 * c + 2 * (c / 5) + 2 := by decide +kernel
theorem off_b : ∀ c, c < 6 → 19 * c + 2 * (c / 5) + 19 ≤ 129 ∧ rr c = 19 * c + 2 * (c / 5) + 2 := by decide
theorem off_cl : ∀ c, c < 6 → ∀ i, i < 12 → of1 2 (12 * c + i) = cbX c + 1 + 16 + 3 * i ∧ lr (12 * c + i) = 19 * c + 2 * (c / 5) ∧ sr (12 * c + i) = 19 * c + 2 * (c / 5) + 7 + i ∧ cbX c + 1 + 16 + 3 * i + 1 = of1 4 (sr (12 * c + i)) := by decide +kernel
section
variable {q : Nat × (Nat → Int)} {D : MD} {R : Nat → Nat → Option Nat} {N : Nat → Nat} {k z : Nat} {I A : M2} {L P : Nat → Nat → Option Nat} {F G : Nat → Nat → UInt32}
/-- Cellar.<init> -/
theorem k_cellar {c : Nat} (hc : c < 6) (h2 : N 2 = 12 * c) (h4 : N 4 = 19 * c + 2 * (c / 5)) (h5 : N 5 = c) (h13 : N 13 = 19 * c + 2 * (c / 5)) (h15 : N 15 = c) (hk : k = cbX c + 1) :
    ∃ L' A', CelS c (c + 1) L L' A A' ∧ Mk q 1 [vR 0 c, vU] k z N R (I, A, L, P, F, G) D 52 711 (fun t => if t = 2 then 12 else if t = 4 ∨ t = 13 then 19 else if t = 5 ∨ t = 15 then 1 else 0)
      (fun f x => (f = 80 ∧ 19 * c + 2 * (c / 5) ≤ x ∧ x < 19 * c + 2 * (c / 5) + 19) ∨ (100 ≤ f ∧ f ≤ 102 ∧ x = c) ∨ ((f ≤ 3 ∨ f = 6 ∨ f = 7) ∧ x = c) ∨ (40 ≤ f ∧ f ≤ 42 ∧ 12 * c ≤ x ∧ x < 12 * c + 12)) (I, A', L', P, F, G) D := by
  have oo := fun (_ : Unit) => off_c c hc
  have ocl := off_cl c hc
  obtain ⟨b129, orr⟩ := off_b c hc
  obtain ⟨n3, n4⟩ := len_c c hc
  obtain ⟨n1, n2⟩ := len_g c hc
  subst hk
  obtain ⟨b, hb⟩ : ∃ b, 19 * c + 2 * (c / 5) = b := ⟨_, rfl⟩
  have x6 : RX 6 c = some b := by rw [← hb]; rfl
  have x7 : RX 7 c = some (b + 1) := by rw [← hb]; rfl
  have x2 : RX 2 c = some (b + 5) := by rw [← hb]; rfl
  have x3 : RX 3 c = some (b + 6) := by rw [← hb]; rfl
  simp only [hb] at oo
  rw [hb] at orr b129 n3 n4 n1 n2 h4 h13
  -- the grains' rows
  obtain ⟨ma, ea⟩ := k_new (q := q) (C := (I, A, L, P, F, G)) (D := D) (R := R) (N := N) (k := cbX c + 1) (z := z) (i := b) (n := 200) h4 h13 (by omega) (oo ()).1 (oo ()).2.1 n1
  obtain ⟨mb, eb⟩ := k_new (q := q) (C := (I, A, L, P, F, G)) (D := D) (R := up2 (up2 R 80 b (some b)) 6 c (some b)) (N := inc (inc N 4) 13) (k := cbX c + 1 + 1 + 1) (z := z + 1 + 200) (i := b + 1) (n := 200) (by rw [inc_n (by decide), inc_e, h4]) (by rw [inc_e, inc_n (by decide), h13]) (by omega) (oo ()).2.2.1 (oo ()).2.2.2.1 n2
  obtain ⟨R2, hR2⟩ : ∃ R2, up2 (up2 (up2 (up2 R 80 b (some b)) 6 c (some b)) 80 (b + 1) (some (b + 1))) 7 c (some (b + 1)) = R2 := ⟨_, rfl⟩
  obtain ⟨N2, hN2⟩ : ∃ N2, inc (inc (inc (inc N 4) 13) 4) 13 = N2 := ⟨_, rfl⟩
  have c2 : Cov (fun f x => (f = 80 ∧ b ≤ x ∧ x < b + 2) ∨ ((f = 6 ∨ f = 7) ∧ x = c)) R R2 := by
    subst hR2
    refine (((((Cov.rf R).up (f := 80) (x := b) rfl).up (f := 6) (x := c) x6).up (f := 80) (x := b + 1) rfl).up (f := 7) (x := c) x7).iff (fun f x => ?_)
    (try simp only [false_or])
    omega
  have i2 : Inc (fun t => if t = 4 ∨ t = 13 then 2 else 0) N N2 := by
    subst hN2
    refine (((((Inc.rf N).up 4).up 13).up 4).up 13).iff (fun t => ?_)
    by_cases h4 : t = 4
    · subst h4; rfl
    · by_cases h13 : t = 13
      · subst h13; rfl
      · simp [h4, h13]
  -- the rules
  have m1 := mk_ok (q := q) (R := R2) (N := N2) (k := cbX c + 1 + 1 + 1 + 1 + 1) (z := z + 1 + 200 + 1 + 200) (t := 5) (i := c) (zz := 4) (by rw [i2 5, h5]; rfl) (by show c < 7; omega) (oo ()).2.2.2.2.1 rfl
  obtain ⟨R1, N1, e1, c1, i1⟩ := k_rules (q := q) (C := (I, A, L, P, F, G)) (D := D) (R := R2) (N := inc N2 5) (k := cbX c + 1 + 1 + 1 + 1 + 1 + 1) (z := z + 1 + 200 + 1 + 200 + 4) (r := c) (by omega) (by rw [inc_n (by decide), i2 4, h4, orr]; rfl) (by rw [inc_n (by decide), i2 13, h13, orr]; rfl) (congrArg Nat.succ (oo ()).2.2.2.2.1).symm
  have a4 : N1 4 = b + 5 := by rw [i1 4, inc_n (by decide), i2 4, h4]; rfl
  have a13 : N1 13 = b + 5 := by rw [i1 13, inc_n (by decide), i2 13, h13]; rfl
  -- settings, accounts
  obtain ⟨m2, e2⟩ := k_new (q := q) (C := (I, A, L, P, F, G)) (D := D) (R := up2 R1 1 c (some c)) (N := N1) (k := cbX c + 1 + 1 + 1 + 1 + 1 + 1 + 6) (z := z + 1 + 200 + 1 + 200 + 4 + 27) (i := b + 5) (n := 4) a4 a13 (by omega) (oo ()).2.2.2.2.2.2.1 (oo ()).2.2.2.2.2.2.2.1 n3
  obtain ⟨m3, e3⟩ := k_new (q := q) (C := (I, A, L, P, F, G)) (D := D) (R := up2 (up2 (up2 R1 1 c (some c)) 80 (b + 5) (some (b + 5))) 2 c (some (b + 5))) (N := inc (inc N1 4) 13) (k := cbX c + 1 + 1 + 1 + 1 + 1 + 1 + 6 + 1 + 1) (z := z + 1 + 200 + 1 + 200 + 4 + 27 + 1 + 4) (i := b + 6) (n := 8) (by rw [inc_n (by decide), inc_e, a4]) (by rw [inc_e, inc_n (by decide), a13]) (by omega) (oo ()).2.2.2.2.2.2.2.2.1 (oo ()).2.2.2.2.2.2.2.2.2.1 n4
  generalize hR3 : up2 (up2 (up2 (up2 (up2 R1 1 c (some c)) 80 (b + 5) (some (b + 5))) 2 c (some (b + 5))) 80 (b + 6) (some (b + 6))) 3 c (some (b + 6)) = R3
  have c3 : Cov (fun f x => (f = 80 ∧ b ≤ x ∧ x < b + 7) ∨ (100 ≤ f ∧ f ≤ 102 ∧ x = c) ∨ ((f = 1 ∨ f = 2 ∨ f = 3 ∨ f = 6 ∨ f = 7) ∧ x = c)) R R3 := by
    subst hR3
    refine ((((((c2.tr c1).up (f := 1) (x := c) rfl).up (f := 80) (x := b + 5) rfl).up (f := 2) (x := c) x2).up (f := 80) (x := b + 6) rfl).up (f := 3) (x := c) x3).iff (fun f x => ?_)
    rw [orr]
    omega
  generalize hN3 : inc (inc (inc (inc N1 4) 13) 4) 13 = N3
  have i3 : Inc (fun t => if t = 4 ∨ t = 13 then 7 else if t = 5 then 1 else 0) N N3 := by
    subst hN3
    refine (((((((i2.up 5)).tr i1).up 4).up 13).up 4).up 13).iff (fun t => ?_)
    by_cases h4 : t = 4
    · subst h4; rfl
    · by_cases h13 : t = 13
      · subst h13; rfl
      · by_cases h5 : t = 5
        · subst h5; rfl
        · simp [h4, h13, h5]
  have b15 : N3 15 = c := by rw [i3 15, h15]; rfl
  have m4 := mk_ok (q := q) (R := R3) (N := N3) (k := cbX c + 1 + 1 + 1 + 1 + 1 + 1 + 6 + 1 + 1 + 1 + 1) (z := z + 1 + 200 + 1 + 200 + 4 + 27 + 1 + 4 + 1 + 8) (t := 15) (i := c) (zz := 12) b15 (by show c < 6; omega) (oo ()).2.2.2.2.2.2.2.2.2.2.1 rfl
  -- the lots
  obtain ⟨ls', μ', el, R5, N5, L5, rfl, rfl, c5, i5, l5⟩ := rs_loopP (m := 1) (pc := 79) (ls := [vR 0 c, vI 0]) (μ := ((up2 R3 0 c (some c), inc N3 15, LX q.1, cbX c + 1 + 1 + 1 + 1 + 1 + 1 + 6 + 1 + 1 + 1 + 1 + 1, z + 1 + 200 + 1 + 200 + 4 + 27 + 1 + 4 + 1 + 8 + 12, q.2), (I, A, L, P, F, G), D)) (fun i ls μ => ∃ R' N' L', μ = ((R', N', LX q.1, cbX c + 1 + 16 + 3 * i, z + 459 + 21 * i, q.2), (I, A, L', P, F, G), D) ∧ ls = [vR 0 c, vI (i : Int)] ∧
      Cov (fun f x => (f = 80 ∧ b ≤ x ∧ x < b + 7 + i) ∨ (100 ≤ f ∧ f ≤ 102 ∧ x = c) ∨ ((f ≤ 3 ∨ f = 6 ∨ f = 7) ∧ x = c) ∨ (40 ≤ f ∧ f ≤ 42 ∧ 12 * c ≤ x ∧ x < 12 * c + i)) R R' ∧ Inc (fun t => if t = 2 then i else if t = 4 ∨ t = 13 then 7 + i else if t = 5 ∨ t = 15 then 1 else 0) N N' ∧ ∀ d j, L' d j = if d = c ∧ j < i then some (12 * c + j) else L d j) 12
    ⟨up2 R3 0 c (some c), inc N3 15, L, by rw [show cbX c + 1 + 16 + 3 * 0 = cbX c + 1 + 1 + 1 + 1 + 1 + 1 + 6 + 1 + 1 + 1 + 1 + 1 by omega, show z + 459 + 21 * 0 = z + 1 + 200 + 1 + 200 + 4 + 27 + 1 + 4 + 1 + 8 + 12 by omega], rfl, (c3.up (f := 0) (x := c) rfl).iff (fun f x => by omega), (i3.up 15).iff (fun t => by
      by_cases h4 : t = 4
      · subst h4; rfl
      · by_cases h13 : t = 13
        · subst h13; rfl
        · by_cases h5 : t = 5
          · subst h5; rfl
          · by_cases h15 : t = 15
            · subst h15; rfl
            · simp [h4, h13, h5, h15]), fun d j => (if_neg (by omega)).symm⟩ (fun i hi ls μ ⟨R', N', L', e1, e2, cv, iv, lv⟩ => by
      subst e1 e2
      have of2 := fun (_ : Unit) => (ocl i hi).1
      have ofs := fun (_ : Unit) => (ocl i hi).2.2.2
      have olr := (ocl i hi).2.1
      have osr := (ocl i hi).2.2.1
      rw [hb] at olr osr
      have r0 : R' 0 c = some c := (cv 0 c).1 (by omega)
      have r6 : R' 6 c = some b := ((cv 6 c).1 (by omega)).trans x6
      have r7 : R' 7 c = some (b + 1) := ((cv 7 c).1 (by omega)).trans x7
      have le : LX q.1 15 c = 12 := rfl
      have ei : Unit → w32 ((i : Int) + 1) = ((i + 1 : Nat) : Int) := fun _ => by rw [w32_id (by omega) (by omega)]; omega
      have n2 : N' 2 = 12 * c + i := by rw [iv 2, h2]; rfl
      have n4' : N' 4 = b + (7 + i) := by rw [iv 4, h4]; rfl
      have n13' : N' 13 = b + (7 + i) := by rw [iv 13, h13]; rfl
      have m6 := mk_ok (q := q) (R := R') (N := N') (k := cbX c + 1 + 16 + 3 * i) (z := z + 459 + 21 * i) (t := 2) (i := 12 * c + i) (zz := 12) n2 (by show 12 * c + i < 74; omega) (of2 ()) rfl
      obtain ⟨R6, N6, e6, c6, i6⟩ := k_lot (q := q) (C := (I, A, L', P, F, G)) (D := D) (R := R') (N := inc N' 2) (k := cbX c + 1 + 16 + 3 * i + 1) (z := z + 459 + 21 * i + 12) (l := 12 * c + i) (a := b) (b := b + 1) (by omega) olr (by rw [olr]) (by rw [inc_n (by decide)]; omega) (by rw [inc_n (by decide)]; omega) (ofs ())
      refine ⟨[vR 0 c, vI ((i + 1 : Nat) : Int)], ((R6, N6, LX q.1, cbX c + 1 + 16 + 3 * i + 1 + 2, z + 459 + 21 * i + 12 + 9, q.2), (I, A, up2 L' c i (some (12 * c + i)), P, F, G), D), ?_, R6, N6, up2 L' c i (some (12 * c + i)), ?_, rfl, (cv.tr c6).iff (fun f x => by rw [osr]; omega), ((iv.up 2).tr i6).iff (fun t => ?_), fun d j => ?_⟩
      · rw [s1_79]
        simp only [s1_80, s1_81, r0, rfV_s, s1_84, le]
        rw [if_pos (by decide)]
        simp only [s1_85]
        rw [if_neg (by omega)]
        simp only [s1_88, s1_89, r0, rfV_s, s1_92]
        rw [s1_93 _ _ _ _ _ _ _ _ m6]
        simp only [s1_96r, s1_97, s1_98, r6, rfV_s, s1_101, s1_102, r7]
        rw [s1_105]
        refine (congrArg (fun o => Option.bind o _) e6).trans ?_
        simp only [Option.bind_some, pushR_U, s1_108, le]
        rw [if_pos (by omega), Int.toNat_natCast]
        simp only [s1_109, s1_112, unJ_R, ei ()]
      · rw [show cbX c + 1 + 16 + 3 * (i + 1) = cbX c + 1 + 16 + 3 * i + 1 + 2 by omega, show z + 459 + 21 * (i + 1) = z + 459 + 21 * i + 12 + 9 by omega]
      · by_cases t2 : t = 2
        · subst t2; rfl
        · by_cases h4 : t = 4
          · subst h4; show 7 + i + 0 + 1 = 7 + (i + 1); omega
          · by_cases h13 : t = 13
            · subst h13; show 7 + i + 0 + 1 = 7 + (i + 1); omega
            · simp [t2, h4, h13]
      · unfold up2
        by_cases e : d = c ∧ j = i
        · rw [if_pos e, if_pos (by omega), e.2]
        · rw [if_neg e, lv d j]
          by_cases e2 : d = c ∧ j < i
          · rw [if_pos e2, if_pos (by omega)]
          · rw [if_neg e2, if_neg (by omega)])
  have r0 : R5 0 c = some c := (c5 0 c).1 (by omega)
  have r2 : R5 2 c = some (b + 5) := ((c5 2 c).1 (by omega)).trans x2
  have r80 : R5 80 (b + 5) = some (b + 5) := (c5 80 (b + 5)).1 (by omega)
  have le : LX q.1 15 c = 12 := rfl
  have p0 := fun A' => k_put (q := q) (N := N5) (k := cbX c + 1 + 16 + 3 * 12) (z := z + 459 + 21 * 12) (D := D) (I := I) (A := A') (L := L5) (P := P) (F := F) (G := G) (i := 0) r80 (by omega) 10
  have p1 := fun A' => k_put (q := q) (N := N5) (k := cbX c + 1 + 16 + 3 * 12) (z := z + 459 + 21 * 12) (D := D) (I := I) (A := A') (L := L5) (P := P) (F := F) (G := G) (i := 1) r80 (by omega) 40
  have p2 := fun A' => k_put (q := q) (N := N5) (k := cbX c + 1 + 16 + 3 * 12) (z := z + 459 + 21 * 12) (D := D) (I := I) (A := A') (L := L5) (P := P) (F := F) (G := G) (i := 2) r80 (by omega) 5
  have p3 := fun A' => k_put (q := q) (N := N5) (k := cbX c + 1 + 16 + 3 * 12) (z := z + 459 + 21 * 12) (D := D) (I := I) (A := A') (L := L5) (P := P) (F := F) (G := G) (i := 3) r80 (by omega) 0
  refine ⟨L5, up2 (up2 (up2 (up2 A (b + 5) 0 10) (b + 5) 1 40) (b + 5) 2 5) (b + 5) 3 0, ⟨fun d i => ?_, fun d i h1 h2 hi => ?_, fun r j hn => ?_⟩, R5, N5, ?_, c5.iff (fun f x => by rw [hb]), i5.iff (fun t => rfl)⟩
  · rw [l5 d i]
    by_cases e : d = c ∧ i < 12
    · rw [if_pos e, if_pos (by omega), e.1]
    · rw [if_neg e, if_neg (by omega)]
  · have e : d = c := by omega
    subst e
    rw [hb]
    have : i = 0 ∨ i = 1 ∨ i = 2 ∨ i = 3 := by omega
    rcases this with rfl | rfl | rfl | rfl
    · rw [up2_ne (by omega), up2_ne (by omega), up2_ne (by omega), up2_eq]; rfl
    · rw [up2_ne (by omega), up2_ne (by omega), up2_eq]; rfl
    · rw [up2_ne (by omega), up2_eq]; rfl
    · rw [up2_eq]; rfl
  · have : r ≠ b + 5 := fun e => hn ⟨c, by omega, by omega, by rw [hb]; exact e⟩
    rw [up2_ne (by omega), up2_ne (by omega), up2_ne (by omega), up2_ne (by omega)]
  · rw [show cbX c + 1 + 52 = cbX c + 1 + 16 + 3 * 12 by omega, show z + 711 = z + 459 + 21 * 12 by omega]
    simp only [s1_0, s1_1, s1_4]
    rw [s1_5 _ _ _ _ _ _ _ _ ma]
    simp only [s1_8r, s1_9]
    rw [s1_12]
    refine (congrArg (fun o => Option.bind o _) ea).trans ?_
    simp only [Option.bind_some, pushR_U, s1_15, s1_18]
    rw [s1_19 _ _ _ _ _ _ _ _ mb]
    simp only [s1_22r, s1_23]
    rw [s1_26]
    refine (congrArg (fun o => Option.bind o _) eb).trans ?_
    simp only [Option.bind_some, pushR_U, s1_29, s1_32, hR2, hN2]
    rw [s1_33 _ _ _ _ _ _ _ _ m1]
    simp only [s1_36r]
    rw [s1_37]
    refine (congrArg (fun o => Option.bind o _) e1).trans ?_
    simp only [Option.bind_some, pushR_U, s1_40, s1_43]
    rw [s1_44 _ _ _ _ _ _ _ _ m2]
    simp only [s1_47r, s1_48]
    rw [s1_49]
    refine (congrArg (fun o => Option.bind o _) e2).trans ?_
    simp only [Option.bind_some, pushR_U, s1_52, s1_55]
    rw [s1_56 _ _ _ _ _ _ _ _ m3]
    simp only [s1_59r, s1_60]
    rw [s1_62]
    refine (congrArg (fun o => Option.bind o _) e3).trans ?_
    simp only [Option.bind_some, pushR_U, s1_65, s1_68, s1_69, hR3, hN3]
    rw [s1_71 _ _ 12 _ _ _ _ c _ (by omega) m4]
    simp only [s1_74, s1_77, s1_78, unJ_R]
    refine el.trans ?_
    simp only [s1_79, s1_80, s1_81, r0, rfV_s, s1_84, le]
    rw [if_pos (by decide)]
    simp only [s1_85]
    rw [if_pos (by omega)]
    simp only [s1_115, s1_116, r2, rfV_s, s1_119, s1_120]
    rw [s1_122]
    refine (congrArg (fun o => Option.bind o _) (p0 _)).trans ?_
    simp only [Option.bind_some, pushR_U, s1_125, s1_126, r2, rfV_s, s1_129, s1_130]
    rw [s1_132]
    refine (congrArg (fun o => Option.bind o _) (p1 _)).trans ?_
    simp only [Option.bind_some, pushR_U, s1_135, s1_136, r2, rfV_s, s1_139, s1_140]
    rw [s1_141]
    refine (congrArg (fun o => Option.bind o _) (p2 _)).trans ?_
    simp only [Option.bind_some, pushR_U, s1_144, s1_145, r2, rfV_s, s1_148, s1_149]
    rw [s1_150]
    refine (congrArg (fun o => Option.bind o _) (p3 _)).trans ?_
    simp only [Option.bind_some, pushR_U, s1_153]
end
