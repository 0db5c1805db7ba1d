/-! THE LAW'S START: two objects are made -/
theorem NX_2 (t : Nat) : NX t = 2 * NB t := by
  rcases Nat.lt_or_ge t 19 with z | z
  · have : ∀ t, t < 19 → NX t = 2 * NB t := by decide
    exact this t z
  · unfold NX NB
    rw [List.getD_eq_getElem?_getD, List.getD_eq_getElem?_getD, List.getElem?_eq_none (by simpa using z), List.getElem?_eq_none (by simpa using z)]
    rfl
theorem RX_own {f x : Nat} (h : NB (ownF f) = 0) : RX f x = none := by
  unfold RX
  split
  all_goals first
    | rfl
    | exact absurd h (by decide)
theorem R0_Rv {k : Nat} (hk : k ≤ 1) : RlR k R0 Rv := fun f i hi => by
  unfold R0 Rv
  rcases hi with hi | hi
  · rw [if_neg (by rw [NX_2, hi]; omega), if_neg (by rw [hi]; omega), RX_own hi, RX_own hi]
    exact ⟨rfl, fun j h => nomatch h⟩
  · rw [if_pos (by rw [NX_2]; rcases Nat.le_one_iff_eq_zero_or_eq_one.mp hk with rfl | rfl <;> omega), if_pos hi]
    exact ⟨rfl, fun j h => nomatch h⟩
theorem LX_2 (n : Nat) {k : Nat} (hk : k ≤ 1) : RlN k (LX n) (LX n) := fun t i hi => by
  rcases Nat.le_one_iff_eq_zero_or_eq_one.mp hk with rfl | rfl
  · rw [Nat.zero_mul, Nat.add_zero]
  · rw [Nat.one_mul]
    by_cases e : t = 13
    · subst e
      have hi : i < 129 := hi.resolve_left (by decide)
      show rl1 (if i + 129 < 129 then i + 129 else i + 129 - 129) = rl1 (if i < 129 then i else i - 129)
      rw [if_neg (by omega), if_pos hi, Nat.add_sub_cancel]
    · unfold LX
      split <;> first | exact absurd rfl e | rfl
abbrev MC0 : MC := ((fun _ _ => 0), (fun _ _ => 0), (fun _ _ => none), (fun _ _ => none), (fun _ _ => 0), (fun _ _ => 0))
abbrev MD0 : MD := ((fun _ _ => 0), (fun _ _ => 0), (fun _ _ => 0))
theorem Rel_0 {k : Nat} (hk : k ≤ 1) (n : Nat) (sc : Nat → Int) (N N' : Nat → Nat) (c c' s s' : Nat) : Rel k ((R0, N, LX n, c, s, sc), MC0, MD0) ((Rv, N', LX n, c', s', sc), MC0, MD0) :=
  ⟨R0_Rv hk, LX_2 n hk, rfl, fun _ _ _ => rfl, fun _ _ _ => rfl, fun _ _ _ => ⟨rfl, fun _ h => nomatch h⟩, fun _ _ _ => ⟨rfl, fun _ h => nomatch h⟩, fun _ _ _ => rfl, fun _ _ _ => rfl⟩
/-- the state of a new object -/
def XS0 : XS := (([], [], stv, (fun _ => 0), 0), [], [])
theorem ok_0 : okX 0 XS0 := ⟨by decide, ⟨fun i hi => absurd hi (Nat.not_lt_zero _), by decide, by decide, ⟨by decide, by decide, by decide, by decide⟩, ⟨fun r hr => absurd hr List.not_mem_nil, by decide⟩, by decide, fun i hi => absurd hi (Nat.not_lt_zero _), fun i j _ hj => absurd hj (Nat.not_lt_zero _)⟩, fun s hs => absurd hs List.not_mem_nil, by decide, by decide⟩
theorem ky_0 : okY XS0 := ⟨⟨by decide, by decide, by decide⟩, fun s hs => absurd hs List.not_mem_nil⟩
/-- both objects' states, and all that is made -/
def Pair (q : Nat × (Nat → Int)) (μ : Mem) (X Y : XS) : Prop := Bl q 0 μ X ∧ Bl q 1 μ Y ∧ μ.1.2.2.2.1 = 718 ∧ μ.1.2.2.2.2.1 = 10762
theorem one_made (n : Nat) (sc : Nat → Int) : ∃ ν2 : Mem, rs 901 0 [vR 9 0] [] ((Rv, inc (fun _ => 0) 9, LX n, 1, 7, sc), MC0, MD0) = some (vU, ν2) ∧ ν2.1.2.2.2.1 = 359 ∧ ν2.1.2.2.2.2.1 = 5381 ∧ ν2.1.2.1 = NB ∧
    ∀ k μ, Rel k μ ν2 → Bl (n, sc) k μ XS0 := by
  obtain ⟨L1, A1, P1, s1, p1, R1, N1, e1, c1, i1⟩ := k_class (q := (n, sc)) (D := MD0) (R := Rv) (N := inc (fun _ => 0) 9) (z := 7) (I := fun _ _ => 0) (A := fun _ _ => 0) (L := fun _ _ => none) (P := fun _ _ => none) (F := fun _ _ => 0) (G := fun _ _ => 0) (fun t ht => inc_n ht)
  have eR : R1 = RX := R_all c1.1 c1.2
  have eN : N1 = NB := N_all (fun t => ((((Inc.rf (fun _ => 0)).up 9).tr i1) t)) (by decide) (fun t ht => by
    have a : ∀ j, j < 19 → t ≠ j := fun j hj => by omega
    simp [a 0 (by decide), a 1 (by decide), a 2 (by decide), a 3 (by decide), a 4 (by decide), a 5 (by decide), a 6 (by decide), a 7 (by decide), a 8 (by decide), a 9 (by decide), a 10 (by decide), a 13 (by decide), a 14 (by decide), a 15 (by decide), a 16 (by decide), a 17 (by decide), a 18 (by decide)])
  have hC : Cls (fun _ _ => 0) A1 L1 P1 XS0 := by
    refine ⟨fun c i => 12 * c + i, fun i => i + 1, fun c hc => ⟨fun i hi => ⟨by rw [s1.1 c i, if_pos (by omega)], by show 12 * c ≤ 12 * c + i; omega, by show 12 * c + i < 12 * c + 12; omega⟩, fun i j _ _ e => by have e : 12 * c + i = 12 * c + j := e; omega⟩, ⟨rfl, by decide, rfl, fun i hi => absurd hi (Nat.not_lt_zero _), ⟨rfl, by decide, fun j hj => absurd hj (Nat.not_lt_zero _)⟩, fun i hi => s1.2.1 0 i (by omega) (by omega) hi, fun i hi => ?_, fun i j _ hj => absurd hj (Nat.not_lt_zero _)⟩, ⟨rfl, by decide, fun i hi => ⟨by rw [p1 0 i, if_pos ⟨rfl, hi⟩], by show 1 ≤ i + 1; omega, by show i + 1 ≤ 4; omega⟩, fun i j _ _ e => by have e : i + 1 = j + 1 := e; omega, fun i hi => absurd hi (Nat.not_lt_zero _)⟩, ⟨rfl, by decide, fun j hj => absurd hj (Nat.not_lt_zero _)⟩⟩
    exact s1.2.2 _ _ (fun ⟨c, h1, h2, h3⟩ => by omega)
  subst eR eN
  exact ⟨_, e1, rfl, rfl, rfl, fun k μ h => ⟨_, _, _, _, _, _, MD0, h, hC⟩⟩
/-- the law's first run: two new objects -/
theorem two_made (n : Nat) (sc : Nat → Int) : ∃ μ, rs 1601 0 [vR 19 0, vU, vU, vU, vU, vU, vU, vU] [] (mem0 n sc) = rs 1601 16 [vR 19 0, vR 9 0, vR 9 1, vU, vU, vU, vU, vU] [] μ ∧ Pair (n, sc) μ XS0 XS0 := by
  obtain ⟨ν2, e, c1, c2, c3, hB⟩ := one_made n sc
  have m1 : mkS (mem0 n sc).1 9 7 = some (0, (R0, inc (fun _ => 0) 9, LX n, 1, 7, sc)) := by
    have h : mkS (mem0 n sc).1 9 7 = some (0, R0, (fun x => if x = 9 then 0 + 1 else 0), (fun x y => if x = 9 ∧ y = 0 then 7 else LX n x y), 0 + 1, 0 + 7, sc) := if_pos ⟨show (0 : Nat) < NX 9 from by decide, show offX 9 0 = 0 from by decide⟩
    rw [h]
    have e1 : (fun x y => if x = 9 ∧ y = 0 then 7 else LX n x y) = LX n := by
      funext x y
      by_cases g : x = 9 ∧ y = 0
      · rw [if_pos g, g.1, g.2]; rfl
      · rw [if_neg g]
    rw [e1]
    rfl
  obtain ⟨⟨r2, μ2⟩, g1, g2, g3, g4, g5, g6⟩ := rs_s (a := true) (k := 0) (by omega) (ls := [vR 9 0]) (l2 := [vR 9 0]) (st := []) (s2 := []) (μ := ((R0, inc (fun _ => 0) 9, LX n, 1, 7, sc), MC0, MD0)) ⟨V9 0, trivial⟩ trivial (Rel_0 (by omega) n sc _ _ _ _ _ _) ⟨fun t => by rw [Nat.zero_mul]; rfl, rfl⟩ (fun _ => by show ν2.1.2.2.2.1 ≤ 359; omega) e
  obtain rfl : r2 = vU := g2
  obtain ⟨a1, a2⟩ := g4
  dsimp only at a1 a2 g3 g5 g6
  have b9 : μ2.1.2.1 9 = 1 := by rw [a1 9, c3]; rfl
  have bc : μ2.1.2.2.2.1 = 359 := by rw [a2, c1]
  have bs : μ2.1.2.2.2.2.1 = 5381 := by
    have := g6.2.2
    have h1 : μ2.1.2.2.2.2.1 + 7 = 7 + ν2.1.2.2.2.2.1 := this
    omega
  have m2 : mkS μ2.1 9 7 = some (1, μ2.1.1, (fun x => if x = 9 then μ2.1.2.1 9 + 1 else μ2.1.2.1 x), (fun x y => if x = 9 ∧ y = μ2.1.2.1 9 then 7 else μ2.1.2.2.1 x y), μ2.1.2.2.2.1 + 1, μ2.1.2.2.2.2.1 + 7, μ2.1.2.2.2.2.2) := by
    have h : mkS μ2.1 9 7 = some (μ2.1.2.1 9, μ2.1.1, (fun x => if x = 9 then μ2.1.2.1 9 + 1 else μ2.1.2.1 x), (fun x y => if x = 9 ∧ y = μ2.1.2.1 9 then 7 else μ2.1.2.2.1 x y), μ2.1.2.2.2.1 + 1, μ2.1.2.2.2.2.1 + 7, μ2.1.2.2.2.2.2) := if_pos ⟨by rw [b9]; decide, by rw [b9, bc]; decide⟩
    rw [h, b9]
  obtain ⟨S3, e3⟩ : ∃ S3 : MS, S3 = (μ2.1.1, (fun x => if x = 9 then μ2.1.2.1 9 + 1 else μ2.1.2.1 x), (fun x y => if x = 9 ∧ y = μ2.1.2.1 9 then 7 else μ2.1.2.2.1 x y), μ2.1.2.2.2.1 + 1, μ2.1.2.2.2.2.1 + 7, μ2.1.2.2.2.2.2) := ⟨_, rfl⟩
  rw [← e3] at m2
  have r1 : Rel 1 μ2 ((Rv, inc (fun _ => 0) 9, LX n, 1, 7, sc), MC0, MD0) := (Rel_0 (k := 1) (by omega) n sc _ _ _ _ _ _).keep (k := 0) (by omega) (by omega) (by omega) g5
  have r0' : Rel 0 (S3, μ2.2) ν2 := by
    obtain ⟨h1, h2, h3⟩ := g3
    subst e3
    refine ⟨h1, fun t i hi => ?_, h3⟩
    show (if t = 9 ∧ i + 0 * NB t = μ2.1.2.1 9 then 7 else μ2.1.2.2.1 t (i + 0 * NB t)) = _
    rw [if_neg (fun z => by
      obtain ⟨rfl, z⟩ := z
      have : i < 1 := hi.resolve_left (by decide)
      rw [b9, Nat.zero_mul] at z
      omega)]
    exact h2 t i hi
  have r1' : Rel 1 (S3, μ2.2) ((Rv, inc (fun _ => 0) 9, LX n, 1, 7, sc), MC0, MD0) := by
    obtain ⟨h1, h2, h3⟩ := r1
    subst e3
    refine ⟨h1, fun t i hi => ?_, h3⟩
    show (if t = 9 ∧ i + 1 * NB t = μ2.1.2.1 9 then 7 else μ2.1.2.2.1 t (i + 1 * NB t)) = LX n t i
    by_cases z : t = 9 ∧ i + 1 * NB t = μ2.1.2.1 9
    · rw [if_pos z, z.1]; rfl
    · rw [if_neg z]; exact h2 t i hi
  obtain ⟨⟨r4, μ4⟩, k1, k2, k3, k4, k5, k6⟩ := rs_s (a := true) (k := 1) (by omega) (ls := [vR 9 0]) (l2 := [vR 9 1]) (st := []) (s2 := []) (μ := (S3, μ2.2)) ⟨V9 1, trivial⟩ trivial r1' ⟨fun t => by
      subst e3
      show (if t = 9 then μ2.1.2.1 9 + 1 else μ2.1.2.1 t) = (if t = 9 then 0 + 1 else 0) + 1 * NB t
      by_cases z : t = 9
      · rw [if_pos z, if_pos z, b9, z]; rfl
      · rw [if_neg z, if_neg z, a1 t, c3]; omega, by subst e3; show μ2.1.2.2.2.1 + 1 = 1 + 1 * 359; omega⟩ (fun _ => by show ν2.1.2.2.2.1 ≤ 359; omega) e
  obtain rfl : r4 = vU := k2
  dsimp only at k3 k5 k6
  refine ⟨μ4, ?_, hB 0 μ4 (r0'.keep (k := 1) (by omega) (by omega) (by omega) k5), hB 1 μ4 k3, ?_, ?_⟩
  · show rs 1601 0 [vR 19 0, vU, vU, vU, vU, vU, vU, vU] [] ((mem0 n sc).1, MC0, MD0) = _
    rw [s1601_0 _ _ _ _ _ _ _ _ _ _ _ _ _ _ m1]
    simp only [s1601_3r]
    rw [s1601_4]
    refine (congrArg (fun o => Option.bind o _) g1).trans ?_
    simp only [Option.bind_some, pushR_U, s1601_7, unJ_U, unJ_R]
    show rs 1601 8 [vR 19 0, vR 9 0, vU, vU, vU, vU, vU, vU] [] (μ2.1, μ2.2.1, μ2.2.2) = _
    rw [s1601_8 _ _ _ _ _ _ _ _ _ _ _ _ _ _ m2]
    simp only [s1601_11r]
    rw [s1601_12]
    refine (congrArg (fun o => Option.bind o _) k1).trans ?_
    simp only [Option.bind_some, pushR_U, s1601_15, unJ_U, unJ_R]
  · have := k6.2.1
    subst e3
    have h1 : μ4.1.2.2.2.1 + 1 = μ2.1.2.2.2.1 + 1 + ν2.1.2.2.2.1 := this
    omega
  · have := k6.2.2
    subst e3
    have h1 : μ4.1.2.2.2.2.1 + 7 = μ2.1.2.2.2.2.1 + 7 + ν2.1.2.2.2.2.1 := this
    omega
