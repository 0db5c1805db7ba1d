/-! WHAT THE CONSTRUCTORS MAKE: the class, the model -/
section
variable {q : Nat × (Nat → Int)} {D : MD} {R : Nat → Nat → Option Nat} {N : Nat → Nat} {z : Nat} {I A : M2} {L P : Nat → Nat → Option Nat} {F G : Nat → Nat → UInt32}
set_option maxHeartbeats 4000000 in
/-- VineyardBlends.<init> -/
theorem k_class (hN : ∀ t, t ≠ 9 → N t = 0) :
    ∃ L' A' P', CelS 0 6 L L' A A' ∧ (∀ a j, P' a j = if a = 0 ∧ j < 4 then some (j + 1) else P a j) ∧ Mk2 q 901 [vR 9 0] 1 z N R (I, A, L, P, F, G) D 358 5374 (fun t => if t = 0 ∨ t = 15 then 6 else if t = 1 ∨ t = 3 ∨ t = 6 ∨ t = 7 ∨ t = 8 ∨ t = 16 ∨ t = 17 then 1 else if t = 2 then 74 else if t = 4 ∨ t = 13 then 129 else if t = 5 then 7 else 0)
      (fun f x => (f = 80 ∧ x < 129) ∨ (100 ≤ f ∧ f ≤ 102 ∧ x < 7) ∨ ((f ≤ 3 ∨ f = 6 ∨ f = 7) ∧ x < 6) ∨ (40 ≤ f ∧ f ≤ 42 ∧ x < 74) ∨ (f = 20 ∧ x = 0) ∨ (140 ≤ f ∧ f ≤ 141 ∧ x = 0) ∨ (160 ≤ f ∧ f ≤ 164 ∧ x = 0) ∨ (60 ≤ f ∧ f ≤ 61 ∧ x = 0) ∨ (120 ≤ f ∧ f ≤ 121 ∧ x = 0) ∨ (180 ≤ f ∧ f ≤ 186 ∧ x = 0)) (I, A', L', P', F, G) D := by
  have t1 : N 0 = 0 := hN 0 (by decide)
  have m1 := mk_ok (q := q) (R := R) (N := N) (k := 1) (z := z) (t := 0) (i := 0) (zz := 8) t1 (by decide) (by decide) rfl
  have j1 := (Inc.rf N).up 0
  obtain ⟨L1, A1, s1, R1, N1, e1, c1, i1⟩ := k_cellar (q := q) (D := D) (R := R) (N := (inc N 0)) (k := 1 + 1) (z := z + 8) (I := I) (A := A) (L := L) (P := P) (F := F) (G := G) (c := 0) (by omega) (by rw [j1 2, hN 2 (by decide)]; rfl) (by rw [j1 4, hN 4 (by decide)]; rfl) (by rw [j1 5, hN 5 (by decide)]; rfl) (by rw [j1 13, hN 13 (by decide)]; rfl) (by rw [j1 15, hN 15 (by decide)]; rfl) (by decide)
  have i1N := j1.tr i1
  have t2 : N1 1 = 0 := by rw [i1N 1, hN 1 (by decide)]; rfl
  have m2 := mk_ok (q := q) (R := (up2 R1 180 0 (some 0))) (N := N1) (k := 1 + 1 + 52) (z := z + 8 + 711) (t := 1) (i := 0) (zz := 2) t2 (by decide) (by decide) rfl
  have j2 := i1N.up 1
  obtain ⟨L2, A2, P2, s2, p2, R2, N2, e2, c2, i2⟩ := k_hist (q := q) (D := D) (R := (up2 R1 180 0 (some 0))) (N := (inc N1 1)) (z := z + 8 + 711 + 2) (I := I) (A := A1) (L := L1) (P := P) (F := F) (G := G) (by rw [j2 0, hN 0 (by decide)]; rfl) (by rw [j2 2, hN 2 (by decide)]; rfl) (by rw [j2 4, hN 4 (by decide)]; rfl) (by rw [j2 5, hN 5 (by decide)]; rfl) (by rw [j2 13, hN 13 (by decide)]; rfl) (by rw [j2 15, hN 15 (by decide)]; rfl) (by rw [j2 16, hN 16 (by decide)]; rfl)
  have i2N := j2.tr i2
  have t3 : N2 7 = 0 := by rw [i2N 7, hN 7 (by decide)]; rfl
  have m3 := mk_ok (q := q) (R := (up2 R2 181 0 (some 0))) (N := N2) (k := 1 + 1 + 52 + 1 + 213) (z := z + 8 + 711 + 2 + 2880) (t := 7) (i := 0) (zz := 2) t3 (by decide) (by decide) rfl
  have j3 := i2N.up 7
  obtain ⟨R3, N3, e3, c3, i3⟩ := k_sharing (q := q) (C := (I, A2, L2, P2, F, G)) (D := D) (R := (up2 R2 181 0 (some 0))) (N := (inc N2 7)) (z := z + 8 + 711 + 2 + 2880 + 2) (by rw [j3 4, hN 4 (by decide)]; rfl) (by rw [j3 13, hN 13 (by decide)]; rfl)
  have i3N := j3.tr i3
  have t4 : N3 8 = 0 := by rw [i3N 8, hN 8 (by decide)]; rfl
  have m4 := mk_ok (q := q) (R := (up2 R3 183 0 (some 0))) (N := N3) (k := 1 + 1 + 52 + 1 + 213 + 1 + 4) (z := z + 8 + 711 + 2 + 2880 + 2 + 402) (t := 8) (i := 0) (zz := 6) t4 (by decide) (by decide) rfl
  have j4 := i3N.up 8
  obtain ⟨L4, A4, s4, R4, N4, e4, c4, i4⟩ := k_trial (q := q) (D := D) (R := (up2 R3 183 0 (some 0))) (N := (inc N3 8)) (z := z + 8 + 711 + 2 + 2880 + 2 + 402 + 6) (I := I) (A := A2) (L := L2) (P := P2) (F := F) (G := G) (by rw [j4 0, hN 0 (by decide)]; rfl) (by rw [j4 2, hN 2 (by decide)]; rfl) (by rw [j4 4, hN 4 (by decide)]; rfl) (by rw [j4 5, hN 5 (by decide)]; rfl) (by rw [j4 13, hN 13 (by decide)]; rfl) (by rw [j4 15, hN 15 (by decide)]; rfl)
  have i4N := j4.tr i4
  have t5 : N4 3 = 0 := by rw [i4N 3, hN 3 (by decide)]; rfl
  have m5 := mk_ok (q := q) (R := (up2 R4 182 0 (some 0))) (N := N4) (k := 1 + 1 + 52 + 1 + 213 + 1 + 4 + 1 + 64) (z := z + 8 + 711 + 2 + 2880 + 2 + 402 + 6 + 1168) (t := 3) (i := 0) (zz := 6) t5 (by decide) (by decide) rfl
  have j5 := i4N.up 3
  obtain ⟨R5, N5, e5, c5, i5⟩ := k_panel (q := q) (C := (I, A4, L4, P2, F, G)) (D := D) (R := (up2 R4 182 0 (some 0))) (N := (inc N4 3)) (z := z + 8 + 711 + 2 + 2880 + 2 + 402 + 6 + 1168 + 6) (by rw [j5 4, hN 4 (by decide)]; rfl) (by rw [j5 13, hN 13 (by decide)]; rfl) (by rw [j5 17, hN 17 (by decide)]; rfl)
  have i5N := j5.tr i5
  have t6 : N5 6 = 0 := by rw [i5N 6, hN 6 (by decide)]; rfl
  have m6 := mk_ok (q := q) (R := (up2 R5 184 0 (some 0))) (N := N5) (k := 1 + 1 + 52 + 1 + 213 + 1 + 4 + 1 + 64 + 1 + 3) (z := z + 8 + 711 + 2 + 2880 + 2 + 402 + 6 + 1168 + 6 + 21) (t := 6) (i := 0) (zz := 11) t6 (by decide) (by decide) rfl
  have j6 := i5N.up 6
  obtain ⟨R6, N6, e6, c6, i6⟩ := k_script (q := q) (C := (I, A4, L4, P2, F, G)) (D := D) (R := (up2 R5 184 0 (some 0))) (N := (inc N5 6)) (z := z + 8 + 711 + 2 + 2880 + 2 + 402 + 6 + 1168 + 6 + 21 + 11) (by rw [j6 4, hN 4 (by decide)]; rfl) (by rw [j6 13, hN 13 (by decide)]; rfl) (by rw [j6 5, hN 5 (by decide)]; rfl)
  have i6N := j6.tr i6
  have t7 : N6 2 = 73 := by rw [i6N 2, hN 2 (by decide)]; rfl
  have m7 := mk_ok (q := q) (R := (up2 R6 185 0 (some 0))) (N := N6) (k := 1 + 1 + 52 + 1 + 213 + 1 + 4 + 1 + 64 + 1 + 3 + 1 + 9) (z := z + 8 + 711 + 2 + 2880 + 2 + 402 + 6 + 1168 + 6 + 21 + 11 + 132) (t := 2) (i := 73) (zz := 12) t7 (by decide) (by decide) rfl
  have j7 := i6N.up 2
  obtain ⟨ma, ea⟩ := k_new (q := q) (C := (I, A4, L4, P2, F, G)) (D := D) (R := (up2 R6 185 0 (some 0))) (N := (inc N6 2)) (k := 1 + 1 + 52 + 1 + 213 + 1 + 4 + 1 + 64 + 1 + 3 + 1 + 9 + 1) (z := z + 8 + 711 + 2 + 2880 + 2 + 402 + 6 + 1168 + 6 + 21 + 11 + 132 + 12) (i := 126) (n := 1) (by rw [j7 4, hN 4 (by decide)]; rfl) (by rw [j7 13, hN 13 (by decide)]; rfl) (by omega) (by decide) (by decide) (by decide)
  obtain ⟨Sa, qa⟩ : ∃ S, S = up2 (up2 R6 185 0 (some 0)) 80 126 (some 126) := ⟨_, rfl⟩
  rw [← qa] at ea
  have ja := (j7.up 4).up 13
  obtain ⟨mb, eb⟩ := k_new (q := q) (C := (I, A4, L4, P2, F, G)) (D := D) (R := Sa) (N := (inc (inc (inc N6 2) 4) 13)) (k := 1 + 1 + 52 + 1 + 213 + 1 + 4 + 1 + 64 + 1 + 3 + 1 + 9 + 1 + 1 + 1) (z := z + 8 + 711 + 2 + 2880 + 2 + 402 + 6 + 1168 + 6 + 21 + 11 + 132 + 12 + 1 + 1) (i := 127) (n := 1) (by rw [ja 4, hN 4 (by decide)]; rfl) (by rw [ja 13, hN 13 (by decide)]; rfl) (by omega) (by decide) (by decide) (by decide)
  obtain ⟨Sb, qb⟩ : ∃ S, S = up2 Sa 80 127 (some 127) := ⟨_, rfl⟩
  rw [← qb] at eb
  have jb := (ja.up 4).up 13
  obtain ⟨R7, N7, e7, c7, i7⟩ := k_lot (q := q) (C := (I, A4, L4, P2, F, G)) (D := D) (R := Sb) (N := (inc (inc (inc (inc (inc N6 2) 4) 13) 4) 13)) (k := 1 + 1 + 52 + 1 + 213 + 1 + 4 + 1 + 64 + 1 + 3 + 1 + 9 + 1 + 1 + 1 + 1 + 1) (z := z + 8 + 711 + 2 + 2880 + 2 + 402 + 6 + 1168 + 6 + 21 + 11 + 132 + 12 + 1 + 1 + 1 + 1) (l := 73) (a := 126) (b := 127) (by omega) rfl rfl (by rw [jb 4, hN 4 (by decide)]; rfl) (by rw [jb 13, hN 13 (by decide)]; rfl) (by decide)
  have i7N := jb.tr i7
  have s73 : sr 73 = 128 := rfl
  have w7 : Grw (up2 R7 186 0 (some 73)) (up2 R7 186 0 (some 73)) := Grw.rf _
  have u7 := (Grw.up R7 (f := 186) (x := 0) (v := 73) rfl).tr w7
  have wb := c7.gr.tr u7
  have wa := (show Grw Sa Sb by rw [qb]; exact Grw.up _ rfl).tr wb
  have w6 := (show Grw (up2 R6 185 0 (some 0)) Sa by rw [qa]; exact Grw.up _ rfl).tr wa
  have u6 := (Grw.up R6 (f := 185) (x := 0) (v := 0) rfl).tr w6
  have w5 := (c6.gr).tr u6
  have u5 := (Grw.up R5 (f := 184) (x := 0) (v := 0) rfl).tr w5
  have w4 := (c5.gr).tr u5
  have u4 := (Grw.up R4 (f := 182) (x := 0) (v := 0) rfl).tr w4
  have w3 := (c4.1).tr u4
  have u3 := (Grw.up R3 (f := 183) (x := 0) (v := 0) rfl).tr w3
  have w2 := (c3.gr).tr u3
  have u2 := (Grw.up R2 (f := 181) (x := 0) (v := 0) rfl).tr w2
  have w1 := (c2.gr).tr u2
  have u1 := (Grw.up R1 (f := 180) (x := 0) (v := 0) rfl).tr w1
  refine ⟨L4, A4, P2, (s1.tr (by omega) (by omega) s2).tr (by omega) (by omega) s4, p2, _, N7, ?_, ⟨(c1.gr).tr u1, fun f x h => ?_⟩, i7N.iff (fun t => ?_)⟩
  · rw [show z + 5374 = z + 8 + 711 + 2 + 2880 + 2 + 402 + 6 + 1168 + 6 + 21 + 11 + 132 + 12 + 1 + 1 + 1 + 1 + 9 by omega]
    simp only [s901_0, s901_1, s901_4]
    rw [s901_5 _ _ _ _ _ _ _ m1]
    simp only [s901_8r]
    rw [s901_9]
    refine (congrArg (fun o => Option.bind o _) e1).trans ?_
    simp only [Option.bind_some, pushR_U, s901_12, s901_15]
    rw [s901_16 _ _ _ _ _ _ _ m2]
    simp only [s901_19r]
    rw [s901_20]
    refine (congrArg (fun o => Option.bind o _) e2).trans ?_
    simp only [Option.bind_some, pushR_U, s901_23, s901_26]
    rw [s901_27 _ _ _ _ _ _ _ m3]
    simp only [s901_30r]
    rw [s901_31]
    refine (congrArg (fun o => Option.bind o _) e3).trans ?_
    simp only [Option.bind_some, pushR_U, s901_34, s901_37]
    rw [s901_38 _ _ _ _ _ _ _ m4]
    simp only [s901_41r]
    simp only [s901_42, s901_43, show up2 R3 183 0 (some 0) 183 0 = some 0 from up2_eq, rfV_s]
    rw [s901_46]
    refine (congrArg (fun o => Option.bind o _) e4).trans ?_
    simp only [Option.bind_some, pushR_U, s901_49, s901_52]
    rw [s901_53 _ _ _ _ _ _ _ m5]
    simp only [s901_56r]
    rw [s901_57]
    refine (congrArg (fun o => Option.bind o _) e5).trans ?_
    simp only [Option.bind_some, pushR_U, s901_60, s901_63]
    rw [s901_64 _ _ _ _ _ _ _ m6]
    simp only [s901_67r]
    rw [s901_68]
    refine (congrArg (fun o => Option.bind o _) e6).trans ?_
    simp only [Option.bind_some, pushR_U, s901_71, s901_74]
    rw [s901_75 _ _ _ _ _ _ _ m7]
    simp only [s901_78r]
    rw [s901_79 _ _ _ _ _ _ _ ma]
    simp only [s901_82r, s901_83]
    rw [s901_84]
    refine (congrArg (fun o => Option.bind o _) ea).trans ?_
    simp only [Option.bind_some, pushR_U]
    rw [s901_87 _ _ _ _ _ _ _ mb]
    simp only [s901_90r, s901_91]
    rw [s901_92]
    refine (congrArg (fun o => Option.bind o _) eb).trans ?_
    simp only [Option.bind_some, pushR_U]
    rw [s901_95]
    refine (congrArg (fun o => Option.bind o _) e7).trans ?_
    simp only [Option.bind_some, pushR_U, s901_98, s901_101]
  · rcases h with ⟨rfl, h1⟩ | ⟨h1, h2, h3⟩ | ⟨h1, h2⟩ | ⟨h1, h2, h3⟩ | ⟨rfl, rfl⟩ | ⟨h1, h2, rfl⟩ | ⟨h1, h2, rfl⟩ | ⟨h1, h2, rfl⟩ | ⟨h1, h2, rfl⟩ | ⟨h1, h2, rfl⟩
    · by_cases y1 : x < 19
      · exact u1.keep ((c1 80 x).1 (Or.inl ⟨rfl, by omega, by omega⟩))
      · by_cases y2 : x < 95
        · exact u2.keep ((c2 80 x).1 (Or.inl ⟨rfl, by omega, y2⟩))
        · by_cases y3 : x < 97
          · exact u3.keep ((c3 80 x).1 (Or.inl ⟨rfl, by omega, by omega⟩))
          · by_cases y4 : x < 121
            · exact u4.keep (c4.2 80 x (Or.inl ⟨rfl, by omega, y4⟩))
            · by_cases y5 : x = 121
              · exact u5.keep ((c5 80 x).1 (Or.inl ⟨rfl, y5⟩))
              · by_cases y6 : x < 126
                · exact u6.keep ((c6 80 x).1 (Or.inl ⟨rfl, by omega, y6⟩))
                · by_cases y7 : x = 126
                  · subst y7
                    exact wa.keep (by rw [qa]; exact up_is rfl)
                  · by_cases y8 : x = 127
                    · subst y8
                      exact wb.keep (by rw [qb]; exact up_is rfl)
                    · exact u7.keep ((c7 80 x).1 (Or.inl ⟨rfl, by omega⟩))
    · by_cases y1 : x = 0
      · exact u1.keep ((c1 f x).1 (Or.inr (Or.inl ⟨h1, h2, y1⟩)))
      · by_cases y2 : x < 5
        · exact u2.keep ((c2 f x).1 (Or.inr (Or.inl ⟨h1, h2, by omega, y2⟩)))
        · by_cases y3 : x = 5
          · exact u4.keep (c4.2 f x (Or.inr (Or.inl ⟨h1, h2, y3⟩)))
          · exact u6.keep ((c6 f x).1 (Or.inr (Or.inl ⟨h1, h2, by omega⟩)))
    · by_cases y1 : x = 0
      · exact u1.keep ((c1 f x).1 (Or.inr (Or.inr (Or.inl ⟨h1, y1⟩))))
      · by_cases y2 : x < 5
        · exact u2.keep ((c2 f x).1 (Or.inr (Or.inr (Or.inl ⟨h1, by omega, y2⟩))))
        · exact u4.keep (c4.2 f x (Or.inr (Or.inr (Or.inl ⟨h1, by omega⟩))))
    · by_cases y1 : x < 12
      · exact u1.keep ((c1 f x).1 (Or.inr (Or.inr (Or.inr ⟨h1, h2, by omega, by omega⟩))))
      · by_cases y2 : x < 60
        · exact u2.keep ((c2 f x).1 (Or.inr (Or.inr (Or.inr (Or.inl ⟨h1, h2, by omega, y2⟩)))))
        · by_cases y3 : x < 73
          · exact u4.keep (c4.2 f x (Or.inr (Or.inr (Or.inr (Or.inl ⟨h1, h2, by omega, y3⟩)))))
          · exact u7.keep ((c7 f x).1 (Or.inr ⟨h1, h2, by omega⟩))
    · exact u2.keep ((c2 20 0).1 (Or.inr (Or.inr (Or.inr (Or.inr ⟨rfl, rfl⟩)))))
    · exact u3.keep ((c3 f 0).1 (Or.inr ⟨h1, h2, rfl⟩))
    · exact u4.keep (c4.2 f 0 (Or.inr (Or.inr (Or.inr (Or.inr ⟨h1, h2, rfl⟩)))))
    · exact u5.keep ((c5 f 0).1 (Or.inr ⟨h1, h2, rfl⟩))
    · exact u6.keep ((c6 f 0).1 (Or.inr (Or.inr ⟨h1, h2, rfl⟩)))
    · have : f = 180 ∨ f = 181 ∨ f = 183 ∨ f = 182 ∨ f = 184 ∨ f = 185 ∨ f = 186 := by omega
      rcases this with rfl | rfl | rfl | rfl | rfl | rfl | rfl
      · exact w1.keep (up_is rfl)
      · exact w2.keep (up_is rfl)
      · exact w3.keep (up_is rfl)
      · exact w4.keep (up_is rfl)
      · exact w5.keep (up_is rfl)
      · exact w6.keep (up_is rfl)
      · exact w7.keep (up_is rfl)
  · by_cases w0 : t = 0
    · subst w0; rfl
    by_cases w1 : t = 1
    · subst w1; rfl
    by_cases w2 : t = 2
    · subst w2; rfl
    by_cases w3 : t = 3
    · subst w3; rfl
    by_cases w4 : t = 4
    · subst w4; rfl
    by_cases w5 : t = 5
    · subst w5; rfl
    by_cases w6 : t = 6
    · subst w6; rfl
    by_cases w7 : t = 7
    · subst w7; rfl
    by_cases w8 : t = 8
    · subst w8; rfl
    by_cases w13 : t = 13
    · subst w13; rfl
    by_cases w15 : t = 15
    · subst w15; rfl
    by_cases w16 : t = 16
    · subst w16; rfl
    by_cases w17 : t = 17
    · subst w17; rfl
    simp [w0, w1, w2, w3, w4, w5, w6, w7, w8, w13, w15, w16, w17]
/-- an object's references before it is made: none in its own block -/
def Rv (f x : Nat) : Option Nat := if x < NB (ownF f) then none else RX f x
/-- all is made -/
theorem R_fin {R1 : Nat → Nat → Option Nat} (h : Grw Rv R1) {f x : Nat} (k : x < NB (ownF f) → R1 f x = RX f x) : R1 f x = RX f x := by
  by_cases z : x < NB (ownF f)
  · exact k z
  · rcases h f x with e | e
    · exact e
    · rw [e]
      unfold Rv
      rw [if_neg z]
theorem R_all {R1 : Nat → Nat → Option Nat} (h : Grw Rv R1) (k1 : ∀ f x, ((f = 80 ∧ x < 129) ∨ (100 ≤ f ∧ f ≤ 102 ∧ x < 7) ∨ ((f ≤ 3 ∨ f = 6 ∨ f = 7) ∧ x < 6) ∨ (40 ≤ f ∧ f ≤ 42 ∧ x < 74) ∨ (f = 20 ∧ x = 0) ∨ (140 ≤ f ∧ f ≤ 141 ∧ x = 0) ∨ (160 ≤ f ∧ f ≤ 164 ∧ x = 0) ∨ (60 ≤ f ∧ f ≤ 61 ∧ x = 0) ∨ (120 ≤ f ∧ f ≤ 121 ∧ x = 0) ∨ (180 ≤ f ∧ f ≤ 186 ∧ x = 0)) → R1 f x = RX f x) : R1 = RX := by
  funext f x
  by_cases g : f ∈ [80, 100, 101, 102, 0, 1, 2, 3, 6, 7, 40, 41, 42, 20, 140, 141, 160, 161, 162, 163, 164, 60, 61, 120, 121, 180, 181, 182, 183, 184, 185, 186]
  · simp only [List.mem_cons, List.not_mem_nil, or_false] at g
    rcases g with rfl | rfl | rfl | rfl | rfl | rfl | rfl | rfl | rfl | rfl | rfl | rfl | rfl | rfl | rfl | rfl | rfl | rfl | rfl | rfl | rfl | rfl | rfl | rfl | rfl | rfl | rfl | rfl | rfl | rfl | rfl | rfl
    · exact R_fin h (fun z => k1 80 x (Or.inl ⟨rfl, z⟩))
    · exact R_fin h (fun z => k1 100 x (Or.inr (Or.inl ⟨by decide, by decide, z⟩)))
    · exact R_fin h (fun z => k1 101 x (Or.inr (Or.inl ⟨by decide, by decide, z⟩)))
    · exact R_fin h (fun z => k1 102 x (Or.inr (Or.inl ⟨by decide, by decide, z⟩)))
    · exact R_fin h (fun z => k1 0 x (Or.inr (Or.inr (Or.inl ⟨by decide, z⟩))))
    · exact R_fin h (fun z => k1 1 x (Or.inr (Or.inr (Or.inl ⟨by decide, z⟩))))
    · exact R_fin h (fun z => k1 2 x (Or.inr (Or.inr (Or.inl ⟨by decide, z⟩))))
    · exact R_fin h (fun z => k1 3 x (Or.inr (Or.inr (Or.inl ⟨by decide, z⟩))))
    · exact R_fin h (fun z => k1 6 x (Or.inr (Or.inr (Or.inl ⟨by decide, z⟩))))
    · exact R_fin h (fun z => k1 7 x (Or.inr (Or.inr (Or.inl ⟨by decide, z⟩))))
    · exact R_fin h (fun z => k1 40 x (Or.inr (Or.inr (Or.inr (Or.inl ⟨by decide, by decide, z⟩)))))
    · exact R_fin h (fun z => k1 41 x (Or.inr (Or.inr (Or.inr (Or.inl ⟨by decide, by decide, z⟩)))))
    · exact R_fin h (fun z => k1 42 x (Or.inr (Or.inr (Or.inr (Or.inl ⟨by decide, by decide, z⟩)))))
    · exact R_fin h (fun z => k1 20 x (Or.inr (Or.inr (Or.inr (Or.inr (Or.inl ⟨rfl, Nat.lt_one_iff.mp z⟩))))))
    · exact R_fin h (fun z => k1 140 x (Or.inr (Or.inr (Or.inr (Or.inr (Or.inr (Or.inl ⟨by decide, by decide, Nat.lt_one_iff.mp z⟩)))))))
    · exact R_fin h (fun z => k1 141 x (Or.inr (Or.inr (Or.inr (Or.inr (Or.inr (Or.inl ⟨by decide, by decide, Nat.lt_one_iff.mp z⟩)))))))
    · exact R_fin h (fun z => k1 160 x (Or.inr (Or.inr (Or.inr (Or.inr (Or.inr (Or.inr (Or.inl ⟨by decide, by decide, Nat.lt_one_iff.mp z⟩))))))))
    · exact R_fin h (fun z => k1 161 x (Or.inr (Or.inr (Or.inr (Or.inr (Or.inr (Or.inr (Or.inl ⟨by decide, by decide, Nat.lt_one_iff.mp z⟩))))))))
    · exact R_fin h (fun z => k1 162 x (Or.inr (Or.inr (Or.inr (Or.inr (Or.inr (Or.inr (Or.inl ⟨by decide, by decide, Nat.lt_one_iff.mp z⟩))))))))
    · exact R_fin h (fun z => k1 163 x (Or.inr (Or.inr (Or.inr (Or.inr (Or.inr (Or.inr (Or.inl ⟨by decide, by decide, Nat.lt_one_iff.mp z⟩))))))))
    · exact R_fin h (fun z => k1 164 x (Or.inr (Or.inr (Or.inr (Or.inr (Or.inr (Or.inr (Or.inl ⟨by decide, by decide, Nat.lt_one_iff.mp z⟩))))))))
    · exact R_fin h (fun z => k1 60 x (Or.inr (Or.inr (Or.inr (Or.inr (Or.inr (Or.inr (Or.inr (Or.inl ⟨by decide, by decide, Nat.lt_one_iff.mp z⟩)))))))))
    · exact R_fin h (fun z => k1 61 x (Or.inr (Or.inr (Or.inr (Or.inr (Or.inr (Or.inr (Or.inr (Or.inl ⟨by decide, by decide, Nat.lt_one_iff.mp z⟩)))))))))
    · exact R_fin h (fun z => k1 120 x (Or.inr (Or.inr (Or.inr (Or.inr (Or.inr (Or.inr (Or.inr (Or.inr (Or.inl ⟨by decide, by decide, Nat.lt_one_iff.mp z⟩))))))))))
    · exact R_fin h (fun z => k1 121 x (Or.inr (Or.inr (Or.inr (Or.inr (Or.inr (Or.inr (Or.inr (Or.inr (Or.inl ⟨by decide, by decide, Nat.lt_one_iff.mp z⟩))))))))))
    · exact R_fin h (fun z => k1 180 x (Or.inr (Or.inr (Or.inr (Or.inr (Or.inr (Or.inr (Or.inr (Or.inr (Or.inr (⟨by decide, by decide, Nat.lt_one_iff.mp z⟩)))))))))))
    · exact R_fin h (fun z => k1 181 x (Or.inr (Or.inr (Or.inr (Or.inr (Or.inr (Or.inr (Or.inr (Or.inr (Or.inr (⟨by decide, by decide, Nat.lt_one_iff.mp z⟩)))))))))))
    · exact R_fin h (fun z => k1 182 x (Or.inr (Or.inr (Or.inr (Or.inr (Or.inr (Or.inr (Or.inr (Or.inr (Or.inr (⟨by decide, by decide, Nat.lt_one_iff.mp z⟩)))))))))))
    · exact R_fin h (fun z => k1 183 x (Or.inr (Or.inr (Or.inr (Or.inr (Or.inr (Or.inr (Or.inr (Or.inr (Or.inr (⟨by decide, by decide, Nat.lt_one_iff.mp z⟩)))))))))))
    · exact R_fin h (fun z => k1 184 x (Or.inr (Or.inr (Or.inr (Or.inr (Or.inr (Or.inr (Or.inr (Or.inr (Or.inr (⟨by decide, by decide, Nat.lt_one_iff.mp z⟩)))))))))))
    · exact R_fin h (fun z => k1 185 x (Or.inr (Or.inr (Or.inr (Or.inr (Or.inr (Or.inr (Or.inr (Or.inr (Or.inr (⟨by decide, by decide, Nat.lt_one_iff.mp z⟩)))))))))))
    · exact R_fin h (fun z => k1 186 x (Or.inr (Or.inr (Or.inr (Or.inr (Or.inr (Or.inr (Or.inr (Or.inr (Or.inr (⟨by decide, by decide, Nat.lt_one_iff.mp z⟩)))))))))))
  · have e : RX f x = none := by
      unfold RX
      split
      all_goals first | (exact absurd (by decide) g) | rfl
    rcases h f x with y | y
    · exact y
    · rw [y]
      unfold Rv
      split
      · exact e.symm
      · rfl
theorem N_all {N1 : Nat → Nat} {d : Nat → Nat} (h : ∀ t, N1 t = d t) (k : ∀ t, t < 19 → d t = NB t) (k2 : ∀ t, 19 ≤ t → d t = 0) : N1 = NB := by
  funext t
  rw [h t]
  by_cases c : t < 19
  · exact k t c
  · rw [k2 t (by omega)]
    unfold NB
    rw [List.getD_eq_getElem?_getD, List.getElem?_eq_none (by simp; omega)]
    rfl
end
