/-! WHAT THE CONSTRUCTORS MAKE: the class, the model -/
section
variable {q : Nat × (Nat → Int)} {D : MD} {R : Nat → Nat → Option Nat} {N : Nat → Nat} {z : Nat} {I A : M2} {L P : Nat → Nat → Option Nat} {F G : Nat → Nat → UInt32}
set_option maxHeartbeats 4000000 in
/-- VineyardBlends.<init> -/
theorem k_class (hN : ∀ t, t ≠ 9 → N t = 0) :
    ∃ L' A' P', CelS 0 6 L L' A A' ∧ (∀ a j, P' a j = if a = 0 ∧ j < 4 then some (j + 1) else P a j) ∧ Mk2 q 901 [vR 9 0] 1 z N R (I, A, L, P, F, G) D 358 5374 (fun t => if t = 0 ∨ t = 15 then 6 else if t = 1 ∨ t = 3 ∨ t = 6 ∨ t = 7 ∨ t = 8 ∨ t = 16 ∨ t = 17 then 1 else if t = 2 then 74 else if t = 4 ∨ t = 13 then 129 else if t = 5 then 7 else 0)
      (fun f x => (f = 80 ∧ x < 129) ∨ (100 ≤ f ∧ f ≤ 102 ∧ x < 7) ∨ ((f ≤ 3 ∨ f = 6 ∨ f = 7) ∧ x < 6) ∨ (40 ≤ f ∧ f ≤ 42 ∧ x < 74) ∨ (f = 20 ∧ x = 0) ∨ (140 ≤ f ∧ f ≤ 141 ∧ x = 0) ∨ (160 ≤ f ∧ f ≤ 164 ∧ x = 0) ∨ (60 ≤ f ∧ f ≤ 61 ∧ x = 0) ∨ (120 ≤ f ∧ f ≤ 121 ∧ x = 0) ∨ (180 ≤ f ∧ f ≤ 186 ∧ x = 0)) (I, A', L', P', F, G) D := by
  have t1 : N 0 = 0 := hN 0 (by decide)
  have m1 := mk_ok (q := q) (R := R) (N := N) (k := 1) (z := z) (t := 0) (i := 0) (zz := 8) t1 (by decide) (by decide) rfl
  have j1 := (Inc.rf N).up 0
  obtain ⟨L1, A1, s1, R1, N1, e1, c1, i1⟩ := k_cellar (q := q) (D := D) (R := R) (N := (inc N 0)) (k := 1 + 1) (z := z + 8) (I := I) (A := A) (L := L) (P := P) (F := F) (G := G) (c := 0) (by omega) (by rw [j1 2, hN 2 (by decide)]; rfl) (by rw [j1 4, hN 4 (by decide)]; rfl) (by rw [j1 5, hN 5 (by decide)]; rfl) (by rw [j1 13, hN 13 (by decide)]; rfl) (by rw [j1 15, hN 15 (by decide)]; rfl) (by decide)
  have i1N := j1.tr i1
  have t2 : N1 1 = 0 := by rw [i1N 1, hN 1 (by decide)]; rfl
  have m2 := mk_ok (q := q) (R := (up2 R1 180 0 (some 0))) (N := N1) (k := 1 + 1 + 52) (z := z + 8 + 711) (t := 1) (i := 0) (zz := 2) t2 (by decide) (by decide) rfl
  have j2 := i1N.up 1
  obtain ⟨L2, A2, P2, s2, p2, R2, N2, e2, c2, i2⟩ := k_hist (q := q) (D := D) (R := (up2 R1 180 0 (some 0))) (N := (inc N1 1)) (z := z + 8 + 711 + 2) (I := I) (A := A1) (L := L1) (P := P) (F := F) (G := G) (by rw [j2 0, hN 0 (by decide)]; rfl) (by rw [j2 2, hN 2 (by decide)]; rfl) (by rw [j2 4, hN 4 (by decide)]; rfl) (by rw [j2 5, hN 5 (by decide)]; rfl) (by rw [j2 13, hN 13 (by decide)]; rfl) (by rw [j2 15, hN 15 (by decide)]; rfl) (by rw [j2 16, hN 16 (by decide)]; rfl)
  have i2N := j2.tr i2
  have t3 : N2 7 = 0 := by rw [i2N 7, hN 7 (by decide)]; rfl
  have m3 := mk_ok (q := q) (R := (up2 R2 181 0 (some 0))) (N := N2) (k := 1 + 1 + 52 + 1 + 213) (z := z + 8 + 711 + 2 + 2880) (t := 7) (i := 0) (zz := 2) t3 (by decide) (by decide) rfl
  have j3 := i2N.up 7
  obtain ⟨R3, N3, e3, c3, i3⟩ := k_sharing (q := q) (C := (I, A2, L2, P2, F, G)) (D := D) (R := (up2 R2 181 0 (some 0))) (N := (inc N2 7)) (z := z + 8 + 711 + 2 + 2880 + 2) (by rw [j3 4, hN 4 (by decide)]; rfl) (by rw [j3 13, hN 13 (by decide)]; rfl)
  have i3N := j3.tr i3
  have t4 : N3 8 = 0 := by rw [i3N 8, hN 8 (by decide)]; rfl
  have m4 := mk_ok (q := q) (R := (up2 R3 183 0 (some 0))) (N := N3) (k := 1 + 1 + 52 + 1 + 213 + 1 + 4) (z := z + 8 + 711 + 2 + 2880 + 2 + 402) (t := 8) (i := 0) (zz := 6) t4 (by decide) (by decide) rfl
  have j4 := i3N.up 8
  obtain ⟨L4, A4, s4, R4, N4, e4, c4, i4⟩ := k_trial (q := q) (D := D) (R := (up2 R3 183 0 (some 0))) (N := (inc N3 8)) (z := z + 8 + 711 + 2 + 2880 + 2 + 402 + 6) (I := I) (A := A2) (L := L2) (P := P2) (F := F) (G := G) (by rw [j4 0, hN 0 (by decide)]; rfl) (by rw [j4 2, hN 2 (by decide)]; rfl) (by rw [j4 4, hN 4 (by decide)]; rfl) (by rw [j4 5, hN 5 (by decide)]; rfl) (by rw [j4 13, hN 13 (by decide)]; rfl) (by rw [j4 15, hN 15 (by decide)]; rfl)
  have i4N := j4.tr i4
  have t5 : N4 3 = 0 := by rw [i4N 3, hN 3 (by decide)]; rfl
  have m5 := mk_ok (q := q) (R := (up2 R4 182 0 (some 0))) (N := N4) (k := 1 + 1 + 52 + 1 + 213 + 1 + 4 + 1 + 64) (z := z + 8 + 711 + 2 + 2880 + 2 + 402 + 6 + 1168) (t := 3) (i := 0) (zz := 6) t5 (by decide) (by decide) rfl
  have j5 := i4N.up 3
  obtain ⟨R5, N5, e5, c5, i5⟩ := k_panel (q := q) (C := (I, A4, L4, P2, F, G)) (D := D) (R := (up2 R4 182 0 (some 0))) (N := (inc N4 3)) (z := z + 8 + 711 + 2 + 2880 + 2 + 402 + 6 + 1168 + 6) (by rw [j5 4, hN 4 (by decide)]; rfl) (by rw [j5 13, hN 13 (by decide)]; rfl) (by rw [j5 17, hN 17 (by decide)]; rfl)
  have i5N := j5.tr i5
  have t6 : N5 6 = 0 := by rw [i5N 6, hN 6 (by decide)]; rfl
  have m6 := mk_ok (q := q) (R := (up2 R5 184 0 (some 0))) (N := N5) (k := 1 + 1 + 52 + 1 + 213 + 1 + 4 + 1 + 64 + 1 + 3) (z := z + 8 + 711 + 2 + 2880 + 2 + 402 + 6 + 1168 + 6 + 21) (t := 6) (i := 0) (zz := 11) t6 (by decide) (by decide) rfl
  have j6 := i5N.up 6
  obtain ⟨R6, N6, e6, c6, i6⟩ := k_script (q := q) (C := (I, A4, L4, P2, F, G)) (D := D) (R := (up2 R5 184 0 (some 0))) (N := (inc N5 6)) (z := z + 8 + 711 + 2 + 2880 + 2 + 402 + 6 + 1168 + 6 + 21 + 11) (by rw [j6 4, hN 4 (by decide)]; rfl) (by rw [j6 13, hN 13 (by decide)]; rfl) (by rw [j6 5, hN 5 (by decide)]; rfl)
  have i6N := j6.tr i6
  have t7 : N6 2 = 73 := by rw [i6N 2, hN 2 (by decide)]; rfl
  have m7 := mk_ok (q := q) (R := (up2 R6 185 0 (some 0))) (N := N6) (k := 1 + 1 + 52 + 1 + 213 + 1 + 4 + 1 + 64 + 1 + 3 + 1 + 9) (z := z + 8 + 711 + 2 + 2880 + 2 + 402 + 6 + 1168 + 6 + 21 + 11 + 132) (t := 2) (i := 73) (zz := 12) t7 (by decide) (by decide) rfl
  have j7 := i6N.up 2
  obtain ⟨ma, ea⟩ := k_new (q := q) (C := (I, A4, L4, P2, F, G)) (D := D) (R := (up2 R6 185 0 (some 0))) (N := (inc N6 2)) (k := 1 + 1 + 52 + 1 + 213 + 1 + 4 + 1 + 64 + 1 + 3 + 1 + 9 + 1) (z := z + 8 + 711 + 2 + 2880 + 2 + 402 + 6 + 1168 + 6 + 21 + 11 + 132 + 12) (i := 126) (n := 1) (by rw [j7 4, hN 4 (by decide)]; rfl) (by rw [j7 13, hN 13 (by decide)]; rfl) (by omega) (by decide) (by decide) (by decide)
  obtain ⟨Sa, qa⟩ : ∃ S, S = up2 (up2 R6 185 0 (some 0)) 80 126 (some 126) := ⟨_, rfl⟩
  rw [← qa] at ea
  have ja := (j7.up 4).up 13
  obtain ⟨mb, eb⟩ := k_new (q := q) (C := (I, A4, L4, P2, F, G)) (D := D) (R := Sa) (N := (inc (inc (inc N6 2) 4) 13)) (k := 1 + 1 + 52 + 1 + 213 + 1 + 4 + 1 + 64 + 1 + 3 + 1 + 9 + 1 + 1 + 1) (z := z + 8 + 711 + 2 + 2880 + 2 + 402 + 6 + 1168 + 6 + 21 + 11 + 132 + 12 + 1 + 1) (i := 127) (n := 1) (by rw [ja 4, hN 4 (by decide)]; rfl) (by rw [ja 13, hN 13 (by decide)]; rfl) (by omega) (by decide) (by decide) (by decide)
  obtain ⟨Sb, qb⟩ : ∃ S, S = up2 Sa 80 127 (some 127) := ⟨_, rfl⟩
  rw [← qb] at eb
  have jb := (ja.up 4).up 13
  obtain ⟨R7, N7, e7, c7, i7⟩ := k_lot (q := q) (C := (I, A4, L4, P2, F, G)) (D := D) (R := Sb) (N := (inc (inc (inc (inc (inc N6 2) 4) 13) 4) 13)) (k := 1 + 1 + 52 + 1 + 213 + 1 + 4 + 1 + 64 + 1 + 3 + 1 + 9 + 1 + 1 + 1 + 1 + 1) (z := z + 8 + 711 + 2 + 2880 + 2 + 402 + 6 + 1168 + 6 + 21 + 11 + 132 + 12 + 1 + 1 + 1 + 1) (l := 73) (a := 126) (b := 127) (by omega) rfl rfl (by rw [jb 4, hN 4 (by decide)]; rfl) (by rw [jb 13, hN 13 (by decide)]; rfl) (by decide)
  have i7N := jb.tr i7
  have s73 : sr 73 = 128 := rfl
  have w7 : Grw (up2 R7 186 0 (some 73)) (up2 R7 186 0 (some 73)) := Grw.rf _
  have u7 := (Grw.up R7 (f := 186) (x := 0) (v := 73) rfl).tr w7
  have wb := c7.gr.tr u7
  have wa := (show Grw Sa Sb by rw [qb]; exact Grw.up _ rfl).tr wb
  have w6 := (show Grw (up2 R6 185 0 (some 0)) Sa by rw [qa]; exact Grw.up _ rfl).tr wa
  have u6 := (Grw.up R6 (f := 185) (x := 0) (v := 0) rfl).tr w6
  have w5 := (c6.gr).tr u6
  have u5 := (Grw.up R5 (f := 184) (x := 0) (v := 0) rfl).tr w5
  have w4 := (c5.gr).tr u5
  have u4 := (Grw.up R4 (f := 182) (x := 0) (v := 0) rfl).tr w4
  have w3 := (c4.1).tr u4
  have u3 := (Grw.up R3 (f := 183) (x := 0) (v := 0) rfl).tr w3
  have w2 := (c3.gr).tr u3
  have u2 := (Grw.up R2 (f := 181) (x := 0) (v := 0) rfl).tr w2
  have w1 := (c2.gr).tr u2
  have u1 := (Grw.up R1 (f := 180) (x := 0) (v := 0) rfl).tr w1
  refine ⟨L4, A4, P2, (s1.tr (by omega) (by omega) s2).tr (by omega) (by omega) s4, p2, _, N7, ?_, ⟨(c1.gr).tr u1, fun f x h => ?_⟩, i7N.iff (fun t => ?_)⟩
  · rw [show z + 5374 = z + 8 + 711 + 2 + 2880 + 2 + 402 + 6 + 1168 + 6 + 21 + 11 + 132 + 12 + 1 + 1 + 1 + 1 + 9 by omega]
    simp only [s901_0, s901_1, s901_4]
    rw [s901_5 _ _ _ _ _ _ _ m1]
    simp only [s901_8r]
    rw [s901_9]
    refine (congrArg (fun o => Option.bind o _) e1).trans ?_
    simp only [Option.bind_some, pushR_U, s901_12, s901_15]
    rw [s901_16 _ _ _ _ _ _ _ m2]
    simp only [s901_19r]
    rw [s901_20]
    refine (congrArg (fun o => Option.bind o _) e2).trans ?_
    simp only [Option.bind_some, pushR_U, s901_23, s901_26]
    rw [s901_27 _ _ _ _ _ _ _ m3]
    simp only [s901_30r]
    rw [s901_31]
    refine (congrArg (fun o => Option.bind o _) e3).trans ?_
    simp only [Option.bind_some, pushR_U, s901_34, s901_37]
    rw [s901_38 _ _ _ _ _ _ _ m4]
    simp only [s901_41r]
    simp only [s901_42, s901_43, show up2 R3 183 0 (some 0) 183 0 = some 0 from up2_eq, rfV_s]
    rw [s901_46]
    refine (congrArg (fun o => Option.bind o _) e4).trans ?_
    simp only [Option.bind_some, pushR_U, s901_49, s901_52]
    rw [s901_53 _ _ _ _ _ _ _ m5]
    simp only [s901_56r]
    rw [s901_57]
    refine (congrArg (fun o => Option.bind o _) e5).trans ?_
    simp only [Option.bind_some, pushR_U, s901_60, s901_63]
    rw [s901_64 _ _ _ _ _ _ _ m6]
    simp only [s901_67r]
    rw [s901_68]
    refine (congrArg (fun o => Option.bind o _) e6).trans ?_
    simp only [Option.bind_some, pushR_U, s901_71, s901_74]
    rw [s901_75 _ _ _ _ _ _ _ m7]
    simp only [s901_78r]
    rw [s901_79 _ _ _ _ _ _ _ ma]
    simp only [s901_82r, s901_83]
    rw [s901_84]
    refine (congrArg (fun o => Option.bind o _) ea).trans ?_
    simp only [Option.bind_some, pushR_U]
    rw [s901_87 _ _ _ _ _ _ _ mb]
    simp only [s901_90r, s901_91]
    rw [s901_92]
    refine (congrArg (fun o => Option.bind o _) eb).trans ?_
    simp only [Option.bind_some, pushR_U]
    rw [s901_95]
    refine (congrArg (fun o => Option.bind o _) e7).trans ?_
    simp only [Option.bind_some, pushR_U, s901_98, s901_101]
  · rcases h with ⟨rfl, h1⟩ | ⟨h1, h2, h3⟩ | ⟨h1, h2⟩ | ⟨h1, h2, h3⟩ | ⟨rfl, rfl⟩ | ⟨h1, h2, rfl⟩ | ⟨h1, h2, rfl⟩ | ⟨h1, h2, rfl⟩ | ⟨h1, h2, rfl⟩ | ⟨h1, h2, rfl⟩
    · by_cases y1 : x < 19
      · exact u1.keep ((c1 80 x).1 (Or.inl ⟨rfl, by omega, by omega⟩))
      · by_cases y2 : x < 95
        · exact u2.keep ((c2 80 x).1 (Or.inl ⟨rfl, by omega, y2⟩))
        · by_cases y3 : x < 97
          · exact u3.keep ((c3 80 x).1 (Or.inl ⟨rfl, by omega, by omega⟩))
          · by_cases y4 : x < 121
            · exact u4.keep (c4.2 80 x (Or.inl ⟨rfl, by omega, y4⟩))
            · by_cases y5 : x = 121
              · exact u5.keep ((c5 80 x).1 (Or.inl ⟨rfl, y5⟩))
              · by_cases y6 : x < 126
                · exact u6.keep ((c6 80 x).1 (Or.inl ⟨rfl, by omega, y6⟩))
                · by_cases y7 : x = 126
                  · subst y7
                    exact wa.keep (by rw [qa]; exact up_is rfl)
                  · by_cases y8 : x = 127
                    · subst y8
                      exact wb.keep (by rw [qb]; exact up_is rfl)
                    · exact u7.keep ((c7 80 x).1 (Or.inl ⟨rfl, by omega⟩))
    · by_cases y1 : x = 0
      · exact u1.keep ((c1 f x).1 (Or.inr (Or.inl ⟨h1, h2, y1⟩)))
      · by_cases y2 : x < 5
        · exact u2.keep ((c2 f x).1 (Or.inr (Or.inl ⟨h1, h2, by omega, y2⟩)))
        · by_cases y3 : x = 5
          · exact u4.keep (c4.2 f x (Or.inr (Or.inl ⟨h1, h2, y3⟩)))
          · exact u6.keep ((c6 f x).1 (Or.inr (Or.inl ⟨h1, h2, by omega⟩)))
    · by_cases y1 : x = 0
      · exact u1.keep ((c1 f x).1 (Or.inr (Or.inr (Or.inl ⟨h1, y1⟩))))
      · by_cases y2 : x < 5
        · exact u2.keep ((c2 f x).1 (Or.inr (Or.inr (Or.inl ⟨h1, by omega, y2⟩))))
        · exact u4.keep (c4.2 f x (Or.inr (Or.inr (Or.inl ⟨h1, by omega⟩))))
    · by_cases y1 : x < 12
      · exact u1.keep ((c1 f x).1 (Or.inr (Or.inr (Or.inr ⟨h1, h2, by omega, by omega⟩))))
      · by_cases y2 : x < 60
        · exact u2.keep ((c2 f x).1 (Or.inr (Or.inr (Or.inr (Or.inl ⟨h1, h2, by omega, y2⟩)))))
        · by_cases y3 : x < 73
          · exact u4.keep (c4.2 f x (Or.inr (Or.inr (Or.inr (Or.inl ⟨h1, h2, by omega, y3⟩)))))
          · exact u7.keep ((c7 f x).1 (Or.inr ⟨h1, h2, by omega⟩))
    · exact u2.keep ((c2 20 0).1 (Or.inr (Or.inr (Or.inr (Or.inr ⟨rfl, rfl⟩)))))
    · exact u3.keep ((c3 f 0).1 (Or.inr ⟨h1, h2, rfl⟩))
    · exact u4.keep (c4.2 f 0 (Or.inr (Or.inr (Or.inr (Or.inr ⟨h1, h2, rfl⟩)))))
    · exact u5.keep ((c5 f 0).1 (Or.inr ⟨h1, h2, rfl⟩))
    · exact u6.keep ((c6 f 0).1 (Or.inr (Or.inr ⟨h1, h2, rfl⟩)))
    · have : f = 180 ∨ f = 181 ∨ f = 183 ∨ f = 182 ∨ f = 184 ∨ f = 185 ∨ f = 186 := by omega
      rcases this with rfl | rfl | rfl | rfl | rfl | rfl | rfl
      · exact w1.keep (up_is rfl)
      · exact w2.keep (up_is rfl)
      · exact w3.keep (up_is rfl)
      · exact w4.keep (up_is rfl)
      · exact w5.keep (up_is rfl)
      · exact w6.keep (up_is rfl)
      · exact w7.keep (up_is rfl)
  · by_cases w0 : t = 0
    · subst w0; rfl
    by_cases w1 : t = 1
    · subst w1; rfl
    by_cases w2 : t = 2
    · subst w2; rfl
    by_cases w3 : t = 3
    · subst w3; rfl
    by_cases w4 : t = 4
    · subst w4; rfl
    by_cases w5 : t = 5
    · subst w5; rfl
    by_cases w6 : t = 6
    · subst w6; rfl
    by_cases w7 : t = 7
    · subst w7; rfl
    by_cases w8 : t = 8
    · subst w8; rfl
    by_cases w13 : t = 13
    · subst w13; rfl
    by_cases w15 : t = 15
    · subst w15; rfl
    by_cases w16 : t = 16
    · subst w16; rfl
    by_cases w17 : t = 17
    · subst w17; rfl
    simp [w0, w1, w2, w3, w4, w5, w6, w7, w8, w13, w15, w16, w17]
/-- the model's constructor -/
theorem k_model {C : MC} {J M T : M2} (h14 : N 14 = 0) (h18 : N 18 = 0) : Mk2 q 1001 [vR 10 0] 360 z N R C (J, M, T) 13 10279 (fun t => if t = 14 then 12 else if t = 18 then 1 else 0)
    (fun f x => (f = 200 ∨ f = 201 ∨ f = 202 ∨ f = 204 ∨ f = 209 ∨ (214 ≤ f ∧ f ≤ 218) ∨ (222 ≤ f ∧ f ≤ 224)) ∧ x = 0) C (J, up2 (up2 (up2 M 0 4 10) 0 5 40) 0 6 5, T) := by
  have t0 : N 14 = 0 := h14
  have m0 := mk_ok (q := q) (R := R) (N := N) (k := 360) (z := z) (t := 14) (i := 0) (zz := 1422) t0 (by decide) (by decide) rfl
  obtain ⟨R1, r1⟩ : ∃ Rx, Rx = up2 R 200 0 (some 0) := ⟨_, rfl⟩
  obtain ⟨N1, y1⟩ : ∃ Nx, Nx = inc N 14 := ⟨_, rfl⟩
  have c1 : Grw R R1 := by rw [r1]; exact Grw.up _ rfl
  have d1 : R1 200 0 = RX 200 0 := by rw [r1]; exact up_is rfl
  have i1 := (Inc.rf N).up 14
  rw [← y1] at i1
  have t1 : N1 14 = 1 := by rw [y1, inc_e, t0]
  have m1 := mk_ok (q := q) (R := R1) (N := N1) (k := 360 + 1) (z := z + 1422) (t := 14) (i := 1) (zz := 1422) t1 (by decide) (by decide) rfl
  obtain ⟨R2, r2⟩ : ∃ Rx, Rx = up2 R1 201 0 (some 1) := ⟨_, rfl⟩
  obtain ⟨N2, y2⟩ : ∃ Nx, Nx = inc N1 14 := ⟨_, rfl⟩
  have c2 : Grw R1 R2 := by rw [r2]; exact Grw.up _ rfl
  have d2 : R2 201 0 = RX 201 0 := by rw [r2]; exact up_is rfl
  have i2 := i1.up 14
  rw [← y2] at i2
  have t2 : N2 14 = 2 := by rw [y2, inc_e, t1]
  have m2 := mk_ok (q := q) (R := R2) (N := N2) (k := 360 + 1 + 1) (z := z + 1422 + 1422) (t := 14) (i := 2) (zz := 5688) t2 (by decide) (by decide) rfl
  obtain ⟨R3, r3⟩ : ∃ Rx, Rx = up2 R2 202 0 (some 2) := ⟨_, rfl⟩
  obtain ⟨N3, y3⟩ : ∃ Nx, Nx = inc N2 14 := ⟨_, rfl⟩
  have c3 : Grw R2 R3 := by rw [r3]; exact Grw.up _ rfl
  have d3 : R3 202 0 = RX 202 0 := by rw [r3]; exact up_is rfl
  have i3 := i2.up 14
  rw [← y3] at i3
  have t3 : N3 14 = 3 := by rw [y3, inc_e, t2]
  have m3 := mk_ok (q := q) (R := R3) (N := N3) (k := 360 + 1 + 1 + 1) (z := z + 1422 + 1422 + 5688) (t := 14) (i := 3) (zz := 100) t3 (by decide) (by decide) rfl
  obtain ⟨R4, r4⟩ : ∃ Rx, Rx = up2 R3 204 0 (some 3) := ⟨_, rfl⟩
  obtain ⟨N4, y4⟩ : ∃ Nx, Nx = inc N3 14 := ⟨_, rfl⟩
  have c4 : Grw R3 R4 := by rw [r4]; exact Grw.up _ rfl
  have d4 : R4 204 0 = RX 204 0 := by rw [r4]; exact up_is rfl
  have i4 := i3.up 14
  rw [← y4] at i4
  have t4 : N4 14 = 4 := by rw [y4, inc_e, t3]
  have m4 := mk_ok (q := q) (R := R4) (N := N4) (k := 360 + 1 + 1 + 1 + 1) (z := z + 1422 + 1422 + 5688 + 100) (t := 14) (i := 4) (zz := 24) t4 (by decide) (by decide) rfl
  obtain ⟨R5, r5⟩ : ∃ Rx, Rx = up2 R4 209 0 (some 4) := ⟨_, rfl⟩
  obtain ⟨N5, y5⟩ : ∃ Nx, Nx = inc N4 14 := ⟨_, rfl⟩
  have c5 : Grw R4 R5 := by rw [r5]; exact Grw.up _ rfl
  have d5 : R5 209 0 = RX 209 0 := by rw [r5]; exact up_is rfl
  have i5 := i4.up 14
  rw [← y5] at i5
  have t5 : N5 14 = 5 := by rw [y5, inc_e, t4]
  have m5 := mk_ok (q := q) (R := R5) (N := N5) (k := 360 + 1 + 1 + 1 + 1 + 1) (z := z + 1422 + 1422 + 5688 + 100 + 24) (t := 14) (i := 5) (zz := 400) t5 (by decide) (by decide) rfl
  obtain ⟨R6, r6⟩ : ∃ Rx, Rx = up2 R5 214 0 (some 5) := ⟨_, rfl⟩
  obtain ⟨N6, y6⟩ : ∃ Nx, Nx = inc N5 14 := ⟨_, rfl⟩
  have c6 : Grw R5 R6 := by rw [r6]; exact Grw.up _ rfl
  have d6 : R6 214 0 = RX 214 0 := by rw [r6]; exact up_is rfl
  have i6 := i5.up 14
  rw [← y6] at i6
  have t6 : N6 14 = 6 := by rw [y6, inc_e, t5]
  have m6 := mk_ok (q := q) (R := R6) (N := N6) (k := 360 + 1 + 1 + 1 + 1 + 1 + 1) (z := z + 1422 + 1422 + 5688 + 100 + 24 + 400) (t := 14) (i := 6) (zz := 400) t6 (by decide) (by decide) rfl
  obtain ⟨R7, r7⟩ : ∃ Rx, Rx = up2 R6 215 0 (some 6) := ⟨_, rfl⟩
  obtain ⟨N7, y7⟩ : ∃ Nx, Nx = inc N6 14 := ⟨_, rfl⟩
  have c7 : Grw R6 R7 := by rw [r7]; exact Grw.up _ rfl
  have d7 : R7 215 0 = RX 215 0 := by rw [r7]; exact up_is rfl
  have i7 := i6.up 14
  rw [← y7] at i7
  have t7 : N7 14 = 7 := by rw [y7, inc_e, t6]
  have m7 := mk_ok (q := q) (R := R7) (N := N7) (k := 360 + 1 + 1 + 1 + 1 + 1 + 1 + 1) (z := z + 1422 + 1422 + 5688 + 100 + 24 + 400 + 400) (t := 14) (i := 7) (zz := 400) t7 (by decide) (by decide) rfl
  obtain ⟨R8, r8⟩ : ∃ Rx, Rx = up2 R7 216 0 (some 7) := ⟨_, rfl⟩
  obtain ⟨N8, y8⟩ : ∃ Nx, Nx = inc N7 14 := ⟨_, rfl⟩
  have c8 : Grw R7 R8 := by rw [r8]; exact Grw.up _ rfl
  have d8 : R8 216 0 = RX 216 0 := by rw [r8]; exact up_is rfl
  have i8 := i7.up 14
  rw [← y8] at i8
  have t8 : N8 14 = 8 := by rw [y8, inc_e, t7]
  have m8 := mk_ok (q := q) (R := R8) (N := N8) (k := 360 + 1 + 1 + 1 + 1 + 1 + 1 + 1 + 1) (z := z + 1422 + 1422 + 5688 + 100 + 24 + 400 + 400 + 400) (t := 14) (i := 8) (zz := 400) t8 (by decide) (by decide) rfl
  obtain ⟨R9, r9⟩ : ∃ Rx, Rx = up2 R8 217 0 (some 8) := ⟨_, rfl⟩
  obtain ⟨N9, y9⟩ : ∃ Nx, Nx = inc N8 14 := ⟨_, rfl⟩
  have c9 : Grw R8 R9 := by rw [r9]; exact Grw.up _ rfl
  have d9 : R9 217 0 = RX 217 0 := by rw [r9]; exact up_is rfl
  have i9 := i8.up 14
  rw [← y9] at i9
  have t9 : N9 14 = 9 := by rw [y9, inc_e, t8]
  have m9 := mk_ok (q := q) (R := R9) (N := N9) (k := 360 + 1 + 1 + 1 + 1 + 1 + 1 + 1 + 1 + 1) (z := z + 1422 + 1422 + 5688 + 100 + 24 + 400 + 400 + 400 + 400) (t := 14) (i := 9) (zz := 6) t9 (by decide) (by decide) rfl
  obtain ⟨R10, r10⟩ : ∃ Rx, Rx = up2 R9 218 0 (some 9) := ⟨_, rfl⟩
  obtain ⟨N10, y10⟩ : ∃ Nx, Nx = inc N9 14 := ⟨_, rfl⟩
  have c10 : Grw R9 R10 := by rw [r10]; exact Grw.up _ rfl
  have d10 : R10 218 0 = RX 218 0 := by rw [r10]; exact up_is rfl
  have i10 := i9.up 14
  rw [← y10] at i10
  have t10 : N10 14 = 10 := by rw [y10, inc_e, t9]
  have m10 := mk_ok (q := q) (R := R10) (N := N10) (k := 360 + 1 + 1 + 1 + 1 + 1 + 1 + 1 + 1 + 1 + 1) (z := z + 1422 + 1422 + 5688 + 100 + 24 + 400 + 400 + 400 + 400 + 6) (t := 14) (i := 10) (zz := 8) t10 (by decide) (by decide) rfl
  obtain ⟨R11, r11⟩ : ∃ Rx, Rx = up2 R10 222 0 (some 10) := ⟨_, rfl⟩
  obtain ⟨N11, y11⟩ : ∃ Nx, Nx = inc N10 14 := ⟨_, rfl⟩
  have c11 : Grw R10 R11 := by rw [r11]; exact Grw.up _ rfl
  have d11 : R11 222 0 = RX 222 0 := by rw [r11]; exact up_is rfl
  have i11 := i10.up 14
  rw [← y11] at i11
  have t11 : N11 14 = 11 := by rw [y11, inc_e, t10]
  have m11 := mk_ok (q := q) (R := R11) (N := N11) (k := 360 + 1 + 1 + 1 + 1 + 1 + 1 + 1 + 1 + 1 + 1 + 1) (z := z + 1422 + 1422 + 5688 + 100 + 24 + 400 + 400 + 400 + 400 + 6 + 8) (t := 14) (i := 11) (zz := 6) t11 (by decide) (by decide) rfl
  obtain ⟨R12, r12⟩ : ∃ Rx, Rx = up2 R11 223 0 (some 11) := ⟨_, rfl⟩
  obtain ⟨N12, y12⟩ : ∃ Nx, Nx = inc N11 14 := ⟨_, rfl⟩
  have c12 : Grw R11 R12 := by rw [r12]; exact Grw.up _ rfl
  have d12 : R12 223 0 = RX 223 0 := by rw [r12]; exact up_is rfl
  have i12 := i11.up 14
  rw [← y12] at i12
  have t18 : N12 18 = 0 := by rw [i12 18, h18]; rfl
  have m12 := mk_ok (q := q) (R := R12) (N := N12) (k := 360 + 1 + 1 + 1 + 1 + 1 + 1 + 1 + 1 + 1 + 1 + 1 + 1) (z := z + 1422 + 1422 + 5688 + 100 + 24 + 400 + 400 + 400 + 400 + 6 + 8 + 6) (t := 18) (i := 0) (zz := 3) t18 (by decide) (by decide) rfl
  have c13 : Grw R12 (up2 R12 224 0 (some 0)) := Grw.up _ rfl
  have a13 : Grw (up2 R12 224 0 (some 0)) (up2 R12 224 0 (some 0)) := Grw.rf _
  have a12 := c13.tr a13
  have a11 := c12.tr a12
  have a10 := c11.tr a11
  have a9 := c10.tr a10
  have a8 := c9.tr a9
  have a7 := c8.tr a8
  have a6 := c7.tr a7
  have a5 := c6.tr a6
  have a4 := c5.tr a5
  have a3 := c4.tr a4
  have a2 := c3.tr a3
  have a1 := c2.tr a2
  have a0 := c1.tr a1
  have r200 : up2 R12 224 0 (some 0) 200 0 = some 0 := (a1.keep d1).trans rfl
  have le : LX q.1 14 0 = 1422 := rfl
  refine ⟨_, _, ?_, ⟨a0, fun f x h => ?_⟩, (i12.up 18).iff (fun t => ?_)⟩
  · rw [show z + 10279 = z + 1422 + 1422 + 5688 + 100 + 24 + 400 + 400 + 400 + 400 + 6 + 8 + 6 + 3 by omega]
    simp only [s1001_0, s1001_1, s1001_4, s1001_5]
    rw [s1001_8 _ 1422 _ _ _ _ 0 _ (by omega) m0]
    simp only [s1001_10]
    rw [← r1, ← y1]
    simp only [s1001_13, s1001_14]
    rw [s1001_17 _ 1422 _ _ _ _ 1 _ (by omega) m1]
    simp only [s1001_19]
    rw [← r2, ← y2]
    simp only [s1001_22, s1001_23]
    rw [s1001_26 _ 5688 _ _ _ _ 2 _ (by omega) m2]
    simp only [s1001_28]
    rw [← r3, ← y3]
    simp only [s1001_31, s1001_32]
    rw [s1001_34 _ 100 _ _ _ _ 3 _ (by omega) m3]
    simp only [s1001_36]
    rw [← r4, ← y4]
    simp only [s1001_39, s1001_40]
    rw [s1001_42 _ 24 _ _ _ _ 4 _ (by omega) m4]
    simp only [s1001_44]
    rw [← r5, ← y5]
    simp only [s1001_47, s1001_48]
    rw [s1001_51 _ 400 _ _ _ _ 5 _ (by omega) m5]
    simp only [s1001_53]
    rw [← r6, ← y6]
    simp only [s1001_56, s1001_57]
    rw [s1001_60 _ 400 _ _ _ _ 6 _ (by omega) m6]
    simp only [s1001_62]
    rw [← r7, ← y7]
    simp only [s1001_65, s1001_66]
    rw [s1001_69 _ 400 _ _ _ _ 7 _ (by omega) m7]
    simp only [s1001_71]
    rw [← r8, ← y8]
    simp only [s1001_74, s1001_75]
    rw [s1001_78 _ 400 _ _ _ _ 8 _ (by omega) m8]
    simp only [s1001_80]
    rw [← r9, ← y9]
    simp only [s1001_83, s1001_84]
    rw [s1001_86 _ 6 _ _ _ _ 9 _ (by omega) m9]
    simp only [s1001_88]
    rw [← r10, ← y10]
    simp only [s1001_91, s1001_92]
    rw [s1001_94 _ 8 _ _ _ _ 10 _ (by omega) m10]
    simp only [s1001_96]
    rw [← r11, ← y11]
    simp only [s1001_99, s1001_100]
    rw [s1001_102 _ 6 _ _ _ _ 11 _ (by omega) m11]
    simp only [s1001_104]
    rw [← r12, ← y12]
    simp only [s1001_107, s1001_108]
    rw [s1001_109 _ 3 _ _ _ _ 0 _ (by omega) m12]
    simp only [s1001_111, s1001_114, s1001_115, r200, rfV_s, s1001_118, s1001_119, s1001_121, le]
    rw [if_pos (by omega)]
    simp only [s1001_122, s1001_123, r200, rfV_s, s1001_126, s1001_127, s1001_129, le]
    rw [if_pos (by omega)]
    simp only [s1001_130, s1001_131, r200, rfV_s, s1001_134, s1001_136, s1001_137, le]
    rw [if_pos (by omega)]
    simp only [s1001_138]
    rfl
  · obtain ⟨h1, rfl⟩ := h
    have : f = 200 ∨ f = 201 ∨ f = 202 ∨ f = 204 ∨ f = 209 ∨ f = 214 ∨ f = 215 ∨ f = 216 ∨ f = 217 ∨ f = 218 ∨ f = 222 ∨ f = 223 ∨ f = 224 := by omega
    rcases this with rfl | rfl | rfl | rfl | rfl | rfl | rfl | rfl | rfl | rfl | rfl | rfl | rfl
    · exact a1.keep d1
    · exact a2.keep d2
    · exact a3.keep d3
    · exact a4.keep d4
    · exact a5.keep d5
    · exact a6.keep d6
    · exact a7.keep d7
    · exact a8.keep d8
    · exact a9.keep d9
    · exact a10.keep d10
    · exact a11.keep d11
    · exact a12.keep d12
    · exact up_is rfl
  · by_cases e14 : t = 14
    · subst e14; rfl
    · by_cases e18 : t = 18
      · subst e18; rfl
      · simp [e14, e18]
/-- all is made -/
theorem R_fin {R1 : Nat → Nat → Option Nat} (h : Grw R0 R1) {f x : Nat} (k : x < NX (ownF f) → R1 f x = RX f x) : R1 f x = RX f x := by
  by_cases z : x < NX (ownF f)
  · exact k z
  · rcases h f x with e | e
    · exact e
    · rw [e]
      unfold R0
      rw [if_neg z]
theorem R_all {R1 : Nat → Nat → Option Nat} (h : Grw R0 R1) (k1 : ∀ f x, ((f = 80 ∧ x < 129) ∨ (100 ≤ f ∧ f ≤ 102 ∧ x < 7) ∨ ((f ≤ 3 ∨ f = 6 ∨ f = 7) ∧ x < 6) ∨ (40 ≤ f ∧ f ≤ 42 ∧ x < 74) ∨ (f = 20 ∧ x = 0) ∨ (140 ≤ f ∧ f ≤ 141 ∧ x = 0) ∨ (160 ≤ f ∧ f ≤ 164 ∧ x = 0) ∨ (60 ≤ f ∧ f ≤ 61 ∧ x = 0) ∨ (120 ≤ f ∧ f ≤ 121 ∧ x = 0) ∨ (180 ≤ f ∧ f ≤ 186 ∧ x = 0)) → R1 f x = RX f x) (k2 : ∀ f x, ((f = 200 ∨ f = 201 ∨ f = 202 ∨ f = 204 ∨ f = 209 ∨ (214 ≤ f ∧ f ≤ 218) ∨ (222 ≤ f ∧ f ≤ 224)) ∧ x = 0) → R1 f x = RX f x) : R1 = RX := by
  funext f x
  by_cases g : f ∈ [80, 100, 101, 102, 0, 1, 2, 3, 6, 7, 40, 41, 42, 20, 140, 141, 160, 161, 162, 163, 164, 60, 61, 120, 121, 180, 181, 182, 183, 184, 185, 186, 200, 201, 202, 204, 209, 214, 215, 216, 217, 218, 222, 223, 224]
  · simp only [List.mem_cons, List.not_mem_nil, or_false] at g
    rcases g with rfl | rfl | rfl | rfl | rfl | rfl | rfl | rfl | rfl | rfl | rfl | rfl | rfl | rfl | rfl | rfl | rfl | rfl | rfl | rfl | rfl | rfl | rfl | rfl | rfl | rfl | rfl | rfl | rfl | rfl | rfl | rfl | rfl | rfl | rfl | rfl | rfl | rfl | rfl | rfl | rfl | rfl | rfl | rfl | rfl
    · exact R_fin h (fun z => k1 80 x (Or.inl ⟨rfl, z⟩))
    · exact R_fin h (fun z => k1 100 x (Or.inr (Or.inl ⟨by decide, by decide, z⟩)))
    · exact R_fin h (fun z => k1 101 x (Or.inr (Or.inl ⟨by decide, by decide, z⟩)))
    · exact R_fin h (fun z => k1 102 x (Or.inr (Or.inl ⟨by decide, by decide, z⟩)))
    · exact R_fin h (fun z => k1 0 x (Or.inr (Or.inr (Or.inl ⟨by decide, z⟩))))
    · exact R_fin h (fun z => k1 1 x (Or.inr (Or.inr (Or.inl ⟨by decide, z⟩))))
    · exact R_fin h (fun z => k1 2 x (Or.inr (Or.inr (Or.inl ⟨by decide, z⟩))))
    · exact R_fin h (fun z => k1 3 x (Or.inr (Or.inr (Or.inl ⟨by decide, z⟩))))
    · exact R_fin h (fun z => k1 6 x (Or.inr (Or.inr (Or.inl ⟨by decide, z⟩))))
    · exact R_fin h (fun z => k1 7 x (Or.inr (Or.inr (Or.inl ⟨by decide, z⟩))))
    · exact R_fin h (fun z => k1 40 x (Or.inr (Or.inr (Or.inr (Or.inl ⟨by decide, by decide, z⟩)))))
    · exact R_fin h (fun z => k1 41 x (Or.inr (Or.inr (Or.inr (Or.inl ⟨by decide, by decide, z⟩)))))
    · exact R_fin h (fun z => k1 42 x (Or.inr (Or.inr (Or.inr (Or.inl ⟨by decide, by decide, z⟩)))))
    · exact R_fin h (fun z => k1 20 x (Or.inr (Or.inr (Or.inr (Or.inr (Or.inl ⟨rfl, Nat.lt_one_iff.mp z⟩))))))
    · exact R_fin h (fun z => k1 140 x (Or.inr (Or.inr (Or.inr (Or.inr (Or.inr (Or.inl ⟨by decide, by decide, Nat.lt_one_iff.mp z⟩)))))))
    · exact R_fin h (fun z => k1 141 x (Or.inr (Or.inr (Or.inr (Or.inr (Or.inr (Or.inl ⟨by decide, by decide, Nat.lt_one_iff.mp z⟩)))))))
    · exact R_fin h (fun z => k1 160 x (Or.inr (Or.inr (Or.inr (Or.inr (Or.inr (Or.inr (Or.inl ⟨by decide, by decide, Nat.lt_one_iff.mp z⟩))))))))
    · exact R_fin h (fun z => k1 161 x (Or.inr (Or.inr (Or.inr (Or.inr (Or.inr (Or.inr (Or.inl ⟨by decide, by decide, Nat.lt_one_iff.mp z⟩))))))))
    · exact R_fin h (fun z => k1 162 x (Or.inr (Or.inr (Or.inr (Or.inr (Or.inr (Or.inr (Or.inl ⟨by decide, by decide, Nat.lt_one_iff.mp z⟩))))))))
    · exact R_fin h (fun z => k1 163 x (Or.inr (Or.inr (Or.inr (Or.inr (Or.inr (Or.inr (Or.inl ⟨by decide, by decide, Nat.lt_one_iff.mp z⟩))))))))
    · exact R_fin h (fun z => k1 164 x (Or.inr (Or.inr (Or.inr (Or.inr (Or.inr (Or.inr (Or.inl ⟨by decide, by decide, Nat.lt_one_iff.mp z⟩))))))))
    · exact R_fin h (fun z => k1 60 x (Or.inr (Or.inr (Or.inr (Or.inr (Or.inr (Or.inr (Or.inr (Or.inl ⟨by decide, by decide, Nat.lt_one_iff.mp z⟩)))))))))
    · exact R_fin h (fun z => k1 61 x (Or.inr (Or.inr (Or.inr (Or.inr (Or.inr (Or.inr (Or.inr (Or.inl ⟨by decide, by decide, Nat.lt_one_iff.mp z⟩)))))))))
    · exact R_fin h (fun z => k1 120 x (Or.inr (Or.inr (Or.inr (Or.inr (Or.inr (Or.inr (Or.inr (Or.inr (Or.inl ⟨by decide, by decide, Nat.lt_one_iff.mp z⟩))))))))))
    · exact R_fin h (fun z => k1 121 x (Or.inr (Or.inr (Or.inr (Or.inr (Or.inr (Or.inr (Or.inr (Or.inr (Or.inl ⟨by decide, by decide, Nat.lt_one_iff.mp z⟩))))))))))
    · exact R_fin h (fun z => k1 180 x (Or.inr (Or.inr (Or.inr (Or.inr (Or.inr (Or.inr (Or.inr (Or.inr (Or.inr (⟨by decide, by decide, Nat.lt_one_iff.mp z⟩)))))))))))
    · exact R_fin h (fun z => k1 181 x (Or.inr (Or.inr (Or.inr (Or.inr (Or.inr (Or.inr (Or.inr (Or.inr (Or.inr (⟨by decide, by decide, Nat.lt_one_iff.mp z⟩)))))))))))
    · exact R_fin h (fun z => k1 182 x (Or.inr (Or.inr (Or.inr (Or.inr (Or.inr (Or.inr (Or.inr (Or.inr (Or.inr (⟨by decide, by decide, Nat.lt_one_iff.mp z⟩)))))))))))
    · exact R_fin h (fun z => k1 183 x (Or.inr (Or.inr (Or.inr (Or.inr (Or.inr (Or.inr (Or.inr (Or.inr (Or.inr (⟨by decide, by decide, Nat.lt_one_iff.mp z⟩)))))))))))
    · exact R_fin h (fun z => k1 184 x (Or.inr (Or.inr (Or.inr (Or.inr (Or.inr (Or.inr (Or.inr (Or.inr (Or.inr (⟨by decide, by decide, Nat.lt_one_iff.mp z⟩)))))))))))
    · exact R_fin h (fun z => k1 185 x (Or.inr (Or.inr (Or.inr (Or.inr (Or.inr (Or.inr (Or.inr (Or.inr (Or.inr (⟨by decide, by decide, Nat.lt_one_iff.mp z⟩)))))))))))
    · exact R_fin h (fun z => k1 186 x (Or.inr (Or.inr (Or.inr (Or.inr (Or.inr (Or.inr (Or.inr (Or.inr (Or.inr (⟨by decide, by decide, Nat.lt_one_iff.mp z⟩)))))))))))
    · exact R_fin h (fun z => k2 200 x ⟨by decide, Nat.lt_one_iff.mp z⟩)
    · exact R_fin h (fun z => k2 201 x ⟨by decide, Nat.lt_one_iff.mp z⟩)
    · exact R_fin h (fun z => k2 202 x ⟨by decide, Nat.lt_one_iff.mp z⟩)
    · exact R_fin h (fun z => k2 204 x ⟨by decide, Nat.lt_one_iff.mp z⟩)
    · exact R_fin h (fun z => k2 209 x ⟨by decide, Nat.lt_one_iff.mp z⟩)
    · exact R_fin h (fun z => k2 214 x ⟨by decide, Nat.lt_one_iff.mp z⟩)
    · exact R_fin h (fun z => k2 215 x ⟨by decide, Nat.lt_one_iff.mp z⟩)
    · exact R_fin h (fun z => k2 216 x ⟨by decide, Nat.lt_one_iff.mp z⟩)
    · exact R_fin h (fun z => k2 217 x ⟨by decide, Nat.lt_one_iff.mp z⟩)
    · exact R_fin h (fun z => k2 218 x ⟨by decide, Nat.lt_one_iff.mp z⟩)
    · exact R_fin h (fun z => k2 222 x ⟨by decide, Nat.lt_one_iff.mp z⟩)
    · exact R_fin h (fun z => k2 223 x ⟨by decide, Nat.lt_one_iff.mp z⟩)
    · exact R_fin h (fun z => k2 224 x ⟨by decide, Nat.lt_one_iff.mp z⟩)
  · have e : RX f x = none := by
      unfold RX
      split
      all_goals first | (exact absurd (by decide) g) | rfl
    rcases h f x with y | y
    · exact y
    · rw [y]
      unfold R0
      split
      · exact e.symm
      · rfl
theorem N_all {N1 : Nat → Nat} {d : Nat → Nat} (h : ∀ t, N1 t = d t) (k : ∀ t, t < 19 → d t = NX t) (k2 : ∀ t, 19 ≤ t → d t = 0) : N1 = NX := by
  funext t
  rw [h t]
  by_cases c : t < 19
  · exact k t c
  · rw [k2 t (by omega)]
    unfold NX
    rw [List.getD_eq_getElem?_getD, List.getElem?_eq_none (by simp; omega)]
    rfl
end
