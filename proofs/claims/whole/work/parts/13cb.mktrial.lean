/-! WHAT THE CONSTRUCTORS MAKE: a trial -/
section
variable {q : Nat × (Nat → Int)} {C : MC} {D : MD} {R : Nat → Nat → Option Nat} {N : Nat → Nat} {k z : Nat} {I A : M2} {L P : Nat → Nat → Option Nat} {F G : Nat → Nat → UInt32}
/-- references only become what they will be -/
def Grw (R R' : Nat → Nat → Option Nat) : Prop := ∀ f x, R' f x = RX f x ∨ R' f x = R f x
theorem Grw.rf (R : Nat → Nat → Option Nat) : Grw R R := fun _ _ => Or.inr rfl
theorem Grw.tr {R R1 R2 : Nat → Nat → Option Nat} (h : Grw R R1) (k : Grw R1 R2) : Grw R R2 := fun f x => by
  rcases k f x with e | e
  · exact Or.inl e
  · rcases h f x with e2 | e2
    · exact Or.inl (e.trans e2)
    · exact Or.inr (e.trans e2)
theorem Grw.keep {R R1 : Nat → Nat → Option Nat} (h : Grw R R1) {f x : Nat} (k : R f x = RX f x) : R1 f x = RX f x := by
  rcases h f x with e | e
  · exact e
  · exact e.trans k
theorem Grw.up (R : Nat → Nat → Option Nat) {f x v : Nat} (hv : RX f x = some v) : Grw R (up2 R f x (some v)) := fun g y => by
  by_cases e : g = f ∧ y = x
  · obtain ⟨rfl, rfl⟩ := e
    exact Or.inl (up2_eq.trans hv.symm)
  · exact Or.inr (up2_ne e)
theorem up_is {R : Nat → Nat → Option Nat} {f x v : Nat} (hv : RX f x = some v) : up2 R f x (some v) f x = RX f x := up2_eq.trans hv.symm
theorem Cov.gr {P : Nat → Nat → Prop} {R R1 : Nat → Nat → Option Nat} (h : Cov P R R1) : Grw R R1 := fun f x => by
  by_cases z : P f x
  · exact Or.inl ((h f x).1 z)
  · exact Or.inr ((h f x).2 z)
/-- like Mk, with less said of the references -/
def Mk2 (q : Nat × (Nat → Int)) (m : Nat) (en : List AV) (k z : Nat) (N : Nat → Nat) (R : Nat → Nat → Option Nat) (C : MC) (D : MD) (dk dz : Nat) (d : Nat → Nat) (P : Nat → Nat → Prop) (C' : MC) (D' : MD) : Prop :=
  ∃ R' N', rs m 0 en [] ((R, N, LX q.1, k, z, q.2), C, D) = some (vU, ((R', N', LX q.1, k + dk, z + dz, q.2), C', D')) ∧ (Grw R R' ∧ ∀ f x, P f x → R' f x = RX f x) ∧ Inc d N N'
/-- Trial.<init> -/
theorem k_trial (h0 : N 0 = 5) (h2 : N 2 = 60) (h4 : N 4 = 205) (h5 : N 5 = 5) (h13 : N 13 = 205) (h15 : N 15 = 5) (h7 : N 7 = 0) :
    ∃ L' A', CelS 5 6 L L' A A' ∧ Mk2 q 801 [vR 8 0] 489 z N R (I, A, L, P, F, G) D 113 5979 (fun t => if t = 0 ∨ t = 5 ∨ t = 15 ∨ t = 7 then 1 else if t = 2 then 13 else if t = 4 ∨ t = 13 then 48 else 0)
      (fun f x => (f = 80 ∧ 205 ≤ x ∧ x < 253) ∨ (100 ≤ f ∧ f ≤ 102 ∧ x = 5) ∨ (f ≤ 3 ∧ x = 5) ∨ (40 ≤ f ∧ f ≤ 42 ∧ 60 ≤ x ∧ x < 73) ∨ (140 ≤ f ∧ f ≤ 141 ∧ x = 0) ∨ (160 ≤ f ∧ f ≤ 164 ∧ x = 0)) (I, A', L', P, F, G) D := by
  have m1 := mk_ok (q := q) (R := R) (N := N) (k := 489) (z := z) (t := 0) (i := 5) (zz := 6) h0 (by decide) (by decide) rfl
  obtain ⟨L1, A1, s1, R1, N1, e1, c1, i1⟩ := k_cellar (q := q) (D := D) (R := R) (N := inc N 0) (k := 489 + 1) (z := z + 6) (I := I) (A := A) (L := L) (P := P) (F := F) (G := G) (c := 5) (by omega) (by rw [inc_n (by decide)]; exact h2) (by rw [inc_n (by decide)]; exact h4) (by rw [inc_n (by decide)]; exact h5) (by rw [inc_n (by decide)]; exact h13) (by rw [inc_n (by decide)]; exact h15) (by decide)
  have n2 : N1 2 = 72 := by rw [i1 2, inc_n (by decide), h2]; rfl
  have n4 : N1 4 = 246 := by rw [i1 4, inc_n (by decide), h4]; rfl
  have n13 : N1 13 = 246 := by rw [i1 13, inc_n (by decide), h13]; rfl
  have n7 : N1 7 = 0 := by rw [i1 7, inc_n (by decide), h7]; rfl
  have m2 := mk_ok (q := q) (R := up2 R1 160 0 (some 5)) (N := N1) (k := 489 + 1 + 96) (z := z + 6 + 5121) (t := 2) (i := 72) (zz := 11) n2 (by decide) (by decide) rfl
  obtain ⟨R2, N2, e2, c2, i2⟩ := k_lot (q := q) (C := (I, A1, L1, P, F, G)) (D := D) (R := up2 R1 160 0 (some 5)) (N := inc N1 2) (k := 489 + 1 + 96 + 1) (z := z + 6 + 5121 + 11) (l := 72) (by omega) (by rw [inc_n (by decide), n4]; rfl) (by rw [inc_n (by decide), n13]; rfl) (by decide)
  have n4' : N2 4 = 249 := by rw [i2 4, inc_n (by decide), n4]; rfl
  have n13' : N2 13 = 249 := by rw [i2 13, inc_n (by decide), n13]; rfl
  have n7' : N2 7 = 0 := by rw [i2 7, inc_n (by decide), n7]; rfl
  have m3 := mk_ok (q := q) (R := up2 R2 161 0 (some 72)) (N := N2) (k := 489 + 1 + 96 + 1 + 6) (z := z + 6 + 5121 + 11 + 411) (t := 7) (i := 0) (zz := 2) n7' (by decide) (by decide) rfl
  obtain ⟨R3, N3, e3, c3, i3⟩ := k_sharing (q := q) (C := (I, A1, L1, P, F, G)) (D := D) (R := up2 R2 161 0 (some 72)) (N := inc N2 7) (k := 489 + 1 + 96 + 1 + 6 + 1) (z := z + 6 + 5121 + 11 + 411 + 2) (x := 0) (by omega) (by rw [inc_n (by decide), n4']) (by rw [inc_n (by decide), n13']) (by decide)
  have n4'' : N3 4 = 251 := by rw [i3 4, inc_n (by decide), n4']; rfl
  have n13'' : N3 13 = 251 := by rw [i3 13, inc_n (by decide), n13']; rfl
  obtain ⟨m4, e4⟩ := k_new (q := q) (C := (I, A1, L1, P, F, G)) (D := D) (R := up2 R3 162 0 (some 0)) (N := N3) (k := 489 + 1 + 96 + 1 + 6 + 1 + 4) (z := z + 6 + 5121 + 11 + 411 + 2 + 402) (i := 251) (n := 12) n4'' n13'' (by omega) (by decide) (by decide) (by decide)
  obtain ⟨S4, q4⟩ : ∃ S4, S4 = up2 (up2 R3 162 0 (some 0)) 80 251 (some 251) := ⟨_, rfl⟩
  obtain ⟨m5, e5⟩ := k_new (q := q) (C := (I, A1, L1, P, F, G)) (D := D) (R := up2 S4 163 0 (some 251)) (N := inc (inc N3 4) 13) (k := 489 + 1 + 96 + 1 + 6 + 1 + 4 + 1 + 1) (z := z + 6 + 5121 + 11 + 411 + 2 + 402 + 1 + 12) (i := 252) (n := 12) (by rw [inc_n (by decide), inc_e, n4'']) (by rw [inc_e, inc_n (by decide), n13'']) (by omega) (by decide) (by decide) (by decide)
  have l72 : lr 72 = 246 := rfl
  have g0 : Grw R R1 := c1.gr
  have v8 : Grw (up2 (up2 S4 163 0 (some 251)) 80 252 (some 252)) (up2 (up2 (up2 S4 163 0 (some 251)) 80 252 (some 252)) 164 0 (some 252)) := Grw.up _ rfl
  have v7 := (Grw.up (up2 S4 163 0 (some 251)) (f := 80) (x := 252) rfl).tr v8
  have v6 := (Grw.up S4 (f := 163) (x := 0) rfl).tr v7
  have v5 : Grw R3 _ := ((Grw.up R3 (f := 162) (x := 0) (v := 0) rfl).tr (by rw [q4]; exact Grw.up _ rfl)).tr v6
  have v5' : Grw (up2 R3 162 0 (some 0)) _ := (show Grw _ S4 by rw [q4]; exact Grw.up _ rfl).tr v6
  have v4 := (c3.gr).tr v5
  have v3 := (Grw.up R2 (f := 161) (x := 0) (v := 72) rfl).tr v4
  have v2 := (c2.gr).tr v3
  have v1 := (Grw.up R1 (f := 160) (x := 0) (v := 5) rfl).tr v2
  refine ⟨L1, A1, s1, up2 (up2 (up2 S4 163 0 (some 251)) 80 252 (some 252)) 164 0 (some 252), _, ?_, ⟨g0.tr v1, fun f x h => ?_⟩, ((((((((((Inc.rf N).up 0).tr i1).up 2).tr i2).up 7).tr i3).up 4).up 13).up 4 |>.up 13).iff (fun t => ?_)⟩
  · rw [show z + 5979 = z + 6 + 5121 + 11 + 411 + 2 + 402 + 1 + 12 + 1 + 12 by omega]
    simp only [s801_0, s801_1, s801_4]
    rw [s801_5 _ _ _ _ _ _ _ m1]
    simp only [s801_8r]
    rw [s801_9]
    refine (congrArg (fun o => Option.bind o _) e1).trans ?_
    simp only [Option.bind_some, pushR_U, s801_12, s801_15]
    rw [s801_16 _ _ _ _ _ _ _ m2]
    simp only [s801_19r]
    rw [s801_20]
    refine (congrArg (fun o => Option.bind o _) e2).trans ?_
    simp only [Option.bind_some, pushR_U, s801_23, s801_26]
    rw [s801_27 _ _ _ _ _ _ _ m3]
    simp only [s801_30r]
    rw [s801_31]
    refine (congrArg (fun o => Option.bind o _) e3).trans ?_
    simp only [Option.bind_some, pushR_U, s801_34, s801_37]
    rw [s801_38 _ _ _ _ _ _ _ m4]
    simp only [s801_41r, s801_42]
    rw [s801_44]
    refine (congrArg (fun o => Option.bind o _) e4).trans ?_
    simp only [Option.bind_some, pushR_U]
    rw [← q4]
    simp only [s801_47, s801_50]
    rw [s801_51 _ _ _ _ _ _ _ m5]
    simp only [s801_54r, s801_55]
    rw [s801_57]
    refine (congrArg (fun o => Option.bind o _) e5).trans ?_
    simp only [Option.bind_some, pushR_U, s801_60, s801_63]
  · rcases h with ⟨rfl, h1, h2⟩ | ⟨h1, h2, rfl⟩ | ⟨h1, rfl⟩ | ⟨h1, h2, h3, h4⟩ | ⟨h1, h2, rfl⟩ | ⟨h1, h2, rfl⟩
    · by_cases z1 : x < 246
      · exact v1.keep ((c1 80 x).1 (Or.inl ⟨rfl, by omega, by omega⟩))
      · by_cases z2 : x < 249
        · exact v3.keep ((c2 80 x).1 (Or.inl ⟨rfl, by rw [l72]; omega, by rw [l72]; omega⟩))
        · by_cases z3 : x < 251
          · exact v5.keep ((c3 80 x).1 (Or.inl ⟨rfl, by omega, by omega⟩))
          · by_cases z4 : x = 251
            · subst z4
              exact v6.keep (by rw [q4]; exact up_is rfl)
            · have z5 : x = 252 := by omega
              subst z5
              exact v8.keep (up_is rfl)
    · exact v1.keep ((c1 f 5).1 (Or.inr (Or.inl ⟨h1, h2, rfl⟩)))
    · exact v1.keep ((c1 f 5).1 (Or.inr (Or.inr (Or.inl ⟨h1, rfl⟩))))
    · by_cases z1 : x < 72
      · exact v1.keep ((c1 f x).1 (Or.inr (Or.inr (Or.inr ⟨h1, h2, by omega, by omega⟩))))
      · exact v3.keep ((c2 f x).1 (Or.inr ⟨h1, h2, by omega⟩))
    · exact v5.keep ((c3 f 0).1 (Or.inr ⟨h1, h2, rfl⟩))
    · have : f = 160 ∨ f = 161 ∨ f = 162 ∨ f = 163 ∨ f = 164 := by omega
      rcases this with rfl | rfl | rfl | rfl | rfl
      · exact v2.keep (up_is rfl)
      · exact v4.keep (up_is rfl)
      · exact v5'.keep (up_is rfl)
      · exact v7.keep (up_is rfl)
      · exact up_is rfl
  · by_cases e0 : t = 0
    · subst e0; rfl
    · by_cases e5 : t = 5
      · subst e5; rfl
      · by_cases e15 : t = 15
        · subst e15; rfl
        · by_cases e7 : t = 7
          · subst e7; rfl
          · by_cases e2 : t = 2
            · subst e2; rfl
            · by_cases e4 : t = 4
              · subst e4; rfl
              · by_cases e13 : t = 13
                · subst e13; rfl
                · simp [e0, e5, e15, e7, e2, e4, e13]
end
