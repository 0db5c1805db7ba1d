/-! WHAT THE CONSTRUCTORS MAKE: a trial -/
section
variable {q : Nat × (Nat → Int)} {C : MC} {D : MD} {R : Nat → Nat → Option Nat} {N : Nat → Nat} {k z : Nat} {I A : M2} {L P : Nat → Nat → Option Nat} {F G : Nat → Nat → UInt32}
/-- references only become what they will be -/
def Grw (R R' : Nat → Nat → Option Nat) : Prop := ∀ f x, R' f x = RX f x ∨ R' f x = R f x
theorem Grw.rf (R : Nat → Nat → Option Nat) : Grw R R := fun _ _ => Or.inr rfl
theorem Grw.tr {R R1 R2 : Nat → Nat → Option Nat} (h : Grw R R1) (k : Grw R1 R2) : Grw R R2 := fun f x => by
  rcases k f x with e | e
  · exact Or.inl e
  · rcases h f x with e2 | e2
    · exact Or.inl (e.trans e2)
    · exact Or.inr (e.trans e2)
theorem Grw.keep {R R1 : Nat → Nat → Option Nat} (h : Grw R R1) {f x : Nat} (k : R f x = RX f x) : R1 f x = RX f x := by
  rcases h f x with e | e
  · exact e
  · exact e.trans k
theorem Grw.up (R : Nat → Nat → Option Nat) {f x v : Nat} (hv : RX f x = some v) : Grw R (up2 R f x (some v)) := fun g y => by
  by_cases e : g = f ∧ y = x
  · obtain ⟨rfl, rfl⟩ := e
    exact Or.inl (up2_eq.trans hv.symm)
  · exact Or.inr (up2_ne e)
theorem up_is {R : Nat → Nat → Option Nat} {f x v : Nat} (hv : RX f x = some v) : up2 R f x (some v) f x = RX f x := up2_eq.trans hv.symm
theorem Cov.gr {P : Nat → Nat → Prop} {R R1 : Nat → Nat → Option Nat} (h : Cov P R R1) : Grw R R1 := fun f x => by
  by_cases z : P f x
  · exact Or.inl ((h f x).1 z)
  · exact Or.inr ((h f x).2 z)
/-- like Mk, with less said of the references -/
def Mk2 (q : Nat × (Nat → Int)) (m : Nat) (en : List AV) (k z : Nat) (N : Nat → Nat) (R : Nat → Nat → Option Nat) (C : MC) (D : MD) (dk dz : Nat) (d : Nat → Nat) (P : Nat → Nat → Prop) (C' : MC) (D' : MD) : Prop :=
  ∃ R' N', rs m 0 en [] ((R, N, LX q.1, k, z, q.2), C, D) = some (vU, ((R', N', LX q.1, k + dk, z + dz, q.2), C', D')) ∧ (Grw R R' ∧ ∀ f x, P f x → R' f x = RX f x) ∧ Inc d N N'
set_option maxHeartbeats 1000000 in
/-- Trial.<init> -/
theorem k_trial (h0 : N 0 = 5) (h2 : N 2 = 60) (h4 : N 4 = 97) (h5 : N 5 = 5) (h13 : N 13 = 97) (h15 : N 15 = 5) :
    ∃ L' A', CelS 5 6 L L' A A' ∧ Mk2 q 801 [vR 8 0, vR 7 0] 274 z N R (I, A, L, P, F, G) D 64 1168 (fun t => if t = 0 ∨ t = 5 ∨ t = 15 then 1 else if t = 2 then 13 else if t = 4 ∨ t = 13 then 24 else 0)
      (fun f x => (f = 80 ∧ 97 ≤ x ∧ x < 121) ∨ (100 ≤ f ∧ f ≤ 102 ∧ x = 5) ∨ ((f ≤ 3 ∨ f = 6 ∨ f = 7) ∧ x = 5) ∨ (40 ≤ f ∧ f ≤ 42 ∧ 60 ≤ x ∧ x < 73) ∨ (160 ≤ f ∧ f ≤ 164 ∧ x = 0)) (I, A', L', P, F, G) D := by
  have m1 := mk_ok (q := q) (R := R) (N := N) (k := 274) (z := z) (t := 0) (i := 5) (zz := 8) h0 (by decide) (by decide) rfl
  obtain ⟨L1, A1, s1, R1, N1, e1, c1, i1⟩ := k_cellar (q := q) (D := D) (R := R) (N := inc N 0) (k := 274 + 1) (z := z + 8) (I := I) (A := A) (L := L) (P := P) (F := F) (G := G) (c := 5) (by omega) (by rw [inc_n (by decide)]; exact h2) (by rw [inc_n (by decide)]; exact h4) (by rw [inc_n (by decide)]; exact h5) (by rw [inc_n (by decide)]; exact h13) (by rw [inc_n (by decide)]; exact h15) (by decide)
  have n2 : N1 2 = 72 := by rw [i1 2, inc_n (by decide), h2]; rfl
  have n4 : N1 4 = 116 := by rw [i1 4, inc_n (by decide), h4]; rfl
  have n13 : N1 13 = 116 := by rw [i1 13, inc_n (by decide), h13]; rfl
  have m2 := mk_ok (q := q) (R := up2 R1 160 0 (some 5)) (N := N1) (k := 274 + 1 + 52) (z := z + 8 + 711) (t := 2) (i := 72) (zz := 12) n2 (by decide) (by decide) rfl
  -- the rows of the mix
  obtain ⟨ma, ea⟩ := k_new (q := q) (C := (I, A1, L1, P, F, G)) (D := D) (R := up2 R1 160 0 (some 5)) (N := inc N1 2) (k := 274 + 1 + 52 + 1) (z := z + 8 + 711 + 12) (i := 116) (n := 200) (by rw [inc_n (by decide)]; exact n4) (by rw [inc_n (by decide)]; exact n13) (by omega) (by decide) (by decide) (by decide)
  obtain ⟨Sa, qa⟩ : ∃ Sa, Sa = up2 (up2 R1 160 0 (some 5)) 80 116 (some 116) := ⟨_, rfl⟩
  rw [← qa] at ea
  obtain ⟨mb, eb⟩ := k_new (q := q) (C := (I, A1, L1, P, F, G)) (D := D) (R := Sa) (N := inc (inc (inc N1 2) 4) 13) (k := 274 + 1 + 52 + 1 + 1 + 1) (z := z + 8 + 711 + 12 + 1 + 200) (i := 117) (n := 200) (by rw [inc_n (by decide), inc_e, inc_n (by decide), n4]) (by rw [inc_e, inc_n (by decide), inc_n (by decide), n13]) (by omega) (by decide) (by decide) (by decide)
  obtain ⟨Sb, qb⟩ : ∃ Sb, Sb = up2 Sa 80 117 (some 117) := ⟨_, rfl⟩
  rw [← qb] at eb
  obtain ⟨R2, N2, e2, c2, i2⟩ := k_lot (q := q) (C := (I, A1, L1, P, F, G)) (D := D) (R := Sb) (N := inc (inc (inc (inc (inc N1 2) 4) 13) 4) 13) (k := 274 + 1 + 52 + 1 + 1 + 1 + 1 + 1) (z := z + 8 + 711 + 12 + 1 + 200 + 1 + 200) (l := 72) (a := 116) (b := 117) (by omega) rfl rfl (by rw [inc_n (by decide), inc_e, inc_n (by decide), inc_e, inc_n (by decide), n4]; rfl) (by rw [inc_e, inc_n (by decide), inc_e, inc_n (by decide), inc_n (by decide), n13]; rfl) (by decide)
  have iN := (((((i1.up 2).up 4).up 13).up 4).up 13).tr i2
  have n4' : N2 4 = 119 := by rw [iN 4, inc_n (by decide), h4]; rfl
  have n13' : N2 13 = 119 := by rw [iN 13, inc_n (by decide), h13]; rfl
  obtain ⟨m4, e4⟩ := k_new (q := q) (C := (I, A1, L1, P, F, G)) (D := D) (R := up2 R2 161 0 (some 72)) (N := N2) (k := 274 + 1 + 52 + 1 + 1 + 1 + 1 + 1 + 2) (z := z + 8 + 711 + 12 + 1 + 200 + 1 + 200 + 9) (i := 119) (n := 12) n4' n13' (by omega) (by decide) (by decide) (by decide)
  obtain ⟨S4, q4⟩ : ∃ S4, S4 = up2 (up2 R2 161 0 (some 72)) 80 119 (some 119) := ⟨_, rfl⟩
  rw [← q4] at e4
  obtain ⟨m5, e5⟩ := k_new (q := q) (C := (I, A1, L1, P, F, G)) (D := D) (R := up2 S4 163 0 (some 119)) (N := inc (inc N2 4) 13) (k := 274 + 1 + 52 + 1 + 1 + 1 + 1 + 1 + 2 + 1 + 1) (z := z + 8 + 711 + 12 + 1 + 200 + 1 + 200 + 9 + 1 + 12) (i := 120) (n := 12) (by rw [inc_n (by decide), inc_e, n4']) (by rw [inc_e, inc_n (by decide), n13']) (by omega) (by decide) (by decide) (by decide)
  obtain ⟨S5, q5⟩ : ∃ S5, S5 = up2 (up2 S4 163 0 (some 119)) 80 120 (some 120) := ⟨_, rfl⟩
  rw [← q5] at e5
  -- what the references grow to
  have w9 : Grw (up2 (up2 S5 164 0 (some 120)) 162 0 (some 0)) (up2 (up2 S5 164 0 (some 120)) 162 0 (some 0)) := Grw.rf _
  have w8 := (Grw.up (up2 S5 164 0 (some 120)) (f := 162) (x := 0) (v := 0) rfl).tr w9
  have w7 := (Grw.up S5 (f := 164) (x := 0) (v := 120) rfl).tr w8
  have w6 := (show Grw (up2 S4 163 0 (some 119)) S5 by rw [q5]; exact Grw.up _ rfl).tr w7
  have w5 := (Grw.up S4 (f := 163) (x := 0) (v := 119) rfl).tr w6
  have w4 := (show Grw (up2 R2 161 0 (some 72)) S4 by rw [q4]; exact Grw.up _ rfl).tr w5
  have w3 := (Grw.up R2 (f := 161) (x := 0) (v := 72) rfl).tr w4
  have w2 := (c2.gr).tr w3
  have wb := (show Grw Sa Sb by rw [qb]; exact Grw.up _ rfl).tr w2
  have wa := (show Grw (up2 R1 160 0 (some 5)) Sa by rw [qa]; exact Grw.up _ rfl).tr wb
  have w1 := (Grw.up R1 (f := 160) (x := 0) (v := 5) rfl).tr wa
  have s72 : sr 72 = 118 := rfl
  refine ⟨L1, A1, s1, up2 (up2 S5 164 0 (some 120)) 162 0 (some 0), _, ?_, ⟨c1.gr.tr w1, fun f x h => ?_⟩, (((((((Inc.rf N).up 0).tr iN).up 4).up 13).up 4).up 13).iff (fun t => ?_)⟩
  · rw [show z + 1168 = z + 8 + 711 + 12 + 1 + 200 + 1 + 200 + 9 + 1 + 12 + 1 + 12 by omega]
    simp only [s801_0, s801_1, s801_4]
    rw [s801_5 _ _ _ _ _ _ _ _ m1]
    simp only [s801_8r]
    rw [s801_9]
    refine (congrArg (fun o => Option.bind o _) e1).trans ?_
    simp only [Option.bind_some, pushR_U, s801_12, s801_15]
    rw [s801_16 _ _ _ _ _ _ _ _ m2]
    simp only [s801_19r]
    rw [s801_20 _ _ _ _ _ _ _ _ ma]
    simp only [s801_23r, s801_24]
    rw [s801_27]
    refine (congrArg (fun o => Option.bind o _) ea).trans ?_
    simp only [Option.bind_some, pushR_U]
    rw [s801_30 _ _ _ _ _ _ _ _ mb]
    simp only [s801_33r, s801_34]
    rw [s801_37]
    refine (congrArg (fun o => Option.bind o _) eb).trans ?_
    simp only [Option.bind_some, pushR_U]
    rw [s801_40]
    refine (congrArg (fun o => Option.bind o _) e2).trans ?_
    simp only [Option.bind_some, pushR_U, s801_43, s801_46]
    rw [s801_47 _ _ _ _ _ _ _ _ m4]
    simp only [s801_50r, s801_51]
    rw [s801_53]
    refine (congrArg (fun o => Option.bind o _) e4).trans ?_
    simp only [Option.bind_some, pushR_U, s801_56, s801_59]
    rw [s801_60 _ _ _ _ _ _ _ _ m5]
    simp only [s801_63r, s801_64]
    rw [s801_66]
    refine (congrArg (fun o => Option.bind o _) e5).trans ?_
    simp only [Option.bind_some, pushR_U, s801_69, s801_72, s801_73, s801_74, s801_77]
  · rcases h with ⟨rfl, h1, h2⟩ | ⟨h1, h2, rfl⟩ | ⟨h1, rfl⟩ | ⟨h1, h2, h3, h4⟩ | ⟨h1, h2, rfl⟩
    · by_cases z1 : x < 116
      · exact w1.keep ((c1 80 x).1 (Or.inl ⟨rfl, by omega, by omega⟩))
      · by_cases z2 : x = 116
        · subst z2
          exact wb.keep (by rw [qa]; exact up_is rfl)
        · by_cases z3 : x = 117
          · subst z3
            exact w2.keep (by rw [qb]; exact up_is rfl)
          · by_cases z4 : x = 118
            · exact w3.keep ((c2 80 x).1 (Or.inl ⟨rfl, by omega⟩))
            · by_cases z5 : x = 119
              · subst z5
                exact w5.keep (by rw [q4]; exact up_is rfl)
              · have z6 : x = 120 := by omega
                subst z6
                exact w7.keep (by rw [q5]; exact up_is rfl)
    · exact w1.keep ((c1 f 5).1 (Or.inr (Or.inl ⟨h1, h2, rfl⟩)))
    · exact w1.keep ((c1 f 5).1 (Or.inr (Or.inr (Or.inl ⟨h1, rfl⟩))))
    · by_cases z1 : x < 72
      · exact w1.keep ((c1 f x).1 (Or.inr (Or.inr (Or.inr ⟨h1, h2, by omega, by omega⟩))))
      · exact w3.keep ((c2 f x).1 (Or.inr ⟨h1, h2, by omega⟩))
    · have : f = 160 ∨ f = 161 ∨ f = 162 ∨ f = 163 ∨ f = 164 := by omega
      rcases this with rfl | rfl | rfl | rfl | rfl
      · exact wa.keep (up_is rfl)
      · exact w4.keep (up_is rfl)
      · exact up_is rfl
      · exact w6.keep (up_is rfl)
      · exact w8.keep (up_is rfl)
  · by_cases e0 : t = 0
    · subst e0; rfl
    · by_cases e5 : t = 5
      · subst e5; rfl
      · by_cases e15 : t = 15
        · subst e15; rfl
        · by_cases e2 : t = 2
          · subst e2; rfl
          · by_cases e4 : t = 4
            · subst e4; rfl
            · by_cases e13 : t = 13
              · subst e13; rfl
              · simp [e0, e5, e15, e2, e4, e13]
end
