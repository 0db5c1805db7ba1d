/-! TWO OBJECTS OF THE CLASS: where the states of both lie; a call of the one alone is a call of the k-th -/
theorem ix_ib {k j t i : Nat} (hk : k ≤ 1) (hj : j ≤ 1) (hn : k ≠ j) (h : ix t i) : ¬ ib k t (i + j * NB t) := by
  intro g
  have g1 : k * NB t ≤ i + j * NB t := g.1
  have g2 : i + j * NB t < k * NB t + NB t := g.2
  rcases h with h | h
  · rw [h, Nat.mul_zero, Nat.mul_zero] at g2
    omega
  · rcases Nat.le_one_iff_eq_zero_or_eq_one.mp hk with rfl | rfl <;> rcases Nat.le_one_iff_eq_zero_or_eq_one.mp hj with rfl | rfl
    · exact hn rfl
    · omega
    · omega
    · exact hn rfl
/-- what lies beside a block isn't touched -/
theorem Rel.keep {k j : Nat} {μ μ' ν : Mem} (hk : k ≤ 1) (hj : j ≤ 1) (hn : k ≠ j) (h : Rel j μ ν) (g : Fra k μ μ') : Rel j μ' ν := by
  obtain ⟨h1, h2, h3, h4, h5, h6, h7, h8, h9⟩ := h
  obtain ⟨g1, g2, g3, g4, g5, g6, g7, g8, g9, g10⟩ := g
  exact ⟨fun f i z => by rw [g1 f _ (ix_ib hk hj hn z)]; exact h1 f i z, fun t i z => by rw [g2 t _ (ix_ib hk hj hn z)]; exact h2 t i z, g3.trans h3, fun f i z => by rw [g4 f _ (ix_ib hk hj hn z)]; exact h4 f i z,
    fun i x z => by rw [g5 _ x (ix_ib hk hj hn z)]; exact h5 i x z, fun i x z => by rw [g6 _ x (ix_ib hk hj hn z)]; exact h6 i x z, fun i x z => by rw [g7 _ x (ix_ib hk hj hn z)]; exact h7 i x z,
    fun i x z => by rw [g8 _ x (ix_ib hk hj hn z)]; exact h8 i x z, fun f i z => by rw [g9 f _ (ix_ib hk hj hn z)]; exact h9 f i z⟩
theorem ib_ix {k t j : Nat} (h : ib k t j) : ∃ i, ix t i ∧ j = i + k * NB t := by
  obtain ⟨h1, h2⟩ := h
  exact ⟨j - k * NB t, Or.inr (by omega), by omega⟩
/-- where nothing is written the memory stays as a whole -/
theorem Rel.eq {k : Nat} {μ μ' ν : Mem} (h : Rel k μ ν) (h' : Rel k μ' ν) (g : Fra k μ μ') (hG : Gro μ μ' ν ν) : μ' = μ := by
  obtain ⟨h1, h2, h3, h4, h5, h6, h7, h8, h9⟩ := h
  obtain ⟨k1, k2, k3, k4, k5, k6, k7, k8, k9⟩ := h'
  obtain ⟨g1, g2, g3, g4, g5, g6, g7, g8, g9, g10⟩ := g
  obtain ⟨z1, z2, z3⟩ := hG
  obtain ⟨⟨R, N, Z, c, s, x⟩, ⟨I, A, L, P, F, G⟩, D⟩ := μ
  obtain ⟨⟨R', N', Z', c', s', x'⟩, ⟨I', A', L', P', F', G'⟩, D'⟩ := μ'
  have eR : R' = R := by
    funext f i
    by_cases e : ib k (ownF f) i
    · obtain ⟨j, hj, rfl⟩ := ib_ix e
      exact (k1 f j hj).1.trans (h1 f j hj).1.symm
    · exact g1 f i e
  have eN : N' = N := funext fun t => by have := z1 t; exact Nat.add_right_cancel this
  have eZ : Z' = Z := by
    funext f i
    by_cases e : ib k f i
    · obtain ⟨j, hj, rfl⟩ := ib_ix e
      exact (k2 f j hj).trans (h2 f j hj).symm
    · exact g2 f i e
  have eI : I' = I := by
    funext f i
    by_cases e : ib k (ownF f) i
    · obtain ⟨j, hj, rfl⟩ := ib_ix e
      exact (k4 f j hj).trans (h4 f j hj).symm
    · exact g4 f i e
  have eA : A' = A := by
    funext i y
    by_cases e : ib k 13 i
    · obtain ⟨j, hj, rfl⟩ := ib_ix e
      exact (k5 j y hj).trans (h5 j y hj).symm
    · exact g5 i y e
  have eL : L' = L := by
    funext i y
    by_cases e : ib k 15 i
    · obtain ⟨j, hj, rfl⟩ := ib_ix e
      exact (k6 j y hj).1.trans (h6 j y hj).1.symm
    · exact g6 i y e
  have eP : P' = P := by
    funext i y
    by_cases e : ib k 16 i
    · obtain ⟨j, hj, rfl⟩ := ib_ix e
      exact (k7 j y hj).1.trans (h7 j y hj).1.symm
    · exact g7 i y e
  have eF : F' = F := by
    funext i y
    by_cases e : ib k 17 i
    · obtain ⟨j, hj, rfl⟩ := ib_ix e
      exact (k8 j y hj).trans (h8 j y hj).symm
    · exact g8 i y e
  have eG : G' = G := by
    funext f i
    by_cases e : ib k (ownF f) i
    · obtain ⟨j, hj, rfl⟩ := ib_ix e
      exact (k9 f j hj).trans (h9 f j hj).symm
    · exact g9 f i e
  have ec : c' = c := Nat.add_right_cancel z2
  have es : s' = s := Nat.add_right_cancel z3
  have ex : x' = x := g3
  have eD : D' = D := g10
  rw [eR, eN, eZ, eI, eA, eL, eP, eF, eG, ec, es, ex, eD]
theorem off_no (t : Nat) : offX t (NB t) ≠ 999999 := by
  unfold offX
  rw [if_neg (Nat.lt_irrefl _), Nat.sub_self]
  have : of1 t 0 < 359 := by
    unfold of1
    split <;> decide
  omega
/-- the k-th object's state -/
def Bl (q : Nat × (Nat → Int)) (k : Nat) (μ : Mem) (X : XS) : Prop := ∃ (I A : M2) (L P : Nat → Nat → Option Nat) (F G : Nat → Nat → UInt32) (D : MD), Rel k μ (SX q, (I, A, L, P, F, G), D) ∧ Cls I A L P X
/-- nothing is made -/
def Still (μ μ' : Mem) : Prop := μ'.1.2.2.2.1 = μ.1.2.2.2.1 ∧ μ'.1.2.2.2.2.1 = μ.1.2.2.2.2.1
theorem V9 (k : Nat) : V k (vR 9 0) (vR 9 k) := ⟨Or.inr (by decide), by rw [show NB 9 = 1 from rfl, Nat.mul_one, Nat.zero_add]⟩
section
variable {q : Nat × (Nat → Int)} {k m : Nat} {μ : Mem} {X X' : XS} {en en2 : List AV} {a : Int}
theorem Bl.keep {j : Nat} {μ' : Mem} (hk : k ≤ 1) (hj : j ≤ 1) (hn : k ≠ j) (h : Bl q j μ X) (g : Fra k μ μ') : Bl q j μ' X := by
  obtain ⟨I, A, L, P, F, G, D, hR, hC⟩ := h
  exact ⟨I, A, L, P, F, G, D, hR.keep hk hj hn g, hC⟩
theorem Bl.call (hk : k ≤ 1) (h : Bl q k μ X) (hv : VL k en en2) (hc : ∀ I A L P F G D, Cls I A L P X → Doe m en q I A L P F G D (vI a) X') : ∃ μ', rs m 0 en2 [] μ = some (vI a, μ') ∧ Bl q k μ' X' ∧ Fra k μ μ' ∧ Still μ μ' := by
  obtain ⟨I, A, L, P, F, G, D, hR, hC⟩ := h
  obtain ⟨I', A', L', P', F', G', e, hC'⟩ := hc I A L P F G D hC
  obtain ⟨⟨r, μ'⟩, g1, g2, g3, g4, g5, g6⟩ := rs_s (a := false) hk hv (st := []) (s2 := []) trivial hR off_no (fun z => by cases z) e
  cases g2
  exact ⟨μ', g1, ⟨I', A', L', P', F', G', D, g3, hC'⟩, g5, ⟨Nat.add_right_cancel g6.2.1, Nat.add_right_cancel g6.2.2⟩⟩
theorem Bl.read (hk : k ≤ 1) (h : Bl q k μ X) (hv : VL k en en2) (hc : ∀ I A L P F G D, Cls I A L P X → rs m 0 en [] (SX q, (I, A, L, P, F, G), D) = some (vI a, (SX q, (I, A, L, P, F, G), D))) : rs m 0 en2 [] μ = some (vI a, μ) := by
  obtain ⟨I, A, L, P, F, G, D, hR, hC⟩ := h
  have e := hc I A L P F G D hC
  obtain ⟨⟨r, μ'⟩, g1, g2, g3, g4, g5, g6⟩ := rs_s (a := false) hk hv (st := []) (s2 := []) trivial hR off_no (fun z => by cases z) e
  cases g2
  rw [g1]
  exact congrArg (fun x => some (vI a, x)) (hR.eq g3 g5 g6)
theorem Bl.scr (h : Bl q k μ X) : μ.1.2.2.1 19 0 = q.1 ∧ μ.1.2.2.2.2.2 = q.2 := by
  obtain ⟨I, A, L, P, F, G, D, hR, hC⟩ := h
  refine ⟨?_, hR.2.2.1⟩
  have := hR.2.1 19 0 (Or.inl rfl)
  rw [show NB 19 = 0 from rfl, Nat.mul_zero] at this
  exact this
end
