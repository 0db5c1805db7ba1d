/-! THE CLASS AS A WHOLE: where its state lies, what stays -/
theorem RulesAt.keep {I A I' A' : M2} {c : Nat} {ru : List Ru} (h : RulesAt I A c ru) (k : I' 103 c = I 103 c) (k2 : ∀ a, a < 3 → ∀ j, A' (rr c + a) j = A (rr c + a) j) : RulesAt I' A' c ru :=
  ⟨k.trans h.1, h.2.1, fun j hj => ⟨(k2 0 (by omega) j).trans (h.2.2 j hj).1, (k2 1 (by omega) j).trans (h.2.2 j hj).2.1, (k2 2 (by omega) j).trans (h.2.2 j hj).2.2⟩⟩
abbrev XS : Type := St × List St × List Int
/-- lots' grains all told -/
def allG (ls : List Lt) : Int := sumU (fun i => ((lt ls i).2.length : Int)) ls.length
def okSt (d : Nat → Int) : Prop := (0 ≤ d 0 ∧ d 0 ≤ 100) ∧ (0 ≤ d 1 ∧ d 1 ≤ 200) ∧ (0 ≤ d 2 ∧ d 2 ≤ 100) ∧ (0 ≤ d 3 ∧ d 3 ≤ 1000)
/-- a state is in order; next at most T -/
def okS (T : Int) (σ : St) : Prop := okLs σ.1 ∧ σ.1.length ≤ 12 ∧ allG σ.1 ≤ 200 ∧ okSt σ.2.2.1 ∧ ((∀ r ∈ σ.2.1, okR r) ∧ σ.2.1.length ≤ 8) ∧ (0 ≤ σ.2.2.2.2 ∧ σ.2.2.2.2 ≤ T) ∧ (∀ i, i < σ.1.length → (lt σ.1 i).1 0 < σ.2.2.2.2) ∧ ∀ i j, i < j → j < σ.1.length → (lt σ.1 i).1 0 < (lt σ.1 j).1 0
def okX (T : Int) (X : XS) : Prop := T ≤ 100000 ∧ okS T X.1 ∧ (∀ h ∈ X.2.1, okS T h) ∧ X.2.1.length ≤ 4 ∧ X.2.2.length ≤ 100
def Cls (I A : M2) (L P : Nat → Nat → Option Nat) (X : XS) : Prop :=
  ∃ (S : Nat → Nat → Nat) (ph : Nat → Nat), (∀ c, c < 6 → LoS L c (S c)) ∧ CelAt I A 0 (S 0) X.1 ∧ HistAt I A P S X.2.1 ph ∧ TxAt I A X.2.2
/-- a call: its result, the state behind it -/
def Doe (m : Nat) (en : List AV) (q : Nat × (Nat → Int)) (I A : M2) (L P : Nat → Nat → Option Nat) (F G : Nat → Nat → UInt32) (D : MD) (a : AV) (X : XS) : Prop :=
  ∃ I' A' L' P' F' G', rs m 0 en [] (SX q, (I, A, L, P, F, G), D) = some (a, (SX q, (I', A', L', P', F', G'), D)) ∧ Cls I' A' L' P' X
theorem HistAt.keep {I A I' A' : M2} {P : Nat → Nat → Option Nat} {S : Nat → Nat → Nat} {hs : List St} {ph : Nat → Nat} (h : HistAt I A P S hs ph) (hS : ∀ c, 1 ≤ c → c ≤ 4 → ∀ i, i < 12 → 12 * c ≤ S c i ∧ S c i < 12 * c + 12) (k0 : I' 21 0 = I 21 0) (k : ∀ c f x, 1 ≤ c → c ≤ 4 → inI c f x → I' f x = I f x) (k2 : ∀ r j, 19 ≤ r → r < 95 → A' r j = A r j) : HistAt I' A' P S hs ph := by
  obtain ⟨h1, h2, h3, h4, h5⟩ := h
  refine ⟨k0.trans h1, h2, h3, h4, fun i hi => ?_⟩
  have p := (h3 i (by omega)).2
  exact (h5 i hi).keep (by omega) (hS _ p.1 p.2) (fun f x z => k _ f x p.1 p.2 z) (fun r j z => k2 r j (by have := inR5 (by omega) z; omega) (by have := inR5 (by omega) z; omega))
/-- the lots of cellars behind a change of lots' order in cellars 0 and 5 -/
theorem Cls.upd {I A I' A' : M2} {L L' P : Nat → Nat → Option Nat} {σ σ' : St} {hs : List St} {tx : List Int} (h : Cls I A L P (σ, hs, tx))
    (kI : ∀ f y, f = 122 ∨ (f = 21 ∧ y = 0) ∨ ((f = 4 ∨ f = 5 ∨ f = 103) ∧ 1 ≤ y ∧ y ≤ 4) ∨ (43 ≤ f ∧ f ≤ 51 ∧ 12 ≤ y ∧ y < 60) → I' f y = I f y) (kA : ∀ r j, (19 ≤ r ∧ r < 95) ∨ r = 122 → A' r j = A r j) (kL : ∀ d i, 1 ≤ d → d ≤ 4 → L' d i = L d i)
    {sl0 sl5 : Nat → Nat} (h0 : LoS L' 0 sl0) (h5 : LoS L' 5 sl5) (hC : CelAt I' A' 0 sl0 σ') : Cls I' A' L' P (σ', hs, tx) := by
  obtain ⟨S, ph, a, b, c, d⟩ := h
  have hS : ∀ c, 1 ≤ c → c ≤ 4 → ∀ i, i < 12 → 12 * c ≤ S c i ∧ S c i < 12 * c + 12 := fun c h1 h2 i hi => ((a c (by omega)).1 i hi).2
  have hc' := c.keep (I' := I') (A' := A') hS (kI _ _ (by omega)) (fun c f x h1 h2 z => kI f x (by unfold inI at z; omega)) (fun r j h1 h2 => kA r j (by omega))
  refine ⟨fun c => if c = 0 then sl0 else if c = 5 then sl5 else S c, ph, fun c hc => ?_, hC, ?_, d.keep (fun f y e => kI f y (by omega)) (fun j => kA _ _ (Or.inr rfl))⟩
  · by_cases e0 : c = 0
    · subst e0; exact h0
    · by_cases e5 : c = 5
      · subst e5; exact h5
      · show LoS L' c (if c = 0 then sl0 else if c = 5 then sl5 else S c)
        rw [if_neg e0, if_neg e5]
        have z := a c hc
        exact ⟨fun i hi => by rw [kL c i (by omega) (by omega)]; exact z.1 i hi, z.2⟩
  · obtain ⟨c1, c2, c3, c4, c5⟩ := hc'
    refine ⟨c1, c2, c3, c4, fun i hi => ?_⟩
    have hi' : i < hs.length := hi
    have c2' : hs.length ≤ 4 := c2
    have p := (c3 i (by omega)).2
    have := c5 i hi
    show CelAt I' A' (ph i) (if ph i = 0 then sl0 else if ph i = 5 then sl5 else S (ph i)) _
    rw [if_neg (by omega), if_neg (by omega)]
    exact this
/-- nothing of the state has changed -/
theorem Cls.same {I A I' A' : M2} {L P : Nat → Nat → Option Nat} {X : XS} (h : Cls I A L P X) (kI : ∀ f y, f = 122 ∨ (f = 21 ∧ y = 0) ∨ ((f = 4 ∨ f = 5 ∨ f = 103) ∧ y ≤ 4) ∨ (43 ≤ f ∧ f ≤ 51 ∧ y < 60) → I' f y = I f y) (kA : ∀ r j, r < 95 ∨ r = 122 → A' r j = A r j) : Cls I' A' L P X := by
  obtain ⟨S, ph, a, b, c, d⟩ := h
  have hS : ∀ c, c ≤ 4 → ∀ i, i < 12 → 12 * c ≤ S c i ∧ S c i < 12 * c + 12 := fun c h1 i hi => ((a c (by omega)).1 i hi).2
  exact ⟨S, ph, a, b.keep (by omega) (hS 0 (by omega)) (fun f x z => kI f x (by unfold inI at z; omega)) (fun r j z => kA r j (by unfold inR at z; omega)), c.keep (fun c _ h2 => hS c h2) (kI _ _ (by omega)) (fun c f x _ h2 z => kI f x (by unfold inI at z; omega)) (fun r j h1 h2 => kA r j (by omega)), d.keep (fun f y e => kI f y (by omega)) (fun j => kA _ _ (Or.inr rfl))⟩
section
variable (q : Nat × (Nat → Int)) {I A : M2} {L P : Nat → Nat → Option Nat} {F G : Nat → Nat → UInt32} {D : MD}
theorem okX.gl {T : Int} {X : XS} (h : okX T X) : ∀ i, i < X.1.1.length → (lt X.1.1 i).2.length ≤ 200 := fun i hi => (h.2.1.1 i hi).1.2.2.2.2.2.2.2.2.2.2
/-- the state is recorded -/
theorem v_record {T : Int} {X : XS} (h : Cls I A L P X) (ho : okX T X) : ∃ I' A' P', rs 102 0 [vR 1 0, vR 0 0, vU] [] (SX q, (I, A, L, P, F, G), D) = some (vU, (SX q, (I', A', L, P', F, G), D)) ∧ Cls I' A' L P' (X.1, recH X.2.1 X.1, X.2.2) ∧ (∀ S, LoS L 0 S → CelAt I A 0 S X.1 → CelAt I' A' 0 S X.1) ∧ FrH I A I' A' := by
  obtain ⟨S, ph, a, b, c, d⟩ := h
  obtain ⟨I', A', P', ph', e, k1, k2, k3⟩ := c_record q (I := I) (A := A) (L := L) (P := P) (F := F) (G := G) (D := D) a b ho.gl c
  exact ⟨I', A', P', e, ⟨S, ph', a, k2, k1, d.keep (fun f y z => k3.1 f y (by omega) (fun c _ _ => by unfold inI; omega)) (fun j => k3.2 _ _ (by omega))⟩, fun S' hL hC => hC.frH k3 (Or.inl rfl) (fun i hi => (hL.1 i hi).2), k3⟩
end
