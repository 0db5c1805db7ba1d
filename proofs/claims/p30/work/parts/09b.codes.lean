/-! THE TEXT: the code at a place, one character passed, one appended -/
def txC (tx : List Int) (i : Int) : Int := if 0 ≤ i ∧ i < tx.length then tx.getD i.toNat 0 else 0
/-- the text of the class -/
def TxAt (I A : M2) (tx : List Int) : Prop := I 122 0 = tx.length ∧ tx.length ≤ 100 ∧ ∀ j, j < tx.length → A 122 j = tx.getD j 0
section
variable (q : Nat × (Nat → Int)) {I A : M2} {L P : Nat → Nat → Option Nat} {F G : Nat → Nat → UInt32} {D : MD} {tx : List Int}
theorem TxAt.keep {I' A' : M2} (h : TxAt I A tx) (k : ∀ f y, f = 122 → I' f y = I f y) (k2 : ∀ j, A' 122 j = A 122 j) : TxAt I' A' tx := ⟨(k _ _ rfl).trans h.1, h.2.1, fun j hj => (k2 j).trans (h.2.2 j hj)⟩
end
