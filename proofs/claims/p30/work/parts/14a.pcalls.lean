/-! THE CALLS, OF THE k-th OBJECT -/
section
variable {q : Nat × (Nat → Int)} {k : Nat} {μ : Mem} {X : XS} {T : Int}
/-- a call that writes -/
abbrev Cal (q : Nat × (Nat → Int)) (k : Nat) (μ : Mem) (m : Nat) (en : List AV) (a : Int) (X' : XS) : Prop := ∃ μ', rs m 0 en [] μ = some (vI a, μ') ∧ Bl q k μ' X' ∧ Fra k μ μ' ∧ Still μ μ'
theorem p_bring (hk : k ≤ 1) (h : Bl q k μ X) (ho : okX T X) (n o y v al ac : Int) : Cal q k μ 902 [vR 9 k, vI n, vI o, vI y, vI v, vI al, vI ac, vU, vU] (aBring X n o y v al ac).1 (aBring X n o y v al ac).2 :=
  h.call hk (en := [vR 9 0, vI n, vI o, vI y, vI v, vI al, vI ac, vU, vU]) ⟨V9 k, rfl, rfl, rfl, rfl, rfl, rfl, rfl, rfl, trivial⟩ (fun I A L P F G D hC => v_bring q hC ho n o y v al ac)
theorem p_sweeten (hk : k ≤ 1) (h : Bl q k μ X) (ho : okX T X) (l s : Int) : Cal q k μ 903 [vR 9 k, vI l, vI s, vU, vU] (aSweeten X l s).1 (aSweeten X l s).2 :=
  h.call hk (en := [vR 9 0, vI l, vI s, vU, vU]) ⟨V9 k, rfl, rfl, rfl, rfl, trivial⟩ (fun I A L P F G D hC => v_sweeten q hC ho l s)
theorem p_move (hk : k ≤ 1) (h : Bl q k μ X) (ho : okX T X) (l j : Int) : Cal q k μ 904 [vR 9 k, vI l, vI j, vU] (aMove X l j).1 (aMove X l j).2 :=
  h.call hk (en := [vR 9 0, vI l, vI j, vU]) ⟨V9 k, rfl, rfl, rfl, trivial⟩ (fun I A L P F G D hC => v_move q hC ho l j)
theorem p_recipe (hk : k ≤ 1) (h : Bl q k μ X) (ho : okX T X) (l p : Int) : Cal q k μ 909 [vR 9 k, vI l, vI p, vU] (aRecipe X l p).1 (aRecipe X l p).2 :=
  h.call hk (en := [vR 9 0, vI l, vI p, vU]) ⟨V9 k, rfl, rfl, rfl, trivial⟩ (fun I A L P F G D hC => v_recipe q hC ho l p)
theorem p_blend (hk : k ≤ 1) (h : Bl q k μ X) (ho : okX T X) (n j : Int) : Cal q k μ 910 [vR 9 k, vI n, vI j] (aBlend X n j).1 (aBlend X n j).2 :=
  h.call hk (en := [vR 9 0, vI n, vI j]) ⟨V9 k, rfl, rfl, trivial⟩ (fun I A L P F G D hC => v_blend q hC ho n j)
theorem p_score (hk : k ≤ 1) (h : Bl q k μ X) (ho : okX T X) (l t v : Int) : Cal q k μ 914 [vR 9 k, vI l, vI t, vI v, vU] (aScore X l t v).1 (aScore X l t v).2 :=
  h.call hk (en := [vR 9 0, vI l, vI t, vI v, vU]) ⟨V9 k, rfl, rfl, rfl, rfl, trivial⟩ (fun I A L P F G D hC => v_score q hC ho l t v)
theorem p_months (hk : k ≤ 1) (h : Bl q k μ X) (ho : okX T X) (n : Int) : Cal q k μ 917 [vR 9 k, vI n, vU, vU] (aMonths X n).1 (aMonths X n).2 :=
  h.call hk (en := [vR 9 0, vI n, vU, vU]) ⟨V9 k, rfl, rfl, rfl, trivial⟩ (fun I A L P F G D hC => v_months q hC ho n)
theorem p_bottle (hk : k ≤ 1) (h : Bl q k μ X) (ho : okX T X) (l n z : Int) : Cal q k μ 918 [vR 9 k, vI l, vI n, vI z, vU] (aBottle X l n z).1 (aBottle X l n z).2 :=
  h.call hk (en := [vR 9 0, vI l, vI n, vI z, vU]) ⟨V9 k, rfl, rfl, rfl, rfl, trivial⟩ (fun I A L P F G D hC => v_bottle q hC ho l n z)
theorem p_set (hk : k ≤ 1) (h : Bl q k μ X) (ho : okX T X) (x v : Int) : Cal q k μ 919 [vR 9 k, vI x, vI v, vU] (aSet X x v).1 (aSet X x v).2 :=
  h.call hk (en := [vR 9 0, vI x, vI v, vU]) ⟨V9 k, rfl, rfl, rfl, trivial⟩ (fun I A L P F G D hC => v_set q hC ho x v)
theorem p_undo (hk : k ≤ 1) (h : Bl q k μ X) (ho : okX T X) : Cal q k μ 922 [vR 9 k] (aUndo X).1 (aUndo X).2 :=
  h.call hk (en := [vR 9 0]) ⟨V9 k, trivial⟩ (fun I A L P F G D hC => v_undo q hC ho )
theorem p_lot (hk : k ≤ 1) (h : Bl q k μ X) (ho : okX T X) (l x : Int) : rs 905 0 [vR 9 k, vI l, vI x, vU] [] μ = some (vI (aLot X l x), μ) :=
  h.read hk (en := [vR 9 0, vI l, vI x, vU]) ⟨V9 k, rfl, rfl, rfl, trivial⟩ (fun I A L P F G D hC => v_lot q hC ho l x)
theorem p_grain (hk : k ≤ 1) (h : Bl q k μ X) (ho : okX T X) (l g x : Int) : rs 906 0 [vR 9 k, vI l, vI g, vI x, vU] [] μ = some (vI (aGrain X l g x), μ) :=
  h.read hk (en := [vR 9 0, vI l, vI g, vI x, vU]) ⟨V9 k, rfl, rfl, rfl, rfl, trivial⟩ (fun I A L P F G D hC => v_grain q hC ho l g x)
theorem p_account (hk : k ≤ 1) (h : Bl q k μ X) (ho : okX T X) (x : Int) : rs 920 0 [vR 9 k, vI x] [] μ = some (vI (aAccount X x), μ) :=
  h.read hk (en := [vR 9 0, vI x]) ⟨V9 k, rfl, trivial⟩ (fun I A L P F G D hC => v_account q hC ho x)
theorem p_count (hk : k ≤ 1) (h : Bl q k μ X) (ho : okX T X) (x : Int) : rs 921 0 [vR 9 k, vI x] [] μ = some (vI (aCount X x), μ) :=
  h.read hk (en := [vR 9 0, vI x]) ⟨V9 k, rfl, trivial⟩ (fun I A L P F G D hC => v_count q hC ho x)
theorem p_parts (hk : k ≤ 1) (h : Bl q k μ X) (ho : okX T X) (f s x aim : Int) : rs 913 0 [vR 9 k, vI f, vI s, vI x, vI aim, vU, vU, vU] [] μ = some (vI (aParts X f s x aim), μ) :=
  h.read hk (en := [vR 9 0, vI f, vI s, vI x, vI aim, vU, vU, vU]) ⟨V9 k, rfl, rfl, rfl, rfl, rfl, rfl, rfl, trivial⟩ (fun I A L P F G D hC => v_parts q hC ho f s x aim)
theorem p_most (hk : k ≤ 1) (h : Bl q k μ X) (ho : okX T X) : Cal q k μ 912 [vR 9 k] (aMost X) X :=
  h.call hk (en := [vR 9 0]) ⟨V9 k, trivial⟩ (fun I A L P F G D hC => v_most q hC ho)
theorem p_ranked (hk : k ≤ 1) (h : Bl q k μ X) (ho : okX T X) (p : Int) : Cal q k μ 916 [vR 9 k, vI p] (aRanked X p) X :=
  h.call hk (en := [vR 9 0, vI p]) ⟨V9 k, rfl, trivial⟩ (fun I A L P F G D hC => v_ranked q hC ho p)
end
