/-! AT MOST SIX LOTS OF A KIND, SIX IN THE RECIPE -/
def okK (ls : List Lt) : Prop := kndN ls 0 ≤ 6 ∧ kndN ls 1 ≤ 6 ∧ rcpN ls ≤ 6
def okY (X : XS) : Prop := okK X.1.1 ∧ ∀ h ∈ X.2.1, okK h.1
theorem cntL_cons (p : Lt → Prop) [DecidablePred p] (w : Lt) (r : List Lt) : cntU (fun i => p (lt (w :: r) i)) (w :: r).length = (if p w then 1 else 0) + cntU (fun i => p (lt r i)) r.length := by
  have key : ∀ n, cntU (fun i => p (lt (w :: r) i)) (n + 1) = (if p w then 1 else 0) + cntU (fun i => p (lt r i)) n := by
    intro n
    induction n with
    | zero => show 0 + (if p (lt (w :: r) 0) then 1 else 0) = _ + 0; rw [show lt (w :: r) 0 = w from rfl]; omega
    | succ n ih =>
      rw [cntU, ih]
      show _ + (if p (lt (w :: r) (n + 1)) then 1 else 0) = _ + (cntU (fun i => p (lt r i)) n + (if p (lt r n) then 1 else 0))
      rw [show lt (w :: r) (n + 1) = lt r n by unfold lt; simp]
      omega
  exact key r.length
theorem cntL_app (p : Lt → Prop) [DecidablePred p] (a b : List Lt) : cntU (fun i => p (lt (a ++ b) i)) (a ++ b).length = cntU (fun i => p (lt a i)) a.length + cntU (fun i => p (lt b i)) b.length := by
  induction a with
  | nil => show cntU (fun i => p (lt b i)) b.length = 0 + cntU (fun i => p (lt b i)) b.length; omega
  | cons w r ih => rw [List.cons_append, cntL_cons, cntL_cons, ih]; omega
theorem cntL_filter (p : Lt → Prop) [DecidablePred p] (f : Lt → Bool) (ls : List Lt) : cntU (fun i => p (lt (ls.filter f) i)) (ls.filter f).length ≤ cntU (fun i => p (lt ls i)) ls.length := by
  induction ls with
  | nil => exact Int.le_refl _
  | cons w r ih =>
    rw [List.filter_cons, cntL_cons]
    split
    · rw [cntL_cons]; omega
    · split <;> omega
theorem okK.filter {ls : List Lt} (h : okK ls) (f : Lt → Bool) : okK (ls.filter f) :=
  ⟨Int.le_trans (cntL_filter (fun w => w.1 4 = 0) f ls) h.1, Int.le_trans (cntL_filter (fun w => w.1 4 = 1) f ls) h.2.1, Int.le_trans (cntL_filter (fun w => 0 < w.1 5) f ls) h.2.2⟩
/-- lots whose kinds and parts are the same -/
theorem okK.same {a b : List Lt} (h : okK b) (hl : a.length = b.length) (e : ∀ i, i < a.length → (lt a i).1 4 = (lt b i).1 4 ∧ (lt a i).1 5 = (lt b i).1 5) : okK a := by
  obtain ⟨h1, h2, h3⟩ := h
  unfold okK kndN rcpN at *
  rw [← hl] at h1 h2 h3
  exact ⟨Int.le_trans (cnt_mono (fun i hi z => by rw [← (e i hi).1]; exact z)) h1, Int.le_trans (cnt_mono (fun i hi z => by rw [← (e i hi).1]; exact z)) h2, Int.le_trans (cnt_mono (fun i hi z => by rw [← (e i hi).2]; exact z)) h3⟩
theorem cnt_one {p r : Nat → Prop} [DecidablePred p] [DecidablePred r] {i : Nat} : ∀ {n : Nat}, (∀ j, j < n → j ≠ i → p j → r j) → cntU p n ≤ cntU r n + 1 := by
  intro n
  induction n with
  | zero => intro _; show (0 : Int) ≤ 0 + 1; omega
  | succ n ih =>
    intro h
    rw [cntU, cntU]
    by_cases e : n = i
    · have m := cnt_mono (p := p) (r := r) (n := n) (fun j hj z => h j (by omega) (by omega) z)
      split <;> split <;> omega
    · have a := ih (fun j hj => h j (by omega))
      have b := h n (by omega) e
      by_cases z : p n
      · rw [if_pos z, if_pos (b z)]; omega
      · rw [if_neg z]; split <;> omega
theorem okY.chg {X : XS} (h : okY X) {σ' : St} (hk : okK σ'.1) : okY (chg X σ') := by
  refine ⟨hk, fun s hs => ?_⟩
  have hs' : s ∈ (if X.2.1.length = 4 then X.2.1.drop 1 else X.2.1) ++ [X.1] := hs
  rw [List.mem_append] at hs'
  rcases hs' with z | z
  · refine h.2 s ?_
    by_cases e : X.2.1.length = 4
    · rw [if_pos e] at z; exact List.mem_of_mem_drop z
    · rw [if_neg e] at z; exact z
  · rw [List.mem_singleton] at z
    subst z; exact h.1
section
variable {T : Int} {X : XS}
theorem setN_g {ls : List Lt} {i k : Nat} {v : Int} (hi : i < ls.length) (j : Nat) : lt (setN ls i k v) j = if j = i then (sup (lt ls i).1 k v, (lt ls i).2) else lt ls j := lt_set hi
theorem setN_l (ls : List Lt) (i k : Nat) (v : Int) : (setN ls i k v).length = ls.length := by unfold setN; simp
theorem okK.setN {ls : List Lt} (h : okK ls) {i k : Nat} {v : Int} (hi : i < ls.length) (h4 : k ≠ 4) (h5 : k ≠ 5) : okK (setN ls i k v) := by
  refine h.same (setN_l _ _ _ _) (fun j hj => ?_)
  rw [setN_g hi]
  split
  · rename_i e
    subst e
    exact ⟨sup_n (fun z => h4 z.symm), sup_n (fun z => h5 z.symm)⟩
  · exact ⟨rfl, rfl⟩
theorem ky_sweeten (h : okY X) (l s : Int) : okY (aSweeten X l s).2 := by
  unfold aSweeten
  repeat' split
  · exact h.chg (h.1.setN ‹_› (by omega) (by omega))
  · exact h
  · exact h
theorem ky_score (h : okY X) (l t v : Int) : okY (aScore X l t v).2 := by
  unfold aScore
  repeat' split
  · exact h.chg (h.1.setN ‹_› (by omega) (by omega))
  · exact h
  · exact h
theorem ky_move (h : okY X) (l k : Int) : okY (aMove X l k).2 := by
  unfold aMove
  by_cases h1 : 0 ≤ l ∧ 0 ≤ k ∧ k ≤ 1
  · rw [if_pos h1]
    by_cases hf : fnd X.1.1 l < X.1.1.length
    · rw [if_pos hf]
      by_cases h2 : (lt X.1.1 (fnd X.1.1 l)).1 4 = k
      · rw [if_pos h2]; exact h
      · rw [if_neg h2]
        by_cases h3 : 6 ≤ kndN X.1.1 k
        · rw [if_pos h3]; exact h
        · rw [if_neg h3]
          obtain ⟨a, b, c⟩ := h.1
          have kn : ∀ m : Int, (m = k → kndN (setN X.1.1 (fnd X.1.1 l) 4 k) m ≤ kndN X.1.1 m + 1) ∧ (m ≠ k → kndN (setN X.1.1 (fnd X.1.1 l) 4 k) m ≤ kndN X.1.1 m) := fun m => by
            unfold kndN
            rw [setN_l]
            constructor
            · intro _
              exact cnt_one (i := fnd X.1.1 l) (fun j hj hn z => by rw [setN_g hf, if_neg hn] at z; exact z)
            · intro hm
              refine cnt_mono (fun j hj z => ?_)
              rw [setN_g hf] at z
              by_cases e : j = fnd X.1.1 l
              · rw [if_pos e] at z
                have : k = m := z
                exact absurd this.symm hm
              · rw [if_neg e] at z; exact z
          have rn : rcpN (setN X.1.1 (fnd X.1.1 l) 4 k) ≤ rcpN X.1.1 := by
            unfold rcpN
            rw [setN_l]
            refine cnt_mono (fun j hj z => ?_)
            rw [setN_g hf] at z
            by_cases e : j = fnd X.1.1 l
            · rw [if_pos e] at z; subst e; exact z
            · rw [if_neg e] at z; exact z
          refine h.chg ⟨?_, ?_, Int.le_trans rn c⟩
          · show kndN (setN X.1.1 (fnd X.1.1 l) 4 k) 0 ≤ 6
            by_cases e : (0 : Int) = k
            · have := (kn 0).1 e; rw [← e] at h3; rw [← e] at this ⊢; omega
            · have := (kn 0).2 e; omega
          · show kndN (setN X.1.1 (fnd X.1.1 l) 4 k) 1 ≤ 6
            by_cases e : (1 : Int) = k
            · have := (kn 1).1 e; rw [← e] at h3; rw [← e] at this ⊢; omega
            · have := (kn 1).2 e; omega
    · rw [if_neg hf]; exact h
  · rw [if_neg h1]; exact h
theorem ky_recipe (ho : okX T X) (h : okY X) (l p : Int) : okY (aRecipe X l p).2 := by
  unfold aRecipe
  by_cases h1 : 0 ≤ l ∧ 0 ≤ p ∧ p ≤ 20
  · rw [if_pos h1]
    by_cases hf : fnd X.1.1 l < X.1.1.length
    · rw [if_pos hf]
      by_cases h2 : 0 < p ∧ (lt X.1.1 (fnd X.1.1 l)).1 5 = 0 ∧ 6 ≤ rcpN X.1.1
      · rw [if_pos h2]; exact h
      · rw [if_neg h2]
        obtain ⟨a, b, c⟩ := h.1
        have kn : ∀ m : Int, kndN (setN X.1.1 (fnd X.1.1 l) 5 p) m ≤ kndN X.1.1 m := fun m => by
          unfold kndN
          rw [setN_l]
          refine cnt_mono (fun j hj z => ?_)
          rw [setN_g hf] at z
          by_cases e : j = fnd X.1.1 l
          · rw [if_pos e] at z; subst e; exact z
          · rw [if_neg e] at z; exact z
        refine h.chg ⟨Int.le_trans (kn 0) a, Int.le_trans (kn 1) b, ?_⟩
        show rcpN (setN X.1.1 (fnd X.1.1 l) 5 p) ≤ 6
        by_cases e0 : 0 < p ∧ (lt X.1.1 (fnd X.1.1 l)).1 5 = 0
        · have : rcpN (setN X.1.1 (fnd X.1.1 l) 5 p) ≤ rcpN X.1.1 + 1 := by
            unfold rcpN
            rw [setN_l]
            exact cnt_one (i := fnd X.1.1 l) (fun j hj hn z => by rw [setN_g hf, if_neg hn] at z; exact z)
          omega
        · have nn : 0 ≤ (lt X.1.1 (fnd X.1.1 l)).1 5 := (ho.2.1.1 _ hf).1.2.2.2.2.2.1.1
          refine Int.le_trans ?_ c
          unfold rcpN
          rw [setN_l]
          refine cnt_mono (fun j hj z => ?_)
          rw [setN_g hf] at z
          by_cases e : j = fnd X.1.1 l
          · rw [if_pos e] at z
            have z' : 0 < p := z
            subst e
            omega
          · rw [if_neg e] at z; exact z
    · rw [if_neg hf]; exact h
  · rw [if_neg h1]; exact h
theorem okK.snoc {ls : List Lt} (h : okK ls) {w : Lt} {k : Int} (hk : k = 0 ∨ k = 1) (h4 : w.1 4 = k) (h5 : w.1 5 = 0) (hl : kndN ls k + 1 ≤ 6) : okK (ls ++ [w]) := by
  obtain ⟨a, b, c⟩ := h
  have e0 := cntL_app (fun w => w.1 4 = 0) ls [w]
  have e1 := cntL_app (fun w => w.1 4 = 1) ls [w]
  have e2 := cntL_app (fun w => 0 < w.1 5) ls [w]
  have s0 : cntU (fun i => (lt [w] i).1 4 = 0) [w].length = if w.1 4 = 0 then 1 else 0 := by show 0 + _ = _; rw [Int.zero_add]; rfl
  have s1 : cntU (fun i => (lt [w] i).1 4 = 1) [w].length = if w.1 4 = 1 then 1 else 0 := by show 0 + _ = _; rw [Int.zero_add]; rfl
  have s2 : cntU (fun i => 0 < (lt [w] i).1 5) [w].length = if 0 < w.1 5 then 1 else 0 := by show 0 + _ = _; rw [Int.zero_add]; rfl
  rw [h4] at s0 s1
  rw [h5, if_neg (by omega)] at s2
  unfold okK kndN rcpN at *
  rcases hk with rfl | rfl
  · rw [if_pos rfl] at s0
    rw [if_neg (by omega)] at s1
    omega
  · rw [if_neg (by omega)] at s0
    rw [if_pos rfl] at s1
    omega
theorem ky_bring (h : okY X) (n o y v al ac : Int) : okY (aBring X n o y v al ac).2 := by
  unfold aBring
  by_cases h1 : (1 ≤ n ∧ n ≤ 10000) ∧ (0 ≤ al ∧ al ≤ 2000) ∧ (0 ≤ ac ∧ ac ≤ 200) ∧ (0 ≤ o ∧ o ≤ 7) ∧ (2000 ≤ y ∧ y ≤ 2063) ∧ 0 ≤ v ∧ v ≤ 9
  · rw [if_pos h1]
    by_cases h2 : 12 ≤ X.1.1.length ∨ 6 ≤ kndN X.1.1 0 ∨ 200 ≤ allG X.1.1
    · rw [if_pos h2]; exact h
    · rw [if_neg h2]
      exact h.chg (h.1.snoc (k := 0) (Or.inl rfl) rfl rfl (by omega))
  · rw [if_neg h1]; exact h
theorem okK.rest (h : okK X.1.1) (n : Int) : okK (restS n X.1).1 := by
  refine okK.filter (ls := restA (shL n X.1.1) X.1.1) (h.same (by simp [restA]) (fun i hi => ?_)) full
  have hi' : i < X.1.1.length := by simpa [restA] using hi
  unfold restA
  rw [lt_map hi']
  unfold tkL
  split <;> exact ⟨rfl, rfl⟩
theorem ky_blend (h : okY X) (n k : Int) : okY (aBlend X n k).2 := by
  unfold aBlend
  by_cases h1 : (1 ≤ n ∧ n ≤ 10000) ∧ 0 ≤ k ∧ k ≤ 1
  · rw [if_pos h1]
    by_cases hm : mkOk X n
    · rw [if_pos hm]
      by_cases hb : brm (mixW n X.1) X.1.2.1 X.1.2.1.length = 0
      · rw [if_pos hb]
        by_cases hfi : fitOk X n k
        · rw [if_pos hfi]
          exact h.chg ((h.1.rest n).snoc (k := k) (by omega) rfl rfl hfi.2.1)
        · rw [if_neg hfi]; exact h
      · rw [if_neg hb]; exact h
    · rw [if_neg hm]; exact h
  · rw [if_neg h1]; exact h
theorem ky_months (h : okY X) (m : Int) : okY (aMonths X m).2 := by
  unfold aMonths
  by_cases h1 : 1 ≤ m ∧ m ≤ 60
  · rw [if_pos h1]
    have keep : ∀ k, okK (monLs (X.1.2.2.1 2) X.1.1 k) := by
      intro k
      induction k with
      | zero => exact h.1
      | succ k ih =>
        refine ih.same (by rw [monLs, List.length_map]) (fun i hi => ?_)
        have hi' : i < (monLs (X.1.2.2.1 2) X.1.1 k).length := by rw [monLs, List.length_map] at hi; exact hi
        rw [lt_eq hi, lt_eq hi']
        simp only [monLs, List.getElem_map]
        unfold monL
        split <;> exact ⟨rfl, rfl⟩
    exact h.chg (keep _)
  · rw [if_neg h1]; exact h
theorem ky_bottle (h : okY X) (l n z : Int) : okY (aBottle X l n z).2 := by
  unfold aBottle
  by_cases h1 : 0 ≤ l ∧ (1 ≤ n ∧ n ≤ 10000) ∧ 10 ≤ z ∧ z ≤ 300
  · rw [if_pos h1]
    by_cases hf : fnd X.1.1 l < X.1.1.length
    · rw [if_pos hf]
      by_cases h2 : n ≤ gsum (lt X.1.1 (fnd X.1.1 l)).2 ∧ brm (lt X.1.1 (fnd X.1.1 l)) X.1.2.1 X.1.2.1.length = 0
      · rw [if_pos h2]
        refine h.chg (okK.filter (ls := X.1.1.set (fnd X.1.1 l) ((lt X.1.1 (fnd X.1.1 l)).1, takeG (lt X.1.1 (fnd X.1.1 l)).2 n)) (h.1.same (by simp) (fun i hi => ?_)) full)
        rw [lt_set hf]
        split
        · rename_i e; rw [e]; exact ⟨rfl, rfl⟩
        · exact ⟨rfl, rfl⟩
      · rw [if_neg h2]; exact h
    · rw [if_neg hf]; exact h
  · rw [if_neg h1]; exact h
theorem ky_set (h : okY X) (x v : Int) : okY (aSet X x v).2 := by
  unfold aSet
  split
  · exact h.chg h.1
  · exact h
theorem ky_undo (h : okY X) : okY (aUndo X).2 := by
  unfold aUndo
  by_cases h1 : X.2.1.length = 0
  · rw [if_pos h1]; exact h
  · rw [if_neg h1]
    have hl : (X.2.1.getD (X.2.1.length - 1) s0) ∈ X.2.1 := by
      rw [List.getD_eq_getElem?_getD, List.getElem?_eq_getElem (by omega)]
      exact List.getElem_mem _
    exact ⟨h.2 _ hl, fun s hs => h.2 s (List.dropLast_subset _ hs)⟩
theorem ky_dropRule (h : okY X) (r : Int) : okY (aDropRule X r).2 := by
  unfold aDropRule
  repeat' split
  · exact h.chg h.1
  · exact h
  · exact h
theorem ky_type (h : okY X) (c : Int) : okY (aType X c).2 := by
  unfold aType
  repeat' split
  · exact h
  · exact h
  · exact h
end
