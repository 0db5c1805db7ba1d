/-! STATES STAY IN ORDER -/
theorem lt_eq {ls : List Lt} {i : Nat} (h : i < ls.length) : lt ls i = ls[i] := by
  unfold lt
  rw [List.getD_eq_getElem?_getD, List.getElem?_eq_getElem h]
  rfl
theorem lt_mem {ls : List Lt} {p : Lt → Prop} : (∀ i, i < ls.length → p (lt ls i)) ↔ ∀ w ∈ ls, p w := by
  constructor
  · intro h w hw
    obtain ⟨i, hi, e⟩ := List.getElem_of_mem hw
    have := h i hi
    rw [lt_eq hi, e] at this
    exact this
  · intro h i hi
    rw [lt_eq hi]
    exact h _ (List.getElem_mem hi)
abbrev upW (ls : List Lt) : Prop := ls.Pairwise (fun a b => a.1 0 < b.1 0)
theorem up_iff {ls : List Lt} : (∀ i j, i < j → j < ls.length → (lt ls i).1 0 < (lt ls j).1 0) ↔ upW ls := by
  unfold upW
  rw [List.pairwise_iff_getElem]
  constructor
  · intro h i j hi hj hij
    have := h i j hij hj
    rw [lt_eq hi, lt_eq hj] at this
    exact this
  · intro h i j hij hj
    rw [lt_eq (show i < ls.length by omega), lt_eq hj]
    exact h i j (by omega) hj hij
theorem allG_cons (w : Lt) (r : List Lt) : allG (w :: r) = w.2.length + allG r := by
  unfold allG
  rw [List.length_cons, sumU_sh]
  rfl
theorem allG_nn (ls : List Lt) : 0 ≤ allG ls := by
  induction ls with
  | nil => exact Int.le_refl _
  | cons w r ih => rw [allG_cons]; omega
theorem allG_app (a b : List Lt) : allG (a ++ b) = allG a + allG b := by
  induction a with
  | nil => show allG b = 0 + allG b; omega
  | cons w r ih => rw [List.cons_append, allG_cons, allG_cons, ih]; omega
theorem allG_filter (p : Lt → Bool) (ls : List Lt) : allG (ls.filter p) ≤ allG ls := by
  induction ls with
  | nil => exact Int.le_refl _
  | cons w r ih =>
    rw [List.filter_cons, allG_cons]
    split
    · rw [allG_cons]; omega
    · omega
theorem sumU_ll {f g : Nat → Int} {n : Nat} (h : ∀ i, i < n → f i ≤ g i) : sumU f n ≤ sumU g n := by
  induction n with
  | zero => exact Int.le_refl _
  | succ n ih =>
    have := ih (fun i hi => h i (by omega))
    have := h n (by omega)
    rw [sumU, sumU]
    omega
theorem allG_le {a b : List Lt} (hl : a.length = b.length) (h : ∀ i, i < a.length → (lt a i).2.length ≤ (lt b i).2.length) : allG a ≤ allG b := by
  unfold allG
  rw [← hl]
  exact sumU_ll (fun i hi => by have := h i hi; omega)
/-- the lots' part -/
def okA (T : Int) (ls : List Lt) (nx : Int) : Prop := okLs ls ∧ ls.length ≤ 12 ∧ allG ls ≤ 200 ∧ (0 ≤ nx ∧ nx ≤ T) ∧ (∀ w ∈ ls, w.1 0 < nx) ∧ upW ls
theorem okS.lots {T : Int} {σ : St} (h : okS T σ) : okA T σ.1 σ.2.2.2.2 := ⟨h.1, h.2.1, h.2.2.1, h.2.2.2.2.2.1, lt_mem.mp h.2.2.2.2.2.2.1, up_iff.mp h.2.2.2.2.2.2.2⟩
theorem okS.mk {T : Int} {ls : List Lt} {ru : List Ru} {st ac : Nat → Int} {nx : Int} (h : okA T ls nx) (h1 : okSt st) (h2 : (∀ r ∈ ru, okR r) ∧ ru.length ≤ 8) : okS T (ls, ru, st, ac, nx) := ⟨h.1, h.2.1, h.2.2.1, h1, h2, h.2.2.2.1, lt_mem.mpr h.2.2.2.2.1, up_iff.mpr h.2.2.2.2.2⟩
theorem okA.wk {T T' : Int} {ls : List Lt} {nx : Int} (h : okA T ls nx) (t : T ≤ T') : okA T' ls nx := ⟨h.1, h.2.1, h.2.2.1, ⟨h.2.2.2.1.1, Int.le_trans h.2.2.2.1.2 t⟩, h.2.2.2.2⟩
theorem okS.wk {T T' : Int} {σ : St} (h : okS T σ) (t : T ≤ T') : okS T' σ := ⟨h.1, h.2.1, h.2.2.1, h.2.2.2.1, h.2.2.2.2.1, ⟨h.2.2.2.2.2.1.1, Int.le_trans h.2.2.2.2.2.1.2 t⟩, h.2.2.2.2.2.2⟩
theorem okX.wk {T T' : Int} {X : XS} (h : okX T X) (t : T ≤ T') (t2 : T' ≤ 100000) : okX T' X := ⟨t2, h.2.1.wk t, fun s hs => (h.2.2.1 s hs).wk t, h.2.2.2⟩
theorem okX.chg {T T' : Int} {X : XS} {σ' : St} (h : okX T X) (t : T ≤ T') (t2 : T' ≤ 100000) (hs : okS T' σ') : okX T' (chg X σ') := by
  obtain ⟨-, a, b, c, d⟩ := h
  refine ⟨t2, hs, fun s hs => ?_, ?_, d⟩
  · have hs' : s ∈ (if X.2.1.length = 4 then X.2.1.drop 1 else X.2.1) ++ [X.1] := hs
    rw [List.mem_append] at hs'
    rcases hs' with z | z
    · refine (b s ?_).wk t
      by_cases e : X.2.1.length = 4
      · rw [if_pos e] at z; exact List.mem_of_mem_drop z
      · rw [if_neg e] at z; exact z
    · rw [List.mem_singleton] at z
      subst z; exact a.wk t
  · show ((if X.2.1.length = 4 then X.2.1.drop 1 else X.2.1) ++ [X.1]).length ≤ 4
    rw [List.length_append]
    by_cases e : X.2.1.length = 4
    · rw [if_pos e, List.length_drop]; simp; omega
    · rw [if_neg e]; simp; omega
theorem okA.set {T : Int} {ls : List Lt} {nx : Int} (h : okA T ls nx) {i : Nat} (hi : i < ls.length) {w : Lt} (h1 : okL w ∧ 0 < gsum w.2) (h0 : w.1 0 = (lt ls i).1 0) (hl : w.2.length ≤ (lt ls i).2.length) : okA T (ls.set i w) nx := by
  obtain ⟨a, b, c, d, e, f⟩ := h
  have e' := lt_mem.mpr e
  have f' := up_iff.mpr f
  refine ⟨fun j hj => ?_, by simpa using b, Int.le_trans (allG_le (by simp) (fun j hj => ?_)) c, d, lt_mem.mp (fun j hj => ?_), up_iff.mp (fun j k hjk hk => ?_)⟩
  · rw [lt_set hi]
    split
    · exact h1
    · exact a j (by simpa using hj)
  · rw [lt_set hi]
    split
    · rename_i z; rw [z]; exact hl
    · exact Nat.le_refl _
  · rw [lt_set hi]
    split
    · rw [h0]; exact e' i hi
    · exact e' j (by simpa using hj)
  · have hk' : k < ls.length := by simpa using hk
    have := f' j k hjk hk'
    rw [lt_set hi, lt_set hi]
    by_cases z1 : j = i <;> by_cases z2 : k = i
    · omega
    · rw [if_pos z1, if_neg z2, h0, ← z1]; exact this
    · rw [if_neg z1, if_pos z2, h0, ← z2]; exact this
    · rw [if_neg z1, if_neg z2]; exact this
theorem okA.filter {T : Int} {ls : List Lt} {nx : Int} (h1 : ls.length ≤ 12) (h2 : allG ls ≤ 200) (h3 : 0 ≤ nx ∧ nx ≤ T) (h4 : ∀ w ∈ ls, w.1 0 < nx) (h5 : upW ls) (h6 : ∀ w ∈ ls, 0 < gsum w.2 → okL w) : okA T (dropL ls) nx := by
  refine ⟨?_, Nat.le_trans (List.length_filter_le _ _) h1, Int.le_trans (allG_filter _ _) h2, h3, fun w hw => ?_, List.Pairwise.filter _ h5⟩
  · rw [okLs_mem]
    intro w hw
    have := List.mem_filter.mp hw
    have g : 0 < gsum w.2 := by simpa [full] using this.2
    exact ⟨h6 w this.1 g, g⟩
  · exact h4 w (List.mem_filter.mp hw).1
theorem okA.snoc {T : Int} {ls : List Lt} {nx : Int} (h : okA T ls nx) {w : Lt} (hl : ls.length < 12) (hg : allG ls + w.2.length ≤ 200) (h1 : okL w ∧ 0 < gsum w.2) (h0 : w.1 0 = nx) : okA (T + 1) (ls ++ [w]) (nx + 1) := by
  obtain ⟨a, b, c, d, e, f⟩ := h
  refine ⟨?_, by simp; omega, ?_, ⟨by omega, by omega⟩, fun v hv => ?_, ?_⟩
  · rw [okLs_mem] at a ⊢
    intro v hv
    rw [List.mem_append, List.mem_singleton] at hv
    rcases hv with z | z
    · exact a v z
    · subst z; exact h1
  · rw [allG_app, allG_cons]
    show allG ls + (w.2.length + 0) ≤ 200
    omega
  · rw [List.mem_append, List.mem_singleton] at hv
    rcases hv with z | z
    · have := e v z; omega
    · subst z; omega
  · unfold upW
    rw [List.pairwise_append]
    refine ⟨f, List.pairwise_singleton _ _, fun x hx y hy => ?_⟩
    rw [List.mem_singleton] at hy
    subst hy
    rw [h0]
    exact e x hx
