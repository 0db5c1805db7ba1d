/-! SHARING AMONG THE RECIPE'S LOTS = SHARING AMONG ALL -/
theorem rIx_lt {ls : List Lt} {n k : Nat} (hk : k < (rIx ls n).length) : (rIx ls n).getD k 0 < n ∧ 0 < (lt ls ((rIx ls n).getD k 0)).1 5 := by
  rw [List.getD_eq_getElem?_getD, List.getElem?_eq_getElem hk]
  have := List.getElem_mem hk
  unfold rIx at this
  rw [List.mem_filter, List.mem_range] at this
  exact ⟨this.1, of_decide_eq_true this.2⟩
theorem rIx_mono {ls : List Lt} {n j k : Nat} (hjk : j < k) (hk : k < (rIx ls n).length) : (rIx ls n).getD j 0 < (rIx ls n).getD k 0 := by
  have p : (rIx ls n).Pairwise (· < ·) := List.pairwise_lt_range.filter _
  rw [List.getD_eq_getElem?_getD, List.getD_eq_getElem?_getD, List.getElem?_eq_getElem hk, List.getElem?_eq_getElem (show j < (rIx ls n).length by omega)]
  exact List.pairwise_iff_getElem.mp p j k _ _ hjk
theorem rIx_ap {ls : List Lt} {n k : Nat} (h : 0 < (lt ls n).1 5) : (rIx ls (n + 1)).getD k 0 = if k < (rIx ls n).length then (rIx ls n).getD k 0 else if k = (rIx ls n).length then n else 0 := by
  rw [rIx_s, if_pos h, List.getD_eq_getElem?_getD]
  by_cases c : k < (rIx ls n).length
  · rw [if_pos c, List.getElem?_append_left c, List.getD_eq_getElem?_getD]
  · rw [if_neg c, List.getElem?_append_right (by omega)]
    by_cases e : k = (rIx ls n).length
    · rw [if_pos e, e, Nat.sub_self]; rfl
    · rw [if_neg e, List.getElem?_eq_none (by simp; omega)]; rfl
theorem sum_rIx {ls : List Lt} {F : Nat → Int} : ∀ {n : Nat}, (∀ i, i < n → ¬ 0 < (lt ls i).1 5 → F i = 0) → sumU F n = sumU (fun k => F ((rIx ls n).getD k 0)) (rIx ls n).length := by
  intro n
  induction n with
  | zero => intro _; rfl
  | succ n ih =>
    intro h
    have e := ih (fun i hi => h i (by omega))
    by_cases c : 0 < (lt ls n).1 5
    · have el : (rIx ls (n + 1)).length = (rIx ls n).length + 1 := by rw [rIx_s, if_pos c]; simp
      rw [el]
      show sumU F n + F n = sumU _ (rIx ls n).length + F ((rIx ls (n + 1)).getD (rIx ls n).length 0)
      rw [rIx_ap c, if_neg (Nat.lt_irrefl _), if_pos rfl, e]
      have : sumU (fun k => F ((rIx ls n).getD k 0)) (rIx ls n).length = sumU (fun k => F ((rIx ls (n + 1)).getD k 0)) (rIx ls n).length := sumU_congr (fun k hk => by rw [rIx_ap c, if_pos hk])
      rw [this]
    · rw [rIx_s, if_neg c]
      show sumU F n + F n = _
      rw [h n (by omega) c, Int.add_zero, e]
theorem cnt_sum (p : Nat → Prop) [DecidablePred p] (n : Nat) : cntU p n = sumU (fun i => b01 (p i)) n := by
  induction n with
  | zero => rfl
  | succ n ih => unfold cntU sumU; rw [ih]; rfl
theorem cnt_rIx {ls : List Lt} {p : Nat → Prop} [DecidablePred p] {n : Nat} (h : ∀ i, i < n → p i → 0 < (lt ls i).1 5) : cntU p n = cntU (fun k => p ((rIx ls n).getD k 0)) (rIx ls n).length := by
  rw [cnt_sum, cnt_sum, sum_rIx (ls := ls) (fun i hi z => b01_f (fun y => z (h i hi y)))]
section
variable {n : Int} {W : Nat → Int} {m : Nat}
/-- nothing over: only the whole part -/
theorem shr_R0 (hS : 0 < sumU W m) {j : Nat} (h0 : fR n W m j = 0) : shr n W m j = fS n W m j := by
  have fr := fun i => fR_r (n := n) (W := W) (m := m) hS i
  have c1 : sumU (fR n W m) m ≤ sumU W m * cntU (fun i => 0 < fR n W m i) m := sum_cnt (fun i _ => by have := fr i; omega)
  have c2 : cntU (fun i => 0 < fR n W m i) m ≤ fK n W m j := by
    unfold fK
    exact cnt_mono (fun i _ z => Or.inl (by omega))
  rw [← fL_eq] at c1
  have c3 : fL n W m ≤ cntU (fun i => 0 < fR n W m i) m := Int.le_of_mul_le_mul_left c1 hS
  unfold shr
  rw [b01_f (by omega), Int.add_zero]
end
/-- the recipe's lots, in place of all -/
theorem shr_rIx {ls : List Lt} (hw : ∀ i, i < ls.length → 0 ≤ (lt ls i).1 5) (hS : 0 < sumU (wtL ls) ls.length) (n : Int) :
    sumU (fun k => wtL ls ((rIx ls ls.length).getD k 0)) (rIx ls ls.length).length = sumU (wtL ls) ls.length ∧
    (∀ k, k < (rIx ls ls.length).length → shr n (fun k => wtL ls ((rIx ls ls.length).getD k 0)) (rIx ls ls.length).length k = shL n ls ((rIx ls ls.length).getD k 0)) ∧ ∀ i, i < ls.length → ¬ 0 < (lt ls i).1 5 → shL n ls i = 0 := by
  have z : ∀ i, i < ls.length → ¬ 0 < (lt ls i).1 5 → wtL ls i = 0 := fun i hi h => by have := hw i hi; unfold wtL; omega
  have e1 : sumU (fun k => wtL ls ((rIx ls ls.length).getD k 0)) (rIx ls ls.length).length = sumU (wtL ls) ls.length := (sum_rIx z).symm
  have hS' : 0 < sumU (fun k => wtL ls ((rIx ls ls.length).getD k 0)) (rIx ls ls.length).length := by rw [e1]; exact hS
  have es : ∀ k, fS n (fun k => wtL ls ((rIx ls ls.length).getD k 0)) (rIx ls ls.length).length k = fS n (wtL ls) ls.length ((rIx ls ls.length).getD k 0) := fun k => by unfold fS; rw [e1]
  have er : ∀ k, fR n (fun k => wtL ls ((rIx ls ls.length).getD k 0)) (rIx ls ls.length).length k = fR n (wtL ls) ls.length ((rIx ls ls.length).getD k 0) := fun k => by unfold fR; rw [e1]
  have zs : ∀ i, i < ls.length → ¬ 0 < (lt ls i).1 5 → fS n (wtL ls) ls.length i = 0 := fun i hi h => by unfold fS; rw [z i hi h]; simp
  have zr : ∀ i, i < ls.length → ¬ 0 < (lt ls i).1 5 → fR n (wtL ls) ls.length i = 0 := fun i hi h => by unfold fR; rw [z i hi h]; simp
  have el : fL n (fun k => wtL ls ((rIx ls ls.length).getD k 0)) (rIx ls ls.length).length = fL n (wtL ls) ls.length := by
    unfold fL
    rw [sum_rIx zs]
    have : sumU (fS n (fun k => wtL ls ((rIx ls ls.length).getD k 0)) (rIx ls ls.length).length) (rIx ls ls.length).length = sumU (fun k => fS n (wtL ls) ls.length ((rIx ls ls.length).getD k 0)) (rIx ls ls.length).length := sumU_congr (fun k _ => es k)
    rw [this]
  refine ⟨e1, fun k hk => ?_, fun i hi h => ?_⟩
  · unfold shL
    by_cases h0 : fR n (wtL ls) ls.length ((rIx ls ls.length).getD k 0) = 0
    · rw [shr_R0 hS h0, shr_R0 hS' (by rw [er]; exact h0), es]
    · have rp := (fR_r (n := n) (W := wtL ls) (m := ls.length) hS ((rIx ls ls.length).getD k 0)).1
      unfold shr
      rw [es, el]
      have ek : fK n (fun k => wtL ls ((rIx ls ls.length).getD k 0)) (rIx ls ls.length).length k = fK n (wtL ls) ls.length ((rIx ls ls.length).getD k 0) := by
        unfold fK
        rw [cnt_rIx (ls := ls) (n := ls.length) (fun i hi y => by
          refine Classical.byContradiction (fun c => ?_)
          have := zr i hi c
          rcases y with y | y <;> omega)]
        refine cnt_congr (fun i hi => ?_)
        rw [er, er]
        have mono : i < k ↔ (rIx ls ls.length).getD i 0 < (rIx ls ls.length).getD k 0 := by
          constructor
          · intro a; exact rIx_mono a hk
          · intro a
            refine Classical.byContradiction (fun c => ?_)
            rcases Nat.lt_or_ge k i with b | b
            · have := rIx_mono b hi; omega
            · have : i = k := by omega
              subst this; omega
        rw [mono]
      rw [ek]
  · unfold shL
    rw [shr_R0 hS (zr i hi h)]
    exact zs i hi h
