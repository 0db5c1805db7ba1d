/-! BLENDING: the lots on the way -/
theorem rIx_pre {ls : List Lt} {n : Nat} : ∀ (d : Nat), ∃ r, rIx ls (n + d) = rIx ls n ++ r := by
  intro d
  induction d with
  | zero => exact ⟨[], by simp⟩
  | succ d ih =>
    obtain ⟨r, e⟩ := ih
    rw [show n + (d + 1) = (n + d) + 1 by omega, rIx_s, e]
    split
    · exact ⟨r ++ [n + d], by rw [List.append_assoc]⟩
    · exact ⟨r, rfl⟩
theorem rIx_at {ls : List Lt} {n : Nat} (hn : n < ls.length) (h : 0 < (lt ls n).1 5) : (rIx ls ls.length).getD (rIx ls n).length 0 = n ∧ (rIx ls n).length < (rIx ls ls.length).length := by
  obtain ⟨d, e⟩ := Nat.exists_eq_add_of_le (show n + 1 ≤ ls.length by omega)
  obtain ⟨r, er⟩ := rIx_pre (ls := ls) (n := n + 1) d
  rw [e, er, rIx_s, if_pos h]
  refine ⟨?_, by simp⟩
  rw [List.append_assoc, List.getD_eq_getElem?_getD, List.getElem?_append_right (Nat.le_refl _), Nat.sub_self]
  rfl
/-- lots below n have given their part, the new one is behind them -/
def midL (p : Nat → Int) (ls : List Lt) (d : Nat → Int) (n : Nat) : List Lt := (List.range ls.length).map (fun j => if j < n then tkL p ls j else lt ls j) ++ [(d, mixA p ls n)]
theorem midL_len (p : Nat → Int) (ls : List Lt) (d : Nat → Int) (n : Nat) : (midL p ls d n).length = ls.length + 1 := by simp [midL]
theorem midL_lt {p : Nat → Int} {ls : List Lt} {d : Nat → Int} {n j : Nat} (h : j < ls.length) : lt (midL p ls d n) j = if j < n then tkL p ls j else lt ls j := by
  unfold midL
  rw [lt_snoc, if_pos (by simp; exact h)]
  exact lt_map h
theorem midL_new (p : Nat → Int) (ls : List Lt) (d : Nat → Int) (n : Nat) : lt (midL p ls d n) ls.length = (d, mixA p ls n) := by
  unfold midL
  rw [lt_snoc, if_neg (by simp), if_pos (by simp)]
theorem midL_0 (p : Nat → Int) (ls : List Lt) (d : Nat → Int) : midL p ls d 0 = ls ++ [(d, [])] := lt_ext (by rw [midL_len]; simp) (fun j hj => by
  rw [midL_len] at hj
  by_cases z : j < ls.length
  · rw [midL_lt z, if_neg (Nat.not_lt_zero _), lt_snoc, if_pos z]
  · have e : j = ls.length := by omega
    subst e
    rw [midL_new, lt_snoc, if_neg (Nat.lt_irrefl _), if_pos rfl]; rfl)
/-- a lot that gives nothing -/
theorem midL_no {p : Nat → Int} {ls : List Lt} {d : Nat → Int} {n : Nat} (hn : n < ls.length) (h : ¬ 0 < p n) : midL p ls d (n + 1) = midL p ls d n := lt_ext (by rw [midL_len, midL_len]) (fun j hj => by
  rw [midL_len] at hj
  by_cases z : j < ls.length
  · rw [midL_lt z, midL_lt z]
    by_cases e : j = n
    · subst e
      rw [if_pos (by omega), if_neg (Nat.lt_irrefl _)]
      unfold tkL
      rw [if_neg h]
    · by_cases c : j < n
      · rw [if_pos (by omega), if_pos c]
      · rw [if_neg (by omega), if_neg c]
  · have e : j = ls.length := by omega
    subst e
    rw [midL_new, midL_new, mixA, if_neg h])
/-- a lot that gives its part -/
theorem midL_yes {p : Nat → Int} {ls : List Lt} {d : Nat → Int} {n : Nat} (hn : n < ls.length) (h : 0 < p n) : midL p ls d (n + 1) = inL (midL p ls d n) n ls.length (p n) := lt_ext (by unfold inL; rw [List.length_set, List.length_set, midL_len, midL_len]) (fun j hj => by
  rw [midL_len] at hj
  have en : lt (midL p ls d n) n = lt ls n := by rw [midL_lt hn, if_neg (Nat.lt_irrefl _)]
  unfold inL
  rw [en, midL_new, lt_set (by rw [List.length_set, midL_len]; omega), lt_set (by rw [midL_len]; omega)]
  by_cases z : j < ls.length
  · rw [if_neg (by omega), midL_lt z, midL_lt z]
    by_cases e : j = n
    · subst e
      rw [if_pos (by omega), if_pos rfl]
      unfold tkL
      rw [if_pos h]
    · rw [if_neg e]
      by_cases c : j < n
      · rw [if_pos (by omega), if_pos c]
      · rw [if_neg (by omega), if_neg c]
  · have e : j = ls.length := by omega
    subst e
    rw [if_pos rfl, midL_new, mixA, if_pos h])
