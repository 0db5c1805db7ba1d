/-! RULES: copy, append, remove, has -/
def FrR (c : Nat) (I A I' A' : M2) : Prop := (∀ f x, ¬ (f = 103 ∧ x = c) → I' f x = I f x) ∧ ∀ r j, r ≠ rr c → r ≠ rr c + 1 → r ≠ rr c + 2 → A' r j = A r j
theorem rr_ne2 : ∀ r, r < 7 → ∀ r', r' < 7 → r ≠ r' → (rr r + 2 < rr r' ∨ rr r' + 2 < rr r) := by decide +kernel
theorem rr_ne {r r' a a' : Nat} (h : r < 7) (h' : r' < 7) (ha : a < 3) (ha' : a' < 3) (hn : ¬ (r = r' ∧ a = a')) : rr r + a ≠ rr r' + a' := by
  by_cases e : r = r'
  · subst e; omega
  · have := rr_ne2 r h r' h' e
    omega
section
variable (q : Nat × (Nat → Int)) {I A : M2} {L P : Nat → Nat → Option Nat} {F G : Nat → Nat → UInt32} {D : MD} {l c : Nat} {w : Lt} {ru : List Ru}
theorem c_rcopy {s : Nat} (hc : c < 7) (hs : s < 7) (hn : c ≠ s) (h : RulesAt I A s ru) : ∃ I' A', rs 502 0 [vR 5 c, vR 5 s] [] (SX q, (I, A, L, P, F, G), D) = some (vU, (SX q, (I', A', L, P, F, G), D)) ∧ RulesAt I' A' c ru ∧ FrR c I A I' A' := by
  obtain ⟨h1, h2, h3⟩ := h
  have a1 := len_r c hc
  have a2 := len_r s hs
  have n1 := rr_ne (a := 0) (a' := 0) hc hs (by omega) (by omega) (by omega)
  have n2 := rr_ne (a := 0) (a' := 1) hc hs (by omega) (by omega) (by omega)
  have n3 := rr_ne (a := 0) (a' := 2) hc hs (by omega) (by omega) (by omega)
  have n4 := rr_ne (a := 1) (a' := 1) hc hs (by omega) (by omega) (by omega)
  have n5 := rr_ne (a := 1) (a' := 2) hc hs (by omega) (by omega) (by omega)
  refine ⟨up2 I 103 c ru.length, rcpy (rcpy (rcpy A (rr s) (rr c) ru.length) (rr s + 1) (rr c + 1) ru.length) (rr s + 2) (rr c + 2) ru.length, ?_, ⟨up2_eq, h2, fun j hj => ?_⟩, fun f x z => up2_ne z, fun r j x y z => ?_⟩
  · simp only [s502_0, s502_1, s502_4, s502_5, s502_8, s502_9, s502_12, unJ_I, unJ_J, unJ_F, unJ_R, unJ_N, unJ_U, pushR_I, pushR_J, pushR_F, pushR_R, pushR_N, pushR_U, rfV_s, rfV_n, Option.bind_some, true_or, or_true, if_true, h1]
    rw [c_copy q I A L P F G D (by omega) (by omega)]
    simp only [s502_15, s502_16, s502_19, s502_20, s502_23, s502_24, s502_27, unJ_I, unJ_J, unJ_F, unJ_R, unJ_N, unJ_U, pushR_I, pushR_J, pushR_F, pushR_R, pushR_N, pushR_U, rfV_s, rfV_n, Option.bind_some, true_or, or_true, if_true, h1]
    rw [c_copy q I _ L P F G D (by omega) (by omega)]
    simp only [s502_30, s502_31, s502_34, s502_35, s502_38, s502_39, s502_42, unJ_I, unJ_J, unJ_F, unJ_R, unJ_N, unJ_U, pushR_I, pushR_J, pushR_F, pushR_R, pushR_N, pushR_U, rfV_s, rfV_n, Option.bind_some, true_or, or_true, if_true, h1]
    rw [c_copy q I _ L P F G D (by omega) (by omega)]
    simp only [s502_45, s502_46, s502_47, s502_50, s502_53, unJ_I, unJ_J, unJ_F, unJ_R, unJ_N, unJ_U, pushR_I, pushR_J, pushR_F, pushR_R, pushR_N, pushR_U, rfV_s, rfV_n, Option.bind_some, true_or, or_true, if_true, h1]
  · have k := h3 j hj
    unfold rcpy
    refine ⟨?_, ?_, ?_⟩
    · rw [if_neg (by omega), if_neg (by omega), if_pos ⟨rfl, hj⟩, k.1]
    · rw [if_neg (by omega), if_pos ⟨rfl, hj⟩, if_neg (by omega), k.2.1]
    · rw [if_pos ⟨rfl, hj⟩, if_neg (by omega), if_neg (by omega), k.2.2]
  · unfold rcpy
    rw [if_neg (fun k => z k.1), if_neg (fun k => y k.1), if_neg (fun k => x k.1)]
theorem rg_app {l : List Ru} {x : Ru} {j : Nat} : rg (l ++ [x]) j = if j < l.length then rg l j else if j = l.length then x else (0, 0, 0) := by
  unfold rg
  rw [List.getD_eq_getElem?_getD, List.getD_eq_getElem?_getD]
  by_cases h : j < l.length
  · rw [if_pos h, List.getElem?_append_left h]
  · rw [if_neg h, List.getElem?_append_right (by omega)]
    by_cases e : j = l.length
    · rw [if_pos e, e, Nat.sub_self]; rfl
    · rw [if_neg e, List.getElem?_eq_none (by simp; omega)]; rfl
/-- Rules.remove -/
def rmA (A : M2) (c i m : Nat) : M2 := fun r j => if (r = rr c ∨ r = rr c + 1 ∨ r = rr c + 2) ∧ i ≤ j ∧ j < m then A r (j + 1) else A r j
theorem rm_step (A : M2) (c i m : Nat) (h : i ≤ m) : up2 (up2 (up2 (rmA A c i m) (rr c) m (A (rr c) (m + 1))) (rr c + 1) m (A (rr c + 1) (m + 1))) (rr c + 2) m (A (rr c + 2) (m + 1)) = rmA A c i (m + 1) := by
  funext r j
  unfold up2 rmA
  by_cases h3 : r = rr c + 2 ∧ j = m
  · obtain ⟨rfl, rfl⟩ := h3
    rw [if_pos ⟨rfl, rfl⟩, if_pos (by omega)]
  · rw [if_neg h3]
    by_cases h2 : r = rr c + 1 ∧ j = m
    · obtain ⟨rfl, rfl⟩ := h2
      rw [if_pos ⟨rfl, rfl⟩, if_pos (by omega)]
    · rw [if_neg h2]
      by_cases h1 : r = rr c ∧ j = m
      · obtain ⟨rfl, rfl⟩ := h1
        rw [if_pos ⟨rfl, rfl⟩, if_pos (by omega)]
      · rw [if_neg h1]
        by_cases h4 : (r = rr c ∨ r = rr c + 1 ∨ r = rr c + 2) ∧ i ≤ j ∧ j < m
        · rw [if_pos h4, if_pos (by omega)]
        · rw [if_neg h4, if_neg (by omega)]
theorem rg_erase {l : List Ru} {i j : Nat} : rg (l.eraseIdx i) j = if j < i then rg l j else rg l (j + 1) := by
  unfold rg
  rw [List.getD_eq_getElem?_getD, List.getD_eq_getElem?_getD, List.getD_eq_getElem?_getD, List.getElem?_eraseIdx]
  split <;> rfl
end
