/-! RULES: copy, append, remove, has -/
def FrR (c : Nat) (I A I' A' : M2) : Prop := (∀ f x, ¬ (f = 103 ∧ x = c) → I' f x = I f x) ∧ ∀ r j, r ≠ rr c → r ≠ rr c + 1 → r ≠ rr c + 2 → A' r j = A r j
theorem rr_ne2 : ∀ r, r < 7 → ∀ r', r' < 7 → r ≠ r' → (rr r + 2 < rr r' ∨ rr r' + 2 < rr r) := by decide +kernel
theorem rr_ne {r r' a a' : Nat} (h : r < 7) (h' : r' < 7) (ha : a < 3) (ha' : a' < 3) (hn : ¬ (r = r' ∧ a = a')) : rr r + a ≠ rr r' + a' := by
  by_cases e : r = r'
  · subst e; omega
  · have := rr_ne2 r h r' h' e
    omega
section
variable (q : Nat × (Nat → Int)) {I A : M2} {L P : Nat → Nat → Option Nat} {F G : Nat → Nat → UInt32} {D : MD} {l c : Nat} {w : Lt} {ru : List Ru}
theorem c_rcopy {s : Nat} (hc : c < 7) (hs : s < 7) (hn : c ≠ s) (h : RulesAt I A s ru) : ∃ I' A', rs 502 0 [vR 5 c, vR 5 s] [] (SX q, (I, A, L, P, F, G), D) = some (vU, (SX q, (I', A', L, P, F, G), D)) ∧ RulesAt I' A' c ru ∧ FrR c I A I' A' := by
  obtain ⟨h1, h2, h3⟩ := h
  have a1 := len_r c hc
  have a2 := len_r s hs
  have n1 := rr_ne (a := 0) (a' := 0) hc hs (by omega) (by omega) (by omega)
  have n2 := rr_ne (a := 0) (a' := 1) hc hs (by omega) (by omega) (by omega)
  have n3 := rr_ne (a := 0) (a' := 2) hc hs (by omega) (by omega) (by omega)
  have n4 := rr_ne (a := 1) (a' := 1) hc hs (by omega) (by omega) (by omega)
  have n5 := rr_ne (a := 1) (a' := 2) hc hs (by omega) (by omega) (by omega)
  refine ⟨up2 I 103 c ru.length, rcpy (rcpy (rcpy A (rr s) (rr c) ru.length) (rr s + 1) (rr c + 1) ru.length) (rr s + 2) (rr c + 2) ru.length, ?_, ⟨up2_eq, h2, fun j hj => ?_⟩, fun f x z => up2_ne z, fun r j x y z => ?_⟩
  · simp only [s502_0, s502_1, s502_4, s502_5, s502_8, s502_9, s502_12, unJ_I, unJ_J, unJ_F, unJ_R, unJ_N, unJ_U, pushR_I, pushR_J, pushR_F, pushR_R, pushR_N, pushR_U, rfV_s, rfV_n, Option.bind_some, true_or, or_true, if_true, h1]
    rw [c_copy q I A L P F G D (by omega) (by omega)]
    simp only [s502_15, s502_16, s502_19, s502_20, s502_23, s502_24, s502_27, unJ_I, unJ_J, unJ_F, unJ_R, unJ_N, unJ_U, pushR_I, pushR_J, pushR_F, pushR_R, pushR_N, pushR_U, rfV_s, rfV_n, Option.bind_some, true_or, or_true, if_true, h1]
    rw [c_copy q I _ L P F G D (by omega) (by omega)]
    simp only [s502_30, s502_31, s502_34, s502_35, s502_38, s502_39, s502_42, unJ_I, unJ_J, unJ_F, unJ_R, unJ_N, unJ_U, pushR_I, pushR_J, pushR_F, pushR_R, pushR_N, pushR_U, rfV_s, rfV_n, Option.bind_some, true_or, or_true, if_true, h1]
    rw [c_copy q I _ L P F G D (by omega) (by omega)]
    simp only [s502_45, s502_46, s502_47, s502_50, s502_53, unJ_I, unJ_J, unJ_F, unJ_R, unJ_N, unJ_U, pushR_I, pushR_J, pushR_F, pushR_R, pushR_N, pushR_U, rfV_s, rfV_n, Option.bind_some, true_or, or_true, if_true, h1]
  · have k := h3 j hj
    unfold rcpy
    refine ⟨?_, ?_, ?_⟩
    · rw [if_neg (by omega), if_neg (by omega), if_pos ⟨rfl, hj⟩, k.1]
    · rw [if_neg (by omega), if_pos ⟨rfl, hj⟩, if_neg (by omega), k.2.1]
    · rw [if_pos ⟨rfl, hj⟩, if_neg (by omega), if_neg (by omega), k.2.2]
  · unfold rcpy
    rw [if_neg (fun k => z k.1), if_neg (fun k => y k.1), if_neg (fun k => x k.1)]
theorem rg_app {l : List Ru} {x : Ru} {j : Nat} : rg (l ++ [x]) j = if j < l.length then rg l j else if j = l.length then x else (0, 0, 0) := by
  unfold rg
  rw [List.getD_eq_getElem?_getD, List.getD_eq_getElem?_getD]
  by_cases h : j < l.length
  · rw [if_pos h, List.getElem?_append_left h]
  · rw [if_neg h, List.getElem?_append_right (by omega)]
    by_cases e : j = l.length
    · rw [if_pos e, e, Nat.sub_self]; rfl
    · rw [if_neg e, List.getElem?_eq_none (by simp; omega)]; rfl
theorem c_append (hc : c < 7) (h : RulesAt I A c ru) (h8 : ru.length < 8) (k s b : Int) : ∃ I' A', rs 503 0 [vR 5 c, vI k, vI s, vI b] [] (SX q, (I, A, L, P, F, G), D) = some (vU, (SX q, (I', A', L, P, F, G), D)) ∧ RulesAt I' A' c (ru ++ [(k, s, b)]) ∧ FrR c I A I' A' := by
  obtain ⟨h1, h2, h3⟩ := h
  have a1 := len_r c hc
  refine ⟨up2 I 103 c ((ru.length + 1 : Nat) : Int), up2 (up2 (up2 A (rr c) ru.length k) (rr c + 1) ru.length s) (rr c + 2) ru.length b, ?_, ⟨?_, by simp; omega, fun j hj => ?_⟩, fun f x z => up2_ne z, fun r j x y z => ?_⟩
  · simp only [s503_0, s503_1, s503_4, s503_5, s503_8, s503_9, s503_12, s503_13, s503_16, s503_17, s503_20, s503_21, s503_24, s503_25, s503_28, s503_29, s503_32, s503_33, s503_36, s503_37, s503_37r, s503_38, s503_41, s503_42, s503_43, s503_46, unJ_I, unJ_J, unJ_F, unJ_R, unJ_N, unJ_U, pushR_I, pushR_J, pushR_F, pushR_R, pushR_N, pushR_U, rfV_s, rfV_n, Option.bind_some, true_or, or_true, if_true, c_put, h1]
    rw [rput_n _ _ (by omega), rput_n _ _ (by omega), rput_n _ _ (by omega), w32_id (by omega) (by omega)]
    rfl
  · rw [up2_eq]; simp
  · have e := rg_app (l := ru) (x := (k, s, b)) (j := j)
    unfold rg at e
    rw [e]
    by_cases hz : j < ru.length
    · rw [if_pos hz]
      have k := h3 j hz
      refine ⟨?_, ?_, ?_⟩
      · exact ((up2_ne (by omega)).trans ((up2_ne (by omega)).trans (up2_ne (by omega)))).trans k.1
      · exact ((up2_ne (by omega)).trans ((up2_ne (by omega)).trans (up2_ne (by omega)))).trans k.2.1
      · exact ((up2_ne (by omega)).trans ((up2_ne (by omega)).trans (up2_ne (by omega)))).trans k.2.2
    · have hj2 : j = ru.length := by simp at hj; omega
      rw [if_neg hz, if_pos hj2, hj2]
      exact ⟨(up2_ne (by omega)).trans ((up2_ne (by omega)).trans up2_eq), (up2_ne (by omega)).trans up2_eq, up2_eq⟩
  · exact (up2_ne (by omega)).trans ((up2_ne (by omega)).trans (up2_ne (by omega)))
/-- Rules.has -/
theorem c_has (hc : c < 7) (h : RulesAt I A c ru) (k s b : Int) : rs 505 0 [vR 5 c, vI k, vI s, vI b, vU] [] (SX q, (I, A, L, P, F, G), D) = some (vI (b01 ((k, s, b) ∈ ru)), (SX q, (I, A, L, P, F, G), D)) := by
  obtain ⟨h1, h2, h3⟩ := h
  have a1 := len_r c hc
  have step : ∀ i : Nat, i < ru.length → rs 505 3 [vR 5 c, vI k, vI s, vI b, vI i] [] (SX q, (I, A, L, P, F, G), D) = if rg ru i = (k, s, b) then some (vI 1, (SX q, (I, A, L, P, F, G), D)) else rs 505 3 [vR 5 c, vI k, vI s, vI b, vI ((i + 1 : Nat) : Int)] [] (SX q, (I, A, L, P, F, G), D) := fun i hi => by
    obtain ⟨k1, k2, k3⟩ := h3 i hi
    rw [s505_3]
    simp only [s505_5, s505_6, s505_9, s505_12, s505_13, s505_16, s505_18, s505_21, s505_22, s505_25, s505_26, s505_29, s505_31, s505_34, s505_35, s505_38, s505_39, s505_42, s505_44, s505_47, s505_48, s505_51, s505_52, s505_53, s505_56, unJ_I, unJ_J, unJ_F, unJ_R, unJ_N, unJ_U, pushR_I, pushR_J, pushR_F, pushR_R, pushR_N, pushR_U, rfV_s, rfV_n, Option.bind_some, true_or, or_true, if_true, c_get, h1]
    rw [if_neg (by omega), rget_n A (by omega), rget_n A (by omega), rget_n A (by omega), k1, k2, k3, w32_id (x := (i : Int) + 1) (by omega) (by omega), show (i : Int) + 1 = ((i + 1 : Nat) : Int) by omega]
    unfold rg
    by_cases z1 : (ru.getD i (0, 0, 0)).1 = k
    · rw [if_pos z1]
      by_cases z2 : (ru.getD i (0, 0, 0)).2.1 = s
      · rw [if_pos z2]
        by_cases z3 : (ru.getD i (0, 0, 0)).2.2 = b
        · rw [if_pos z3, if_pos (by rw [← z1, ← z2, ← z3])]
        · rw [if_neg z3, if_neg (fun e => z3 (by rw [e]))]
      · rw [if_neg z2, if_neg (fun e => z2 (by rw [e]))]
    · rw [if_neg z1, if_neg (fun e => z1 (by rw [e]))]
  have main : ∀ (d i : Nat), i + d = ru.length → rs 505 3 [vR 5 c, vI k, vI s, vI b, vI i] [] (SX q, (I, A, L, P, F, G), D) = some (vI (b01 ((k, s, b) ∈ ru.drop i)), (SX q, (I, A, L, P, F, G), D)) := by
    intro d
    induction d with
    | zero =>
      intro i hi
      rw [s505_3]
      simp only [s505_5, s505_6, s505_9, s505_12, s505_13, s505_16, s505_18, s505_21, s505_22, s505_25, s505_26, s505_29, s505_31, s505_34, s505_35, s505_38, s505_39, s505_42, s505_44, s505_47, s505_48, s505_51, s505_52, s505_53, s505_56, s505_59, s505_60, unJ_I, unJ_J, unJ_F, unJ_R, unJ_N, unJ_U, pushR_I, pushR_J, pushR_F, pushR_R, pushR_N, pushR_U, rfV_s, rfV_n, Option.bind_some, true_or, or_true, if_true, c_get, h1]
      rw [if_pos (by omega), b01_f (by rw [List.drop_eq_nil_of_le (by omega)]; simp)]
    | succ d ih =>
      intro i hi
      have hl : i < ru.length := by omega
      rw [step i hl, List.drop_eq_getElem_cons hl]
      have e : rg ru i = ru[i] := by unfold rg; rw [List.getD_eq_getElem?_getD, List.getElem?_eq_getElem hl]; rfl
      by_cases hz : rg ru i = (k, s, b)
      · rw [if_pos hz, b01_t (by rw [← hz, e]; exact List.mem_cons_self)]
      · rw [if_neg hz, ih (i + 1) (by omega)]
        congr 3
        unfold b01
        by_cases hm : (k, s, b) ∈ ru.drop (i + 1)
        · rw [if_pos hm, if_pos (List.mem_cons_of_mem _ hm)]
        · rw [if_neg hm, if_neg (fun z => (List.mem_cons.mp z).elim (fun y => hz (e.trans y.symm)) hm)]
  simp only [s505_0, s505_1, unJ_I, unJ_J, unJ_F, unJ_R, unJ_N, unJ_U, pushR_I, pushR_J, pushR_F, pushR_R, pushR_N, pushR_U, rfV_s, rfV_n, Option.bind_some, true_or, or_true, if_true]
  exact main ru.length 0 (by omega)
/-- Rules.remove -/
def rmA (A : M2) (c i m : Nat) : M2 := fun r j => if (r = rr c ∨ r = rr c + 1 ∨ r = rr c + 2) ∧ i ≤ j ∧ j < m then A r (j + 1) else A r j
theorem rm_step (A : M2) (c i m : Nat) (h : i ≤ m) : up2 (up2 (up2 (rmA A c i m) (rr c) m (A (rr c) (m + 1))) (rr c + 1) m (A (rr c + 1) (m + 1))) (rr c + 2) m (A (rr c + 2) (m + 1)) = rmA A c i (m + 1) := by
  funext r j
  unfold up2 rmA
  by_cases h3 : r = rr c + 2 ∧ j = m
  · obtain ⟨rfl, rfl⟩ := h3
    rw [if_pos ⟨rfl, rfl⟩, if_pos (by omega)]
  · rw [if_neg h3]
    by_cases h2 : r = rr c + 1 ∧ j = m
    · obtain ⟨rfl, rfl⟩ := h2
      rw [if_pos ⟨rfl, rfl⟩, if_pos (by omega)]
    · rw [if_neg h2]
      by_cases h1 : r = rr c ∧ j = m
      · obtain ⟨rfl, rfl⟩ := h1
        rw [if_pos ⟨rfl, rfl⟩, if_pos (by omega)]
      · rw [if_neg h1]
        by_cases h4 : (r = rr c ∨ r = rr c + 1 ∨ r = rr c + 2) ∧ i ≤ j ∧ j < m
        · rw [if_pos h4, if_pos (by omega)]
        · rw [if_neg h4, if_neg (by omega)]
theorem rg_erase {l : List Ru} {i j : Nat} : rg (l.eraseIdx i) j = if j < i then rg l j else rg l (j + 1) := by
  unfold rg
  rw [List.getD_eq_getElem?_getD, List.getD_eq_getElem?_getD, List.getD_eq_getElem?_getD, List.getElem?_eraseIdx]
  split <;> rfl
theorem c_remove (hc : c < 7) (h : RulesAt I A c ru) {i : Nat} (hi : i < ru.length) : ∃ I' A', rs 504 0 [vR 5 c, vI i, vU] [] (SX q, (I, A, L, P, F, G), D) = some (vU, (SX q, (I', A', L, P, F, G), D)) ∧ RulesAt I' A' c (ru.eraseIdx i) ∧ FrR c I A I' A' := by
  obtain ⟨h1, h2, h3⟩ := h
  have a1 := len_r c hc
  have a0 : A = rmA A c i (i + 0) := by
    funext r j
    unfold rmA
    rw [if_neg (by omega)]
  have loop := rs_loop (m := 504) (pc := 2) (fun t => [vR 5 c, vU, vI ((i + t : Nat) : Int)]) (fun t => (SX q, (I, rmA A c i (i + t), L, P, F, G), D)) (ru.length - 1 - i) (fun t ht => by
    have hm : i ≤ i + t := by omega
    have hm2 : i + t + 1 < ru.length := by omega
    rw [← Nat.add_assoc]
    generalize i + t = m at hm hm2
    have v : ∀ r, rmA A c i m r (m + 1) = A r (m + 1) := fun r => if_neg (by omega)
    have v1 : ∀ x, up2 (rmA A c i m) (rr c) m x (rr c + 1) (m + 1) = A (rr c + 1) (m + 1) := fun x => (up2_ne (by omega)).trans (v _)
    have v2 : ∀ x y, up2 (up2 (rmA A c i m) (rr c) m x) (rr c + 1) m y (rr c + 2) (m + 1) = A (rr c + 2) (m + 1) := fun x y => (up2_ne (by omega)).trans ((up2_ne (by omega)).trans (v _))
    have e1 : Unit → w32 ((m : Int) + 1) = ((m + 1 : Nat) : Int) := fun _ => by rw [w32_id (by omega) (by omega)]; omega
    rw [s504_2]
    simp only [s504_3, s504_4, s504_7, s504_8, s504_9, s504_12, s504_13, s504_16, s504_17, s504_18, s504_21, s504_22, s504_23, s504_24, s504_27, s504_30, s504_31, s504_34, s504_35, s504_36, s504_39, s504_40, s504_41, s504_42, s504_45, s504_48, s504_49, s504_52, s504_53, s504_54, s504_57, s504_58, s504_59, s504_60, s504_63, s504_66, s504_69, unJ_I, unJ_J, unJ_F, unJ_R, unJ_N, unJ_U, pushR_I, pushR_J, pushR_F, pushR_R, pushR_N, pushR_U, rfV_s, rfV_n, Option.bind_some, true_or, or_true, if_true, c_get, c_put, h1, e1 ()]
    rw [w32_id (by omega) (by omega), if_neg (by omega), rput_n _ _ (by omega), rput_n _ _ (by omega), rput_n _ _ (by omega), rget_n _ (by omega), rget_n _ (by omega), rget_n _ (by omega), v, v1, v2, rm_step A c i m hm])
  refine ⟨up2 I 103 c ((ru.length - 1 : Nat) : Int), rmA A c i (i + (ru.length - 1 - i)), ?_, ⟨?_, ?_, fun j hj => ?_⟩, fun f x z => up2_ne z, fun r j x y z => ?_⟩
  · simp only [s504_0, s504_1, unJ_I, unJ_J, unJ_F, unJ_R, unJ_N, unJ_U, pushR_I, pushR_J, pushR_F, pushR_R, pushR_N, pushR_U, rfV_s, rfV_n, Option.bind_some, true_or, or_true, if_true]
    have e0 : rs 504 2 [vR 5 c, vU, vI i] [] (SX q, (I, A, L, P, F, G), D) = rs 504 2 [vR 5 c, vU, vI ((i + 0 : Nat) : Int)] [] (SX q, (I, rmA A c i (i + 0), L, P, F, G), D) := by rw [← a0]; rfl
    refine e0.trans (loop.trans ?_)
    have e2 : w32 ((ru.length : Int) - 1) = ((ru.length - 1 : Nat) : Int) := by rw [w32_id (by omega) (by omega)]; omega
    rw [s504_2]
    simp only [s504_3, s504_4, s504_7, s504_8, s504_9, s504_72, s504_73, s504_73r, s504_74, s504_77, s504_78, s504_79, s504_82, unJ_I, unJ_J, unJ_F, unJ_R, unJ_N, unJ_U, pushR_I, pushR_J, pushR_F, pushR_R, pushR_N, pushR_U, rfV_s, rfV_n, Option.bind_some, true_or, or_true, if_true, h1, e2]
    rw [if_pos (by omega)]
  · rw [up2_eq, List.length_eraseIdx]; rw [if_pos hi]
  · rw [List.length_eraseIdx, if_pos hi]; omega
  · rw [List.length_eraseIdx, if_pos hi] at hj
    have e := rg_erase (l := ru) (i := i) (j := j)
    unfold rg at e
    rw [e]
    unfold rmA
    by_cases hz : j < i
    · rw [if_pos hz, if_neg (by omega), if_neg (by omega), if_neg (by omega)]
      exact h3 j (by omega)
    · rw [if_neg hz, if_pos (by omega), if_pos (by omega), if_pos (by omega)]
      exact h3 (j + 1) (by omega)
  · exact if_neg (by omega)
end
