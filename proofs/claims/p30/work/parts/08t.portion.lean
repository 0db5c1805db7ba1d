/-! A TRIAL: portions, ceiling, greatest -/
theorem inR_b {c r : Nat} (hc : c < 6) (h : inR c r) : (r < 95 ∨ 97 ≤ r) ∧ r < 116 := by
  unfold inR at h
  have e : (c < 5 ∧ c / 5 = 0) ∨ c = 5 := by omega
  rcases e with ⟨a, b⟩ | rfl
  · rw [b] at h; omega
  · omega
theorem inR5 {c r : Nat} (hc : c < 5) (h : inR c r) : 19 * c ≤ r ∧ r < 19 * c + 19 := by
  unfold inR at h
  have e : c / 5 = 0 := by omega
  rw [e] at h
  omega
theorem cb_b2 : ∀ c, c < 6 → (19 * c + 2 * (c / 5) + 19 ≤ 95 ∨ 97 ≤ 19 * c + 2 * (c / 5)) := by decide
theorem cb_b {c : Nat} (hc : c < 6) : 19 * c + 2 * (c / 5) + 19 ≤ 95 ∨ 97 ≤ 19 * c + 2 * (c / 5) := cb_b2 c hc
theorem CelAt.rows {c : Nat} {I A A' : M2} {sl : Nat → Nat} {σ : St} (h : CelAt I A c sl σ) (hc : c < 6) (hsl : ∀ i, i < 12 → 12 * c ≤ sl i ∧ sl i < 12 * c + 12) (k : ∀ r j, (r < 95 ∨ 96 < r) ∧ (r < 119 ∨ 120 < r) → A' r j = A r j) : CelAt I A' c sl σ :=
  h.keep hc hsl (fun _ _ _ => rfl) (fun r j z => k r j (by have := inR_b hc z; omega))
def wtL (ls : List Lt) (i : Nat) : Int := (lt ls i).1 5
section
variable (q : Nat × (Nat → Int)) {I A : M2} {L P : Nat → Nat → Option Nat} {F G : Nat → Nat → UInt32} {D : MD} {l c x : Nat} {w : Lt} {σ : St} {sl : Nat → Nat}
/-- Trial.portion -/
theorem c_portion (hc : c < 6) (hL : LoS L c sl) (h : CelAt I A c sl σ) (ho : okLs σ.1) {n : Int} (hn : 0 ≤ n ∧ n ≤ 10000) (hS : 0 < sumU (wtL σ.1) σ.1.length) :
    ∃ A' v, rs 803 0 [vR 8 0, vR 0 c, vI n, vU, vU] [] (SX q, (I, A, L, P, F, G), D) = some (vI v, (SX q, (I, A', L, P, F, G), D)) ∧ (v = 0 ∨ v = 1) ∧ (v = 1 ↔ ∀ i, i < σ.1.length → shr n (wtL σ.1) σ.1.length i ≤ gsum (lt σ.1 i).2) ∧
      (∀ i, i < σ.1.length → A' 120 i = shr n (wtL σ.1) σ.1.length i) ∧ ∀ r j, (r < 95 ∨ 96 < r) ∧ (r < 119 ∨ 120 < r) → A' r j = A r j := by
  have hsl : ∀ i, i < 12 → 12 * c ≤ sl i ∧ sl i < 12 * c + 12 := fun i hi => (hL.1 i hi).2
  have h1 := h.1
  have h2 := h.2.1
  have l1 : rowLen 119 = 12 := by decide
  have l2 : rowLen 120 = 12 := by decide
  have l3 : rowLen 95 = 200 := by decide
  have ww : ∀ i, i < σ.1.length → 0 ≤ wtL σ.1 i ∧ wtL σ.1 i ≤ 20 := fun i hi => (ho i hi).1.2.2.2.2.2.1
  have loop1 := rs_loop (m := 803) (pc := 2) (fun i => [vR 8 0, vR 0 c, vI n, vI i, vU]) (fun i => (SX q, (I, (fun r j => if r = 119 ∧ j < i then wtL σ.1 j else A r j), L, P, F, G), D)) σ.1.length (fun i hi => by
    generalize hA : (fun r j => if r = 119 ∧ j < i then wtL σ.1 j else A r j) = A1
    have hC : CelAt I A1 c sl σ := h.rows hc hsl (fun r j hr => by subst hA; exact if_neg (by omega))
    have k50 : I 50 (sl i) = wtL σ.1 i := (h.2.2.2.1 i hi).2.2.2.2.2.1
    have ei : Unit → w32 ((i : Int) + 1) = ((i + 1 : Nat) : Int) := fun _ => by rw [w32_id (by omega) (by omega)]; omega
    have ea : up2 A1 119 i (wtL σ.1 i) = fun r j => if r = 119 ∧ j < i + 1 then wtL σ.1 j else A r j := by
      subst hA
      funext r j
      unfold up2
      by_cases e1 : r = 119 ∧ j = i
      · rw [if_pos e1, if_pos ⟨e1.1, by omega⟩, e1.2]
      · rw [if_neg e1]
        by_cases e2 : r = 119 ∧ j < i
        · rw [if_pos ⟨e2.1, by omega⟩]; exact if_pos e2
        · rw [if_neg (show ¬ (r = 119 ∧ j < i + 1) by omega)]; exact if_neg e2
    rw [s803_2]
    simp only [s803_3, s803_4, s803_7, s803_10, s803_11, s803_12, s803_15, s803_15n, s803_17, s803_18, s803_21, s803_22, s803_22n, s803_24n, s803_24, s803_27, s803_28, s803_31, s803_31n, s803_33, s803_36, s803_39, s803_42, unJ_I, unJ_J, unJ_F, unJ_R, unJ_N, unJ_U, pushR_I, pushR_J, pushR_F, pushR_R, pushR_N, pushR_U, rfV_s, rfV_n, Option.bind_some, true_or, or_true, if_true, c_cat q hC hL hi, c_put, h1, k50, ei ()]
    rw [if_neg (by omega), rput_n _ _ (by omega), ea])
  have a0 : A = fun r j => if r = 119 ∧ j < 0 then wtL σ.1 j else A r j := by
    funext r j
    rw [if_neg (by omega)]
  generalize hA1 : (fun r j => if r = 119 ∧ j < σ.1.length then wtL σ.1 j else A r j) = A1 at loop1
  obtain ⟨A2, e2, s1, s2⟩ := c_spread q (I := I) (A := A1) (L := L) (P := P) (F := F) (G := G) (D := D) (x := 0) (by omega) (m := σ.1.length) (by omega) hn (r := 119) (b := 0) (by omega) (by omega) (W := wtL σ.1) (fun j hj => ⟨by rw [Nat.zero_add]; subst hA1; exact if_pos ⟨rfl, hj⟩, (ww j hj).1, by have := (ww j hj).2; omega⟩) hS
  have f3 : ∀ r j, (r < 95 ∨ 96 < r) ∧ (r < 119 ∨ 120 < r) → rcpy A2 95 120 σ.1.length r j = A r j := fun r j hr => by
    unfold rcpy
    rw [if_neg (by omega), s2 r j (by omega) (by omega)]
    subst hA1
    exact if_neg (by omega)
  have p3 : ∀ i, i < σ.1.length → rcpy A2 95 120 σ.1.length 120 i = shr n (wtL σ.1) σ.1.length i := fun i hi => by
    unfold rcpy
    rw [if_pos ⟨rfl, hi⟩]
    exact s1 i hi
  generalize hA3 : rcpy A2 95 120 σ.1.length = A3 at f3 p3
  have hC : CelAt I A3 c sl σ := h.rows hc hsl (fun r j hr => f3 r j hr)
  have run : rs 803 0 [vR 8 0, vR 0 c, vI n, vU, vU] [] (SX q, (I, A, L, P, F, G), D) = rs 803 82 [vR 8 0, vR 0 c, vU, vI ((0 : Nat) : Int), vU] [] (SX q, (I, A3, L, P, F, G), D) := by
    simp only [s803_0, s803_1, unJ_I, unJ_J, unJ_F, unJ_R, unJ_N, unJ_U, pushR_I, pushR_J, pushR_F, pushR_R, pushR_N, pushR_U, rfV_s, rfV_n, Option.bind_some, true_or, or_true, if_true]
    have e0 : rs 803 2 [vR 8 0, vR 0 c, vI n, vI 0, vU] [] (SX q, (I, A, L, P, F, G), D) = rs 803 2 [vR 8 0, vR 0 c, vI n, vI ((0 : Nat) : Int), vU] [] (SX q, (I, (fun r j => if r = 119 ∧ j < 0 then wtL σ.1 j else A r j), L, P, F, G), D) := by rw [← a0]; rfl
    refine e0.trans (loop1.trans ?_)
    rw [s803_2]
    have e2' : rs 702 0 [vR 7 0, vI n, vR 4 119, vI 0, vI (σ.1.length : Int), vU, vU, vU, vU] [] (SX q, (I, A1, L, P, F, G), D) = some (vU, (SX q, (I, A2, L, P, F, G), D)) := e2
    simp only [s803_3, s803_4, s803_7, s803_45, s803_46, s803_49, s803_50, s803_51, s803_54, s803_55, s803_56, s803_59, s803_62, s803_63, s803_66, s803_67, s803_70, s803_73, s803_74, s803_77, unJ_I, unJ_J, unJ_F, unJ_R, unJ_N, unJ_U, pushR_I, pushR_J, pushR_F, pushR_R, pushR_N, pushR_U, rfV_s, rfV_n, Option.bind_some, true_or, or_true, if_true, h1, e2']
    rw [if_pos (by omega)]
    have e3 := c_copy q I A2 L P F G D (k := 120) (f := 95) (n := σ.1.length) (by omega) (by omega)
    simp only [s803_62, s803_63, s803_66, s803_67, s803_70, s803_73, s803_74, s803_77, s803_80, s803_81, unJ_I, unJ_J, unJ_F, unJ_R, unJ_N, unJ_U, pushR_I, pushR_J, pushR_F, pushR_R, pushR_N, pushR_U, rfV_s, rfV_n, Option.bind_some, true_or, or_true, if_true, h1, e3, hA3]
    rfl
  rw [run]
  have main : ∀ (d i : Nat), i + d = σ.1.length → ∃ v, rs 803 82 [vR 8 0, vR 0 c, vU, vI (i : Int), vU] [] (SX q, (I, A3, L, P, F, G), D) = some (vI v, (SX q, (I, A3, L, P, F, G), D)) ∧ (v = 0 ∨ v = 1) ∧ (v = 1 ↔ ∀ k, i ≤ k → k < σ.1.length → shr n (wtL σ.1) σ.1.length k ≤ gsum (lt σ.1 k).2) := by
    intro d
    induction d with
    | zero =>
      intro i hi
      refine ⟨1, ?_, Or.inr rfl, fun _ k a b => by omega, fun _ => rfl⟩
      rw [s803_82]
      simp only [s803_83, s803_84, s803_87, s803_126, s803_127, unJ_I, unJ_J, unJ_F, unJ_R, unJ_N, unJ_U, pushR_I, pushR_J, pushR_F, pushR_R, pushR_N, pushR_U, rfV_s, rfV_n, Option.bind_some, true_or, or_true, if_true, h1]
      rw [if_pos (by omega)]
    | succ d ih =>
      intro i hi
      have hi2 : i < σ.1.length := by omega
      have k45 : I 45 (sl i) = gsum (lt σ.1 i).2 := (h.2.2.2.1 i hi2).2.2.2.2.2.2.2.2.1
      have ei : Unit → w32 ((i : Int) + 1) = ((i + 1 : Nat) : Int) := fun _ => by rw [w32_id (by omega) (by omega)]; omega
      have pi := p3 i hi2
      obtain ⟨v, v1, v2, v3⟩ := ih (i + 1) (by omega)
      by_cases hz : shr n (wtL σ.1) σ.1.length i ≤ gsum (lt σ.1 i).2
      · refine ⟨v, ?_, v2, ?_⟩
        · rw [s803_82]
          simp only [s803_83, s803_84, s803_87, s803_90, s803_91, s803_92, s803_95, s803_95n, s803_97, s803_97n, s803_99n, s803_99, s803_102, s803_102n, s803_104, s803_107, s803_108, s803_111, s803_112, s803_115, s803_118, s803_119, s803_120, s803_123, unJ_I, unJ_J, unJ_F, unJ_R, unJ_N, unJ_U, pushR_I, pushR_J, pushR_F, pushR_R, pushR_N, pushR_U, rfV_s, rfV_n, Option.bind_some, true_or, or_true, if_true, c_cat q hC hL hi2, c_get, h1, k45, ei ()]
          rw [if_neg (by omega), rget_n _ (by omega), pi, if_pos hz]
          exact v1
        · rw [v3]
          constructor
          · intro z k a b
            by_cases e : k = i
            · subst e; exact hz
            · exact z k (by omega) b
          · exact fun z k a b => z k (by omega) b
      · refine ⟨0, ?_, Or.inl rfl, ⟨fun z => by omega, fun z => absurd (z i (Nat.le_refl _) hi2) hz⟩⟩
        rw [s803_82]
        simp only [s803_83, s803_84, s803_87, s803_90, s803_91, s803_92, s803_95, s803_95n, s803_97, s803_97n, s803_99n, s803_99, s803_102, s803_102n, s803_104, s803_107, s803_108, s803_111, s803_112, s803_115, s803_118, s803_119, s803_120, s803_123, unJ_I, unJ_J, unJ_F, unJ_R, unJ_N, unJ_U, pushR_I, pushR_J, pushR_F, pushR_R, pushR_N, pushR_U, rfV_s, rfV_n, Option.bind_some, true_or, or_true, if_true, c_cat q hC hL hi2, c_get, h1, k45, ei ()]
        rw [if_neg (by omega), rget_n _ (by omega), pi, if_neg hz]
  obtain ⟨v, v1, v2, v3⟩ := main σ.1.length 0 (by omega)
  exact ⟨A3, v, v1, v2, v3.trans ⟨fun z i hi => z i (Nat.zero_le _) hi, fun z i _ hi => z i hi⟩, p3, f3⟩
end
