/-! CALLS: set, undo, dropRule, type, clearText, fault, read -/
theorem CelAt.sett {I A : M2} {c : Nat} {sl : Nat → Nat} {σ : St} (h : CelAt I A c sl σ) (hc : c < 6) (hsl : ∀ i, i < 12 → 12 * c ≤ sl i ∧ sl i < 12 * c + 12) (i : Nat) (v : Int) : CelAt I (up2 A (19 * c + 2 * (c / 5) + 5) i v) c sl (σ.1, σ.2.1, sup σ.2.2.1 i v, σ.2.2.2) := by
  obtain ⟨h1, h2, h3, h4, h5, h8, h9, ha⟩ := h
  have rr := rr_c hc
  refine ⟨h1, h2, h3, fun j hj => ?_, h5.keep rfl (fun a ha y => up2_ne (by omega)), fun j hj => ?_, fun j hj => (up2_ne (by omega)).trans (h9 j hj), ha⟩
  · have hj' : j < σ.1.length := hj
    have s := hsl j (by omega)
    have e := lr_c hc s.1 s.2
    have e2 := sr_c hc s.1 s.2
    exact (h4 j hj).same (fun _ _ _ => rfl) (fun r y z => up2_ne (by omega))
  · show _ = if j = i then v else σ.2.2.1 j
    by_cases z : j = i
    · rw [if_pos z, z, up2_eq]
    · rw [if_neg z, up2_ne (by omega)]; exact h8 j hj
theorem CelAt.rul {I A I' A' : M2} {c : Nat} {sl : Nat → Nat} {σ : St} {ru : List Ru} (h : CelAt I A c sl σ) (hc : c < 6) (hsl : ∀ i, i < 12 → 12 * c ≤ sl i ∧ sl i < 12 * c + 12) (hr : RulesAt I' A' c ru) (k : FrR c I A I' A') : CelAt I' A' c sl (σ.1, ru, σ.2.2) := by
  obtain ⟨h1, h2, h3, h4, h5, h8, h9, ha⟩ := h
  have rr := rr_c hc
  refine ⟨(k.1 _ _ (by omega)).trans h1, h2, (k.1 _ _ (by omega)).trans h3, fun j hj => ?_, hr, fun j hj => (k.2 _ _ (by omega) (by omega) (by omega)).trans (h8 j hj), fun j hj => (k.2 _ _ (by omega) (by omega) (by omega)).trans (h9 j hj), ha.same (fun j hj => ⟨k.1 _ _ (by omega), by rw [k.1 _ _ (by omega)]; exact Int.le_refl _⟩)⟩
  have hj' : j < σ.1.length := hj
  have s := hsl j (by omega)
  have e := lr_c hc s.1 s.2
  have e2 := sr_c hc s.1 s.2
  exact (h4 j hj).same (fun f a b => k.1 _ _ (by omega)) (fun r y z => k.2 _ _ (by omega) (by omega) (by omega))
section
variable (q : Nat × (Nat → Int)) {I A : M2} {L P : Nat → Nat → Option Nat} {F G : Nat → Nat → UInt32} {D : MD} {T : Int} {X : XS}
theorem v_set (h : Cls I A L P X) (ho : okX T X) (x v : Int) : Doe 919 [vR 9 0, vI x, vI v, vU] q I A L P F G D (vI (aSet X x v).1) (aSet X x v).2 := by
  obtain ⟨S, ph, a, b, c, d⟩ := id h
  have a0 := a 0 (by omega)
  have hs0 : ∀ i, i < 12 → 12 * 0 ≤ S 0 i ∧ S 0 i < 12 * 0 + 12 := fun i hi => (a0.1 i hi).2
  have l4 := (len_c 0 (by omega)).1
  have gm : (if x = 1 then (200 : Int) else if x = 3 then 1000 else 100) = mxSet x := rfl
  unfold aSet
  by_cases h1 : (0 ≤ x ∧ x ≤ 3) ∧ 0 ≤ v ∧ v ≤ mxSet x
  · rw [if_pos h1]
    obtain ⟨I1, A1, P1, e1, k1, k2, k3⟩ := v_record q (F := F) (G := G) (D := D) h ho
    have C1 := k2 _ a0 b
    obtain ⟨n, rfl⟩ : ∃ n : Nat, x = n := ⟨x.toNat, by omega⟩
    rw [Int.toNat_natCast]
    have C2 := C1.sett (by omega) hs0 n v
    refine ⟨_, _, _, _, F, G, ?_, k1.upd (sl0 := S 0) (sl5 := S 5) (fun f y z => rfl) (fun r j z => up2_ne (by omega)) (fun _ _ _ _ => rfl) a0 (a 5 (by omega)) C2⟩
    simp only [s919_0, s919_1, s919_2, s919_3, s919_6, s919_9, s919_10, s919_11, s919_12, s919_15, s919_18, unJ_I, unJ_J, unJ_F, unJ_R, unJ_N, unJ_U, pushR_I, pushR_J, pushR_F, pushR_R, pushR_N, pushR_U, rfV_s, rfV_n, Option.bind_some, true_or, or_true, if_true, c_within, c_greatest, b01_0, gm]
    rw [if_neg (by omega), if_neg (by omega)]
    simp only [s919_23, s919_24, s919_27, s919_28, s919_31, s919_34, s919_35, s919_38, s919_41, s919_42, s919_45, s919_46, s919_47, s919_50, s919_53, s919_54, s919_55, s919_58, s919_59, unJ_I, unJ_J, unJ_F, unJ_R, unJ_N, unJ_U, pushR_I, pushR_J, pushR_F, pushR_R, pushR_N, pushR_U, rfV_s, rfV_n, Option.bind_some, true_or, or_true, if_true, e1, c_get, c_put]
    rw [rget_n _ (by omega), rput_n _ _ (by omega), C1.2.2.2.2.2.1 n (by omega)]
  · rw [if_neg h1]
    refine ⟨_, _, _, _, F, G, ?_, h⟩
    simp only [s919_0, s919_1, s919_2, s919_3, s919_6, s919_9, s919_10, s919_11, s919_12, s919_15, s919_18, s919_21, s919_22, unJ_I, unJ_J, unJ_F, unJ_R, unJ_N, unJ_U, pushR_I, pushR_J, pushR_F, pushR_R, pushR_N, pushR_U, rfV_s, rfV_n, Option.bind_some, true_or, or_true, if_true, c_within, c_greatest, b01_0, gm]
    repeat' split
    all_goals first | rfl | (exfalso; omega)
theorem v_undo (h : Cls I A L P X) (ho : okX T X) : Doe 922 [vR 9 0] q I A L P F G D (vI (aUndo X).1) (aUndo X).2 := by
  obtain ⟨S, ph, a, b, c, d⟩ := id h
  have i21 := c.1
  unfold aUndo
  by_cases h1 : X.2.1.length = 0
  · rw [if_pos h1]
    refine ⟨_, _, _, _, F, G, ?_, h⟩
    simp only [s922_0, s922_1, s922_4, s922_7, s922_10, s922_12, unJ_I, unJ_J, unJ_F, unJ_R, unJ_N, unJ_U, pushR_I, pushR_J, pushR_F, pushR_R, pushR_N, pushR_U, rfV_s, rfV_n, Option.bind_some, true_or, or_true, if_true, i21]
    rw [if_pos (by omega)]
  · rw [if_neg h1]
    have hl : (X.2.1.getD (X.2.1.length - 1) s0) ∈ X.2.1 := by
      rw [List.getD_eq_getElem?_getD, List.getElem?_eq_getElem (by omega)]
      exact List.getElem_mem _
    have o := ho.2.2.1 _ hl
    obtain ⟨I', A', e, k1, k2, k3, k4⟩ := c_restore q (I := I) (A := A) (L := L) (P := P) (F := F) (G := G) (D := D) a c (by omega) (fun i hi => (o.1 i hi).1.2.2.2.2.2.2.2.2.2.2)
    have j21 := k1.1
    have dl : ((X.2.1.dropLast.length : Nat) : Int) = (X.2.1.length : Int) - 1 := by rw [List.length_dropLast]; omega
    refine ⟨I', A', L, P, F, G, ?_, ⟨S, ph, a, k2, k1, d.keep (fun f y z => k3 f y (by omega) (by unfold inI; omega)) (fun j => k4 _ _ (by unfold inR; omega))⟩⟩
    simp only [s922_0, s922_1, s922_4, s922_7, unJ_I, unJ_J, unJ_F, unJ_R, unJ_N, unJ_U, pushR_I, pushR_J, pushR_F, pushR_R, pushR_N, pushR_U, rfV_s, rfV_n, Option.bind_some, true_or, or_true, if_true, i21]
    rw [if_neg (by omega)]
    simp only [s922_13, s922_14, s922_17, s922_18, s922_21, s922_24, s922_25, s922_28, s922_31, unJ_I, unJ_J, unJ_F, unJ_R, unJ_N, unJ_U, pushR_I, pushR_J, pushR_F, pushR_R, pushR_N, pushR_U, rfV_s, rfV_n, Option.bind_some, true_or, or_true, if_true, e, j21, dl]
end
