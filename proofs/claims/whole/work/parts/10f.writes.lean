/-! CALLS: set, undo, dropRule, type, clearText, fault, read -/
theorem CelAt.sett {I A : M2} {c : Nat} {sl : Nat → Nat} {σ : St} (h : CelAt I A c sl σ) (hc : c < 6) (hsl : ∀ i, i < 12 → 12 * c ≤ sl i ∧ sl i < 12 * c + 12) (i : Nat) (v : Int) : CelAt I (up2 A (19 * c + 2 * (c / 5) + 5) i v) c sl (σ.1, σ.2.1, sup σ.2.2.1 i v, σ.2.2.2) := by
  obtain ⟨h1, h2, h3, h4, h5, h8, h9, ha⟩ := h
  have rr := rr_c hc
  refine ⟨h1, h2, h3, fun j hj => ?_, h5.keep rfl (fun a ha y => up2_ne (by omega)), fun j hj => ?_, fun j hj => (up2_ne (by omega)).trans (h9 j hj), ha⟩
  · have hj' : j < σ.1.length := hj
    have s := hsl j (by omega)
    have e := lr_c hc s.1 s.2
    have e2 := sr_c hc s.1 s.2
    exact (h4 j hj).same (fun _ _ _ => rfl) (fun r y z => up2_ne (by omega))
  · show _ = if j = i then v else σ.2.2.1 j
    by_cases z : j = i
    · rw [if_pos z, z, up2_eq]
    · rw [if_neg z, up2_ne (by omega)]; exact h8 j hj
theorem CelAt.rul {I A I' A' : M2} {c : Nat} {sl : Nat → Nat} {σ : St} {ru : List Ru} (h : CelAt I A c sl σ) (hc : c < 6) (hsl : ∀ i, i < 12 → 12 * c ≤ sl i ∧ sl i < 12 * c + 12) (hr : RulesAt I' A' c ru) (k : FrR c I A I' A') : CelAt I' A' c sl (σ.1, ru, σ.2.2) := by
  obtain ⟨h1, h2, h3, h4, h5, h8, h9, ha⟩ := h
  have rr := rr_c hc
  refine ⟨(k.1 _ _ (by omega)).trans h1, h2, (k.1 _ _ (by omega)).trans h3, fun j hj => ?_, hr, fun j hj => (k.2 _ _ (by omega) (by omega) (by omega)).trans (h8 j hj), fun j hj => (k.2 _ _ (by omega) (by omega) (by omega)).trans (h9 j hj), ha.same (fun j hj => ⟨k.1 _ _ (by omega), by rw [k.1 _ _ (by omega)]; exact Int.le_refl _⟩)⟩
  have hj' : j < σ.1.length := hj
  have s := hsl j (by omega)
  have e := lr_c hc s.1 s.2
  have e2 := sr_c hc s.1 s.2
  exact (h4 j hj).same (fun f a b => k.1 _ _ (by omega)) (fun r y z => k.2 _ _ (by omega) (by omega) (by omega))
section
variable (q : Nat × (Nat → Int)) {I A : M2} {L P : Nat → Nat → Option Nat} {F G : Nat → Nat → UInt32} {D : MD} {T : Int} {X : XS}
theorem v_set (h : Cls I A L P X) (ho : okX T X) (x v : Int) : Doe 919 [vR 9 0, vI x, vI v, vU] q I A L P F G D (vI (aSet X x v).1) (aSet X x v).2 := by
  obtain ⟨S, ph, a, b, c, d⟩ := id h
  have a0 := a 0 (by omega)
  have hs0 : ∀ i, i < 12 → 12 * 0 ≤ S 0 i ∧ S 0 i < 12 * 0 + 12 := fun i hi => (a0.1 i hi).2
  have l4 := (len_c 0 (by omega)).1
  have gm : (if x = 1 then (200 : Int) else if x = 3 then 1000 else 100) = mxSet x := rfl
  unfold aSet
  by_cases h1 : (0 ≤ x ∧ x ≤ 3) ∧ 0 ≤ v ∧ v ≤ mxSet x
  · rw [if_pos h1]
    obtain ⟨I1, A1, P1, e1, k1, k2, k3⟩ := v_record q (F := F) (G := G) (D := D) h ho
    have C1 := k2 _ a0 b
    obtain ⟨n, rfl⟩ : ∃ n : Nat, x = n := ⟨x.toNat, by omega⟩
    rw [Int.toNat_natCast]
    have C2 := C1.sett (by omega) hs0 n v
    refine ⟨_, _, _, _, F, G, ?_, k1.upd (sl0 := S 0) (sl5 := S 5) (fun f y z => rfl) (fun r j z => up2_ne (by omega)) (fun _ _ _ _ => rfl) a0 (a 5 (by omega)) C2⟩
    simp only [s919_0, s919_1, s919_2, s919_3, s919_6, s919_9, s919_10, s919_11, s919_12, s919_15, s919_18, unJ_I, unJ_J, unJ_F, unJ_R, unJ_N, unJ_U, pushR_I, pushR_J, pushR_F, pushR_R, pushR_N, pushR_U, rfV_s, rfV_n, Option.bind_some, true_or, or_true, if_true, c_within, c_greatest, b01_0, gm]
    rw [if_neg (by omega), if_neg (by omega)]
    simp only [s919_23, s919_24, s919_27, s919_28, s919_31, s919_34, s919_35, s919_38, s919_41, s919_42, s919_45, s919_46, s919_47, s919_50, s919_53, s919_54, s919_55, s919_58, s919_59, unJ_I, unJ_J, unJ_F, unJ_R, unJ_N, unJ_U, pushR_I, pushR_J, pushR_F, pushR_R, pushR_N, pushR_U, rfV_s, rfV_n, Option.bind_some, true_or, or_true, if_true, e1, c_get, c_put]
    rw [rget_n _ (by omega), rput_n _ _ (by omega), C1.2.2.2.2.2.1 n (by omega)]
  · rw [if_neg h1]
    refine ⟨_, _, _, _, F, G, ?_, h⟩
    simp only [s919_0, s919_1, s919_2, s919_3, s919_6, s919_9, s919_10, s919_11, s919_12, s919_15, s919_18, s919_21, s919_22, unJ_I, unJ_J, unJ_F, unJ_R, unJ_N, unJ_U, pushR_I, pushR_J, pushR_F, pushR_R, pushR_N, pushR_U, rfV_s, rfV_n, Option.bind_some, true_or, or_true, if_true, c_within, c_greatest, b01_0, gm]
    repeat' split
    all_goals first | rfl | (exfalso; omega)
theorem v_undo (h : Cls I A L P X) (ho : okX T X) : Doe 922 [vR 9 0] q I A L P F G D (vI (aUndo X).1) (aUndo X).2 := by
  obtain ⟨S, ph, a, b, c, d⟩ := id h
  have i21 := c.1
  unfold aUndo
  by_cases h1 : X.2.1.length = 0
  · rw [if_pos h1]
    refine ⟨_, _, _, _, F, G, ?_, h⟩
    simp only [s922_0, s922_1, s922_4, s922_7, s922_10, s922_12, unJ_I, unJ_J, unJ_F, unJ_R, unJ_N, unJ_U, pushR_I, pushR_J, pushR_F, pushR_R, pushR_N, pushR_U, rfV_s, rfV_n, Option.bind_some, true_or, or_true, if_true, i21]
    rw [if_pos (by omega)]
  · rw [if_neg h1]
    have hl : (X.2.1.getD (X.2.1.length - 1) s0) ∈ X.2.1 := by
      rw [List.getD_eq_getElem?_getD, List.getElem?_eq_getElem (by omega)]
      exact List.getElem_mem _
    have o := ho.2.2.1 _ hl
    obtain ⟨I', A', e, k1, k2, k3, k4⟩ := c_restore q (I := I) (A := A) (L := L) (P := P) (F := F) (G := G) (D := D) a c (by omega) (fun i hi => (o.1 i hi).1.2.2.2.2.2.2.2.2.2.2)
    have j21 := k1.1
    have dl : ((X.2.1.dropLast.length : Nat) : Int) = (X.2.1.length : Int) - 1 := by rw [List.length_dropLast]; omega
    refine ⟨I', A', L, P, F, G, ?_, ⟨S, ph, a, k2, k1, d.keep (fun f y z => k3 f y (by omega) (by unfold inI; omega)) (fun j => k4 _ _ (by unfold inR; omega))⟩⟩
    simp only [s922_0, s922_1, s922_4, s922_7, unJ_I, unJ_J, unJ_F, unJ_R, unJ_N, unJ_U, pushR_I, pushR_J, pushR_F, pushR_R, pushR_N, pushR_U, rfV_s, rfV_n, Option.bind_some, true_or, or_true, if_true, i21]
    rw [if_neg (by omega)]
    simp only [s922_13, s922_14, s922_17, s922_18, s922_21, s922_24, s922_25, s922_28, s922_31, unJ_I, unJ_J, unJ_F, unJ_R, unJ_N, unJ_U, pushR_I, pushR_J, pushR_F, pushR_R, pushR_N, pushR_U, rfV_s, rfV_n, Option.bind_some, true_or, or_true, if_true, e, j21, dl]
theorem v_dropRule (h : Cls I A L P X) (ho : okX T X) (r : Int) : Doe 924 [vR 9 0, vI r] q I A L P F G D (vI (aDropRule X r).1) (aDropRule X r).2 := by
  obtain ⟨S, ph, a, b, c, d⟩ := id h
  have a0 := a 0 (by omega)
  have hs0 : ∀ i, i < 12 → 12 * 0 ≤ S 0 i ∧ S 0 i < 12 * 0 + 12 := fun i hi => (a0.1 i hi).2
  have i103 := b.2.2.2.2.1.1
  have rr0 := rr_c (c := 0) (by omega)
  unfold aDropRule
  by_cases h1 : 0 ≤ r
  · rw [if_pos h1]
    by_cases h2 : r < X.1.2.1.length
    · rw [if_pos h2]
      obtain ⟨n, rfl⟩ : ∃ n : Nat, r = n := ⟨r.toNat, by omega⟩
      rw [Int.toNat_natCast]
      obtain ⟨I1, A1, P1, e1, k1, k2, k3⟩ := v_record q (F := F) (G := G) (D := D) h ho
      have C1 := k2 _ a0 b
      obtain ⟨I2, A2, e2, r2, f2⟩ := c_remove q (c := 0) (I := I1) (A := A1) (L := L) (P := P1) (F := F) (G := G) (D := D) (by omega) C1.2.2.2.2.1 (i := n) (by omega)
      have C2 := C1.rul (by omega) hs0 r2 f2
      have j103 := r2.1
      have el : (((X.1.2.1.eraseIdx n).length : Nat) : Int) = (X.1.2.1.length : Int) - 1 := by rw [List.length_eraseIdx, if_pos (by omega)]; omega
      refine ⟨_, _, _, _, F, G, ?_, k1.upd (sl0 := S 0) (sl5 := S 5) (fun f y z => f2.1 f y (by omega)) (fun r j z => f2.2 r j (by omega) (by omega) (by omega)) (fun _ _ _ _ => rfl) a0 (a 5 (by omega)) C2⟩
      simp only [s924_0, s924_1, s924_4, s924_5, s924_6, s924_7, s924_8, s924_11, s924_14, s924_17, s924_20, s924_22, unJ_I, unJ_J, unJ_F, unJ_R, unJ_N, unJ_U, pushR_I, pushR_J, pushR_F, pushR_R, pushR_N, pushR_U, rfV_s, rfV_n, Option.bind_some, true_or, or_true, if_true, i103]
      rw [if_pos h1, if_pos h2]
      simp only [s924_23, s924_24, s924_27, s924_28, s924_31, s924_34, s924_35, s924_38, s924_41, s924_42, s924_45, s924_46, s924_49, s924_52, s924_55, unJ_I, unJ_J, unJ_F, unJ_R, unJ_N, unJ_U, pushR_I, pushR_J, pushR_F, pushR_R, pushR_N, pushR_U, rfV_s, rfV_n, Option.bind_some, true_or, or_true, if_true, e1, e2, j103, el]
    · rw [if_neg h2]
      refine ⟨_, _, _, _, F, G, ?_, h⟩
      simp only [s924_0, s924_1, s924_4, s924_5, s924_6, s924_7, s924_8, s924_11, s924_14, s924_17, s924_20, s924_22, unJ_I, unJ_J, unJ_F, unJ_R, unJ_N, unJ_U, pushR_I, pushR_J, pushR_F, pushR_R, pushR_N, pushR_U, rfV_s, rfV_n, Option.bind_some, true_or, or_true, if_true, i103]
      rw [if_pos h1, if_neg h2]
  · rw [if_neg h1]
    refine ⟨_, _, _, _, F, G, ?_, h⟩
    simp only [s924_0, s924_1, s924_4, s924_5, unJ_I, unJ_J, unJ_F, unJ_R, unJ_N, unJ_U, pushR_I, pushR_J, pushR_F, pushR_R, pushR_N, pushR_U, rfV_s, rfV_n, Option.bind_some, true_or, or_true, if_true]
    rw [if_neg h1]
theorem v_type (h : Cls I A L P X) (x : Int) : Doe 925 [vR 9 0, vI x] q I A L P F G D (vI (aType X x).1) (aType X x).2 := by
  obtain ⟨S, ph, a, b, c, d⟩ := id h
  have i122 := d.1
  have hS : ∀ c, c < 6 → ∀ i, i < 12 → 12 * c ≤ S c i ∧ S c i < 12 * c + 12 := fun c hc i hi => ((a c hc).1 i hi).2
  unfold aType
  by_cases h1 : 32 ≤ x ∧ x ≤ 126
  · rw [if_pos h1]
    by_cases h2 : X.2.2.length < 100
    · rw [if_pos h2]
      obtain ⟨e, t⟩ := c_tappend q (I := I) (A := A) (L := L) (P := P) (F := F) (G := G) (D := D) d h2 x
      have j122 : up2 I 122 0 ((X.2.2.length + 1 : Nat) : Int) 122 0 = (X.2.2.length : Int) + 1 := by rw [up2_eq]; omega
      refine ⟨_, _, _, _, F, G, ?_, ⟨S, ph, a, b.keep (by omega) (hS 0 (by omega)) (fun f y z => up2_ne (by unfold inI at z; omega)) (fun r j z => up2_ne (by unfold inR at z; omega)), c.keep (fun c h1 h2 => hS c (by omega)) (up2_ne (by omega)) (fun c f y _ _ z => up2_ne (by unfold inI at z; omega)) (fun r j _ _ => up2_ne (by omega)), t⟩⟩
      simp only [s925_0, s925_1, s925_3, s925_5, s925_8, s925_11, s925_12, s925_13, s925_14, s925_17, s925_20, s925_22, unJ_I, unJ_J, unJ_F, unJ_R, unJ_N, unJ_U, pushR_I, pushR_J, pushR_F, pushR_R, pushR_N, pushR_U, rfV_s, rfV_n, Option.bind_some, true_or, or_true, if_true, c_within, b01_0, i122]
      rw [if_neg (by omega), if_pos (by omega)]
      simp only [s925_28, s925_29, s925_32, s925_33, s925_36, s925_37, s925_40, s925_43, unJ_I, unJ_J, unJ_F, unJ_R, unJ_N, unJ_U, pushR_I, pushR_J, pushR_F, pushR_R, pushR_N, pushR_U, rfV_s, rfV_n, Option.bind_some, true_or, or_true, if_true, e, j122]
    · rw [if_neg h2]
      refine ⟨_, _, _, _, F, G, ?_, h⟩
      simp only [s925_0, s925_1, s925_3, s925_5, s925_8, s925_11, s925_12, s925_13, s925_14, s925_17, s925_20, s925_22, s925_25, s925_27, unJ_I, unJ_J, unJ_F, unJ_R, unJ_N, unJ_U, pushR_I, pushR_J, pushR_F, pushR_R, pushR_N, pushR_U, rfV_s, rfV_n, Option.bind_some, true_or, or_true, if_true, c_within, b01_0, i122]
      rw [if_neg (by omega), if_neg (by omega)]
  · rw [if_neg h1]
    refine ⟨_, _, _, _, F, G, ?_, h⟩
    simp only [s925_0, s925_1, s925_3, s925_5, s925_8, s925_11, s925_12, unJ_I, unJ_J, unJ_F, unJ_R, unJ_N, unJ_U, pushR_I, pushR_J, pushR_F, pushR_R, pushR_N, pushR_U, rfV_s, rfV_n, Option.bind_some, true_or, or_true, if_true, c_within, b01_0]
    rw [if_pos (by omega)]
theorem v_clear (h : Cls I A L P X) : Doe 926 [vR 9 0, vU] q I A L P F G D (vI (aClear X).1) (aClear X).2 := by
  obtain ⟨S, ph, a, b, c, d⟩ := id h
  have i122 := d.1
  have hS : ∀ c, c < 6 → ∀ i, i < 12 → 12 * c ≤ S c i ∧ S c i < 12 * c + 12 := fun c hc i hi => ((a c hc).1 i hi).2
  refine ⟨_, _, _, _, F, G, ?_, ⟨S, ph, a, b.keep (by omega) (hS 0 (by omega)) (fun f y z => up2_ne (by unfold inI at z; omega)) (fun _ _ _ => rfl), c.keep (fun c h1 h2 => hS c (by omega)) (up2_ne (by omega)) (fun c f y _ _ z => up2_ne (by unfold inI at z; omega)) (fun _ _ _ _ => rfl), ⟨up2_eq, by show 0 ≤ 100; omega, fun j hj => absurd hj (Nat.not_lt_zero _)⟩⟩⟩
  simp only [s926_0, s926_1, s926_4, s926_7, s926_8, s926_9, s926_12, s926_13, s926_16, s926_17, unJ_I, unJ_J, unJ_F, unJ_R, unJ_N, unJ_U, pushR_I, pushR_J, pushR_F, pushR_R, pushR_N, pushR_U, rfV_s, rfV_n, Option.bind_some, true_or, or_true, if_true, i122]
  rfl
theorem v_fault (h : Cls I A L P X) (x : Int) : Doe 927 [vR 9 0, vI x] q I A L P F G D (vI (aFault X x)) X := by
  obtain ⟨S, ph, a, b, c, d⟩ := id h
  unfold aFault
  by_cases h1 : 0 ≤ x ∧ x ≤ 1
  · rw [if_pos h1]
    obtain ⟨I', A', e, k1, k2, k3, k4, k5⟩ := c_check q (I := I) (A := A) (L := L) (P := P) (F := F) (G := G) (D := D) d b.2.2.2.2.1
    refine ⟨I', A', L, P, F, G, ?_, h.same (fun f y z => k5.1 f y (by omega) (by omega)) (fun r j z => k5.2 r j (by omega))⟩
    have k2' : I' 124 0 = (ckX X).2.2.1 := k2
    have k3' : I' 125 0 = (ckX X).2.2.2 := k3
    simp only [s927_0, s927_1, s927_2, s927_3, s927_6, s927_9, s927_10, s927_11, s927_12, s927_15, s927_16, s927_19, s927_22, s927_25, s927_26, s927_29, s927_32, unJ_I, unJ_J, unJ_F, unJ_R, unJ_N, unJ_U, pushR_I, pushR_J, pushR_F, pushR_R, pushR_N, pushR_U, rfV_s, rfV_n, Option.bind_some, true_or, or_true, if_true, c_within, b01_0, e, k3']
    rw [if_neg (by omega)]
    by_cases hr : (ckX X).2.2.2 = 0
    · rw [if_pos hr, if_pos hr]
      simp only [s927_35, s927_37, unJ_I, unJ_J, unJ_F, unJ_R, unJ_N, unJ_U, pushR_I, pushR_J, pushR_F, pushR_R, pushR_N, pushR_U, rfV_s, rfV_n, Option.bind_some, true_or, or_true, if_true]
    · rw [if_neg hr, if_neg hr]
      simp only [s927_38, s927_39, unJ_I, unJ_J, unJ_F, unJ_R, unJ_N, unJ_U, pushR_I, pushR_J, pushR_F, pushR_R, pushR_N, pushR_U, rfV_s, rfV_n, Option.bind_some, true_or, or_true, if_true]
      by_cases hx : x = 0
      · rw [if_pos hx, if_pos hx]
        simp only [s927_42, s927_43, s927_46, s927_49, s927_59, unJ_I, unJ_J, unJ_F, unJ_R, unJ_N, unJ_U, pushR_I, pushR_J, pushR_F, pushR_R, pushR_N, pushR_U, rfV_s, rfV_n, Option.bind_some, true_or, or_true, if_true, k2']
      · rw [if_neg hx, if_neg hx]
        simp only [s927_52, s927_53, s927_56, s927_59, unJ_I, unJ_J, unJ_F, unJ_R, unJ_N, unJ_U, pushR_I, pushR_J, pushR_F, pushR_R, pushR_N, pushR_U, rfV_s, rfV_n, Option.bind_some, true_or, or_true, if_true, k3']
  · rw [if_neg h1]
    refine ⟨_, _, _, _, F, G, ?_, h⟩
    simp only [s927_0, s927_1, s927_2, s927_3, s927_6, s927_9, s927_10, unJ_I, unJ_J, unJ_F, unJ_R, unJ_N, unJ_U, pushR_I, pushR_J, pushR_F, pushR_R, pushR_N, pushR_U, rfV_s, rfV_n, Option.bind_some, true_or, or_true, if_true, c_within, b01_0]
    rw [if_pos h1]
theorem v_read (h : Cls I A L P X) (ho : okX T X) : Doe 928 [vR 9 0] q I A L P F G D (vI (aRead X).1) (aRead X).2 := by
  obtain ⟨S, ph, a, b, c, d⟩ := id h
  have a0 := a 0 (by omega)
  have hs0 : ∀ i, i < 12 → 12 * 0 ≤ S 0 i ∧ S 0 i < 12 * 0 + 12 := fun i hi => (a0.1 i hi).2
  have rr0 := rr_c (c := 0) (by omega)
  have r6 := rr6
  obtain ⟨I1, A1, e, k1, k2, k3, k4, k5⟩ := c_check q (I := I) (A := A) (L := L) (P := P) (F := F) (G := G) (D := D) d b.2.2.2.2.1
  have H1 : Cls I1 A1 L P X := h.same (fun f y z => k5.1 f y (by omega) (by omega)) (fun r j z => k5.2 r j (by omega))
  have k1' : I1 123 0 = (ckX X).2.1 := k1
  have k3' : I1 125 0 = (ckX X).2.2.2 := k3
  have k4' : RulesAt I1 A1 6 (ckX X).1 := k4
  unfold aRead
  by_cases hr : (ckX X).2.2.2 = 0
  · rw [if_pos hr]
    have b1 : CelAt I1 A1 0 (S 0) X.1 := b.keep (by omega) hs0 (fun f y z => k5.1 f y (by unfold inI at z; omega) (by unfold inI at z; omega)) (fun r j z => k5.2 r j (by unfold inR at z; omega))
    obtain ⟨I2, A2, P2, e2, m1, m2, m3⟩ := v_record q (F := F) (G := G) (D := D) H1 ho
    have C2 := m2 _ a0 b1
    have R2 : RulesAt I2 A2 6 (ckX X).1 := k4'.keep (m3.1 _ _ (by omega) (fun c _ _ => by unfold inI; omega)) (fun a ha j => m3.2 _ _ (by omega))
    obtain ⟨I3, A3, e3, r3, f3⟩ := c_rcopy q (c := 0) (s := 6) (I := I2) (A := A2) (L := L) (P := P2) (F := F) (G := G) (D := D) (by omega) (by omega) (by omega) R2
    have C3 := C2.rul (by omega) hs0 r3 f3
    have j123 : I3 123 0 = (ckX X).2.1 := (f3.1 _ _ (by omega)).trans ((m3.1 _ _ (by omega) (fun c _ _ => by unfold inI; omega)).trans k1')
    refine ⟨_, _, _, _, F, G, ?_, m1.upd (sl0 := S 0) (sl5 := S 5) (fun f y z => f3.1 f y (by omega)) (fun r j z => f3.2 r j (by omega) (by omega) (by omega)) (fun _ _ _ _ => rfl) a0 (a 5 (by omega)) C3⟩
    simp only [s928_0, s928_1, s928_4, s928_5, s928_8, s928_11, s928_14, s928_15, s928_18, s928_21, unJ_I, unJ_J, unJ_F, unJ_R, unJ_N, unJ_U, pushR_I, pushR_J, pushR_F, pushR_R, pushR_N, pushR_U, rfV_s, rfV_n, Option.bind_some, true_or, or_true, if_true, e, k3']
    rw [if_pos hr]
    simp only [s928_27, s928_28, s928_31, s928_32, s928_35, s928_38, s928_39, s928_42, s928_45, s928_46, s928_49, s928_52, s928_55, s928_56, s928_59, s928_62, unJ_I, unJ_J, unJ_F, unJ_R, unJ_N, unJ_U, pushR_I, pushR_J, pushR_F, pushR_R, pushR_N, pushR_U, rfV_s, rfV_n, Option.bind_some, true_or, or_true, if_true, e2, e3, j123]
  · rw [if_neg hr]
    refine ⟨I1, A1, L, P, F, G, ?_, H1⟩
    simp only [s928_0, s928_1, s928_4, s928_5, s928_8, s928_11, s928_14, s928_15, s928_18, s928_21, s928_24, s928_26, unJ_I, unJ_J, unJ_F, unJ_R, unJ_N, unJ_U, pushR_I, pushR_J, pushR_F, pushR_R, pushR_N, pushR_U, rfV_s, rfV_n, Option.bind_some, true_or, or_true, if_true, e, k3']
    rw [if_neg hr]
end
