/-! THE HISTORY: record, restore -/
theorem getD_drop1 (hs : List St) (i : Nat) : (hs.drop 1).getD i s0 = hs.getD (i + 1) s0 := by
  rw [List.getD_eq_getElem?_getD, List.getD_eq_getElem?_getD, List.getElem?_drop, Nat.add_comm]
theorem getD_snoc (hs : List St) (σ : St) (i : Nat) : (hs ++ [σ]).getD i s0 = if i < hs.length then hs.getD i s0 else if i = hs.length then σ else s0 := by
  rw [List.getD_eq_getElem?_getD, List.getD_eq_getElem?_getD]
  by_cases h : i < hs.length
  · rw [if_pos h, List.getElem?_append_left h]
  · rw [if_neg h, List.getElem?_append_right (by omega)]
    by_cases e : i = hs.length
    · rw [if_pos e, e, Nat.sub_self]; rfl
    · rw [if_neg e, List.getElem?_eq_none (by simp; omega)]; rfl
section
variable (q : Nat × (Nat → Int)) {I A : M2} {L P : Nat → Nat → Option Nat} {F G : Nat → Nat → UInt32} {D : MD} {σ : St} {S : Nat → Nat → Nat} {hs : List St} {ph : Nat → Nat}
/-- a history that isn't full -/
theorem c_record1 (hL : ∀ c, c < 6 → LoS L c (S c)) (hC : CelAt I A 0 (S 0) σ) (hg : ∀ i, i < σ.1.length → (lt σ.1 i).2.length ≤ 200) (hH : HistAt I A P S hs ph) (h4 : hs.length < 4) :
    ∃ I' A', rs 102 16 [vR 1 0, vR 0 0, vU] [] (SX q, (I, A, L, P, F, G), D) = some (vU, (SX q, (I', A', L, P, F, G), D)) ∧ HistAt I' A' P S (hs ++ [σ]) ph ∧ CelAt I' A' 0 (S 0) σ ∧ FrH I A I' A' := by
  obtain ⟨h1, h2, h3, h5, h6⟩ := hH
  obtain ⟨p1, p2, p3⟩ := h3 hs.length h4
  obtain ⟨I2, A2, e2, k1, k2⟩ := c_ccopy q (I := I) (A := A) (L := L) (P := P) (F := F) (G := G) (D := D) (c := ph hs.length) (s := 0) (by omega) (by omega) (by omega) hC (hL _ (by omega)) (hL 0 (by omega)) hg
  have n21 : I2 21 0 = hs.length := (k2.1 _ _ (by unfold inI; omega)).trans h1
  have e1 : Unit → w32 ((hs.length : Int) + 1) = ((hs.length + 1 : Nat) : Int) := fun _ => by rw [w32_id (by omega) (by omega)]; omega
  have hC2 : CelAt I2 A2 0 (S 0) σ := hC.frC k2 (by omega) (by omega) (by omega) (fun i hi => ((hL 0 (by omega)).1 i hi).2)
  refine ⟨up2 I2 21 0 ((hs.length + 1 : Nat) : Int), A2, ?_, ⟨?_, by simp; omega, h3, h5, fun i hi => ?_⟩, hC2.n21 _, (k2.toH p2 p3).tr (FrH.n21 _)⟩
  · simp only [s102_16, s102_17, s102_20, s102_23, s102_24, s102_27, s102_28, s102_31, s102_32, s102_35, s102_36, s102_37, s102_40, s102_41, s102_44, s102_45, s102_45n, s102_46, s102_46n, s102_47n, s102_47, s102_50, s102_50n, s102_51, s102_52, s102_55, s102_56, s102_56r, s102_57, s102_60, s102_61, s102_62, s102_65, unJ_I, unJ_J, unJ_F, unJ_R, unJ_N, unJ_U, pushR_I, pushR_J, pushR_F, pushR_R, pushR_N, pushR_U, rfV_s, rfV_n, Option.bind_some, true_or, or_true, if_true, lx16, h1, Int.toNat_natCast]
    rw [if_neg (by omega), if_pos (by omega), if_pos (by omega), if_pos (by omega), p1]
    simp only [s102_45, s102_45n, s102_46, s102_46n, s102_47n, s102_47, s102_50, s102_50n, s102_51, s102_52, s102_55, s102_56, s102_56r, s102_57, s102_60, s102_61, s102_62, s102_65, unJ_I, unJ_J, unJ_F, unJ_R, unJ_N, unJ_U, pushR_I, pushR_J, pushR_F, pushR_R, pushR_N, pushR_U, rfV_s, rfV_n, Option.bind_some, true_or, or_true, if_true, e2, n21, e1 ()]
  · rw [up2_eq]; simp
  · rw [getD_snoc]
    by_cases hz : i < hs.length
    · rw [if_pos hz]
      obtain ⟨r1, r2, r3⟩ := h3 i (by omega)
      exact ((h6 i hz).frC k2 (by omega) (by omega) (fun z => by have := h5 i hs.length (by omega) h4 z; omega) (fun j hj => ((hL _ (by omega)).1 j hj).2)).n21 _
    · have : i = hs.length := by simp at hi; omega
      subst this
      rw [if_neg hz, if_pos rfl]
      exact k1.n21 _
/-- History.record -/
theorem c_record (hL : ∀ c, c < 6 → LoS L c (S c)) (hC : CelAt I A 0 (S 0) σ) (hg : ∀ i, i < σ.1.length → (lt σ.1 i).2.length ≤ 200) (hH : HistAt I A P S hs ph) :
    ∃ I' A' P' ph', rs 102 0 [vR 1 0, vR 0 0, vU] [] (SX q, (I, A, L, P, F, G), D) = some (vU, (SX q, (I', A', L, P', F, G), D)) ∧ HistAt I' A' P' S (recH hs σ) ph' ∧ CelAt I' A' 0 (S 0) σ ∧ FrH I A I' A' := by
  obtain ⟨h1, h2, h3, h5, h6⟩ := id hH
  by_cases h4 : hs.length = 4
  · obtain ⟨P', e1, d1, d2⟩ := c_dropOldest q (I := I) (A := A) (L := L) (P := P) (F := F) (G := G) (D := D) (ph := ph) (fun i hi => (h3 i hi).1) (n := 3) (by rw [h1, h4]) (by omega)
    have hH' : HistAt (up2 I 21 0 ((3 : Nat) : Int)) A P' S (hs.drop 1) (fun i => ph ((i + 1) % 4)) := by
      refine ⟨by rw [up2_eq]; simp; omega, by simp; omega, fun i hi => ?_, fun i j hi hj e => ?_, fun i hi => ?_⟩
      · have m : (i + 1) % 4 < 4 := by omega
        refine ⟨?_, (h3 _ m).2⟩
        by_cases e : i = 3
        · subst e; exact d2
        · rw [d1 i (by omega)]
          show _ = some (ph ((i + 1) % 4))
          rw [show (i + 1) % 4 = i + 1 by omega]
      · have := h5 _ _ (show (i + 1) % 4 < 4 by omega) (show (j + 1) % 4 < 4 by omega) e
        omega
      · have hi2 : i + 1 < hs.length := by simp at hi; omega
        rw [getD_drop1]
        show CelAt _ _ (ph ((i + 1) % 4)) (S (ph ((i + 1) % 4))) _
        rw [show (i + 1) % 4 = i + 1 by omega]
        exact (h6 (i + 1) hi2).n21 _
    obtain ⟨I2, A2, e2, k1, k2, k3⟩ := c_record1 q (I := up2 I 21 0 ((3 : Nat) : Int)) (A := A) (L := L) (P := P') (F := F) (G := G) (D := D) hL (hC.n21 _) hg hH' (by simp; omega)
    refine ⟨I2, A2, P', _, ?_, by unfold recH; rw [if_pos h4]; exact k1, k2, (FrH.n21 _).tr k3⟩
    simp only [s102_0, s102_1, s102_4, s102_5, s102_8, s102_9, s102_12, s102_13, unJ_I, unJ_J, unJ_F, unJ_R, unJ_N, unJ_U, pushR_I, pushR_J, pushR_F, pushR_R, pushR_N, pushR_U, rfV_s, rfV_n, Option.bind_some, true_or, or_true, if_true, lx16, h1, e1, h4]
    rw [if_pos (by omega), if_neg (by omega)]
    exact e2
  · obtain ⟨I2, A2, e2, k1, k2, k3⟩ := c_record1 q (I := I) (A := A) (L := L) (P := P) (F := F) (G := G) (D := D) hL hC hg hH (by omega)
    refine ⟨I2, A2, P, _, ?_, by unfold recH; rw [if_neg h4]; exact k1, k2, k3⟩
    simp only [s102_0, s102_1, s102_4, s102_5, s102_8, s102_9, unJ_I, unJ_J, unJ_F, unJ_R, unJ_N, unJ_U, pushR_I, pushR_J, pushR_F, pushR_R, pushR_N, pushR_U, rfV_s, rfV_n, Option.bind_some, true_or, or_true, if_true, lx16, h1]
    rw [if_pos (by omega), if_pos (by omega)]
    exact e2
/-- History.restore -/
theorem c_restore (hL : ∀ c, c < 6 → LoS L c (S c)) (hH : HistAt I A P S hs ph) (h0 : 0 < hs.length) (hg : ∀ i, i < (hs.getD (hs.length - 1) s0).1.length → (lt (hs.getD (hs.length - 1) s0).1 i).2.length ≤ 200) :
    ∃ I' A', rs 104 0 [vR 1 0, vR 0 0, vU] [] (SX q, (I, A, L, P, F, G), D) = some (vU, (SX q, (I', A', L, P, F, G), D)) ∧ HistAt I' A' P S hs.dropLast ph ∧ CelAt I' A' 0 (S 0) (hs.getD (hs.length - 1) s0) ∧ (∀ f x, ¬ (f = 21 ∧ x = 0) → ¬ inI 0 f x → I' f x = I f x) ∧ ∀ r j, ¬ inR 0 r → A' r j = A r j := by
  obtain ⟨h1, h2, h3, h5, h6⟩ := hH
  obtain ⟨p1, p2, p3⟩ := h3 (hs.length - 1) (by omega)
  have e1 : Unit → w32 ((hs.length : Int) - 1) = ((hs.length - 1 : Nat) : Int) := fun _ => by rw [w32_id (by omega) (by omega)]; omega
  obtain ⟨I2, A2, e2, k1, k2⟩ := c_ccopy q (I := up2 I 21 0 ((hs.length - 1 : Nat) : Int)) (A := A) (L := L) (P := P) (F := F) (G := G) (D := D) (c := 0) (s := ph (hs.length - 1)) (by omega) (by omega) (by omega) ((h6 _ (by omega)).n21 _) (hL 0 (by omega)) (hL _ (by omega)) hg
  have u21 : up2 I 21 0 ((hs.length - 1 : Nat) : Int) 21 0 = ((hs.length - 1 : Nat) : Int) := up2_eq
  refine ⟨I2, A2, ?_, ⟨?_, by simp; omega, h3, h5, fun i hi => ?_⟩, k1, fun f x a b => (k2.1 f x b).trans (up2_ne a), k2.2⟩
  · simp only [s104_0, s104_1, s104_4, s104_7, s104_8, s104_11, s104_12, s104_15, s104_16, unJ_I, unJ_J, unJ_F, unJ_R, unJ_N, unJ_U, pushR_I, pushR_J, pushR_F, pushR_R, pushR_N, pushR_U, rfV_s, rfV_n, Option.bind_some, true_or, or_true, if_true, lx16, h1]
    rw [if_neg (by omega), if_pos (by omega), if_pos (by omega)]
    simp only [s104_20, s104_21, s104_21r, s104_22, s104_25, s104_26, s104_27, s104_30, s104_31, s104_34, s104_35, s104_38, s104_39, s104_39n, s104_40, s104_40n, s104_41n, s104_41, s104_44, s104_45, s104_45n, s104_46, s104_49, unJ_I, unJ_J, unJ_F, unJ_R, unJ_N, unJ_U, pushR_I, pushR_J, pushR_F, pushR_R, pushR_N, pushR_U, rfV_s, rfV_n, Option.bind_some, true_or, or_true, if_true, lx16, h1, e1 (), u21, Int.toNat_natCast]
    rw [if_pos (by omega), p1]
    simp only [s104_39, s104_39n, s104_40, s104_40n, s104_41n, s104_41, s104_44, s104_45, s104_45n, s104_46, s104_49, unJ_I, unJ_J, unJ_F, unJ_R, unJ_N, unJ_U, pushR_I, pushR_J, pushR_F, pushR_R, pushR_N, pushR_U, rfV_s, rfV_n, Option.bind_some, true_or, or_true, if_true, e2]
  · rw [k2.1 _ _ (by unfold inI; omega), up2_eq]; simp
  · have hi2 : i < hs.length - 1 := by simpa using hi
    obtain ⟨r1, r2, r3⟩ := h3 i (by omega)
    have e : hs.dropLast.getD i s0 = hs.getD i s0 := by
      rw [List.getD_eq_getElem?_getD, List.getD_eq_getElem?_getD, List.getElem?_dropLast, if_pos hi2]
    rw [e]
    exact ((h6 i (by omega)).n21 _).frC k2 (by omega) (by omega) (by omega) (fun j hj => ((hL _ (by omega)).1 j hj).2)
end
