/-! A CELLAR IS COPIED -/
def inI (c f x : Nat) : Prop := ((f = 4 ∨ f = 5 ∨ f = 103) ∧ x = c) ∨ (43 ≤ f ∧ f ≤ 50 ∧ 12 * c ≤ x ∧ x < 12 * c + 12)
def inR (c r : Nat) : Prop := 41 * c ≤ r ∧ r < 41 * c + 41
/-- only cellar c has changed -/
def FrC (c : Nat) (I A I' A' : M2) : Prop := (∀ f x, ¬ inI c f x → I' f x = I f x) ∧ ∀ r j, ¬ inR c r → A' r j = A r j
theorem FrC.rf (c : Nat) (I A : M2) : FrC c I A I A := ⟨fun _ _ _ => rfl, fun _ _ _ => rfl⟩
theorem FrC.tr {c : Nat} {I A I1 A1 I2 A2 : M2} (h : FrC c I A I1 A1) (k : FrC c I1 A1 I2 A2) : FrC c I A I2 A2 :=
  ⟨fun f x z => (k.1 f x z).trans (h.1 f x z), fun r j a => (k.2 r j a).trans (h.2 r j a)⟩
theorem lr_c {c l : Nat} (hc : c < 6) (h1 : 12 * c ≤ l) (h2 : l < 12 * c + 12) : lr l = 41 * c + 5 + 3 * (l - 12 * c) := by
  unfold lr
  rw [if_pos (by omega)]
  have e1 : l / 12 = c := by omega
  have e2 : l % 12 = l - 12 * c := by omega
  rw [e1, e2]
theorem rr_c {c : Nat} (hc : c < 6) : rr c = 41 * c := if_pos hc
theorem FrL.toC {c l : Nat} {I A I' A' : M2} (h : FrL l I A I' A') (hc : c < 6) (h1 : 12 * c ≤ l) (h2 : l < 12 * c + 12) : FrC c I A I' A' := by
  have e := lr_c hc h1 h2
  exact ⟨fun f x z => h.1 f x (fun k => z (Or.inr ⟨k.2.1, k.2.2, by omega, by omega⟩)), fun r j z => by
    unfold inR at z
    exact h.2 r j (by omega) (by omega) (by omega)⟩
theorem FrR.toC {c : Nat} {I A I' A' : M2} (h : FrR c I A I' A') (hc : c < 6) : FrC c I A I' A' := by
  have e := rr_c hc
  exact ⟨fun f x z => h.1 f x (fun k => z (Or.inl ⟨Or.inr (Or.inr k.1), k.2⟩)), fun r j z => by
    unfold inR at z
    exact h.2 r j (by omega) (by omega) (by omega)⟩
/-- another cellar stays -/
theorem CelAt.frC {c c' : Nat} {I A I' A' : M2} {sl : Nat → Nat} {σ : St} (h : CelAt I A c sl σ) (k : FrC c' I A I' A') (hc : c < 6) (hc' : c' < 6) (hn : c ≠ c') (hsl : ∀ i, i < 12 → 12 * c ≤ sl i ∧ sl i < 12 * c + 12) : CelAt I' A' c sl σ := by
  obtain ⟨h1, h2, h3, h4, ⟨h5, h6, h7⟩, h8, h9⟩ := h
  have e := rr_c hc
  have ki : ∀ f, f = 4 ∨ f = 5 ∨ f = 103 → I' f c = I f c := fun f hf => k.1 f c (by unfold inI; omega)
  have kr : ∀ r j, inR c r → A' r j = A r j := fun r j z => k.2 r j (by unfold inR at *; omega)
  refine ⟨by rw [ki _ (Or.inl rfl)]; exact h1, h2, by rw [ki _ (Or.inr (Or.inl rfl))]; exact h3, fun i hi => ?_, ⟨by rw [ki _ (Or.inr (Or.inr rfl))]; exact h5, h6, fun j hj => ?_⟩, fun i hi => by rw [kr _ _ (by unfold inR; omega)]; exact h8 i hi, fun i hi => by rw [kr _ _ (by unfold inR; omega)]; exact h9 i hi⟩
  · have s := hsl i (by omega)
    have e2 := lr_c hc s.1 s.2
    exact (h4 i hi).same (fun f a b => k.1 f _ (by unfold inI; omega)) (fun a ha j => kr _ _ (by unfold inR; omega))
  · rw [kr _ _ (by unfold inR; omega), kr _ _ (by unfold inR; omega), kr _ _ (by unfold inR; omega)]
    exact h7 j hj
section
variable (q : Nat × (Nat → Int)) {I A : M2} {L P : Nat → Nat → Option Nat} {F G : Nat → Nat → UInt32} {D : MD} {l c : Nat} {w : Lt} {ru : List Ru} {σ : St}
theorem c_ccopy {s : Nat} {slc sls : Nat → Nat} (hc : c < 6) (hs : s < 6) (hn : c ≠ s) (h : CelAt I A s sls σ) (hLc : LoS L c slc) (hLs : LoS L s sls) (hg : ∀ i, i < σ.1.length → (lt σ.1 i).2.length ≤ 200) :
    ∃ I' A', rs 2 0 [vR 0 c, vR 0 s, vU, vU, vU] [] (SX q, (I, A, L, P, F, G), D) = some (vU, (SX q, (I', A', L, P, F, G), D)) ∧ CelAt I' A' c slc σ ∧ FrC c I A I' A' := by
  have hss : ∀ i, i < 12 → 12 * s ≤ sls i ∧ sls i < 12 * s + 12 := fun i hi => (hLs.1 i hi).2
  have hcs : ∀ i, i < 12 → 12 * c ≤ slc i ∧ slc i < 12 * c + 12 := fun i hi => (hLc.1 i hi).2
  obtain ⟨ls', μ', e, I1, A1, rfl, rfl, k1, k2⟩ := rs_loopP (m := 2) (pc := 2) (ls := [vR 0 c, vR 0 s, vI 0, vU, vU]) (μ := (SX q, (I, A, L, P, F, G), D)) (fun i ls μ => ∃ I' A', μ = (SX q, (I', A', L, P, F, G), D) ∧ ls = [vR 0 c, vR 0 s, vI (i : Int), vU, vU] ∧
      (∀ j, j < i → j < σ.1.length → LotAt I' A' (slc j) (lt σ.1 j)) ∧ FrC c I A I' A') 12
    ⟨_, _, rfl, rfl, fun j hj => absurd hj (Nat.not_lt_zero _), FrC.rf _ _ _⟩ (fun i hi ls μ ⟨I', A', e1, e2, k1, k2⟩ => by
      subst e1 e2
      have hS := h.frC k2 hs hc (Ne.symm hn) hss
      have hLi := (hLc.1 i hi).1
      have ei : Unit → w32 ((i : Int) + 1) = ((i + 1 : Nat) : Int) := fun _ => by rw [w32_id (by omega) (by omega)]; omega
      by_cases hz : i < σ.1.length
      · obtain ⟨I3, A3, e3, f1, f2⟩ := c_lcopy q (I := I') (A := A') (L := L) (P := P) (F := F) (G := G) (D := D) (l := slc i) (s := sls i) (by have := hcs i hi; omega) (by have := hss i hi; omega) (by have := hcs i hi; have := hss i hi; omega) (hS.2.2.2.1 i hz) (hg i hz)
        rw [s2_2]
        simp only [s2_3, s2_4, s2_7, s2_8, s2_11, s2_12, s2_13, s2_16, s2_16n, s2_17, s2_18, s2_21, s2_22, s2_23, s2_23n, s2_25, s2_25n, s2_26n, s2_26, s2_29, s2_29n, s2_31n, s2_31, s2_34, s2_34n, s2_36, s2_36n, s2_37, s2_40, s2_43, unJ_I, unJ_J, unJ_F, unJ_R, unJ_N, unJ_U, pushR_I, pushR_J, pushR_F, pushR_R, pushR_N, pushR_U, rfV_s, rfV_n, Option.bind_some, true_or, or_true, if_true, lx15, c_cat q hS hLs hz]
        rw [if_pos (by omega), if_neg (by omega), if_pos (by omega), Int.toNat_natCast, hLi]
        simp only [s2_3, s2_4, s2_7, s2_8, s2_11, s2_12, s2_13, s2_16, s2_16n, s2_17, s2_18, s2_21, s2_22, s2_23, s2_23n, s2_25, s2_25n, s2_26n, s2_26, s2_29, s2_29n, s2_31n, s2_31, s2_34, s2_34n, s2_36, s2_36n, s2_37, s2_40, s2_43, unJ_I, unJ_J, unJ_F, unJ_R, unJ_N, unJ_U, pushR_I, pushR_J, pushR_F, pushR_R, pushR_N, pushR_U, rfV_s, rfV_n, Option.bind_some, true_or, or_true, if_true, e3, ei ()]
        refine ⟨_, _, rfl, _, _, rfl, rfl, fun j hj hj2 => ?_, k2.tr (f2.toC hc (hcs i hi).1 (hcs i hi).2)⟩
        by_cases e : j = i
        · subst e; exact f1
        · refine (k1 j (by omega) hj2).fr f2 (by have := hcs j (by omega); omega) (by have := hcs i hi; omega) (fun z => e (hLc.2 j i (by omega) hi z))
      · rw [s2_2]
        simp only [s2_3, s2_4, s2_7, s2_8, s2_11, s2_12, s2_13, s2_16, s2_16n, s2_17, s2_18, s2_21, s2_22, s2_23, s2_23n, s2_25, s2_25n, s2_26n, s2_26, s2_29, s2_29n, s2_31n, s2_31, s2_34, s2_34n, s2_36, s2_36n, s2_37, s2_40, s2_43, unJ_I, unJ_J, unJ_F, unJ_R, unJ_N, unJ_U, pushR_I, pushR_J, pushR_F, pushR_R, pushR_N, pushR_U, rfV_s, rfV_n, Option.bind_some, true_or, or_true, if_true, lx15, c_catN q hS (show σ.1.length ≤ i by omega)]
        rw [if_pos (by omega), if_neg (by omega), if_pos (by omega), Int.toNat_natCast, hLi]
        simp only [s2_3, s2_4, s2_7, s2_8, s2_11, s2_12, s2_13, s2_16, s2_16n, s2_17, s2_18, s2_21, s2_22, s2_23, s2_23n, s2_25, s2_25n, s2_26n, s2_26, s2_29, s2_29n, s2_31n, s2_31, s2_34, s2_34n, s2_36, s2_36n, s2_37, s2_40, s2_43, unJ_I, unJ_J, unJ_F, unJ_R, unJ_N, unJ_U, pushR_I, pushR_J, pushR_F, pushR_R, pushR_N, pushR_U, rfV_s, rfV_n, Option.bind_some, true_or, or_true, if_true, ei ()]
        exact ⟨_, _, rfl, _, _, rfl, rfl, fun j hj hj2 => k1 j (by omega) hj2, k2⟩)
  have hS := h.frC k2 hs hc (Ne.symm hn) hss
  obtain ⟨I2, A2, e2, r1, r2⟩ := c_rcopy q (I := I1) (A := A1) (L := L) (P := P) (F := F) (G := G) (D := D) (c := c) (s := s) (by omega) (by omega) hn hS.2.2.2.2.1
  have hS2 := hS.frC (r2.toC hc) hs hc (Ne.symm hn) hss
  have lc := len_c c hc
  have lsn := len_c s hs
  refine ⟨up2 (up2 I2 4 c (I2 4 s)) 5 c (I2 5 s), rcpy (rcpy A2 (41 * s + 3) (41 * c + 3) 4) (41 * s + 4) (41 * c + 4) 8, ?_, ⟨?_, h.2.1, ?_, fun i hi => ?_, ⟨?_, r1.2.1, fun j hj => ?_⟩, fun i hi => ?_, fun i hi => ?_⟩, ?_⟩
  · simp only [s2_0, s2_1, unJ_I, unJ_J, unJ_F, unJ_R, unJ_N, unJ_U, pushR_I, pushR_J, pushR_F, pushR_R, pushR_N, pushR_U, rfV_s, rfV_n, Option.bind_some, true_or, or_true, if_true]
    refine e.trans ?_
    rw [s2_2]
    simp only [s2_3, s2_4, s2_7, s2_8, s2_46, s2_47, s2_50, s2_51, s2_54, s2_57, s2_58, s2_61, s2_62, s2_65, s2_66, unJ_I, unJ_J, unJ_F, unJ_R, unJ_N, unJ_U, pushR_I, pushR_J, pushR_F, pushR_R, pushR_N, pushR_U, rfV_s, rfV_n, Option.bind_some, true_or, or_true, if_true, lx15, e2]
    rw [if_pos (by omega), if_pos (by omega), show (4 : Int) = ((4 : Nat) : Int) from rfl, c_copy q _ _ _ _ _ _ _ (by omega) (by omega)]
    simp only [s2_69, s2_70, s2_73, s2_74, s2_77, s2_79, unJ_I, unJ_J, unJ_F, unJ_R, unJ_N, unJ_U, pushR_I, pushR_J, pushR_F, pushR_R, pushR_N, pushR_U, rfV_s, rfV_n, Option.bind_some, true_or, or_true, if_true]
    rw [show (8 : Int) = ((8 : Nat) : Int) from rfl, c_copy q _ _ _ _ _ _ _ (by omega) (by omega)]
    simp only [s2_82, s2_83, s2_84, s2_87, s2_90, s2_91, s2_92, s2_95, s2_98, unJ_I, unJ_J, unJ_F, unJ_R, unJ_N, unJ_U, pushR_I, pushR_J, pushR_F, pushR_R, pushR_N, pushR_U, rfV_s, rfV_n, Option.bind_some, true_or, or_true, if_true]
    rw [show up2 I2 4 c (I2 4 s) 5 s = I2 5 s from up2_ne (by omega)]
  · exact (up2_ne (by omega)).trans (up2_eq.trans hS2.1)
  · exact up2_eq.trans hS2.2.2.1
  · have s := hcs i (by have := h.2.1; omega)
    have e3 := lr_c hc s.1 s.2
    have e4 := rr_c hc
    refine (k1 i (by have := h.2.1; omega) hi).same (fun f a b => ?_) (fun a ha j => ?_)
    · exact ((up2_ne (by omega)).trans (up2_ne (by omega))).trans (r2.1 f _ (by omega))
    · unfold rcpy
      rw [if_neg (by omega), if_neg (by omega)]
      exact r2.2 _ _ (by omega) (by omega) (by omega)
  · exact ((up2_ne (by omega)).trans (up2_ne (by omega))).trans r1.1
  · have e4 := rr_c hc
    unfold rcpy
    have z : ∀ a, a < 3 → (if rr c + a = 41 * c + 4 ∧ j < 8 then (if 41 * s + 4 = 41 * c + 3 ∧ j < 4 then A2 (41 * s + 3) j else A2 (41 * s + 4) j) else if rr c + a = 41 * c + 3 ∧ j < 4 then A2 (41 * s + 3) j else A2 (rr c + a) j) = A2 (rr c + a) j := fun a ha => by
      rw [if_neg (by omega), if_neg (by omega)]
    refine ⟨(z 0 (by omega)).trans (r1.2.2 j hj).1, (z 1 (by omega)).trans (r1.2.2 j hj).2.1, (z 2 (by omega)).trans (r1.2.2 j hj).2.2⟩
  · unfold rcpy
    rw [if_neg (by omega), if_pos ⟨rfl, hi⟩]
    exact hS2.2.2.2.2.2.1 i hi
  · unfold rcpy
    rw [if_pos ⟨rfl, hi⟩, if_neg (by omega)]
    exact hS2.2.2.2.2.2.2 i hi
  · refine (k2.tr (r2.toC hc)).tr ⟨fun f x z => ?_, fun r j z => ?_⟩
    · unfold inI at z
      exact (up2_ne (by omega)).trans (up2_ne (by omega))
    · unfold inR at z
      unfold rcpy
      rw [if_neg (by omega), if_neg (by omega)]
end
