/-! A CELLAR IS COPIED -/
def inI (c f x : Nat) : Prop := ((f = 4 ∨ f = 5 ∨ f = 103) ∧ x = c) ∨ (43 ≤ f ∧ f ≤ 51 ∧ 12 * c ≤ x ∧ x < 12 * c + 12)
def inR (c r : Nat) : Prop := 19 * c + 2 * (c / 5) ≤ r ∧ r < 19 * c + 2 * (c / 5) + 19
/-- only cellar c has changed -/
def FrC (c : Nat) (I A I' A' : M2) : Prop := (∀ f x, ¬ inI c f x → I' f x = I f x) ∧ ∀ r j, ¬ inR c r → A' r j = A r j
theorem cb_far2 : ∀ c, c < 6 → ∀ s, s < 6 → c ≠ s → (19 * c + 2 * (c / 5) + 19 ≤ 19 * s + 2 * (s / 5) ∨ 19 * s + 2 * (s / 5) + 19 ≤ 19 * c + 2 * (c / 5)) := by decide
theorem cb_far {c s : Nat} (hc : c < 6) (hs : s < 6) (hn : c ≠ s) : 19 * c + 2 * (c / 5) + 19 ≤ 19 * s + 2 * (s / 5) ∨ 19 * s + 2 * (s / 5) + 19 ≤ 19 * c + 2 * (c / 5) := cb_far2 c hc s hs hn
theorem FrC.rf (c : Nat) (I A : M2) : FrC c I A I A := ⟨fun _ _ _ => rfl, fun _ _ _ => rfl⟩
theorem FrC.tr {c : Nat} {I A I1 A1 I2 A2 : M2} (h : FrC c I A I1 A1) (k : FrC c I1 A1 I2 A2) : FrC c I A I2 A2 :=
  ⟨fun f x z => (k.1 f x z).trans (h.1 f x z), fun r j a => (k.2 r j a).trans (h.2 r j a)⟩
theorem lr_c {c l : Nat} (hc : c < 6) (h1 : 12 * c ≤ l) (h2 : l < 12 * c + 12) : lr l = 19 * c + 2 * (c / 5) := by
  unfold lr
  rw [if_pos (by omega), show l / 12 = c by omega]
theorem sr_c {c l : Nat} (hc : c < 6) (h1 : 12 * c ≤ l) (h2 : l < 12 * c + 12) : sr l = 19 * c + 2 * (c / 5) + 7 + (l - 12 * c) := by
  unfold sr
  rw [if_pos (by omega), show l / 12 = c by omega, show l % 12 = l - 12 * c by omega]
theorem rr_c {c : Nat} (hc : c < 6) : rr c = 19 * c + 2 * (c / 5) + 2 := if_pos hc
theorem FrL.toC {c l : Nat} {I A I' A' : M2} (h : FrL l I A I' A') (hc : c < 6) (h1 : 12 * c ≤ l) (h2 : l < 12 * c + 12) : FrC c I A I' A' := by
  have e := lr_c hc h1 h2
  have e2 := sr_c hc h1 h2
  exact ⟨fun f x z => h.1 f x (fun k => z (Or.inr ⟨k.2.1, k.2.2, by omega, by omega⟩)), fun r j z => by
    unfold inR at z
    exact h.2 r j (by omega) (by omega) (by omega)⟩
theorem FrR.toC {c : Nat} {I A I' A' : M2} (h : FrR c I A I' A') (hc : c < 6) : FrC c I A I' A' := by
  have e := rr_c hc
  exact ⟨fun f x z => h.1 f x (fun k => z (Or.inl ⟨Or.inr (Or.inr k.1), k.2⟩)), fun r j z => by
    unfold inR at z
    exact h.2 r j (by omega) (by omega) (by omega)⟩
theorem CelAt.keep {c : Nat} {I A I' A' : M2} {sl : Nat → Nat} {σ : St} (h : CelAt I A c sl σ) (hc : c < 6) (hsl : ∀ i, i < 12 → 12 * c ≤ sl i ∧ sl i < 12 * c + 12) (k : ∀ f x, inI c f x → I' f x = I f x) (k2 : ∀ r j, inR c r → A' r j = A r j) : CelAt I' A' c sl σ := by
  obtain ⟨h1, h2, h3, h4, ⟨h5, h6, h7⟩, h8, h9, ha⟩ := h
  have e := rr_c hc
  have ki : ∀ f, f = 4 ∨ f = 5 ∨ f = 103 → I' f c = I f c := fun f hf => k f c (by unfold inI; omega)
  have kl : ∀ i, i < 12 → ∀ f, 43 ≤ f → f ≤ 51 → I' f (sl i) = I f (sl i) := fun i hi f a b => by
    have s := hsl i hi
    exact k f _ (by unfold inI; omega)
  refine ⟨by rw [ki _ (Or.inl rfl)]; exact h1, h2, by rw [ki _ (Or.inr (Or.inl rfl))]; exact h3, fun i hi => ?_, ⟨by rw [ki _ (Or.inr (Or.inr rfl))]; exact h5, h6, fun j hj => ?_⟩, fun i hi => by rw [k2 _ _ (by unfold inR; omega)]; exact h8 i hi, fun i hi => by rw [k2 _ _ (by unfold inR; omega)]; exact h9 i hi, ha.same (fun i hi => ?_)⟩
  · have s := hsl i (by omega)
    have e2 := lr_c hc s.1 s.2
    have e3 := sr_c hc s.1 s.2
    exact (h4 i hi).same (kl i (by omega)) (fun r j z => k2 _ _ (by unfold inR; omega))
  · rw [k2 _ _ (by unfold inR; omega), k2 _ _ (by unfold inR; omega), k2 _ _ (by unfold inR; omega)]
    exact h7 j hj
  · have a := kl i (by omega) 51 (by omega) (by omega)
    have b := kl i (by omega) 44 (by omega) (by omega)
    omega
/-- another cellar stays -/
theorem CelAt.frC {c c' : Nat} {I A I' A' : M2} {sl : Nat → Nat} {σ : St} (h : CelAt I A c sl σ) (k : FrC c' I A I' A') (hc : c < 6) (hc' : c' < 6) (hn : c ≠ c') (hsl : ∀ i, i < 12 → 12 * c ≤ sl i ∧ sl i < 12 * c + 12) : CelAt I' A' c sl σ :=
  h.keep hc hsl (fun f x z => k.1 f x (by unfold inI at *; omega)) (fun r j z => k.2 r j (by have := cb_far hc hc' hn; unfold inR at *; generalize 19 * c + 2 * (c / 5) = x at *; generalize 19 * c' + 2 * (c' / 5) = y at *; omega))
section
variable (q : Nat × (Nat → Int)) {I A : M2} {L P : Nat → Nat → Option Nat} {F G : Nat → Nat → UInt32} {D : MD} {l c : Nat} {w : Lt} {ru : List Ru} {σ : St}
theorem c_ccopy {s : Nat} {slc sls : Nat → Nat} (hc : c < 6) (hs : s < 6) (hn : c ≠ s) (h : CelAt I A s sls σ) (hLc : LoS L c slc) (hLs : LoS L s sls) (hg : ∀ i, i < σ.1.length → (lt σ.1 i).2.length ≤ 200) :
    ∃ I' A', rs 2 0 [vR 0 c, vR 0 s, vU, vU, vU] [] (SX q, (I, A, L, P, F, G), D) = some (vU, (SX q, (I', A', L, P, F, G), D)) ∧ CelAt I' A' c slc σ ∧ FrC c I A I' A' := by
  have hss : ∀ i, i < 12 → 12 * s ≤ sls i ∧ sls i < 12 * s + 12 := fun i hi => (hLs.1 i hi).2
  have hcs : ∀ i, i < 12 → 12 * c ≤ slc i ∧ slc i < 12 * c + 12 := fun i hi => (hLc.1 i hi).2
  have lgc := len_g c hc
  have lgs := len_g s hs
  have h12 := h.2.1
  have far := cb_far hc hs hn
  have e200 : (200 : Int) = ((200 : Nat) : Int) := rfl
  -- the grains
  generalize hA0 : rcpy (rcpy A (19 * s + 2 * (s / 5)) (19 * c + 2 * (c / 5)) 200) (19 * s + 2 * (s / 5) + 1) (19 * c + 2 * (c / 5) + 1) 200 = A0
  have f0 : FrC c I A I A0 := ⟨fun _ _ _ => rfl, fun r j z => by
    unfold inR at z
    subst hA0
    unfold rcpy
    rw [if_neg (by omega), if_neg (by omega)]⟩
  have g0 : ∀ j, j < 200 → A0 (19 * c + 2 * (c / 5)) j = A (19 * s + 2 * (s / 5)) j ∧ A0 (19 * c + 2 * (c / 5) + 1) j = A (19 * s + 2 * (s / 5) + 1) j := fun j hj => by
    subst hA0
    unfold rcpy
    exact ⟨by rw [if_neg (by omega), if_pos ⟨rfl, hj⟩], by rw [if_pos ⟨rfl, hj⟩, if_neg (by omega)]⟩
  obtain ⟨ls', μ', e, I1, A1, rfl, rfl, k1, k0, k2⟩ := rs_loopP (m := 2) (pc := 30) (ls := [vR 0 c, vR 0 s, vI 0, vU, vU]) (μ := (SX q, (I, A0, L, P, F, G), D)) (fun i ls μ => ∃ I' A', μ = (SX q, (I', A', L, P, F, G), D) ∧ ls = [vR 0 c, vR 0 s, vI (i : Int), vU, vU] ∧
      (∀ j, j < i → j < σ.1.length → HdAt I' A' (slc j) (lt σ.1 j) ∧ I' 51 (slc j) = I 51 (sls j)) ∧ (∀ r j, r = 19 * c + 2 * (c / 5) ∨ r = 19 * c + 2 * (c / 5) + 1 → A' r j = A0 r j) ∧ FrC c I A I' A') 12
    ⟨_, _, rfl, rfl, fun j hj => absurd hj (Nat.not_lt_zero _), fun _ _ _ => rfl, f0⟩ (fun i hi ls μ ⟨I', A', e1, e2, k1, k0, k2⟩ => by
      subst e1 e2
      have hS := h.frC k2 hs hc (Ne.symm hn) hss
      have hLi := (hLc.1 i hi).1
      have ei : Unit → w32 ((i : Int) + 1) = ((i + 1 : Nat) : Int) := fun _ => by rw [w32_id (by omega) (by omega)]; omega
      have si := hss i hi
      have ci := hcs i hi
      by_cases hz : i < σ.1.length
      · obtain ⟨I3, A3, e3, f1, f51, f2⟩ := c_lcopy q (I := I') (A := A') (L := L) (P := P) (F := F) (G := G) (D := D) (l := slc i) (s := sls i) (by omega) (by omega) (by omega) (hS.2.2.2.1 i hz)
        have o51 : I' 51 (sls i) = I 51 (sls i) := k2.1 _ _ (by unfold inI; omega)
        have sc := sr_c hc ci.1 ci.2
        rw [s2_30]
        simp only [s2_31, s2_32, s2_35, s2_36, s2_39, s2_40, s2_41, s2_44, s2_44n, s2_45, s2_46, s2_49, s2_50, s2_51, s2_51n, s2_53, s2_53n, s2_54n, s2_54, s2_57, s2_57n, s2_59n, s2_59, s2_62, s2_62n, s2_64, s2_64n, s2_65, s2_68, s2_71, unJ_I, unJ_J, unJ_F, unJ_R, unJ_N, unJ_U, pushR_I, pushR_J, pushR_F, pushR_R, pushR_N, pushR_U, rfV_s, rfV_n, Option.bind_some, true_or, or_true, if_true, lx15, c_cat q hS hLs hz]
        rw [if_pos (by omega), if_neg (by omega), if_pos (by omega), Int.toNat_natCast, hLi]
        simp only [s2_31, s2_32, s2_35, s2_36, s2_39, s2_40, s2_41, s2_44, s2_44n, s2_45, s2_46, s2_49, s2_50, s2_51, s2_51n, s2_53, s2_53n, s2_54n, s2_54, s2_57, s2_57n, s2_59n, s2_59, s2_62, s2_62n, s2_64, s2_64n, s2_65, s2_68, s2_71, unJ_I, unJ_J, unJ_F, unJ_R, unJ_N, unJ_U, pushR_I, pushR_J, pushR_F, pushR_R, pushR_N, pushR_U, rfV_s, rfV_n, Option.bind_some, true_or, or_true, if_true, e3, ei ()]
        refine ⟨_, _, rfl, _, _, rfl, rfl, fun j hj hj2 => ?_, fun r j z => (f2.2 r j (by omega)).trans (k0 r j z), k2.tr (f2.toL.toC hc ci.1 ci.2)⟩
        by_cases e : j = i
        · subst e; exact ⟨f1, f51.trans o51⟩
        · have cj := hcs j (by omega)
          have ne : slc j ≠ slc i := fun z => e (hLc.2 j i (by omega) hi z)
          obtain ⟨y1, y2⟩ := k1 j (by omega) hj2
          exact ⟨y1.same (fun f _ _ => f2.1 f _ (by omega)) (fun y => f2.2 _ y (sr_ne (by omega) (by omega) ne)), (f2.1 _ _ (by omega)).trans y2⟩
      · rw [s2_30]
        simp only [s2_31, s2_32, s2_35, s2_36, s2_39, s2_40, s2_41, s2_44, s2_44n, s2_45, s2_46, s2_49, s2_50, s2_51, s2_51n, s2_53, s2_53n, s2_54n, s2_54, s2_57, s2_57n, s2_59n, s2_59, s2_62, s2_62n, s2_64, s2_64n, s2_65, s2_68, s2_71, unJ_I, unJ_J, unJ_F, unJ_R, unJ_N, unJ_U, pushR_I, pushR_J, pushR_F, pushR_R, pushR_N, pushR_U, rfV_s, rfV_n, Option.bind_some, true_or, or_true, if_true, lx15, c_catN q hS (show σ.1.length ≤ i by omega)]
        rw [if_pos (by omega), if_neg (by omega), if_pos (by omega), Int.toNat_natCast, hLi]
        simp only [s2_31, s2_32, s2_35, s2_36, s2_39, s2_40, s2_41, s2_44, s2_44n, s2_45, s2_46, s2_49, s2_50, s2_51, s2_51n, s2_53, s2_53n, s2_54n, s2_54, s2_57, s2_57n, s2_59n, s2_59, s2_62, s2_62n, s2_64, s2_64n, s2_65, s2_68, s2_71, unJ_I, unJ_J, unJ_F, unJ_R, unJ_N, unJ_U, pushR_I, pushR_J, pushR_F, pushR_R, pushR_N, pushR_U, rfV_s, rfV_n, Option.bind_some, true_or, or_true, if_true, ei ()]
        exact ⟨_, _, rfl, _, _, rfl, rfl, fun j hj hj2 => k1 j (by omega) hj2, k0, k2⟩)
  have hS := h.frC k2 hs hc (Ne.symm hn) hss
  obtain ⟨I2, A2, e2, r1, r2⟩ := c_rcopy q (I := I1) (A := A1) (L := L) (P := P) (F := F) (G := G) (D := D) (c := c) (s := s) (by omega) (by omega) hn hS.2.2.2.2.1
  have hS2 := hS.frC (r2.toC hc) hs hc (Ne.symm hn) hss
  have lc := len_c c hc
  have lsn := len_c s hs
  have e4 := rr_c hc
  have lots : ∀ i, i < σ.1.length → LotAt I1 A1 (slc i) (lt σ.1 i) ∧ I1 51 (slc i) = I 51 (sls i) ∧ I1 44 (slc i) = I 44 (sls i) := fun i hi => by
    obtain ⟨y1, y2⟩ := k1 i (by omega) hi
    have ci := hcs i (by omega)
    have si := hss i (by omega)
    have lc1 := lr_c hc ci.1 ci.2
    have lc2 := lr_c hs si.1 si.2
    have hw := h.2.2.2.1 i hi
    have e44 : I 44 (sls i) = (lt σ.1 i).2.length := hw.2.2.2.2.2.2.2.1
    have f44 : I1 44 (slc i) = (lt σ.1 i).2.length := y1.2.2.2.2.2.2.2.1
    obtain ⟨g1, g2⟩ := hw.gr
    rw [lc2] at g1 g2
    refine ⟨y1.lot ⟨by rw [y2, lc1]; omega, fun j hj => ?_⟩, y2, f44.trans e44.symm⟩
    have b := g2 j hj
    have z := g0 ((I 51 (sls i)).toNat + j) (by omega)
    rw [y2, lc1, k0 _ _ (Or.inl rfl), k0 _ _ (Or.inr rfl), z.1, z.2]
    exact b
  refine ⟨up2 (up2 I2 4 c (I2 4 s)) 5 c (I2 5 s), rcpy (rcpy A2 (19 * s + 2 * (s / 5) + 5) (19 * c + 2 * (c / 5) + 5) 4) (19 * s + 2 * (s / 5) + 6) (19 * c + 2 * (c / 5) + 6) 8, ?_, ⟨?_, h.2.1, ?_, fun i hi => ?_, ⟨?_, r1.2.1, fun j hj => ?_⟩, fun i hi => ?_, fun i hi => ?_, fun i j hij hj => ?_⟩, ?_⟩
  · simp only [s2_0, s2_1, s2_4, s2_5, s2_8, s2_11, unJ_I, unJ_J, unJ_F, unJ_R, unJ_N, unJ_U, pushR_I, pushR_J, pushR_F, pushR_R, pushR_N, pushR_U, rfV_s, rfV_n, Option.bind_some, true_or, or_true, if_true]
    rw [e200, c_copy q _ _ _ _ _ _ _ (by omega) (by omega)]
    simp only [s2_14, s2_15, s2_18, s2_19, s2_22, s2_25, unJ_I, unJ_J, unJ_F, unJ_R, unJ_N, unJ_U, pushR_I, pushR_J, pushR_F, pushR_R, pushR_N, pushR_U, rfV_s, rfV_n, Option.bind_some, true_or, or_true, if_true]
    rw [e200, c_copy q _ _ _ _ _ _ _ (by omega) (by omega), hA0]
    simp only [s2_28, s2_29, unJ_I, unJ_J, unJ_F, unJ_R, unJ_N, unJ_U, pushR_I, pushR_J, pushR_F, pushR_R, pushR_N, pushR_U, rfV_s, rfV_n, Option.bind_some, true_or, or_true, if_true]
    refine e.trans ?_
    rw [s2_30]
    simp only [s2_31, s2_32, s2_35, s2_36, s2_74, s2_75, s2_78, s2_79, s2_82, s2_85, s2_86, s2_89, s2_90, s2_93, s2_94, unJ_I, unJ_J, unJ_F, unJ_R, unJ_N, unJ_U, pushR_I, pushR_J, pushR_F, pushR_R, pushR_N, pushR_U, rfV_s, rfV_n, Option.bind_some, true_or, or_true, if_true, lx15, e2]
    rw [if_pos (by omega), if_pos (by omega), show (4 : Int) = ((4 : Nat) : Int) from rfl, c_copy q _ _ _ _ _ _ _ (by omega) (by omega)]
    simp only [s2_97, s2_98, s2_101, s2_102, s2_105, s2_107, unJ_I, unJ_J, unJ_F, unJ_R, unJ_N, unJ_U, pushR_I, pushR_J, pushR_F, pushR_R, pushR_N, pushR_U, rfV_s, rfV_n, Option.bind_some, true_or, or_true, if_true]
    rw [show (8 : Int) = ((8 : Nat) : Int) from rfl, c_copy q _ _ _ _ _ _ _ (by omega) (by omega)]
    simp only [s2_110, s2_111, s2_112, s2_115, s2_118, s2_119, s2_120, s2_123, s2_126, unJ_I, unJ_J, unJ_F, unJ_R, unJ_N, unJ_U, pushR_I, pushR_J, pushR_F, pushR_R, pushR_N, pushR_U, rfV_s, rfV_n, Option.bind_some, true_or, or_true, if_true]
    rw [show up2 I2 4 c (I2 4 s) 5 s = I2 5 s from up2_ne (by omega)]
  · exact (up2_ne (by omega)).trans (up2_eq.trans hS2.1)
  · exact up2_eq.trans hS2.2.2.1
  · have s := hcs i (by omega)
    have e3 := lr_c hc s.1 s.2
    have e5 := sr_c hc s.1 s.2
    refine (lots i hi).1.same (fun f a b => ?_) (fun r j z => ?_)
    · exact ((up2_ne (by omega)).trans (up2_ne (by omega))).trans (r2.1 f _ (by omega))
    · unfold rcpy
      rw [if_neg (by omega), if_neg (by omega)]
      exact r2.2 _ _ (by omega) (by omega) (by omega)
  · exact ((up2_ne (by omega)).trans (up2_ne (by omega))).trans r1.1
  · have z : ∀ a, a < 3 → rcpy (rcpy A2 (19 * s + 2 * (s / 5) + 5) (19 * c + 2 * (c / 5) + 5) 4) (19 * s + 2 * (s / 5) + 6) (19 * c + 2 * (c / 5) + 6) 8 (rr c + a) j = A2 (rr c + a) j := fun a ha => by
      unfold rcpy
      rw [if_neg (by omega), if_neg (by omega)]
    exact ⟨(z 0 (by omega)).trans (r1.2.2 j hj).1, (z 1 (by omega)).trans (r1.2.2 j hj).2.1, (z 2 (by omega)).trans (r1.2.2 j hj).2.2⟩
  · unfold rcpy
    rw [if_neg (by omega), if_pos ⟨rfl, hi⟩]
    exact hS2.2.2.2.2.2.1 i hi
  · unfold rcpy
    rw [if_pos ⟨rfl, hi⟩, if_neg (by omega)]
    exact hS2.2.2.2.2.2.2.1 i hi
  · have b : ∀ f i, f = 44 ∨ f = 51 → up2 (up2 I2 4 c (I2 4 s)) 5 c (I2 5 s) f (slc i) = I1 f (slc i) := fun f i hf => ((up2_ne (by omega)).trans (up2_ne (by omega))).trans (r2.1 f _ (by omega))
    rw [b _ _ (Or.inr rfl), b _ _ (Or.inl rfl), b _ _ (Or.inr rfl), (lots i (by omega)).2.1, (lots i (by omega)).2.2, (lots j hj).2.1]
    exact h.2.2.2.2.2.2.2 i j hij hj
  · refine (k2.tr (r2.toC hc)).tr ⟨fun f x z => ?_, fun r j z => ?_⟩
    · unfold inI at z
      exact (up2_ne (by omega)).trans (up2_ne (by omega))
    · unfold inR at z
      unfold rcpy
      rw [if_neg (by omega), if_neg (by omega)]
end
