/-! A LOT IS WRITTEN: clear, copy, lay -/
/-- only lot l has changed -/
def FrL (l : Nat) (I A I' A' : M2) : Prop := (∀ f x, ¬ (x = l ∧ 43 ≤ f ∧ f ≤ 51) → I' f x = I f x) ∧ ∀ r j, r ≠ lr l → r ≠ lr l + 1 → r ≠ sr l → A' r j = A r j
/-- only lot l's own fields and scores have changed -/
def FrO (l : Nat) (I A I' A' : M2) : Prop := (∀ f x, ¬ (x = l ∧ 43 ≤ f ∧ f ≤ 51) → I' f x = I f x) ∧ ∀ r j, r ≠ sr l → A' r j = A r j
theorem FrL.rf (l : Nat) (I A : M2) : FrL l I A I A := ⟨fun _ _ _ => rfl, fun _ _ _ _ _ => rfl⟩
theorem FrL.tr {l : Nat} {I A I1 A1 I2 A2 : M2} (h : FrL l I A I1 A1) (k : FrL l I1 A1 I2 A2) : FrL l I A I2 A2 :=
  ⟨fun f x z => (k.1 f x z).trans (h.1 f x z), fun r j a b c => (k.2 r j a b c).trans (h.2 r j a b c)⟩
theorem FrO.toL {l : Nat} {I A I' A' : M2} (h : FrO l I A I' A') : FrL l I A I' A' := ⟨h.1, fun r j _ _ c => h.2 r j c⟩
theorem FrO.tr {l : Nat} {I A I1 A1 I2 A2 : M2} (h : FrO l I A I1 A1) (k : FrO l I1 A1 I2 A2) : FrO l I A I2 A2 :=
  ⟨fun f x z => (k.1 f x z).trans (h.1 f x z), fun r j a => (k.2 r j a).trans (h.2 r j a)⟩
/-- all but the grains -/
def HdAt (I A : M2) (l : Nat) (w : Lt) : Prop :=
  I 43 l = w.1 0 ∧ I 47 l = w.1 1 ∧ I 48 l = w.1 2 ∧ I 49 l = w.1 3 ∧ I 46 l = w.1 4 ∧ I 50 l = w.1 5 ∧ (∀ t, t < 8 → A (sr l) t = w.1 (6 + t)) ∧ I 44 l = w.2.length ∧ I 45 l = gsum w.2
/-- the grains -/
def GrAt (I A : M2) (l : Nat) (g : Gr) : Prop := (0 ≤ I 51 l ∧ I 51 l + g.length ≤ rowLen (lr l)) ∧ ∀ j, j < g.length → A (lr l) ((I 51 l).toNat + j) = gk g j ∧ A (lr l + 1) ((I 51 l).toNat + j) = gv g j
theorem HdAt.lot {I A : M2} {l : Nat} {w : Lt} (h : HdAt I A l w) (g : GrAt I A l w.2) : LotAt I A l w := by
  obtain ⟨h0, h1, h2, h3, h4, h5, h6, h7, h8⟩ := h
  exact ⟨h0, h1, h2, h3, h4, h5, h6, h7, h8, g⟩
theorem LotAt.hd {I A : M2} {l : Nat} {w : Lt} (h : LotAt I A l w) : HdAt I A l w := by
  obtain ⟨h0, h1, h2, h3, h4, h5, h6, h7, h8, h9⟩ := h
  exact ⟨h0, h1, h2, h3, h4, h5, h6, h7, h8⟩
theorem LotAt.gr {I A : M2} {l : Nat} {w : Lt} (h : LotAt I A l w) : GrAt I A l w.2 := h.2.2.2.2.2.2.2.2.2
theorem HdAt.same {I A I' A' : M2} {l : Nat} {w : Lt} (h : HdAt I A l w) (e : ∀ f, 43 ≤ f → f ≤ 50 → I' f l = I f l) (r : ∀ j, A' (sr l) j = A (sr l) j) : HdAt I' A' l w := by
  obtain ⟨h0, h1, h2, h3, h4, h5, h6, h7, h8⟩ := h
  exact ⟨by rw [e _ (by omega) (by omega)]; exact h0, by rw [e _ (by omega) (by omega)]; exact h1, by rw [e _ (by omega) (by omega)]; exact h2, by rw [e _ (by omega) (by omega)]; exact h3, by rw [e _ (by omega) (by omega)]; exact h4, by rw [e _ (by omega) (by omega)]; exact h5, fun t ht => by rw [r]; exact h6 t ht, by rw [e _ (by omega) (by omega)]; exact h7, by rw [e _ (by omega) (by omega)]; exact h8⟩
theorem GrAt.same {I A I' A' : M2} {l : Nat} {g : Gr} (h : GrAt I A l g) (e : I' 51 l = I 51 l) (r : ∀ j : Nat, I 51 l ≤ (j : Int) → (j : Int) < I 51 l + g.length → A' (lr l) j = A (lr l) j ∧ A' (lr l + 1) j = A (lr l + 1) j) : GrAt I' A' l g := by
  obtain ⟨h1, h2⟩ := h
  refine ⟨by rw [e]; exact h1, fun j hj => ?_⟩
  rw [e]
  have := r ((I 51 l).toNat + j) (by omega) (by omega)
  rw [this.1, this.2]
  exact h2 j hj
/-- a lot stays when only other rows and other objects change -/
theorem LotAt.same {I A I' A' : M2} {l : Nat} {w : Lt} (h : LotAt I A l w) (e : ∀ f, 43 ≤ f → f ≤ 51 → I' f l = I f l) (r : ∀ r j, r = lr l ∨ r = lr l + 1 ∨ r = sr l → A' r j = A r j) : LotAt I' A' l w :=
  (h.hd.same (fun f a b => e f a (by omega)) (fun j => r _ j (by omega))).lot (h.gr.same (e 51 (by omega) (by omega)) (fun j _ _ => ⟨r _ j (by omega), r _ j (by omega)⟩))
/-- another lot stays, whose rows are others -/
theorem LotAt.fr {I A I' A' : M2} {l l' : Nat} {w : Lt} (h : LotAt I A l w) (k : FrL l' I A I' A') (hl : l < 74) (hl' : l' < 74) (hn : l ≠ l') (hr : lr l ≠ lr l') : LotAt I' A' l w := by
  have a := sr_lr hl hl'
  have b := sr_lr hl' hl
  have c := sr_ne hl hl' hn
  exact h.same (fun f _ _ => k.1 f l (fun z => hn z.1)) (fun r j z => k.2 r j (by omega) (by omega) (by omega))
def d0 : Nat → Int := fun i => if 6 ≤ i then -1 else 0
section
variable (q : Nat × (Nat → Int)) {I A : M2} {L P : Nat → Nat → Option Nat} {F G : Nat → Nat → UInt32} {D : MD} {l : Nat} {w : Lt}
/-- Lot.clear -/
theorem c_clear (hl : l < 74) : ∃ I' A', rs 202 0 [vR 2 l, vU] [] (SX q, (I, A, L, P, F, G), D) = some (vU, (SX q, (I', A', L, P, F, G), D)) ∧ LotAt I' A' l (d0, []) ∧ I' 51 l = 0 ∧ FrL l I A I' A' := by
  have hlen := (len_l l hl).2.2
  generalize hI1 : up2 (up2 (up2 (up2 (up2 (up2 (up2 (up2 (up2 I 43 l 0) 51 l 0) 44 l 0) 45 l 0) 46 l 0) 47 l 0) 48 l 0) 49 l 0) 50 l 0 = I1
  have loop := rs_loop (m := 202) (pc := 47) (fun i => [vR 2 l, vI i]) (fun i => (SX q, (I1, (fun r j => if r = sr l ∧ j < i then -1 else A r j), L, P, F, G), D)) 8 (fun i hi => by
    rw [s202_47]
    simp only [s202_48, s202_50, s202_53, s202_54, s202_57, s202_58, s202_59, s202_62, s202_65, unJ_I, unJ_J, unJ_F, unJ_R, unJ_N, unJ_U, pushR_I, pushR_J, pushR_F, pushR_R, pushR_N, pushR_U, rfV_s, rfV_n, Option.bind_some, true_or, or_true, if_true, c_put]
    rw [if_neg (by omega), w32_id (by omega) (by omega), show (i : Int) + 1 = ((i + 1 : Nat) : Int) by omega, rput_n _ _ (by omega)]
    have e : up2 (fun r j => if r = sr l ∧ j < i then -1 else A r j) (sr l) i (-1) = fun r j => if r = sr l ∧ j < i + 1 then -1 else A r j := by
      funext r j
      unfold up2
      by_cases h1 : r = sr l ∧ j = i
      · rw [if_pos h1, if_pos ⟨h1.1, by omega⟩]
      · rw [if_neg h1]
        show (if r = sr l ∧ j < i then (-1 : Int) else A r j) = _
        by_cases h2 : r = sr l ∧ j < i
        · rw [if_pos h2, if_pos ⟨h2.1, by omega⟩]
        · rw [if_neg h2, if_neg (by omega)]
    rw [e])
  refine ⟨I1, fun r j => if r = sr l ∧ j < 8 then -1 else A r j, ?_, ?_, ?_, ?_⟩
  · simp only [s202_0, s202_1, s202_2, s202_5, s202_6, s202_7, s202_10, s202_11, s202_12, s202_15, s202_16, s202_17, s202_20, s202_21, s202_22, s202_25, s202_26, s202_27, s202_30, s202_31, s202_32, s202_35, s202_36, s202_37, s202_40, s202_41, s202_42, s202_45, s202_46, unJ_I, unJ_J, unJ_F, unJ_R, unJ_N, unJ_U, pushR_I, pushR_J, pushR_F, pushR_R, pushR_N, pushR_U, rfV_s, rfV_n, Option.bind_some, true_or, or_true, if_true]
    rw [hI1]
    have e0 : A = fun r j => if r = sr l ∧ j < 0 then -1 else A r j := by
      funext r j
      rw [if_neg (by omega)]
    rw [show (SX q, (I1, A, L, P, F, G), D) = (SX q, (I1, (fun r j => if r = sr l ∧ j < 0 then -1 else A r j), L, P, F, G), D) by rw [← e0]]
    refine loop.trans ?_
    simp only [s202_47, s202_48, s202_50, s202_68, unJ_I, unJ_J, unJ_F, unJ_R, unJ_N, unJ_U, pushR_I, pushR_J, pushR_F, pushR_R, pushR_N, pushR_U, rfV_s, rfV_n, Option.bind_some, true_or, or_true, if_true]
    rfl
  · subst hI1
    refine ⟨?_, ?_, ?_, ?_, ?_, ?_, fun t ht => ?_, ?_, ?_, ?_, fun j hj => absurd hj (by simp)⟩
    all_goals first
      | (simp [up2, d0, gsum]; done)
      | skip
    simp only [d0]
    rw [if_pos ⟨trivial, ht⟩, if_pos (by omega)]
  · subst hI1
    simp [up2]
  · subst hI1
    refine ⟨fun f x h => ?_, fun r j a b c => if_neg (fun z => c z.1)⟩
    unfold up2
    repeat rw [if_neg (by omega)]
/-- Lot.copy -/
theorem c_lcopy {s : Nat} (hl : l < 74) (hs : s < 74) (hn : l ≠ s) (h : LotAt I A s w) : ∃ I' A', rs 203 0 [vR 2 l, vR 2 s] [] (SX q, (I, A, L, P, F, G), D) = some (vU, (SX q, (I', A', L, P, F, G), D)) ∧ HdAt I' A' l w ∧ I' 51 l = I 51 s ∧ FrO l I A I' A' := by
  obtain ⟨h0, h1, h2, h3, h4, h5, h6, h7, h8⟩ := h.hd
  have a1 := len_l l hl
  have a2 := len_l s hs
  have e8 : (8 : Int) = ((8 : Nat) : Int) := rfl
  generalize hI' : up2 (up2 (up2 (up2 (up2 (up2 (up2 (up2 (up2 I 43 l (I 43 s)) 51 l (I 51 s)) 44 l (I 44 s)) 45 l (I 45 s)) 46 l (I 46 s)) 47 l (I 47 s)) 48 l (I 48 s)) 49 l (I 49 s)) 50 l (I 50 s) = I'
  generalize hA' : rcpy A (sr s) (sr l) 8 = A'
  refine ⟨I', A', ?_, ?_, ?_, ?_⟩
  · simp only [s203_0, s203_1, s203_4, s203_5, s203_8, s203_10, unJ_I, unJ_J, unJ_F, unJ_R, unJ_N, unJ_U, pushR_I, pushR_J, pushR_F, pushR_R, pushR_N, pushR_U, rfV_s, rfV_n, Option.bind_some, true_or, or_true, if_true]
    rw [e8, c_copy q I _ L P F G D (by omega) (by omega)]
    simp only [s203_13, s203_14, s203_15, s203_18, s203_21, s203_22, s203_23, s203_26, s203_29, s203_30, s203_31, s203_34, s203_37, s203_38, s203_39, s203_42, s203_45, s203_46, s203_47, s203_50, s203_53, s203_54, s203_55, s203_58, s203_61, s203_62, s203_63, s203_66, s203_69, s203_70, s203_71, s203_74, s203_77, s203_78, s203_79, s203_82, s203_85, unJ_I, unJ_J, unJ_F, unJ_R, unJ_N, unJ_U, pushR_I, pushR_J, pushR_F, pushR_R, pushR_N, pushR_U, rfV_s, rfV_n, Option.bind_some, true_or, or_true, if_true]
    rw [← hI', ← hA']
    simp [up2, hn, Ne.symm hn]
  · subst hI'
    subst hA'
    refine ⟨?_, ?_, ?_, ?_, ?_, ?_, fun t ht => ?_, ?_, ?_⟩
    all_goals first
      | (simp [up2, *]; done)
      | skip
    unfold rcpy
    rw [if_pos ⟨rfl, ht⟩, h6 t ht]
  · subst hI'
    simp [up2]
  · subst hI'
    subst hA'
    refine ⟨fun f x h => ?_, fun r j a => ?_⟩
    · unfold up2
      repeat rw [if_neg (by omega)]
    · unfold rcpy
      rw [if_neg (fun z => a z.1)]
/-- Lot.lay: the grains of lot s, at place p; its own ones go down -/
theorem c_lay {s p : Nat} {g : Gr} (hl : l < 74) (hs : s < 74) (h44 : I 44 s = g.length) (h : GrAt I A s g) (hp : p + g.length ≤ rowLen (lr l)) (hd : lr s = lr l → (p : Int) ≤ I 51 s) :
    ∃ A', rs 213 0 [vR 2 l, vR 2 s, vI p, vU, vU] [] (SX q, (I, A, L, P, F, G), D) = some (vU, (SX q, (up2 I 51 l p, A', L, P, F, G), D)) ∧ GrAt (up2 I 51 l p) A' l g ∧ ∀ r j, ¬ ((r = lr l ∨ r = lr l + 1) ∧ p ≤ j ∧ j < p + g.length) → A' r j = A r j := by
  obtain ⟨hb, hg⟩ := h
  have a1 := len_l l hl
  have a2 := len_l s hs
  have n1 := (sr_lr hl hs).2.2
  have n2 := (sr_lr hs hl).2.2
  obtain ⟨f, hf⟩ : ∃ f : Nat, I 51 s = f := ⟨(I 51 s).toNat, by omega⟩
  rw [hf] at hb hd
  have hg' : ∀ j, j < g.length → A (lr s) (f + j) = gk g j ∧ A (lr s + 1) (f + j) = gv g j := fun j hj => by
    have := hg j hj
    rwa [hf, Int.toNat_natCast] at this
  obtain ⟨ls', μ', e, A2, rfl, rfl, k1, k2⟩ := rs_loopP (m := 213) (pc := 8) (ls := [vR 2 l, vR 2 s, vI p, vI f, vI 0]) (μ := (SX q, (I, A, L, P, F, G), D)) (fun i ls μ => ∃ A', μ = (SX q, (I, A', L, P, F, G), D) ∧ ls = [vR 2 l, vR 2 s, vI p, vI f, vI (i : Int)] ∧
      (∀ j, j < i → A' (lr l) (p + j) = gk g j ∧ A' (lr l + 1) (p + j) = gv g j) ∧ ∀ r j, ¬ ((r = lr l ∨ r = lr l + 1) ∧ p ≤ j ∧ j < p + i) → A' r j = A r j) g.length
    ⟨_, rfl, rfl, fun j hj => absurd hj (Nat.not_lt_zero _), fun _ _ _ => rfl⟩ (fun i hi ls μ ⟨A', e1, e2, k1, k2⟩ => by
      subst e1 e2
      have g0 := hg' i hi
      have r1 : A' (lr s) (f + i) = gk g i := (k2 _ _ (by omega)).trans g0.1
      have r2 : ∀ v, up2 A' (lr l) (p + i) v (lr s + 1) (f + i) = gv g i := fun v => (up2_ne (by omega)).trans ((k2 _ _ (by omega)).trans g0.2)
      have w1 : Unit → w32 ((p : Int) + (i : Int)) = ((p + i : Nat) : Int) := fun _ => by rw [w32_id (by omega) (by omega)]; omega
      have w2 : Unit → w32 ((f : Int) + (i : Int)) = ((f + i : Nat) : Int) := fun _ => by rw [w32_id (by omega) (by omega)]; omega
      have ei : Unit → w32 ((i : Int) + 1) = ((i + 1 : Nat) : Int) := fun _ => by rw [w32_id (by omega) (by omega)]; omega
      rw [s213_8]
      simp only [s213_10, s213_11, s213_14, s213_17, s213_18, s213_21, s213_22, s213_24, s213_25, s213_26, s213_29, s213_30, s213_32, s213_33, s213_36, s213_39, s213_40, s213_43, s213_44, s213_46, s213_47, s213_48, s213_51, s213_52, s213_54, s213_55, s213_58, s213_61, s213_64, unJ_I, unJ_J, unJ_F, unJ_R, unJ_N, unJ_U, pushR_I, pushR_J, pushR_F, pushR_R, pushR_N, pushR_U, rfV_s, rfV_n, Option.bind_some, true_or, or_true, if_true, c_get, c_put, h44, w1 (), w2 (), ei ()]
      rw [if_neg (by omega), rget_n A' (by omega), r1, rput_n A' _ (by omega), rget_n _ (by omega), r2, rput_n _ _ (by omega)]
      refine ⟨_, _, rfl, _, rfl, rfl, fun j hj => ?_, fun r j z => ?_⟩
      · by_cases e : j = i
        · subst e
          exact ⟨(up2_ne (by omega)).trans up2_eq, up2_eq⟩
        · have := k1 j (by omega)
          exact ⟨((up2_ne (by omega)).trans (up2_ne (by omega))).trans this.1, ((up2_ne (by omega)).trans (up2_ne (by omega))).trans this.2⟩
      · exact ((up2_ne (by omega)).trans (up2_ne (by omega))).trans (k2 r j (by omega)))
  refine ⟨A2, ?_, ⟨?_, fun j hj => ?_⟩, k2⟩
  · simp only [s213_0, s213_1, s213_4, s213_5, s213_6, unJ_I, unJ_J, unJ_F, unJ_R, unJ_N, unJ_U, pushR_I, pushR_J, pushR_F, pushR_R, pushR_N, pushR_U, rfV_s, rfV_n, Option.bind_some, true_or, or_true, if_true, hf]
    refine e.trans ?_
    rw [s213_8]
    simp only [s213_10, s213_11, s213_14, s213_67, s213_68, s213_69, s213_72, unJ_I, unJ_J, unJ_F, unJ_R, unJ_N, unJ_U, pushR_I, pushR_J, pushR_F, pushR_R, pushR_N, pushR_U, rfV_s, rfV_n, Option.bind_some, true_or, or_true, if_true, h44]
    rw [if_pos (by omega)]
  · rw [up2_eq]; omega
  · rw [up2_eq, Int.toNat_natCast]
    exact k1 j hj
end
