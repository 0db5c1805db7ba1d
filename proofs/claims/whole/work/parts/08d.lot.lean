/-! A LOT IS WRITTEN: clear, copy -/
/-- only lot l has changed -/
def FrL (l : Nat) (I A I' A' : M2) : Prop := (∀ f x, ¬ (x = l ∧ 43 ≤ f ∧ f ≤ 50) → I' f x = I f x) ∧ ∀ r j, r ≠ lr l → r ≠ lr l + 1 → r ≠ lr l + 2 → A' r j = A r j
theorem FrL.rf (l : Nat) (I A : M2) : FrL l I A I A := ⟨fun _ _ _ => rfl, fun _ _ _ _ _ => rfl⟩
theorem FrL.tr {l : Nat} {I A I1 A1 I2 A2 : M2} (h : FrL l I A I1 A1) (k : FrL l I1 A1 I2 A2) : FrL l I A I2 A2 :=
  ⟨fun f x z => (k.1 f x z).trans (h.1 f x z), fun r j a b c => (k.2 r j a b c).trans (h.2 r j a b c)⟩
theorem lr_ne {l l' a a' : Nat} (h : l < 74) (h' : l' < 74) (ha : a < 3) (ha' : a' < 3) (hn : ¬ (l = l' ∧ a = a')) : lr l + a ≠ lr l' + a' := fun e => by
  have h1 := ow_l l h a ha
  rw [e, ow_l l' h' a' ha'] at h1
  simp only [Prod.mk.injEq] at h1
  omega
/-- another lot stays -/
theorem LotAt.fr {I A I' A' : M2} {l l' : Nat} {w : Lt} (h : LotAt I A l w) (k : FrL l' I A I' A') (hl : l < 74) (hl' : l' < 74) (hn : l ≠ l') : LotAt I' A' l w := by
  obtain ⟨h0, h1, h2, h3, h4, h5, h6, h7, h8, h9⟩ := h
  have e : ∀ f, I' f l = I f l := fun f => k.1 f l (fun z => hn z.1)
  have r : ∀ a, a < 3 → ∀ j, A' (lr l + a) j = A (lr l + a) j := fun a ha j => k.2 _ j (lr_ne (a' := 0) hl hl' ha (by omega) (by omega)) (lr_ne (a' := 1) hl hl' ha (by omega) (by omega)) (lr_ne (a' := 2) hl hl' ha (by omega) (by omega))
  refine ⟨by rw [e]; exact h0, by rw [e]; exact h1, by rw [e]; exact h2, by rw [e]; exact h3, by rw [e]; exact h4, by rw [e]; exact h5, fun t ht => by rw [r 2 (by omega)]; exact h6 t ht, by rw [e]; exact h7, by rw [e]; exact h8, fun j hj => ?_⟩
  have r0 := r 0 (by omega) j
  rw [Nat.add_zero] at r0
  rw [r0, r 1 (by omega)]
  exact h9 j hj
def d0 : Nat → Int := fun i => if 6 ≤ i then -1 else 0
section
variable (q : Nat × (Nat → Int)) {I A : M2} {L P : Nat → Nat → Option Nat} {F G : Nat → Nat → UInt32} {D : MD} {l : Nat} {w : Lt}
/-- Lot.clear -/
theorem c_clear (hl : l < 74) : ∃ I' A', rs 202 0 [vR 2 l, vU] [] (SX q, (I, A, L, P, F, G), D) = some (vU, (SX q, (I', A', L, P, F, G), D)) ∧ LotAt I' A' l (d0, []) ∧ FrL l I A I' A' := by
  have hlen := (len_l l hl).2.2
  generalize hI1 : up2 (up2 (up2 (up2 (up2 (up2 (up2 (up2 I 43 l 0) 44 l 0) 45 l 0) 46 l 0) 47 l 0) 48 l 0) 49 l 0) 50 l 0 = I1
  have loop := rs_loop (m := 202) (pc := 42) (fun i => [vR 2 l, vI i]) (fun i => (SX q, (I1, (fun r j => if r = lr l + 2 ∧ j < i then -1 else A r j), L, P, F, G), D)) 8 (fun i hi => by
    rw [s202_42]
    simp only [s202_43, s202_45, s202_48, s202_49, s202_52, s202_53, s202_54, s202_57, s202_60, unJ_I, unJ_J, unJ_F, unJ_R, unJ_N, unJ_U, pushR_I, pushR_J, pushR_F, pushR_R, pushR_N, pushR_U, rfV_s, rfV_n, Option.bind_some, true_or, or_true, if_true, c_put]
    rw [if_neg (by omega), w32_id (by omega) (by omega), show (i : Int) + 1 = ((i + 1 : Nat) : Int) by omega, rput_n _ _ (by omega)]
    have e : up2 (fun r j => if r = lr l + 2 ∧ j < i then -1 else A r j) (lr l + 2) i (-1) = fun r j => if r = lr l + 2 ∧ j < i + 1 then -1 else A r j := by
      funext r j
      unfold up2
      by_cases h1 : r = lr l + 2 ∧ j = i
      · rw [if_pos h1, if_pos ⟨h1.1, by omega⟩]
      · rw [if_neg h1]
        show (if r = lr l + 2 ∧ j < i then (-1 : Int) else A r j) = _
        by_cases h2 : r = lr l + 2 ∧ j < i
        · rw [if_pos h2, if_pos ⟨h2.1, by omega⟩]
        · rw [if_neg h2, if_neg (by omega)]
    rw [e])
  refine ⟨I1, fun r j => if r = lr l + 2 ∧ j < 8 then -1 else A r j, ?_, ?_, ?_⟩
  · simp only [s202_0, s202_1, s202_2, s202_5, s202_6, s202_7, s202_10, s202_11, s202_12, s202_15, s202_16, s202_17, s202_20, s202_21, s202_22, s202_25, s202_26, s202_27, s202_30, s202_31, s202_32, s202_35, s202_36, s202_37, s202_40, s202_41, unJ_I, unJ_J, unJ_F, unJ_R, unJ_N, unJ_U, pushR_I, pushR_J, pushR_F, pushR_R, pushR_N, pushR_U, rfV_s, rfV_n, Option.bind_some, true_or, or_true, if_true]
    rw [hI1]
    have e0 : A = fun r j => if r = lr l + 2 ∧ j < 0 then -1 else A r j := by
      funext r j
      rw [if_neg (by omega)]
    rw [show (SX q, (I1, A, L, P, F, G), D) = (SX q, (I1, (fun r j => if r = lr l + 2 ∧ j < 0 then -1 else A r j), L, P, F, G), D) by rw [← e0]]
    refine loop.trans ?_
    simp only [s202_42, s202_43, s202_45, s202_63, unJ_I, unJ_J, unJ_F, unJ_R, unJ_N, unJ_U, pushR_I, pushR_J, pushR_F, pushR_R, pushR_N, pushR_U, rfV_s, rfV_n, Option.bind_some, true_or, or_true, if_true]
    rfl
  · subst hI1
    refine ⟨?_, ?_, ?_, ?_, ?_, ?_, fun t ht => ?_, ?_, ?_, fun j hj => absurd hj (by simp)⟩
    all_goals first
      | (simp [up2, d0, gsum]; done)
      | skip
    simp only [d0]
    rw [if_pos ⟨trivial, ht⟩, if_pos (by omega)]
  · subst hI1
    refine ⟨fun f x h => ?_, fun r j a b c => if_neg (fun z => c z.1)⟩
    unfold up2
    repeat rw [if_neg (by omega)]
/-- Lot.copy -/
theorem c_lcopy {s : Nat} (hl : l < 74) (hs : s < 74) (hn : l ≠ s) (h : LotAt I A s w) (hg : w.2.length ≤ 200) : ∃ I' A', rs 203 0 [vR 2 l, vR 2 s] [] (SX q, (I, A, L, P, F, G), D) = some (vU, (SX q, (I', A', L, P, F, G), D)) ∧ LotAt I' A' l w ∧ FrL l I A I' A' := by
  obtain ⟨h0, h1, h2, h3, h4, h5, h6, h7, h8, h9⟩ := h
  have a1 := len_l l hl
  have a2 := len_l s hs
  have e8 : (8 : Int) = ((8 : Nat) : Int) := rfl
  have n1 := lr_ne (a := 0) (a' := 0) hl hs (by omega) (by omega) (by omega)
  have n2 := lr_ne (a := 0) (a' := 1) hl hs (by omega) (by omega) (by omega)
  have n3 := lr_ne (a := 0) (a' := 2) hl hs (by omega) (by omega) (by omega)
  have n4 := lr_ne (a := 1) (a' := 1) hl hs (by omega) (by omega) (by omega)
  have n5 := lr_ne (a := 1) (a' := 2) hl hs (by omega) (by omega) (by omega)
  generalize hI' : up2 (up2 (up2 (up2 (up2 (up2 (up2 (up2 I 43 l (I 43 s)) 44 l (I 44 s)) 45 l (I 45 s)) 46 l (I 46 s)) 47 l (I 47 s)) 48 l (I 48 s)) 49 l (I 49 s)) 50 l (I 50 s) = I'
  generalize hA' : rcpy (rcpy (rcpy A (lr s) (lr l) w.2.length) (lr s + 1) (lr l + 1) w.2.length) (lr s + 2) (lr l + 2) 8 = A'
  refine ⟨I', A', ?_, ?_, ?_⟩
  · simp only [s203_0, s203_1, s203_4, s203_5, s203_8, s203_9, s203_12, unJ_I, unJ_J, unJ_F, unJ_R, unJ_N, unJ_U, pushR_I, pushR_J, pushR_F, pushR_R, pushR_N, pushR_U, rfV_s, rfV_n, Option.bind_some, true_or, or_true, if_true, h7]
    rw [c_copy q I A L P F G D (by omega) (by omega)]
    simp only [s203_15, s203_16, s203_19, s203_20, s203_23, s203_24, s203_27, unJ_I, unJ_J, unJ_F, unJ_R, unJ_N, unJ_U, pushR_I, pushR_J, pushR_F, pushR_R, pushR_N, pushR_U, rfV_s, rfV_n, Option.bind_some, true_or, or_true, if_true, h7]
    rw [c_copy q I _ L P F G D (by omega) (by omega)]
    simp only [s203_30, s203_31, s203_34, s203_35, s203_38, s203_40, unJ_I, unJ_J, unJ_F, unJ_R, unJ_N, unJ_U, pushR_I, pushR_J, pushR_F, pushR_R, pushR_N, pushR_U, rfV_s, rfV_n, Option.bind_some, true_or, or_true, if_true]
    rw [e8, c_copy q I _ L P F G D (by omega) (by omega)]
    simp only [s203_43, s203_44, s203_45, s203_48, s203_51, s203_52, s203_53, s203_56, s203_59, s203_60, s203_61, s203_64, s203_67, s203_68, s203_69, s203_72, s203_75, s203_76, s203_77, s203_80, s203_83, s203_84, s203_85, s203_88, s203_91, s203_92, s203_93, s203_96, s203_99, s203_100, s203_101, s203_104, s203_107, unJ_I, unJ_J, unJ_F, unJ_R, unJ_N, unJ_U, pushR_I, pushR_J, pushR_F, pushR_R, pushR_N, pushR_U, rfV_s, rfV_n, Option.bind_some, true_or, or_true, if_true]
    rw [← hI', ← hA']
    simp [up2, hn, Ne.symm hn]
  · subst hI'
    subst hA'
    refine ⟨?_, ?_, ?_, ?_, ?_, ?_, fun t ht => ?_, ?_, ?_, fun j hj => ⟨?_, ?_⟩⟩
    all_goals first
      | (simp [up2, *]; done)
      | skip
    · unfold rcpy
      rw [if_pos ⟨rfl, ht⟩, if_neg (by omega), if_neg (by omega), h6 t ht]
    · unfold rcpy
      rw [if_neg (by omega), if_neg (by omega), if_pos ⟨rfl, hj⟩, (h9 j hj).1]
    · unfold rcpy
      rw [if_neg (by omega), if_pos ⟨rfl, hj⟩, if_neg (by omega), (h9 j hj).2]
  · subst hI'
    subst hA'
    refine ⟨fun f x h => ?_, fun r j a b c => ?_⟩
    · unfold up2
      repeat rw [if_neg (by omega)]
    · unfold rcpy
      rw [if_neg (fun z => c z.1), if_neg (fun z => b z.1), if_neg (fun z => a z.1)]
end
