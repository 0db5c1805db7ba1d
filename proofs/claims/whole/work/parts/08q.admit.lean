/-! A CELLAR: a lot is admitted, empty lots go, a month goes by -/
theorem LotAt.set4 {I A : M2} {l : Nat} {w : Lt} (h : LotAt I A l w) (v : Int) : LotAt (up2 I 46 l v) A l (sup w.1 4 v, w.2) := by
  obtain ⟨h0, h1, h2, h3, h4, h5, h6, h7, h8, h9⟩ := h
  refine ⟨by simp [up2, sup, h0], by simp [up2, sup, h1], by simp [up2, sup, h2], by simp [up2, sup, h3], by simp [up2, sup, h4], by simp [up2, sup, h5], fun t ht => ?_, by simp [up2, h7], by simp [up2, h8], h9⟩
  show _ = if 6 + t = 4 then v else w.1 (6 + t)
  rw [if_neg (by omega)]
  exact h6 t ht
theorem LotAt.set0 {I A : M2} {l : Nat} {w : Lt} (h : LotAt I A l w) (v : Int) : LotAt (up2 I 43 l v) A l (sup w.1 0 v, w.2) := by
  obtain ⟨h0, h1, h2, h3, h4, h5, h6, h7, h8, h9⟩ := h
  refine ⟨by simp [up2, sup, h0], by simp [up2, sup, h1], by simp [up2, sup, h2], by simp [up2, sup, h3], by simp [up2, sup, h4], by simp [up2, sup, h5], fun t ht => ?_, by simp [up2, h7], by simp [up2, h8], h9⟩
  show _ = if 6 + t = 0 then v else w.1 (6 + t)
  rw [if_neg (by omega)]
  exact h6 t ht
theorem FrL.of2 {l f : Nat} {I A : M2} (v : Int) (h : 43 ≤ f ∧ f ≤ 50) : FrL l I A (up2 I f l v) A := ⟨fun g x z => up2_ne (fun k => z ⟨k.2, by omega, by omega⟩), fun _ _ _ _ _ => rfl⟩
theorem lt_snoc (ls : List Lt) (w : Lt) (i : Nat) : lt (ls ++ [w]) i = if i < ls.length then lt ls i else if i = ls.length then w else lz := by
  unfold lt
  rw [List.getD_eq_getElem?_getD, List.getD_eq_getElem?_getD]
  by_cases h : i < ls.length
  · rw [if_pos h, List.getElem?_append_left h]
  · rw [if_neg h, List.getElem?_append_right (by omega)]
    by_cases e : i = ls.length
    · rw [if_pos e, e, Nat.sub_self]; rfl
    · rw [if_neg e, List.getElem?_eq_none (by simp; omega)]; rfl
section
variable (q : Nat × (Nat → Int)) {I A : M2} {L P : Nat → Nat → Option Nat} {F G : Nat → Nat → UInt32} {D : MD} {l c : Nat} {w : Lt} {σ : St} {sl : Nat → Nat}
/-- Cellar admits a lot -/
theorem c_admit (hc : c < 6) (hL : LoS L c sl) (h : CelAt I A c sl σ) (hn : σ.1.length < 12) (hx : 0 ≤ σ.2.2.2.2 ∧ σ.2.2.2.2 < 1000000) (hl : l = 72 ∨ l = 73) (hw : LotAt I A l w) (hg : w.2.length ≤ 200) (k : Int) :
    ∃ I' A', rs 5 0 [vR 0 c, vR 2 l, vI k, vU] [] (SX q, (I, A, L, P, F, G), D) = some (vI σ.2.2.2.2, (SX q, (I', A', L, P, F, G), D)) ∧ CelAt I' A' c sl (σ.1 ++ [(sup (sup w.1 4 k) 0 σ.2.2.2.2, w.2)], σ.2.1, σ.2.2.1, σ.2.2.2.1, σ.2.2.2.2 + 1) ∧ FrC c I A I' A' := by
  obtain ⟨p1, p2, p3⟩ := hL.1 _ hn
  have hsl : ∀ i, i < 12 → 12 * c ≤ sl i ∧ sl i < 12 * c + 12 := fun i hi => (hL.1 i hi).2
  obtain ⟨I2, A2, e2, k1, k2⟩ := c_lcopy q (I := I) (A := A) (L := L) (P := P) (F := F) (G := G) (D := D) (l := sl σ.1.length) (s := l) (by omega) (by omega) (by omega) hw hg
  obtain ⟨h1, h2, h3, h4, ⟨h5, h6, h7⟩, h8, h9⟩ := h
  have g4 : I2 4 c = σ.1.length := (k2.1 _ _ (by omega)).trans h1
  have g5 : I2 5 c = σ.2.2.2.2 := (k2.1 _ _ (by omega)).trans h3
  have e1 : Unit → w32 ((σ.1.length : Int) + 1) = ((σ.1.length + 1 : Nat) : Int) := fun _ => by rw [w32_id (by omega) (by omega)]; omega
  have e5 : Unit → w32 (σ.2.2.2.2 + 1) = σ.2.2.2.2 + 1 := fun _ => w32_id (by omega) (by omega)
  generalize hs : sl σ.1.length = s at p1 p2 p3 e2 k1 k2
  have k3 := (k1.set4 k).set0 σ.2.2.2.2
  have fr : FrL s I A (up2 (up2 I2 46 s k) 43 s σ.2.2.2.2) A2 := (k2.tr (FrL.of2 k (by omega))).tr (FrL.of2 _ (by omega))
  refine ⟨up2 (up2 (up2 (up2 I2 46 s k) 43 s σ.2.2.2.2) 4 c ((σ.1.length + 1 : Nat) : Int)) 5 c (σ.2.2.2.2 + 1), A2, ?_, ⟨?_, by simp; omega, ?_, fun i hi => ?_, ⟨?_, h6, fun j hj => ?_⟩, fun i hi => ?_, fun i hi => ?_⟩, ?_⟩
  · have u1 : up2 I2 46 s k 5 c = σ.2.2.2.2 := (up2_ne (by omega)).trans g5
    have u2 : up2 (up2 I2 46 s k) 43 s σ.2.2.2.2 4 c = σ.1.length := (up2_ne (by omega)).trans ((up2_ne (by omega)).trans g4)
    have u3 : up2 (up2 (up2 I2 46 s k) 43 s σ.2.2.2.2) 4 c ((σ.1.length + 1 : Nat) : Int) 5 c = σ.2.2.2.2 := (up2_ne (by omega)).trans ((up2_ne (by omega)).trans u1)
    have u4 : up2 (up2 (up2 (up2 I2 46 s k) 43 s σ.2.2.2.2) 4 c ((σ.1.length + 1 : Nat) : Int)) 5 c (σ.2.2.2.2 + 1) 43 s = σ.2.2.2.2 := (up2_ne (by omega)).trans ((up2_ne (by omega)).trans up2_eq)
    simp only [s5_0, s5_1, s5_4, s5_7, s5_8, s5_11, s5_12, s5_15, s5_16, unJ_I, unJ_J, unJ_F, unJ_R, unJ_N, unJ_U, pushR_I, pushR_J, pushR_F, pushR_R, pushR_N, pushR_U, rfV_s, rfV_n, Option.bind_some, true_or, or_true, if_true, lx15, h1]
    rw [if_neg (by omega), if_pos (by omega), if_pos (by omega)]
    simp only [s5_22, s5_23, s5_26, s5_27, s5_30, s5_31, s5_31n, s5_32, s5_32n, s5_33n, s5_33, unJ_I, unJ_J, unJ_F, unJ_R, unJ_N, unJ_U, pushR_I, pushR_J, pushR_F, pushR_R, pushR_N, pushR_U, rfV_s, rfV_n, Option.bind_some, true_or, or_true, if_true, lx15, h1, Int.toNat_natCast]
    rw [if_pos (by omega), p1]
    simp only [s5_31, s5_31n, s5_32, s5_32n, s5_33n, s5_33, s5_36, s5_38, s5_39, s5_39n, s5_40, s5_41, s5_44, s5_44n, s5_45, s5_46, s5_49, s5_49n, s5_50, s5_51, s5_54, s5_57, s5_58, s5_58r, s5_59, s5_62, s5_63, s5_64, s5_67, s5_68, s5_68r, s5_69, s5_72, s5_73, s5_74, s5_77, s5_77n, s5_78, s5_81, unJ_I, unJ_J, unJ_F, unJ_R, unJ_N, unJ_U, pushR_I, pushR_J, pushR_F, pushR_R, pushR_N, pushR_U, rfV_s, rfV_n, Option.bind_some, true_or, or_true, if_true, e2, u1, u2, u3, u4, e1 (), e5 ()]
  · refine (up2_ne (by omega)).trans (up2_eq.trans ?_)
    simp
  · exact up2_eq
  · show LotAt _ _ _ (lt (σ.1 ++ [(sup (sup w.1 4 k) 0 σ.2.2.2.2, w.2)]) i)
    rw [lt_snoc]
    by_cases hz : i < σ.1.length
    · rw [if_pos hz]
      refine ((h4 i hz).fr fr (by have := hsl i (by omega); omega) (by omega) (fun e => ?_)).same (fun f a b => (up2_ne (by omega)).trans (up2_ne (by omega))) (fun _ _ _ => rfl)
      have := hL.2 i σ.1.length (by omega) hn (by rw [e, hs])
      omega
    · have : i = σ.1.length := by simp at hi; omega
      subst this
      rw [if_neg hz, if_pos rfl, hs]
      exact k3.same (fun f a b => (up2_ne (by omega)).trans (up2_ne (by omega))) (fun _ _ _ => rfl)
  · refine (up2_ne (by omega)).trans ((up2_ne (by omega)).trans ((fr.1 _ _ (by omega)).trans h5))
  · have z := lr_c hc p2 p3
    have z2 := rr_c hc
    have r : ∀ a, a < 3 → ∀ j, A2 (rr c + a) j = A (rr c + a) j := fun a ha j => fr.2 _ j (by omega) (by omega) (by omega)
    exact ⟨(r 0 (by omega) j).trans (h7 j hj).1, (r 1 (by omega) j).trans (h7 j hj).2.1, (r 2 (by omega) j).trans (h7 j hj).2.2⟩
  · have z := lr_c hc p2 p3
    exact (fr.2 _ _ (by omega) (by omega) (by omega)).trans (h8 i hi)
  · have z := lr_c hc p2 p3
    exact (fr.2 _ _ (by omega) (by omega) (by omega)).trans (h9 i hi)
  · refine (fr.toC hc p2 p3).tr ⟨fun f x z => ?_, fun _ _ _ => rfl⟩
    unfold inI at z
    exact (up2_ne (by omega)).trans (up2_ne (by omega))
end
