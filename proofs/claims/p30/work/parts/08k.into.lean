/-! LITRES ARE TAKEN FROM A LOT INTO ANOTHER -/
def mixU (p : Nat → Int) (g a : Gr) : Nat → Gr
  | 0 => a
  | i + 1 => if 0 < p i then pourG (mixU p g a i) (gk g i) (p i) else mixU p g a i
def FrU (x l l2 : Nat) (I A I' A' : M2) : Prop := (∀ f y, ¬ ((y = l ∨ y = l2) ∧ 43 ≤ f ∧ f ≤ 50) → I' f y = I f y) ∧ I' 44 l ≤ I 44 l ∧ ∀ r j, ¬ ((r = lr l ∨ r = lr l + 1) ∧ I 51 l ≤ ((j : Nat) : Int) ∧ ((j : Nat) : Int) < I 51 l + I 44 l) → r ≠ lr l2 → r ≠ lr l2 + 1 → r ≠ sr l2 → r ≠ 95 → r ≠ 96 → A' r j = A r j
section
variable (q : Nat × (Nat → Int)) {I A : M2} {L P : Nat → Nat → Option Nat} {F G : Nat → Nat → UInt32} {D : MD} {l l2 x : Nat} {w w2 : Lt}
theorem c_takeInto (hx : x < 2) (hl : l < 74) (hl2 : l2 < 74) (hne : l ≠ l2) (hlr : lr l ≠ lr l2) (h2r : rowLen (lr l2) = 200) (h51 : I 51 l2 = 0) (h : LotAt I A l w) (h2 : LotAt I A l2 w2) (hg : w.2.length ≤ 200) (hv : ∀ j, j < w.2.length → 0 ≤ gv w.2 j) (hs : 0 < gsum w.2 ∧ gsum w.2 ≤ 10000) {n : Int} (hn : 0 ≤ n ∧ n ≤ 10000)
    (hM : ∀ i, i < w.2.length → (mixU (shr n (gv w.2) w.2.length) w.2 w2.2 i).length < 200 ∧ 0 ≤ gsum (mixU (shr n (gv w.2) w.2.length) w.2 w2.2 i) ∧ gsum (mixU (shr n (gv w.2) w.2.length) w.2 w2.2 i) ≤ 100000 ∧ ∀ j, j < (mixU (shr n (gv w.2) w.2.length) w.2 w2.2 i).length → 0 ≤ gv (mixU (shr n (gv w.2) w.2.length) w.2 w2.2 i) j ∧ gv (mixU (shr n (gv w.2) w.2.length) w.2 w2.2 i) j ≤ 100000) :
    ∃ I' A', rs 207 0 [vR 2 l, vR 2 l2, vI n, vR 7 x, vU, vU] [] (SX q, (I, A, L, P, F, G), D) = some (vU, (SX q, (I', A', L, P, F, G), D)) ∧ LotAt I' A' l (w.1, takeG w.2 n) ∧ LotAt I' A' l2 (w2.1, mixU (shr n (gv w.2) w.2.length) w.2 w2.2 w.2.length) ∧ FrU x l l2 I A I' A' := by
  have hlen := len_l l hl
  have hsh := len_sh x hx
  obtain ⟨f, hf⟩ : ∃ f : Nat, I 51 l = f := ⟨(I 51 l).toNat, by have := h.gr.1; omega⟩
  have hb := h.gr.1
  have h9 := h.gr.2
  rw [hf] at hb h9
  rw [Int.toNat_natCast] at h9
  have hS : 0 < sumU (gv w.2) w.2.length := by rw [← gsum_sumU]; exact hs.1
  have nl := rw_l hl
  have nl2 := rw_l hl2
  have x1 := sr_lr hl hl2
  have x2 := sr_lr hl2 hl
  have x3 := sr_ne hl hl2 hne
  obtain ⟨A1, e1, s1, s2⟩ := c_spread q (I := I) (A := A) (L := L) (P := P) (F := F) (G := G) (D := D) (x := x) hx hg hn (r := lr l + 1) (b := f) (by omega) (by omega) (W := gv w.2) (fun j hj => ⟨(h9 j hj).2, hv j hj, Int.le_trans (gv_le hv hj) hs.2⟩) hS
  have g1 : LotAt I A1 l w := h.same (fun _ _ _ => rfl) (fun r j z => s2 _ j (by omega) (by omega))
  have g2 : LotAt I A1 l2 w2 := h2.same (fun _ _ _ => rfl) (fun r j z => s2 _ j (by omega) (by omega))
  generalize hp : shr n (gv w.2) w.2.length = p at hM s1
  have pr : ∀ j, j < w.2.length → 0 ≤ p j ∧ p j ≤ 10001 := fun j hj => by
    have := shr_r hn.1 hv hS hj
    rw [hp] at this
    omega
  obtain ⟨ls', μ', e, I2, A2, rfl, rfl, k1, k2, k0, k3⟩ := rs_loopP (m := 207) (pc := 20) (ls := [vR 2 l, vR 2 l2, vU, vR 7 x, vI 0, vU]) (μ := (SX q, (I, A1, L, P, F, G), D)) (fun i ls μ => ∃ I' A', μ = (SX q, (I', A', L, P, F, G), D) ∧ ls = [vR 2 l, vR 2 l2, vU, vR 7 x, vI (i : Int), vU] ∧
      LotAt I' A' l w ∧ LotAt I' A' l2 (w2.1, mixU p w.2 w2.2 i) ∧ I' 51 l2 = 0 ∧ FrL l2 I A1 I' A') w.2.length
    ⟨_, _, rfl, rfl, g1, g2, h51, FrL.rf _ _ _⟩ (fun i hi ls μ ⟨I', A', e1, e2, k1, k2, k0, k3⟩ => by
      subst e1 e2
      have n44 : I' 44 l = w.2.length := k1.2.2.2.2.2.2.2.1
      have rp : A' 95 i = p i := (k3.2 _ _ (by omega) (by omega) (by omega)).trans (s1 i hi)
      have pi := pr i hi
      obtain ⟨b1, b2, b3, b4⟩ := hM i hi
      have ei : Unit → w32 ((i : Int) + 1) = ((i + 1 : Nat) : Int) := fun _ => by rw [w32_id (by omega) (by omega)]; omega
      rw [s207_20]
      simp only [s207_22, s207_23, s207_26, s207_29, s207_30, s207_33, s207_35, s207_38, s207_40, s207_42, unJ_I, unJ_J, unJ_F, unJ_R, unJ_N, unJ_U, pushR_I, pushR_J, pushR_F, pushR_R, pushR_N, pushR_U, rfV_s, rfV_n, Option.bind_some, true_or, or_true, if_true, c_get, n44]
      rw [if_neg (by omega), rget_n A' (by omega), rp]
      by_cases hz : p i ≤ 0
      · rw [if_pos hz]
        simp only [s207_57, s207_60, unJ_I, unJ_J, unJ_F, unJ_R, unJ_N, unJ_U, pushR_I, pushR_J, pushR_F, pushR_R, pushR_N, pushR_U, rfV_s, rfV_n, Option.bind_some, true_or, or_true, if_true, ei ()]
        exact ⟨_, _, rfl, _, _, rfl, rfl, k1, by rw [mixU, if_neg (by omega)]; exact k2, k0, k3⟩
      · rw [if_neg hz]
        obtain ⟨I3, A3, e3, f1, f0, f2⟩ := c_pour q (I := I') (A := A') (L := L) (P := P) (F := F) (G := G) (D := D) hl2 k2 k0 (by rw [h2r]; exact b1) (gk w.2 i) (p i) (by show -2147483648 ≤ gsum (mixU p w.2 w2.2 i) + p i ∧ gsum (mixU p w.2 w2.2 i) + p i < 2147483648; omega) (fun j hj => by
          have := b4 j hj
          show -2147483648 ≤ gv (mixU p w.2 w2.2 i) j + p i ∧ gv (mixU p w.2 w2.2 i) j + p i < 2147483648
          omega)
        simp only [s207_45, s207_46, s207_47, s207_49, s207_52, s207_54, s207_57, s207_60, unJ_I, unJ_J, unJ_F, unJ_R, unJ_N, unJ_U, pushR_I, pushR_J, pushR_F, pushR_R, pushR_N, pushR_U, rfV_s, rfV_n, Option.bind_some, true_or, or_true, if_true, c_key q k1 hl hi, e3, ei ()]
        exact ⟨_, _, rfl, _, _, rfl, rfl, k1.fr f2 hl hl2 hne hlr, by rw [mixU, if_pos (by omega)]; exact f1, f0, k3.tr f2⟩)
  have n44 : I2 44 l = w.2.length := k1.2.2.2.2.2.2.2.1
  obtain ⟨I4, A4, e4, c1, c2⟩ := c_lose q (I := I2) (A := A2) (L := L) (P := P) (F := F) (G := G) (D := D) hl k1 hg (r := 95) ⟨by omega, by omega⟩ hsh.1 (p := p) (fun j hj => by
    have := pr j hj
    have := gv_le hv hj
    exact ⟨(k3.2 _ _ (by omega) (by omega) (by omega)).trans (s1 j hj), by omega, by omega, hv j hj, by omega⟩) (by omega)
  have n44' : I 44 l = w.2.length := h.2.2.2.2.2.2.2.1
  have n51 : I2 51 l = I 51 l := k3.1 _ _ (by omega)
  refine ⟨I4, A4, ?_, by unfold takeG; rw [hp]; exact c1, ?_, fun f y hy => ?_, by have := c2.2.1; omega, fun r j z1 z4 z5 z6 z7 z8 => ?_⟩
  · simp only [s207_0, s207_1, s207_2, s207_3, s207_6, s207_7, s207_10, s207_11, s207_14, s207_17, s207_18, unJ_I, unJ_J, unJ_F, unJ_R, unJ_N, unJ_U, pushR_I, pushR_J, pushR_F, pushR_R, pushR_N, pushR_U, rfV_s, rfV_n, Option.bind_some, true_or, or_true, if_true, n44', hf, e1]
    refine e.trans ?_
    rw [s207_20]
    simp only [s207_22, s207_23, s207_26, s207_63, s207_64, s207_65, s207_68, s207_71, unJ_I, unJ_J, unJ_F, unJ_R, unJ_N, unJ_U, pushR_I, pushR_J, pushR_F, pushR_R, pushR_N, pushR_U, rfV_s, rfV_n, Option.bind_some, true_or, or_true, if_true, n44, e4]
    rw [if_pos (by omega)]
  · exact k2.same (fun f _ _ => c2.1 f _ (by omega)) (fun r j z => c2.2.2 r j (by omega))
  · by_cases z : f = 51 ∧ y = l2
    · obtain ⟨rfl, rfl⟩ := z
      rw [c2.1 _ _ (by omega), k0, h51]
    · exact (c2.1 f y (by omega)).trans (k3.1 f y (by omega))
  · exact ((c2.2.2 r j (by omega)).trans (k3.2 r j z4 z5 z6)).trans (s2 r j z7 z8)
end
