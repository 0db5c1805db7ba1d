/-! LITRES ARE TAKEN FROM A LOT -/
def takeG (g : Gr) (n : Int) : Gr := loseG g (shr n (gv g) g.length)
/-- only the grains of lot l and the rows of the sharing have changed -/
def FrT (x l : Nat) (I A I' A' : M2) : Prop := (∀ f y, ¬ (y = l ∧ 43 ≤ f ∧ f ≤ 50) → I' f y = I f y) ∧ I' 44 l ≤ I 44 l ∧ ∀ r j, ¬ ((r = lr l ∨ r = lr l + 1) ∧ I 51 l ≤ ((j : Nat) : Int) ∧ ((j : Nat) : Int) < I 51 l + I 44 l) → r ≠ 95 → r ≠ 96 → A' r j = A r j
/-- the same, or its scores too -/
def FrB (l : Nat) (I A I' A' : M2) : Prop := (∀ f y, ¬ (y = l ∧ 43 ≤ f ∧ f ≤ 50) → I' f y = I f y) ∧ I' 44 l ≤ I 44 l ∧ ∀ r j, r ≠ sr l → ¬ ((r = lr l ∨ r = lr l + 1) ∧ I 51 l ≤ ((j : Nat) : Int) ∧ ((j : Nat) : Int) < I 51 l + I 44 l) → r ≠ 95 → r ≠ 96 → A' r j = A r j
theorem FrT.toB {x l : Nat} {I A I' A' : M2} (h : FrT x l I A I' A') : FrB l I A I' A' := ⟨h.1, h.2.1, fun r j _ b d e => h.2.2 r j b d e⟩
/-- another lot's grains lie apart -/
def Apa (I : M2) (l l' : Nat) : Prop := lr l = lr l' → (I 51 l + I 44 l ≤ I 51 l' ∨ I 51 l' + I 44 l' ≤ I 51 l)
theorem Asc.apa {I : M2} {sl : Nat → Nat} {n i j : Nat} (h : Asc I sl n) (hi : i < n) (hj : j < n) (hn : i ≠ j) : Apa I (sl i) (sl j) := fun _ => by
  rcases Nat.lt_or_ge i j with z | z
  · exact Or.inl (h i j z hj)
  · exact Or.inr (h j i (by omega) hi)
theorem Asc.same {I I' : M2} {sl : Nat → Nat} {n : Nat} (h : Asc I sl n) (k : ∀ i, i < n → I' 51 (sl i) = I 51 (sl i) ∧ I' 44 (sl i) ≤ I 44 (sl i)) : Asc I' sl n := fun i j hij hj => by
  have a := h i j hij hj
  have b := k i (by omega)
  have c := k j hj
  omega
theorem LotAt.frB {I A I' A' : M2} {l l' : Nat} {w : Lt} (h : LotAt I A l w) (k : FrB l' I A I' A') (hl : l < 74) (hl' : l' < 74) (hn : l ≠ l') (ha : Apa I l l') : LotAt I' A' l w := by
  have a := sr_lr hl hl'
  have b := sr_lr hl' hl
  have c := sr_ne hl hl' hn
  have d := rw_l hl
  have e44 : I 44 l = w.2.length := h.2.2.2.2.2.2.2.1
  refine (h.hd.same (fun f _ _ => k.1 f l (fun z => hn z.1)) (fun j => k.2.2 _ j c (by omega) (by omega) (by omega))).lot (h.gr.same (k.1 51 l (by omega)) (fun j h1 h2 => ?_))
  by_cases z : lr l = lr l'
  · have := ha z
    exact ⟨k.2.2 _ j (by omega) (by omega) (by omega) (by omega), k.2.2 _ j (by omega) (by omega) (by omega) (by omega)⟩
  · exact ⟨k.2.2 _ j (by omega) (by omega) (by omega) (by omega), k.2.2 _ j (by omega) (by omega) (by omega) (by omega)⟩
theorem shr_r {n : Int} {W : Nat → Int} {m : Nat} (hn : 0 ≤ n) (hW : ∀ j, j < m → 0 ≤ W j) (hS : 0 < sumU W m) {j : Nat} (hj : j < m) : 0 ≤ shr n W m j ∧ shr n W m j ≤ n + 1 := by
  have f0 := fS_r hn hS j (hW j hj)
  have s1 := fS_sum hn hW hS (j + 1) (by omega)
  have s0 := fS_sum hn hW hS j (by omega)
  rw [sumU] at s1
  unfold shr b01
  split <;> omega
theorem okL.gv {w : Lt} (h : okL w) {j : Nat} (hj : j < w.2.length) : 0 ≤ gk w.2 j ∧ gk w.2 j < 5120 ∧ 1 ≤ gv w.2 j := by
  have := h.2.2.2.2.2.2.2.1 (w.2[j]) (List.getElem_mem hj)
  unfold okG at this
  simp only [gk, _root_.Jvm.Pilot.CVineyardBlendsLaw_law_r5423_d6f3a2.gv, List.getD_eq_getElem?_getD, List.getElem?_eq_getElem hj, Option.getD_some]
  exact this
theorem gv_le {g : Gr} (h : ∀ j, j < g.length → 0 ≤ gv g j) {j : Nat} (hj : j < g.length) : gv g j ≤ gsum g := by
  have h1 := gsum_take h j
  have h2 := gsum_take h (j + 1)
  rw [take_s hj, gsum_app] at h2
  simp only [gsum] at h2
  omega
section
variable (q : Nat × (Nat → Int)) {I A : M2} {L P : Nat → Nat → Option Nat} {F G : Nat → Nat → UInt32} {D : MD} {l x : Nat} {w : Lt}
/-- Lot.take -/
theorem c_take (hx : x < 2) (hl : l < 74) (h : LotAt I A l w) (hg : w.2.length ≤ 200) (hv : ∀ j, j < w.2.length → 0 ≤ gv w.2 j) (hs : 0 < gsum w.2 ∧ gsum w.2 ≤ 10000) {n : Int} (hn : 0 ≤ n ∧ n ≤ 10000) :
    ∃ I' A', rs 206 0 [vR 2 l, vI n, vR 7 x] [] (SX q, (I, A, L, P, F, G), D) = some (vU, (SX q, (I', A', L, P, F, G), D)) ∧ LotAt I' A' l (w.1, takeG w.2 n) ∧ FrT x l I A I' A' := by
  have hlen := len_l l hl
  have hsh := len_sh x hx
  have h44 : I 44 l = w.2.length := h.2.2.2.2.2.2.2.1
  obtain ⟨f, hf⟩ : ∃ f : Nat, I 51 l = f := ⟨(I 51 l).toNat, by have := h.gr.1; omega⟩
  have hb := h.gr.1
  have h9 := h.gr.2
  rw [hf] at hb h9
  rw [Int.toNat_natCast] at h9
  have hS : 0 < sumU (gv w.2) w.2.length := by rw [← gsum_sumU]; exact hs.1
  have nl := rw_l hl
  obtain ⟨A1, e1, s1, s2⟩ := c_spread q (I := I) (A := A) (L := L) (P := P) (F := F) (G := G) (D := D) (x := x) hx hg hn (r := lr l + 1) (b := f) (by omega) (by omega) (W := gv w.2) (fun j hj => ⟨(h9 j hj).2, hv j hj, Int.le_trans (gv_le hv hj) hs.2⟩) hS
  have h1 : LotAt I A1 l w := h.same (fun _ _ _ => rfl) (fun r j z => s2 _ j (by omega) (by omega))
  obtain ⟨I2, A2, e2, k1, k2⟩ := c_lose q (I := I) (A := A1) (L := L) (P := P) (F := F) (G := G) (D := D) hl h1 hg (r := 95) ⟨by omega, by omega⟩ hsh.1 (p := shr n (gv w.2) w.2.length) (fun j hj => by
    have := shr_r hn.1 hv hS hj
    have := gv_le hv hj
    exact ⟨s1 j hj, by omega, by omega, hv j hj, by omega⟩) (by omega)
  refine ⟨I2, A2, ?_, k1, fun f y z => k2.1 f y (by omega), k2.2.1, fun r j b d e => (k2.2.2 r j b).trans (s2 r j d e)⟩
  simp only [s206_0, s206_1, s206_2, s206_3, s206_6, s206_7, s206_10, s206_11, s206_14, s206_17, s206_18, s206_19, s206_22, s206_25, unJ_I, unJ_J, unJ_F, unJ_R, unJ_N, unJ_U, pushR_I, pushR_J, pushR_F, pushR_R, pushR_N, pushR_U, rfV_s, rfV_n, Option.bind_some, true_or, or_true, if_true, h44, hf, e1, e2]
end
