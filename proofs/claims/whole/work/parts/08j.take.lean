/-! LITRES ARE TAKEN FROM A LOT -/
def takeG (g : Gr) (n : Int) : Gr := loseG g (shr n (gv g) g.length)
/-- only lot l and the rows of sharing x have changed -/
def FrT (x l : Nat) (I A I' A' : M2) : Prop := (∀ f y, ¬ (y = l ∧ 43 ≤ f ∧ f ≤ 50) → I' f y = I f y) ∧ ∀ r j, r ≠ lr l → r ≠ lr l + 1 → r ≠ lr l + 2 → r ≠ 249 + 4 * x → r ≠ 250 + 4 * x → A' r j = A r j
theorem ow_sh : ∀ x, x < 2 → ow (249 + 4 * x) = (3, 249 + 4 * x, 0) ∧ ow (250 + 4 * x) = (3, 250 + 4 * x, 0) := by decide
theorem lr_sh {l x a : Nat} (hl : l < 74) (ha : a < 3) (hx : x < 2) : lr l + a ≠ 249 + 4 * x ∧ lr l + a ≠ 250 + 4 * x := by
  have h := ow_l l hl a ha
  have h2 := ow_sh x hx
  constructor <;> (intro e; rw [e] at h; simp [h2.1, h2.2] at h)
/-- a lot stays when only other rows and other objects change -/
theorem LotAt.same {I A I' A' : M2} {l : Nat} {w : Lt} (h : LotAt I A l w) (e : ∀ f, 43 ≤ f → f ≤ 50 → I' f l = I f l) (r : ∀ a, a < 3 → ∀ j, A' (lr l + a) j = A (lr l + a) j) : LotAt I' A' l w := by
  obtain ⟨h0, h1, h2, h3, h4, h5, h6, h7, h8, h9⟩ := h
  refine ⟨by rw [e _ (by omega) (by omega)]; exact h0, by rw [e _ (by omega) (by omega)]; exact h1, by rw [e _ (by omega) (by omega)]; exact h2, by rw [e _ (by omega) (by omega)]; exact h3, by rw [e _ (by omega) (by omega)]; exact h4, by rw [e _ (by omega) (by omega)]; exact h5, fun t ht => by rw [r 2 (by omega)]; exact h6 t ht, by rw [e _ (by omega) (by omega)]; exact h7, by rw [e _ (by omega) (by omega)]; exact h8, fun j hj => ?_⟩
  have r0 := r 0 (by omega) j
  rw [Nat.add_zero] at r0
  rw [r0, r 1 (by omega)]
  exact h9 j hj
theorem LotAt.frT {I A I' A' : M2} {l l' x : Nat} {w : Lt} (h : LotAt I A l w) (k : FrT x l' I A I' A') (hl : l < 74) (hl' : l' < 74) (hx : x < 2) (hn : l ≠ l') : LotAt I' A' l w :=
  h.same (fun f _ _ => k.1 f l (fun z => hn z.1)) (fun a ha j => k.2 _ j (lr_ne (a' := 0) hl hl' ha (by omega) (by omega)) (lr_ne (a' := 1) hl hl' ha (by omega) (by omega)) (lr_ne (a' := 2) hl hl' ha (by omega) (by omega)) (lr_sh hl ha hx).1 (lr_sh hl ha hx).2)
theorem shr_r {n : Int} {W : Nat → Int} {m : Nat} (hn : 0 ≤ n) (hW : ∀ j, j < m → 0 ≤ W j) (hS : 0 < sumU W m) {j : Nat} (hj : j < m) : 0 ≤ shr n W m j ∧ shr n W m j ≤ n + 1 := by
  have f0 := fS_r hn hS j (hW j hj)
  have s1 := fS_sum hn hW hS (j + 1) (by omega)
  have s0 := fS_sum hn hW hS j (by omega)
  rw [sumU] at s1
  unfold shr b01
  split <;> omega
theorem okL.gv {w : Lt} (h : okL w) {j : Nat} (hj : j < w.2.length) : 0 ≤ gk w.2 j ∧ gk w.2 j < 5120 ∧ 1 ≤ gv w.2 j := by
  have := h.2.2.2.2.2.2.2.1 (w.2[j]) (List.getElem_mem hj)
  unfold okG at this
  simp only [gk, _root_.Jvm.Pilot.CVineyardBlendsLaw_law_r4053_0bf1be.gv, List.getD_eq_getElem?_getD, List.getElem?_eq_getElem hj, Option.getD_some]
  exact this
theorem gv_le {g : Gr} (h : ∀ j, j < g.length → 0 ≤ gv g j) {j : Nat} (hj : j < g.length) : gv g j ≤ gsum g := by
  have h1 := gsum_take h j
  have h2 := gsum_take h (j + 1)
  rw [take_s hj, gsum_app] at h2
  simp only [gsum] at h2
  omega
section
variable (q : Nat × (Nat → Int)) {I A : M2} {L P : Nat → Nat → Option Nat} {F G : Nat → Nat → UInt32} {D : MD} {l x : Nat} {w : Lt}
/-- Lot.take -/
theorem c_take (hx : x < 2) (hl : l < 74) (h : LotAt I A l w) (hg : w.2.length ≤ 200) (hv : ∀ j, j < w.2.length → 0 ≤ gv w.2 j) (hs : 0 < gsum w.2 ∧ gsum w.2 ≤ 10000) {n : Int} (hn : 0 ≤ n ∧ n ≤ 10000) :
    ∃ I' A', rs 206 0 [vR 2 l, vI n, vR 7 x] [] (SX q, (I, A, L, P, F, G), D) = some (vU, (SX q, (I', A', L, P, F, G), D)) ∧ LotAt I' A' l (w.1, takeG w.2 n) ∧ FrT x l I A I' A' := by
  have hlen := len_l l hl
  have hsh := len_sh x hx
  have h44 : I 44 l = w.2.length := h.2.2.2.2.2.2.2.1
  have hS : 0 < sumU (gv w.2) w.2.length := by rw [← gsum_sumU]; exact hs.1
  have nl := fun a (ha : a < 3) => lr_sh (a := a) hl ha hx
  obtain ⟨A1, e1, s1, s2⟩ := c_spread q (I := I) (A := A) (L := L) (P := P) (F := F) (G := G) (D := D) (x := x) hx hg hn (r := lr l + 1) (nl 1 (by omega)) (by omega) (W := gv w.2) (fun j hj => ⟨(h.2.2.2.2.2.2.2.2.2 j hj).2, hv j hj, Int.le_trans (gv_le hv hj) hs.2⟩) hS
  have h1 : LotAt I A1 l w := h.same (fun _ _ _ => rfl) (fun a ha j => s2 _ j (nl a ha).1 (nl a ha).2)
  have n0 := nl 0 (by omega)
  have n1 := nl 1 (by omega)
  have n2 := nl 2 (by omega)
  obtain ⟨I2, A2, e2, k1, k2⟩ := c_lose q (I := I) (A := A1) (L := L) (P := P) (F := F) (G := G) (D := D) hl h1 hg (r := 249 + 4 * x) ⟨by omega, by omega, by omega⟩ hsh.1 (p := shr n (gv w.2) w.2.length) (fun j hj => by
    have := shr_r hn.1 hv hS hj
    have := gv_le hv hj
    exact ⟨s1 j hj, by omega, by omega, hv j hj, by omega⟩) (by omega)
  refine ⟨I2, A2, ?_, k1, k2.1, fun r j a b c d e => (k2.2 r j a b c).trans (s2 r j d e)⟩
  simp only [s206_0, s206_1, s206_2, s206_3, s206_6, s206_7, s206_10, s206_13, s206_14, s206_15, s206_18, s206_21, unJ_I, unJ_J, unJ_F, unJ_R, unJ_N, unJ_U, pushR_I, pushR_J, pushR_F, pushR_R, pushR_N, pushR_U, rfV_s, rfV_n, Option.bind_some, true_or, or_true, if_true, h44, e1, e2]
end
