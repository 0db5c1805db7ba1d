/-! A LOT LOSES -/
def loseG : Gr → (Nat → Int) → Gr
  | [], _ => []
  | x :: r, p => if 0 < x.2 - p 0 then (x.1, x.2 - p 0) :: loseG r (fun j => p (j + 1)) else loseG r (fun j => p (j + 1))
theorem gsum_app (a b : Gr) : gsum (a ++ b) = gsum a + gsum b := by
  induction a with
  | nil => simp [gsum]
  | cons x r ih => simp only [List.cons_append, gsum, ih]; omega
theorem lose_app (a : Gr) : ∀ (b : Gr) (p : Nat → Int), loseG (a ++ b) p = loseG a p ++ loseG b (fun j => p (a.length + j)) := by
  induction a with
  | nil => intro b p; simp [loseG]
  | cons x r ih =>
    intro b p
    simp only [List.cons_append, loseG, ih, List.length_cons]
    have e : (fun j => p (r.length + j + 1)) = fun j => p (r.length + 1 + j) := by funext j; congr 1; omega
    split
    · simp only [List.cons_append, e]
    · simp only [e]
theorem take_s {g : Gr} : ∀ {i : Nat}, i < g.length → g.take (i + 1) = g.take i ++ [(gk g i, gv g i)] := by
  induction g with
  | nil => intro i h; exact absurd h (Nat.not_lt_zero _)
  | cons x r ih =>
    intro i h
    cases i with
    | zero => rfl
    | succ i => rw [List.take_succ_cons, List.take_succ_cons, ih (by simpa using h), gkS, gvS]; rfl
theorem lose_take {g : Gr} {i : Nat} (h : i < g.length) (p : Nat → Int) : loseG (g.take (i + 1)) p = loseG (g.take i) p ++ (if 0 < gv g i - p i then [(gk g i, gv g i - p i)] else []) := by
  rw [take_s h, lose_app]
  congr 1
  have : (g.take i).length = i := by simp; omega
  simp [loseG, this]
theorem lose_len (g : Gr) : ∀ p, (loseG g p).length ≤ g.length := by
  induction g with
  | nil => intro p; simp [loseG]
  | cons x r ih =>
    intro p
    unfold loseG
    have := ih (fun j => p (j + 1))
    split <;> simp <;> omega
theorem lose_sum (g : Gr) : ∀ p : Nat → Int, (∀ j, j < g.length → 0 ≤ p j ∧ 0 ≤ gv g j) → 0 ≤ gsum (loseG g p) ∧ gsum (loseG g p) ≤ gsum g := by
  induction g with
  | nil => intro p _; simp [loseG, gsum]
  | cons x r ih =>
    intro p h
    have h0 := h 0 (by simp)
    have hr := ih (fun j => p (j + 1)) (fun j hj => by have := h (j + 1) (by simpa using hj); rw [gvS] at this; exact this)
    rw [gvZ] at h0
    unfold loseG
    split <;> simp only [gsum] <;> omega
theorem gsum_take {g : Gr} (h : ∀ j, j < g.length → 0 ≤ gv g j) (i : Nat) : 0 ≤ gsum (g.take i) ∧ gsum (g.take i) ≤ gsum g := by
  induction g generalizing i with
  | nil => simp [gsum]
  | cons x r ih =>
    have h0 := h 0 (by simp)
    rw [gvZ] at h0
    have hh : ∀ j, j < r.length → 0 ≤ gv r j := fun j hj => by have := h (j + 1) (by simpa using hj); rw [gvS] at this; exact this
    cases i with
    | zero =>
      have := ih hh r.length
      rw [List.take_length] at this
      simp only [List.take_zero, gsum]; omega
    | succ i =>
      have := ih hh i
      simp only [List.take_succ_cons, gsum]; omega
theorem gk_app {a b : Gr} {j : Nat} (h : j < a.length) : gk (a ++ b) j = gk a j ∧ gv (a ++ b) j = gv a j := by
  simp [gk, gv, List.getD_eq_getElem?_getD, List.getElem?_append_left h]
theorem gk_app1 (a : Gr) (x : Int × Int) : gk (a ++ [x]) a.length = x.1 ∧ gv (a ++ [x]) a.length = x.2 := by
  simp [gk, gv, List.getD_eq_getElem?_getD]
theorem gv_take {g : Gr} {i j : Nat} (h : j < i) : gv (g.take i) j = gv g j := by
  simp [gv, List.getD_eq_getElem?_getD, List.getElem?_take, h]
/-- only the grains of lot l are fewer -/
def FrG (l : Nat) (I A I' A' : M2) : Prop := (∀ f x, ¬ ((f = 44 ∨ f = 45) ∧ x = l) → I' f x = I f x) ∧ I' 44 l ≤ I 44 l ∧ ∀ r j, ¬ ((r = lr l ∨ r = lr l + 1) ∧ I 51 l ≤ ((j : Nat) : Int) ∧ ((j : Nat) : Int) < I 51 l + I 44 l) → A' r j = A r j
section
variable (q : Nat × (Nat → Int)) {I A : M2} {L P : Nat → Nat → Option Nat} {F G : Nat → Nat → UInt32} {D : MD} {l : Nat} {w : Lt}
theorem c_lose (hl : l < 74) (h : LotAt I A l w) (hg : w.2.length ≤ 200) {r : Nat} (hr : r ≠ lr l ∧ r ≠ lr l + 1) (hr2 : rowLen r = 200) {p : Nat → Int} (hp : ∀ j, j < w.2.length → A r j = p j ∧ 0 ≤ p j ∧ p j ≤ 10000000 ∧ 0 ≤ gv w.2 j ∧ gv w.2 j ≤ 10000000) (hs : gsum w.2 ≤ 10000000) :
    ∃ I' A', rs 208 0 [vR 2 l, vR 4 r, vU, vU, vU] [] (SX q, (I, A, L, P, F, G), D) = some (vU, (SX q, (I', A', L, P, F, G), D)) ∧ LotAt I' A' l (w.1, loseG w.2 p) ∧ FrG l I A I' A' := by
  obtain ⟨h0, h1, h2, h3, h4, h5, h6, h7, h8, hb, h9⟩ := h
  obtain ⟨f, hf⟩ : ∃ f : Nat, I 51 l = f := ⟨(I 51 l).toNat, by omega⟩
  rw [hf] at hb h9
  rw [Int.toNat_natCast] at h9
  have hlen := len_l l hl
  have nsr := sr_lr hl hl
  have hgs := fun i => gsum_take (g := w.2) (fun j hj => (hp j hj).2.2.2.1) i
  have hls := fun i => lose_sum (w.2.take i) p (fun j hj => by
    have : j < i ∧ j < w.2.length := by have := hj; rw [List.length_take] at this; omega
    rw [gv_take this.1]
    exact ⟨(hp j this.2).2.1, (hp j this.2).2.2.2.1⟩)
  have hll : ∀ i, i ≤ w.2.length → (loseG (w.2.take i) p).length ≤ i := fun i hi => by
    have := lose_len (w.2.take i) p
    simp at this
    omega
  obtain ⟨ls', μ', e, I', A', rfl, rfl, k1, k2, k3, k4⟩ := rs_loopP (m := 208) (pc := 9) (ls := [vR 2 l, vR 4 r, vI 0, vI 0, vU]) (μ := (SX q, (up2 I 45 l 0, A, L, P, F, G), D)) (fun i ls μ => ∃ I' A', μ = (SX q, (I', A', L, P, F, G), D) ∧ ls = [vR 2 l, vR 4 r, vI ((loseG (w.2.take i) p).length : Int), vI (i : Int), vU] ∧
      (∀ f x, ¬ (f = 45 ∧ x = l) → I' f x = I f x) ∧ I' 45 l = gsum (loseG (w.2.take i) p) ∧ (∀ j, j < (loseG (w.2.take i) p).length → A' (lr l) (f + j) = gk (loseG (w.2.take i) p) j ∧ A' (lr l + 1) (f + j) = gv (loseG (w.2.take i) p) j) ∧ ∀ r' j, (f + i ≤ j ∨ j < f ∨ (r' ≠ lr l ∧ r' ≠ lr l + 1)) → A' r' j = A r' j) w.2.length
    ⟨_, _, rfl, rfl, fun f x z => up2_ne z, up2_eq, fun j hj => absurd hj (by simp [loseG]), fun _ _ _ => rfl⟩ (fun i hi ls μ ⟨I', A', e1, e2, k1, k2, k3, k4⟩ => by
      subst e1 e2
      have n44 : I' 44 l = w.2.length := (k1 _ _ (by omega)).trans h7
      have n51 : I' 51 l = f := (k1 _ _ (by omega)).trans hf
      have ra : A' (lr l + 1) (f + i) = gv w.2 i := (k4 _ _ (Or.inl (Nat.le_refl _))).trans (h9 i hi).2
      have rk : A' (lr l) (f + i) = gk w.2 i := (k4 _ _ (Or.inl (Nat.le_refl _))).trans (h9 i hi).1
      have rp : A' r i = p i := (k4 _ _ (by omega)).trans (hp i hi).1
      obtain ⟨-, b1, b2, b3, b4⟩ := hp i hi
      have g1 := hgs i
      have g2 := hls i
      have g3 := hll i (by omega)
      have g4 := hgs (i + 1)
      have g5 := hls (i + 1)
      have st := lose_take hi p
      have wi : Unit → w32 ((f : Int) + (i : Int)) = ((f + i : Nat) : Int) := fun _ => by rw [w32_id (by omega) (by omega)]; omega
      have wk : Unit → w32 ((f : Int) + (((loseG (w.2.take i) p).length : Nat) : Int)) = ((f + (loseG (w.2.take i) p).length : Nat) : Int) := fun _ => by rw [w32_id (by omega) (by omega)]; omega
      have ei : Unit → w32 ((i : Int) + 1) = ((i + 1 : Nat) : Int) := fun _ => by rw [w32_id (by omega) (by omega)]; omega
      rw [s208_9]
      simp only [s208_10, s208_11, s208_14, s208_17, s208_18, s208_19, s208_22, s208_23, s208_24, s208_27, s208_28, unJ_I, unJ_J, unJ_F, unJ_R, unJ_N, unJ_U, pushR_I, pushR_J, pushR_F, pushR_R, pushR_N, pushR_U, rfV_s, rfV_n, Option.bind_some, true_or, or_true, if_true, c_get, c_amountR, n44, n51, wi ()]
      rw [if_neg (by omega), rget_n A' (by omega), rget_n A' (by omega), ra, rp, w32_id (x := gv w.2 i - p i) (by omega) (by omega)]
      simp only [s208_30, s208_32, unJ_I, unJ_J, unJ_F, unJ_R, unJ_N, unJ_U, pushR_I, pushR_J, pushR_F, pushR_R, pushR_N, pushR_U, rfV_s, rfV_n, Option.bind_some, true_or, or_true, if_true]
      rw [st] at g5 ⊢
      by_cases hz : 0 < gv w.2 i - p i
      · rw [if_pos hz] at g5 ⊢
        rw [if_neg (by omega)]
        rw [gsum_app] at g5
        simp only [gsum] at g5
        simp only [s208_35, s208_36, s208_39, s208_40, s208_43, s208_44, s208_45, s208_46, s208_47, s208_50, s208_53, s208_54, s208_57, s208_58, s208_61, s208_62, s208_63, s208_65, s208_68, s208_69, s208_69r, s208_70, s208_73, s208_75, s208_76, s208_79, s208_82, s208_85, unJ_I, unJ_J, unJ_F, unJ_R, unJ_N, unJ_U, pushR_I, pushR_J, pushR_F, pushR_R, pushR_N, pushR_U, rfV_s, rfV_n, Option.bind_some, true_or, or_true, if_true, c_keyR, c_put, k2, n51, wi (), wk (), ei ()]
        rw [rget_n _ (by omega), rk, rput_n _ _ (by omega), rput_n _ _ (by omega), w32_id (x := gsum _ + _) (by omega) (by omega), w32_id (x := (((loseG (w.2.take i) p).length : Nat) : Int) + 1) (by omega) (by omega)]
        refine ⟨_, _, rfl, _, _, rfl, ?_, fun f x z => ?_, ?_, fun j hj => ?_, fun r' j z => ?_⟩
        · simp
        · exact (up2_ne z).trans (k1 f x z)
        · rw [gsum_app]; simp [gsum, up2]
        · simp at hj
          by_cases e : j = (loseG (w.2.take i) p).length
          · subst e
            rw [(gk_app1 _ _).1, (gk_app1 _ _).2]
            exact ⟨(up2_ne (by omega)).trans up2_eq, up2_eq⟩
          · rw [(gk_app (by omega)).1, (gk_app (by omega)).2]
            have := k3 j (by omega)
            exact ⟨((up2_ne (by omega)).trans (up2_ne (by omega))).trans this.1, ((up2_ne (by omega)).trans (up2_ne (by omega))).trans this.2⟩
        · exact ((up2_ne (by omega)).trans (up2_ne (by omega))).trans (k4 r' j (by omega))
      · rw [if_neg hz] at g5 ⊢
        rw [if_pos (by omega)]
        simp only [s208_82, s208_85, unJ_I, unJ_J, unJ_F, unJ_R, unJ_N, unJ_U, pushR_I, pushR_J, pushR_F, pushR_R, pushR_N, pushR_U, rfV_s, rfV_n, Option.bind_some, true_or, or_true, if_true, ei ()]
        simp only [List.append_nil]
        exact ⟨_, _, rfl, _, _, rfl, rfl, k1, k2, k3, fun r' j z => k4 r' j (by omega)⟩)
  rw [List.take_length] at e k2 k3
  have n44 : I' 44 l = w.2.length := (k1 _ _ (by omega)).trans h7
  have n51 : I' 51 l = f := (k1 _ _ (by omega)).trans hf
  have g3 := lose_len w.2 p
  refine ⟨up2 I' 44 l ((loseG w.2 p).length : Int), A', ?_, ⟨?_, ?_, ?_, ?_, ?_, ?_, fun t ht => ?_, ?_, ?_, ?_, fun j hj => ?_⟩, fun f x z => ?_, ?_, fun r' j z => ?_⟩
  · simp only [s208_0, s208_1, s208_2, s208_3, s208_4, s208_7, s208_8, unJ_I, unJ_J, unJ_F, unJ_R, unJ_N, unJ_U, pushR_I, pushR_J, pushR_F, pushR_R, pushR_N, pushR_U, rfV_s, rfV_n, Option.bind_some, true_or, or_true, if_true]
    refine e.trans ?_
    rw [s208_9]
    simp only [s208_10, s208_11, s208_14, s208_88, s208_89, s208_90, s208_93, unJ_I, unJ_J, unJ_F, unJ_R, unJ_N, unJ_U, pushR_I, pushR_J, pushR_F, pushR_R, pushR_N, pushR_U, rfV_s, rfV_n, Option.bind_some, true_or, or_true, if_true, n44]
    rw [if_pos (by omega)]
  · exact (up2_ne (by omega)).trans ((k1 _ _ (by omega)).trans h0)
  · exact (up2_ne (by omega)).trans ((k1 _ _ (by omega)).trans h1)
  · exact (up2_ne (by omega)).trans ((k1 _ _ (by omega)).trans h2)
  · exact (up2_ne (by omega)).trans ((k1 _ _ (by omega)).trans h3)
  · exact (up2_ne (by omega)).trans ((k1 _ _ (by omega)).trans h4)
  · exact (up2_ne (by omega)).trans ((k1 _ _ (by omega)).trans h5)
  · exact (k4 _ _ (by omega)).trans (h6 t ht)
  · exact up2_eq
  · exact (up2_ne (by omega)).trans k2
  · rw [up2_ne (by omega), n51]
    show _ ∧ (f : Int) + ((loseG w.2 p).length : Int) ≤ _
    omega
  · rw [up2_ne (by omega), n51, Int.toNat_natCast]
    exact k3 j hj
  · exact (up2_ne (by omega)).trans (k1 f x (by omega))
  · rw [up2_eq, h7]; omega
  · rw [hf, h7] at z
    exact k4 r' j (by omega)
end
