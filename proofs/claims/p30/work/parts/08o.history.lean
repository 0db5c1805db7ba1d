/-! THE HISTORY -/
def s0 : St := ([], [], (fun _ => 0), (fun _ => 0), 0)
def HistAt (I A : M2) (P : Nat → Nat → Option Nat) (S : Nat → Nat → Nat) (hs : List St) (ph : Nat → Nat) : Prop :=
  I 21 0 = hs.length ∧ hs.length ≤ 4 ∧ (∀ i, i < 4 → P 0 i = some (ph i) ∧ 1 ≤ ph i ∧ ph i ≤ 4) ∧ (∀ i j, i < 4 → j < 4 → ph i = ph j → i = j) ∧ ∀ i, i < hs.length → CelAt I A (ph i) (S (ph i)) (hs.getD i s0)
def recH (hs : List St) (σ : St) : List St := (if hs.length = 4 then hs.drop 1 else hs) ++ [σ]
/-- only the history and its cellars have changed -/
def FrH (I A I' A' : M2) : Prop := (∀ f x, ¬ (f = 21 ∧ x = 0) → (∀ c, 1 ≤ c → c ≤ 4 → ¬ inI c f x) → I' f x = I f x) ∧ ∀ r j, ¬ (19 ≤ r ∧ r < 95) → A' r j = A r j
theorem FrC.toH {c : Nat} {I A I' A' : M2} (h : FrC c I A I' A') (h1 : 1 ≤ c) (h2 : c ≤ 4) : FrH I A I' A' := ⟨fun f x _ z => h.1 f x (z c h1 h2), fun r j z => h.2 r j (by unfold inR; omega)⟩
theorem FrH.tr {I A I1 A1 I2 A2 : M2} (h : FrH I A I1 A1) (k : FrH I1 A1 I2 A2) : FrH I A I2 A2 :=
  ⟨fun f x y z => (k.1 f x y z).trans (h.1 f x y z), fun r j a => (k.2 r j a).trans (h.2 r j a)⟩
theorem FrH.rf (I A : M2) : FrH I A I A := ⟨fun _ _ _ _ => rfl, fun _ _ _ => rfl⟩
theorem FrH.n21 {I A : M2} (v : Int) : FrH I A (up2 I 21 0 v) A := ⟨fun _ _ z _ => up2_ne z, fun _ _ _ => rfl⟩
/-- cellars beside the history's stay -/
theorem CelAt.frH {c : Nat} {I A I' A' : M2} {sl : Nat → Nat} {σ : St} (h : CelAt I A c sl σ) (k : FrH I A I' A') (hc : c = 0 ∨ c = 5) (hsl : ∀ i, i < 12 → 12 * c ≤ sl i ∧ sl i < 12 * c + 12) : CelAt I' A' c sl σ :=
  h.keep (by omega) hsl (fun f x z => k.1 f x (by unfold inI at z; omega) (fun d _ _ => by unfold inI at *; omega)) (fun r j z => k.2 r j (by unfold inR at z; omega))
theorem CelAt.n21 {c : Nat} {I A : M2} {sl : Nat → Nat} {σ : St} (h : CelAt I A c sl σ) (v : Int) : CelAt (up2 I 21 0 v) A c sl σ := by
  obtain ⟨h1, h2, h3, h4, ⟨h5, h6, h7⟩, h8, h9, ha⟩ := h
  exact ⟨(up2_ne (by omega)).trans h1, h2, (up2_ne (by omega)).trans h3, fun i hi => (h4 i hi).same (fun f a b => up2_ne (by omega)) (fun _ _ _ => rfl), ⟨(up2_ne (by omega)).trans h5, h6, h7⟩, h8, h9, ha.same (fun i hi => ⟨up2_ne (by omega), by rw [up2_ne (by omega)]; exact Int.le_refl _⟩)⟩
section
variable (q : Nat × (Nat → Int)) {I A : M2} {L P : Nat → Nat → Option Nat} {F G : Nat → Nat → UInt32} {D : MD} {σ : St} {S : Nat → Nat → Nat} {hs : List St} {ph : Nat → Nat}
theorem drop_step {i a b : Nat} (hi : i + 1 < 4) (ha : P 0 (i + 1) = some a) (hb : P 0 i = some b) : rs 103 2 [vR 1 0, vI ((i + 1 : Nat) : Int), vU] [] (SX q, (I, A, L, P, F, G), D) = rs 103 2 [vR 1 0, vI ((i + 2 : Nat) : Int), vU] [] (SX q, (I, A, L, up2 (up2 P 0 (i + 1) (some b)) 0 i (some a), F, G), D) := by
  have e1 : Unit → w32 (((i + 1 : Nat) : Int) - 1) = (i : Int) := fun _ => by rw [w32_id (by omega) (by omega)]; omega
  have e2 : Unit → w32 (((i + 1 : Nat) : Int) + 1) = ((i + 2 : Nat) : Int) := fun _ => by rw [w32_id (by omega) (by omega)]; omega
  rw [s103_2]
  simp only [s103_3, s103_4, s103_7, s103_8, s103_11, s103_12, s103_15, s103_16, s103_17, s103_17n, s103_18, s103_19, s103_22, s103_23, s103_24, s103_27, s103_28, s103_29, s103_30, s103_31, s103_32, s103_33, s103_36, s103_37, s103_38, s103_39, s103_39n, s103_40, s103_41, s103_44, unJ_I, unJ_J, unJ_F, unJ_R, unJ_N, unJ_U, pushR_I, pushR_J, pushR_F, pushR_R, pushR_N, pushR_U, rfV_s, rfV_n, Option.bind_some, true_or, or_true, if_true, lx16, e1 (), e2 (), Int.toNat_natCast]
  rw [if_pos (by omega), if_neg (by omega), if_pos (by omega), ha]
  simp only [s103_3, s103_4, s103_7, s103_8, s103_11, s103_12, s103_15, s103_16, s103_17, s103_17n, s103_18, s103_19, s103_22, s103_23, s103_24, s103_27, s103_28, s103_29, s103_30, s103_31, s103_32, s103_33, s103_36, s103_37, s103_38, s103_39, s103_39n, s103_40, s103_41, s103_44, unJ_I, unJ_J, unJ_F, unJ_R, unJ_N, unJ_U, pushR_I, pushR_J, pushR_F, pushR_R, pushR_N, pushR_U, rfV_s, rfV_n, Option.bind_some, true_or, or_true, if_true, lx16, e1 (), e2 (), Int.toNat_natCast]
  rw [if_pos (by omega), hb]
  simp only [s103_3, s103_4, s103_7, s103_8, s103_11, s103_12, s103_15, s103_16, s103_17, s103_17n, s103_18, s103_19, s103_22, s103_23, s103_24, s103_27, s103_28, s103_29, s103_30, s103_31, s103_32, s103_33, s103_36, s103_37, s103_38, s103_39, s103_39n, s103_40, s103_41, s103_44, unJ_I, unJ_J, unJ_F, unJ_R, unJ_N, unJ_U, pushR_I, pushR_J, pushR_F, pushR_R, pushR_N, pushR_U, rfV_s, rfV_n, Option.bind_some, true_or, or_true, if_true, lx16, e1 (), e2 (), Int.toNat_natCast]
  rw [if_pos (by omega), if_pos (by omega)]
theorem c_dropOldest (hP : ∀ i, i < 4 → P 0 i = some (ph i)) {n : Nat} (hn : I 21 0 = ((n + 1 : Nat) : Int)) (hn4 : n < 4) : ∃ P', rs 103 0 [vR 1 0, vU, vU] [] (SX q, (I, A, L, P, F, G), D) = some (vU, (SX q, (up2 I 21 0 n, A, L, P', F, G), D)) ∧ (∀ i, i < 3 → P' 0 i = some (ph (i + 1))) ∧ P' 0 3 = some (ph 0) := by
  have p0 := hP 0 (by omega)
  have p1 := hP 1 (by omega)
  have p2 := hP 2 (by omega)
  have p3 := hP 3 (by omega)
  generalize hP1 : up2 (up2 P 0 1 (some (ph 0))) 0 0 (some (ph 1)) = P1
  have a1 : P1 0 0 = some (ph 1) ∧ P1 0 1 = some (ph 0) ∧ P1 0 2 = some (ph 2) ∧ P1 0 3 = some (ph 3) := by subst hP1; simp [up2, p2, p3]
  generalize hP2 : up2 (up2 P1 0 2 (some (ph 0))) 0 1 (some (ph 2)) = P2
  have a2 : P2 0 0 = some (ph 1) ∧ P2 0 1 = some (ph 2) ∧ P2 0 2 = some (ph 0) ∧ P2 0 3 = some (ph 3) := by subst hP2; simp [up2, a1]
  generalize hP3 : up2 (up2 P2 0 3 (some (ph 0))) 0 2 (some (ph 3)) = P3
  have a3 : P3 0 0 = some (ph 1) ∧ P3 0 1 = some (ph 2) ∧ P3 0 2 = some (ph 3) ∧ P3 0 3 = some (ph 0) := by subst hP3; simp [up2, a2]
  have t1 := drop_step q (I := I) (A := A) (L := L) (P := P) (F := F) (G := G) (D := D) (i := 0) (by omega) p1 p0
  have t2 := drop_step q (I := I) (A := A) (L := L) (P := P1) (F := F) (G := G) (D := D) (i := 1) (by omega) a1.2.2.1 a1.2.1
  have t3 := drop_step q (I := I) (A := A) (L := L) (P := P2) (F := F) (G := G) (D := D) (i := 2) (by omega) a2.2.2.2 a2.2.2.1
  rw [hP1] at t1
  rw [hP2] at t2
  rw [hP3] at t3
  refine ⟨P3, ?_, fun i hi => ?_, a3.2.2.2⟩
  · simp only [s103_0, s103_1, unJ_I, unJ_J, unJ_F, unJ_R, unJ_N, unJ_U, pushR_I, pushR_J, pushR_F, pushR_R, pushR_N, pushR_U, rfV_s, rfV_n, Option.bind_some, true_or, or_true, if_true]
    refine t1.trans (t2.trans (t3.trans ?_))
    rw [s103_2]
    simp only [s103_3, s103_4, s103_7, s103_8, s103_47, s103_48, s103_48r, s103_49, s103_52, s103_53, s103_54, s103_57, unJ_I, unJ_J, unJ_F, unJ_R, unJ_N, unJ_U, pushR_I, pushR_J, pushR_F, pushR_R, pushR_N, pushR_U, rfV_s, rfV_n, Option.bind_some, true_or, or_true, if_true, lx16, hn]
    rw [if_pos (by omega), if_pos (by omega), w32_id (by omega) (by omega)]
    congr 7
    omega
  · match i, hi with
    | 0, _ => exact a3.1
    | 1, _ => exact a3.2.1
    | 2, _ => exact a3.2.2.1
end
