/-! A CELLAR: a lot is admitted, empty lots go, a month goes by -/
theorem LotAt.set4 {I A : M2} {l : Nat} {w : Lt} (h : LotAt I A l w) (v : Int) : LotAt (up2 I 46 l v) A l (sup w.1 4 v, w.2) := by
  obtain ⟨h0, h1, h2, h3, h4, h5, h6, h7, h8, h9⟩ := h
  refine ⟨by simp [up2, sup, h0], by simp [up2, sup, h1], by simp [up2, sup, h2], by simp [up2, sup, h3], by simp [up2, sup, h4], by simp [up2, sup, h5], fun t ht => ?_, by simp [up2, h7], by simp [up2, h8], ?_⟩
  · show _ = if 6 + t = 4 then v else w.1 (6 + t)
    rw [if_neg (by omega)]
    exact h6 t ht
  · rw [show up2 I 46 l v 51 l = I 51 l from up2_ne (by omega)]
    exact h9
theorem LotAt.set0 {I A : M2} {l : Nat} {w : Lt} (h : LotAt I A l w) (v : Int) : LotAt (up2 I 43 l v) A l (sup w.1 0 v, w.2) := by
  obtain ⟨h0, h1, h2, h3, h4, h5, h6, h7, h8, h9⟩ := h
  refine ⟨by simp [up2, sup, h0], by simp [up2, sup, h1], by simp [up2, sup, h2], by simp [up2, sup, h3], by simp [up2, sup, h4], by simp [up2, sup, h5], fun t ht => ?_, by simp [up2, h7], by simp [up2, h8], ?_⟩
  · show _ = if 6 + t = 0 then v else w.1 (6 + t)
    rw [if_neg (by omega)]
    exact h6 t ht
  · rw [show up2 I 43 l v 51 l = I 51 l from up2_ne (by omega)]
    exact h9
theorem FrL.of2 {l f : Nat} {I A : M2} (v : Int) (h : 43 ≤ f ∧ f ≤ 51) : FrL l I A (up2 I f l v) A := ⟨fun g x z => up2_ne (fun k => z ⟨k.2, by omega, by omega⟩), fun _ _ _ _ _ => rfl⟩
theorem lt_snoc (ls : List Lt) (w : Lt) (i : Nat) : lt (ls ++ [w]) i = if i < ls.length then lt ls i else if i = ls.length then w else lz := by
  unfold lt
  rw [List.getD_eq_getElem?_getD, List.getD_eq_getElem?_getD]
  by_cases h : i < ls.length
  · rw [if_pos h, List.getElem?_append_left h]
  · rw [if_neg h, List.getElem?_append_right (by omega)]
    by_cases e : i = ls.length
    · rw [if_pos e, e, Nat.sub_self]; rfl
    · rw [if_neg e, List.getElem?_eq_none (by simp; omega)]; rfl
/-- the grains of a cellar's lots up to a place -/
def upG2 (ls : List Lt) (i : Nat) : Int := sumU (fun i => ((lt ls i).2.length : Int)) i
section
variable (q : Nat × (Nat → Int)) {I A : M2} {L P : Nat → Nat → Option Nat} {F G : Nat → Nat → UInt32} {D : MD} {l c : Nat} {w : Lt} {σ : St} {sl : Nat → Nat}
theorem cat4 (h4 : I 4 c = σ.1.length) (h2 : σ.1.length ≤ 12) (hL : LoS L c sl) {i : Nat} (hi : i < σ.1.length) : rs 3 0 [vR 0 c, vI i] [] (SX q, (I, A, L, P, F, G), D) = some (vR 2 (sl i), (SX q, (I, A, L, P, F, G), D)) := by
  have h3 := (hL.1 i (by omega)).1
  simp only [s3_0, s3_1, s3_4, s3_5, s3_6, s3_9, s3_12, s3_13, s3_14, s3_17, s3_18, s3_21, s3_22, s3_25, s3_26, s3_27, s3_30, s3_31, s3_31n, unJ_I, unJ_J, unJ_F, unJ_R, unJ_N, unJ_U, pushR_I, pushR_J, pushR_F, pushR_R, pushR_N, pushR_U, rfV_s, rfV_n, Option.bind_some, true_or, or_true, if_true, lx15, h4]
  rw [if_neg (by omega), if_neg (by omega), if_pos (by omega), if_neg (by omega), if_pos (by omega), Int.toNat_natCast, h3]
  simp only [s3_27, s3_30, s3_31, s3_31n, unJ_I, unJ_J, unJ_F, unJ_R, unJ_N, unJ_U, pushR_I, pushR_J, pushR_F, pushR_R, pushR_N, pushR_U, rfV_s, rfV_n, Option.bind_some, true_or, or_true, if_true]
/-- Cellar.closeUp: the grains move down, all else stays -/
theorem c_close (hc : c < 6) (hL : LoS L c sl) (h : CelAt I A c sl σ) : ∃ I' A', rs 13 0 [vR 0 c, vU, vU, vU] [] (SX q, (I, A, L, P, F, G), D) = some (vI (upG2 σ.1 σ.1.length), (SX q, (I', A', L, P, F, G), D)) ∧ CelAt I' A' c sl σ ∧ (0 ≤ upG2 σ.1 σ.1.length) ∧ (∀ i, i < σ.1.length → I' 51 (sl i) + I' 44 (sl i) ≤ upG2 σ.1 σ.1.length) ∧
      (∀ f y, ¬ (f = 51 ∧ ∃ i, i < σ.1.length ∧ y = sl i) → I' f y = I f y) ∧ ∀ r j, r ≠ 19 * c + 2 * (c / 5) → r ≠ 19 * c + 2 * (c / 5) + 1 → A' r j = A r j := by
  obtain ⟨h1, h2, h3, h4, h5, h8, h9, ha⟩ := id h
  have hsl : ∀ i, i < 12 → 12 * c ≤ sl i ∧ sl i < 12 * c + 12 := fun i hi => (hL.1 i hi).2
  have lg := len_g c hc
  have lrs : ∀ i, i < σ.1.length → lr (sl i) = 19 * c + 2 * (c / 5) := fun i hi => lr_c hc (hsl i (by omega)).1 (hsl i (by omega)).2
  have e44 : ∀ i, i < σ.1.length → I 44 (sl i) = (lt σ.1 i).2.length := fun i hi => (h4 i hi).2.2.2.2.2.2.2.1
  have hu : ∀ i, upG2 σ.1 (i + 1) = upG2 σ.1 i + ((lt σ.1 i).2.length : Int) := fun i => rfl
  have inj : ∀ i j, i < σ.1.length → j < σ.1.length → sl i = sl j → i = j := fun i j hi hj e => hL.2 i j (by omega) (by omega) e
  -- the place reached is never beyond a lot's first grain
  have low : ∀ i, i < σ.1.length → 0 ≤ upG2 σ.1 i ∧ upG2 σ.1 i ≤ I 51 (sl i) := by
    intro i
    induction i with
    | zero =>
      intro hi
      have := (h4 0 hi).gr.1
      exact ⟨Int.le_refl _, this.1⟩
    | succ i ih =>
      intro hi
      have a := ih (by omega)
      have b := ha i (i + 1) (by omega) hi
      have d := e44 i (by omega)
      rw [hu]
      omega
  obtain ⟨ls', μ', e, I2, A2, rfl, rfl, k1, k2, k3, k4, k5⟩ := rs_loopP (m := 13) (pc := 4) (ls := [vR 0 c, vI 0, vI 0, vU]) (μ := (SX q, (I, A, L, P, F, G), D)) (fun i ls μ => ∃ I' A', μ = (SX q, (I', A', L, P, F, G), D) ∧ ls = [vR 0 c, vI (upG2 σ.1 i), vI (i : Int), vU] ∧
      (∀ j, j < σ.1.length → LotAt I' A' (sl j) (lt σ.1 j)) ∧ (∀ j, j < i → I' 51 (sl j) = upG2 σ.1 j) ∧ (∀ j, i ≤ j → j < σ.1.length → I' 51 (sl j) = I 51 (sl j)) ∧
      (∀ f y, ¬ (f = 51 ∧ ∃ i, i < σ.1.length ∧ y = sl i) → I' f y = I f y) ∧ ∀ r j, r ≠ 19 * c + 2 * (c / 5) → r ≠ 19 * c + 2 * (c / 5) + 1 → A' r j = A r j) σ.1.length
    ⟨_, _, rfl, rfl, h4, fun j hj => absurd hj (Nat.not_lt_zero _), fun _ _ _ => rfl, fun _ _ _ => rfl, fun _ _ _ _ => rfl⟩ (fun i hi ls μ ⟨I', A', e1, e2, k1, k2, k3, k4, k5⟩ => by
      subst e1 e2
      have si := hsl i (by omega)
      have wi := k1 i hi
      have lo := low i hi
      have n44 : I' 44 (sl i) = (lt σ.1 i).2.length := wi.2.2.2.2.2.2.2.1
      have n4 : I' 4 c = σ.1.length := (k4 _ _ (fun z => by omega)).trans h1
      have n51 := k3 i (Nat.le_refl _) hi
      have lri := lrs i hi
      obtain ⟨p, hp⟩ : ∃ p : Nat, upG2 σ.1 i = p := ⟨(upG2 σ.1 i).toNat, by omega⟩
      have gb := wi.gr.1
      rw [lri] at gb
      obtain ⟨A3, e3, q1, q2⟩ := c_lay q (I := I') (A := A') (L := L) (P := P) (F := F) (G := G) (D := D) (l := sl i) (s := sl i) (p := p) (g := (lt σ.1 i).2) (by omega) (by omega) n44 wi.gr (by rw [lri]; omega) (fun _ => by omega)
      rw [lri] at q2
      have ei : Unit → w32 ((i : Int) + 1) = ((i + 1 : Nat) : Int) := fun _ => by rw [w32_id (by omega) (by omega)]; omega
      have eu : Unit → w32 ((p : Int) + ((lt σ.1 i).2.length : Int)) = upG2 σ.1 (i + 1) := fun _ => by rw [hu, hp, w32_id (by omega) (by omega)]
      have u44 : up2 I' 51 (sl i) (p : Int) 44 (sl i) = (lt σ.1 i).2.length := (up2_ne (by omega)).trans n44
      rw [s13_4, hp]
      simp only [s13_5, s13_6, s13_9, s13_12, s13_13, s13_14, s13_17, s13_17n, s13_18, s13_18n, s13_19n, s13_19, s13_22, s13_22n, s13_23, s13_23n, s13_24, s13_25, s13_28, s13_29, s13_29n, s13_30, s13_33, s13_34, s13_35, s13_38, unJ_I, unJ_J, unJ_F, unJ_R, unJ_N, unJ_U, pushR_I, pushR_J, pushR_F, pushR_R, pushR_N, pushR_U, rfV_s, rfV_n, Option.bind_some, true_or, or_true, if_true, cat4 q n4 h2 hL hi, n4, e3, u44, ei (), eu ()]
      rw [if_neg (by omega)]
      refine ⟨_, _, rfl, _, _, rfl, rfl, fun j hj => ?_, fun j hj => ?_, fun j hj hj2 => ?_, fun f y z => ?_, fun r j z1 z2 => (q2 r j (by omega)).trans (k5 r j z1 z2)⟩
      · have sj := hsl j (by omega)
        have lrj := lrs j hj
        have srj := sr_c hc sj.1 sj.2
        by_cases e : j = i
        · subst e
          exact (wi.hd.same (fun f a b => up2_ne (by omega)) (fun y => q2 _ y (by omega))).lot q1
        · have ne : sl j ≠ sl i := fun z => e (inj j i hj hi z)
          have wj := k1 j hj
          have o44 : I' 44 (sl j) = (lt σ.1 j).2.length := wj.2.2.2.2.2.2.2.1
          refine (wj.hd.same (fun f a b => up2_ne (by omega)) (fun y => q2 _ y (by omega))).lot (wj.gr.same (up2_ne (by omega)) (fun y y1 y2 => ?_))
          rw [lrj]
          have far : ¬ (p ≤ y ∧ y < p + (lt σ.1 i).2.length) := by
            rcases Nat.lt_or_ge j i with z | z
            · have a := k2 j z
              have b := hu j
              have mono : upG2 σ.1 (j + 1) ≤ upG2 σ.1 i := by
                have : ∀ d, upG2 σ.1 (j + 1) ≤ upG2 σ.1 (j + 1 + d) := by
                  intro d
                  induction d with
                  | zero => exact Int.le_refl _
                  | succ d ih => have := hu (j + 1 + d); rw [← Nat.add_assoc]; omega
                have := this (i - (j + 1))
                rwa [show j + 1 + (i - (j + 1)) = i by omega] at this
              omega
            · have a := k3 j (by omega) hj
              have b := ha i j (by omega) hj
              have d := e44 i hi
              omega
          exact ⟨q2 _ y (by omega), q2 _ y (by omega)⟩
      · by_cases e : j = i
        · subst e; rw [up2_eq, hp]
        · rw [up2_ne (fun z => e (inj j i (by omega) hi z.2))]
          exact k2 j (by omega)
      · rw [up2_ne (fun z => by have := inj j i hj2 hi z.2; omega)]
        exact k3 j (by omega) hj2
      · rw [up2_ne (fun k => z ⟨k.1, i, hi, k.2⟩)]
        exact k4 f y z)
  have n4 : I2 4 c = σ.1.length := (k4 _ _ (fun z => by omega)).trans h1
  have hu2 : ∀ i, i < σ.1.length → I2 44 (sl i) = (lt σ.1 i).2.length := fun i hi => (k1 i hi).2.2.2.2.2.2.2.1
  have mono : ∀ i d, 0 ≤ upG2 σ.1 i ∧ upG2 σ.1 i ≤ upG2 σ.1 (i + d) := by
    intro i d
    constructor
    · induction i with
      | zero => exact Int.le_refl _
      | succ i ih => rw [hu]; omega
    · induction d with
      | zero => exact Int.le_refl _
      | succ d ih => have := hu (i + d); rw [← Nat.add_assoc]; omega
  have rrc := rr_c hc
  refine ⟨I2, A2, ?_, ⟨n4, h2, (k4 _ _ (fun z => by omega)).trans h3, k1, ⟨(k4 _ _ (fun z => by omega)).trans h5.1, h5.2.1, fun j hj => ?_⟩, fun i hi => (k5 _ _ (by omega) (by omega)).trans (h8 i hi), fun i hi => (k5 _ _ (by omega) (by omega)).trans (h9 i hi), fun i j hij hj => ?_⟩, (mono _ 0).1, fun i hi => ?_, k4, k5⟩
  · simp only [s13_0, s13_1, s13_2, s13_3, unJ_I, unJ_J, unJ_F, unJ_R, unJ_N, unJ_U, pushR_I, pushR_J, pushR_F, pushR_R, pushR_N, pushR_U, rfV_s, rfV_n, Option.bind_some, true_or, or_true, if_true]
    refine e.trans ?_
    rw [s13_4]
    simp only [s13_5, s13_6, s13_9, s13_41, s13_42, unJ_I, unJ_J, unJ_F, unJ_R, unJ_N, unJ_U, pushR_I, pushR_J, pushR_F, pushR_R, pushR_N, pushR_U, rfV_s, rfV_n, Option.bind_some, true_or, or_true, if_true, n4]
    rw [if_pos (by omega)]
  · rw [k5 _ _ (by omega) (by omega), k5 _ _ (by omega) (by omega), k5 _ _ (by omega) (by omega)]
    exact h5.2.2 j hj
  · rw [k2 i (by omega), k2 j hj, hu2 i (by omega), ← hu]
    have := (mono (i + 1) (j - (i + 1))).2
    rwa [show i + 1 + (j - (i + 1)) = j by omega] at this
  · rw [k2 i hi, hu2 i hi, ← hu]
    have := (mono (i + 1) (σ.1.length - (i + 1))).2
    rwa [show i + 1 + (σ.1.length - (i + 1)) = σ.1.length by omega] at this
/-- Cellar admits a lot -/
theorem c_admit (hc : c < 6) (hL : LoS L c sl) (h : CelAt I A c sl σ) (hn : σ.1.length < 12) (hx : 0 ≤ σ.2.2.2.2 ∧ σ.2.2.2.2 < 1000000) (hl : l = 72 ∨ l = 73) (hw : LotAt I A l w) (hG : upG2 σ.1 σ.1.length + w.2.length ≤ 200) (k : Int) :
    ∃ I' A', rs 5 0 [vR 0 c, vR 2 l, vI k, vU] [] (SX q, (I, A, L, P, F, G), D) = some (vI σ.2.2.2.2, (SX q, (I', A', L, P, F, G), D)) ∧ CelAt I' A' c sl (σ.1 ++ [(sup (sup w.1 4 k) 0 σ.2.2.2.2, w.2)], σ.2.1, σ.2.2.1, σ.2.2.2.1, σ.2.2.2.2 + 1) ∧ FrC c I A I' A' := by
  obtain ⟨p1, p2, p3⟩ := hL.1 _ hn
  have hsl : ∀ i, i < 12 → 12 * c ≤ sl i ∧ sl i < 12 * c + 12 := fun i hi => (hL.1 i hi).2
  have ne : ∀ i, i < σ.1.length → sl i ≠ sl σ.1.length := fun i hi e => by have := hL.2 i σ.1.length (by omega) hn e; omega
  have lg := len_g c hc
  have rrc := rr_c hc
  have lrl := rw_l (l := l) (by omega)
  have lr2 : lr l = 116 ∨ lr l = 126 := by rcases hl with rfl | rfl <;> decide
  have sr2 : sr l = 118 ∨ sr l = 128 := by rcases hl with rfl | rfl <;> decide
  -- the lot is copied
  obtain ⟨I1, A1, e1, k1, k51, f1⟩ := c_lcopy q (I := I) (A := A) (L := L) (P := P) (F := F) (G := G) (D := D) (l := sl σ.1.length) (s := l) (by omega) (by omega) (by omega) hw
  have hs : ∀ i, i < σ.1.length → 12 * c ≤ sl i ∧ sl i < 12 * c + 12 := fun i hi => hsl i (by omega)
  have srn := sr_c hc p2 p3
  have lrn := lr_c hc p2 p3
  generalize hsn : sl σ.1.length = s at p1 p2 p3 e1 k1 k51 f1 ne srn lrn
  have C1 : CelAt I1 A1 c sl σ := by
    obtain ⟨h1, h2, h3, h4, h5, h8, h9, ha⟩ := id h
    refine ⟨(f1.1 _ _ (by omega)).trans h1, h2, (f1.1 _ _ (by omega)).trans h3, fun i hi => ?_, ⟨(f1.1 _ _ (by omega)).trans h5.1, h5.2.1, fun j hj => ?_⟩, fun i hi => (f1.2 _ _ (by omega)).trans (h8 i hi), fun i hi => (f1.2 _ _ (by omega)).trans (h9 i hi), ha.same (fun i hi => ?_)⟩
    · have si := hs i hi
      have a := lr_c hc si.1 si.2
      have b := sr_ne (l := sl i) (l' := s) (by omega) (by omega) (ne i hi)
      exact (h4 i hi).same (fun f _ _ => f1.1 f _ (fun z => ne i hi z.1)) (fun r j z => f1.2 r j (by omega))
    · rw [f1.2 _ _ (by omega), f1.2 _ _ (by omega), f1.2 _ _ (by omega)]
      exact h5.2.2 j hj
    · exact ⟨f1.1 _ _ (fun z => ne i hi z.1), by rw [f1.1 _ _ (fun z => ne i hi z.1)]; exact Int.le_refl _⟩
  have w1 : LotAt I1 A1 l w := hw.same (fun f _ _ => f1.1 f _ (by omega)) (fun r j z => f1.2 r j (by omega))
  -- the grains move down
  obtain ⟨I2, A2, e2, C2, b0, b1, f2, g2⟩ := c_close q (I := I1) (A := A1) (L := L) (P := P) (F := F) (G := G) (D := D) hc hL C1
  have o2 : ∀ f y, (∀ i, i < σ.1.length → y ≠ sl i) → I2 f y = I1 f y := fun f y z => f2 f y (fun k => by obtain ⟨-, i, hi, e⟩ := k; exact z i hi e)
  have hd2 : HdAt I2 A2 s w := k1.same (fun f _ _ => o2 f s (fun i hi e => ne i hi e.symm)) (fun j => g2 _ j (by omega) (by omega))
  have w2 : LotAt I2 A2 l w := w1.same (fun f _ _ => o2 f l (fun i hi e => by have := hs i hi; omega)) (fun r j z => g2 r j (by omega) (by omega))
  obtain ⟨p, hp⟩ : ∃ p : Nat, upG2 σ.1 σ.1.length = p := ⟨(upG2 σ.1 σ.1.length).toNat, by omega⟩
  rw [hp] at e2 b1 hG
  -- the new grains behind them
  obtain ⟨A3, e3, q1, q2⟩ := c_lay q (I := I2) (A := A2) (L := L) (P := P) (F := F) (G := G) (D := D) (l := s) (s := l) (p := p) (g := w.2) (by omega) (by omega) w2.2.2.2.2.2.2.2.1 w2.gr (by rw [lrn]; omega) (fun z => by omega)
  rw [lrn] at q2
  have k3 : LotAt (up2 (up2 (up2 I2 51 s p) 46 s k) 43 s σ.2.2.2.2) A3 s (sup (sup w.1 4 k) 0 σ.2.2.2.2, w.2) := (((hd2.same (fun f a b => up2_ne (by omega)) (fun j => q2 _ j (by omega))).lot q1).set4 k).set0 σ.2.2.2.2
  obtain ⟨h1, h2, h3, h4, ⟨h5, h6, h7⟩, h8, h9, ha⟩ := C2
  have e1' : Unit → w32 ((σ.1.length : Int) + 1) = ((σ.1.length + 1 : Nat) : Int) := fun _ => by rw [w32_id (by omega) (by omega)]; omega
  have e5 : Unit → w32 (σ.2.2.2.2 + 1) = σ.2.2.2.2 + 1 := fun _ => w32_id (by omega) (by omega)
  generalize hI3 : up2 (up2 (up2 I2 51 s p) 46 s k) 43 s σ.2.2.2.2 = I3 at k3
  have oI : ∀ f y, y ≠ s → I3 f y = I2 f y := fun f y z => by subst hI3; exact (up2_ne (by omega)).trans ((up2_ne (by omega)).trans (up2_ne (by omega)))
  have oF : ∀ f y, f = 4 ∨ f = 5 ∨ f = 103 → I3 f y = I2 f y := fun f y z => by subst hI3; exact (up2_ne (by omega)).trans ((up2_ne (by omega)).trans (up2_ne (by omega)))
  have v51 : I3 51 s = p := by subst hI3; exact (up2_ne (by omega)).trans ((up2_ne (by omega)).trans up2_eq)
  have v43 : I3 43 s = σ.2.2.2.2 := by subst hI3; exact up2_eq
  refine ⟨up2 (up2 I3 4 c ((σ.1.length + 1 : Nat) : Int)) 5 c (σ.2.2.2.2 + 1), A3, ?_, ⟨?_, by simp; omega, ?_, fun i hi => ?_, ⟨?_, h6, fun j hj => ?_⟩, fun i hi => ?_, fun i hi => ?_, fun i j hij hj => ?_⟩, ?_⟩
  · have n5 : up2 (up2 I2 51 s (p : Int)) 46 s k 5 c = σ.2.2.2.2 := (up2_ne (by omega)).trans ((up2_ne (by omega)).trans h3)
    have n4 : I3 4 c = σ.1.length := (oF _ _ (by omega)).trans h1
    have u3 : up2 I3 4 c ((σ.1.length + 1 : Nat) : Int) 5 c = σ.2.2.2.2 := (up2_ne (by omega)).trans ((oF _ _ (by omega)).trans h3)
    have u4 : up2 (up2 I3 4 c ((σ.1.length + 1 : Nat) : Int)) 5 c (σ.2.2.2.2 + 1) 43 s = σ.2.2.2.2 := (up2_ne (by omega)).trans ((up2_ne (by omega)).trans v43)
    have i4 := h.1
    simp only [s5_0, s5_1, s5_4, s5_7, s5_8, s5_11, s5_12, s5_15, s5_16, unJ_I, unJ_J, unJ_F, unJ_R, unJ_N, unJ_U, pushR_I, pushR_J, pushR_F, pushR_R, pushR_N, pushR_U, rfV_s, rfV_n, Option.bind_some, true_or, or_true, if_true, lx15, i4]
    rw [if_neg (by omega), if_pos (by omega), if_pos (by omega)]
    simp only [s5_22, s5_23, s5_26, s5_27, s5_30, s5_31, s5_31n, s5_32, s5_32n, s5_33n, s5_33, unJ_I, unJ_J, unJ_F, unJ_R, unJ_N, unJ_U, pushR_I, pushR_J, pushR_F, pushR_R, pushR_N, pushR_U, rfV_s, rfV_n, Option.bind_some, true_or, or_true, if_true, lx15, i4, Int.toNat_natCast]
    rw [if_pos (by omega), p1]
    simp only [s5_31, s5_31n, s5_32, s5_32n, s5_33n, s5_33, s5_36, s5_38, s5_39, s5_39n, s5_40, s5_41, s5_44, s5_44n, s5_45, s5_46, s5_47, s5_50, s5_53, s5_53n, s5_54, s5_55, s5_58, s5_58n, s5_59, s5_60, s5_63, s5_66, s5_67, s5_67r, s5_68, s5_71, s5_72, s5_73, s5_76, s5_77, s5_77r, s5_78, s5_81, s5_82, s5_83, s5_86, s5_86n, s5_87, s5_90, unJ_I, unJ_J, unJ_F, unJ_R, unJ_N, unJ_U, pushR_I, pushR_J, pushR_F, pushR_R, pushR_N, pushR_U, rfV_s, rfV_n, Option.bind_some, true_or, or_true, if_true, e1, e2, e3, n5, hI3, n4, u3, u4, e1' (), e5 ()]
  · refine (up2_ne (by omega)).trans (up2_eq.trans ?_)
    simp
  · exact up2_eq
  · show LotAt _ _ _ (lt (σ.1 ++ [(sup (sup w.1 4 k) 0 σ.2.2.2.2, w.2)]) i)
    rw [lt_snoc]
    by_cases hz : i < σ.1.length
    · rw [if_pos hz]
      have si := hs i hz
      have a := lr_c hc si.1 si.2
      have b := sr_c hc si.1 si.2
      have wi := h4 i hz
      have bi := b1 i hz
      have e44 : I2 44 (sl i) = (lt σ.1 i).2.length := wi.2.2.2.2.2.2.2.1
      have u : ∀ f, 43 ≤ f → f ≤ 51 → up2 (up2 I3 4 c ((σ.1.length + 1 : Nat) : Int)) 5 c (σ.2.2.2.2 + 1) f (sl i) = I2 f (sl i) := fun f _ _ => (up2_ne (by omega)).trans ((up2_ne (by omega)).trans (oI f _ (ne i hz)))
      exact (wi.hd.same (fun f x y => u f x (by omega)) (fun j => q2 _ j (by omega))).lot (wi.gr.same (u 51 (by omega) (by omega)) (fun j j1 j2 => ⟨q2 _ j (by omega), q2 _ j (by omega)⟩))
    · have : i = σ.1.length := by simp at hi; omega
      subst this
      rw [if_neg hz, if_pos rfl, hsn]
      exact k3.same (fun f a b => (up2_ne (by omega)).trans (up2_ne (by omega))) (fun _ _ _ => rfl)
  · exact (up2_ne (by omega)).trans ((up2_ne (by omega)).trans ((oF _ _ (by omega)).trans h5))
  · rw [q2 _ _ (by omega), q2 _ _ (by omega), q2 _ _ (by omega)]
    exact h7 j hj
  · exact (q2 _ _ (by omega)).trans (h8 i hi)
  · exact (q2 _ _ (by omega)).trans (h9 i hi)
  · have hj2 : j < σ.1.length + 1 := by simpa using hj
    have u : ∀ f y, 43 ≤ f → f ≤ 51 → up2 (up2 I3 4 c ((σ.1.length + 1 : Nat) : Int)) 5 c (σ.2.2.2.2 + 1) f y = I3 f y := fun f y _ _ => (up2_ne (by omega)).trans (up2_ne (by omega))
    rw [u _ _ (by omega) (by omega), u _ _ (by omega) (by omega), u _ _ (by omega) (by omega), oI _ _ (ne i (by omega)), oI _ _ (ne i (by omega))]
    by_cases z : j < σ.1.length
    · rw [oI _ _ (ne j z)]
      exact ha i j hij z
    · have : j = σ.1.length := by omega
      subst this
      rw [hsn, v51]
      exact b1 i hij
  · refine ⟨fun f x z => ?_, fun r j z => ?_⟩
    · unfold inI at z
      have z1 : x ≠ s ∨ ¬ (43 ≤ f ∧ f ≤ 51) := by omega
      refine (up2_ne (by omega)).trans ((up2_ne (by omega)).trans ?_)
      have z2 : ¬ (x = s ∧ 43 ≤ f ∧ f ≤ 51) := by omega
      have z3 : I3 f x = I2 f x := by subst hI3; exact (up2_ne (by omega)).trans ((up2_ne (by omega)).trans (up2_ne (by omega)))
      rw [z3, f2 f x (fun k => by obtain ⟨k1, i, hi, e⟩ := k; have := hs i hi; omega)]
      exact f1.1 f x z2
    · unfold inR at z
      exact (q2 _ _ (by omega)).trans ((g2 _ _ (by omega) (by omega)).trans (f1.2 _ _ (by omega)))
end
