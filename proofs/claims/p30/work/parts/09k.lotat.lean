/-! PANEL.LOTAT: the lot at a place in the order of the marks -/
abbrev isSc (ls : List Lt) (i : Nat) : Prop := i < ls.length ∧ 0 < scN (lt ls i)
def mrkL (ls : List Lt) (span : Int) (i : Nat) : UInt32 := if isSc ls i then mrkU (lt ls i).1 span else 3212836864
def ahU (ls : List Lt) (span : Int) (i : Nat) : Int := cntU (fun k => isSc ls k ∧ (0 < f_cmp .l (mrkL ls span k) (mrkL ls span i) ∨ (k < i ∧ f_cmp .l (mrkL ls span k) (mrkL ls span i) = 0))) 12
/-- the first lot from place i on with so many ahead -/
def rkU (ls : List Lt) (span place : Int) : Nat → Nat → Int
  | 0, _ => -4
  | d + 1, i => if isSc ls i ∧ ahU ls span i = place then (lt ls i).1 0 else rkU ls span place d (i + 1)
section
variable (q : Nat × (Nat → Int)) {I A : M2} {L P : Nat → Nat → Option Nat} {F G : Nat → Nat → UInt32} {D : MD} {l c : Nat} {w : Lt} {σ : St} {sl : Nat → Nat}
theorem CelAt.frJ {I' A' : M2} (h : CelAt I A c sl σ) (k : FrJ I A I' A') (hc : c < 6) (hsl : ∀ i, i < 12 → 12 * c ≤ sl i ∧ sl i < 12 * c + 12) : CelAt I' A' c sl σ :=
  h.keep hc hsl (fun f x z => k.1 f x (by unfold inI at z; omega)) (fun r j z => k.2 r j (by unfold inR at z; omega))
theorem FrJ.rf (I A : M2) : FrJ I A I A := ⟨fun _ _ _ => rfl, fun _ _ _ => rfl⟩
theorem FrJ.tr {I A I1 A1 I2 A2 : M2} (h : FrJ I A I1 A1) (k : FrJ I1 A1 I2 A2) : FrJ I A I2 A2 :=
  ⟨fun f x a => (k.1 f x a).trans (h.1 f x a), fun r j a => (k.2 r j a).trans (h.2 r j a)⟩
theorem okL.sc {w : Lt} (h : okL w) : okSc w.1 := h.2.2.2.2.2.2.1
theorem scN_d (w : Lt) : scN (w.1, ([] : Gr)) = scN w := rfl
/-- Panel.lotAt -/
theorem c_lotAt (hc : c < 6) (hL : LoS L c sl) (h : CelAt I A c sl σ) (ho : okLs σ.1) (hs : 0 ≤ σ.2.2.1 1 ∧ σ.2.2.1 1 ≤ 200) (place : Int) :
    ∃ I' A' F' G', rs 305 0 [vR 3 0, vI place, vR 0 c, vU, vU, vU] [] (SX q, (I, A, L, P, F, G), D) = some (vI (rkU σ.1 (σ.2.2.1 1) place 12 0), (SX q, (I', A', L, P, F', G'), D)) ∧ FrJ I A I' A' := by
  have hsl : ∀ i, i < 12 → 12 * c ≤ sl i ∧ sl i < 12 * c + 12 := fun i hi => (hL.1 i hi).2
  have h1 := h.1
  have h2 := h.2.1
  have lc := (len_c c hc).1
  have set1 : A (19 * c + 2 * (c / 5) + 5) 1 = σ.2.2.1 1 := h.2.2.2.2.2.1 1 (by omega)
  generalize hsp : σ.2.2.1 1 = span at hs set1 ⊢
  obtain ⟨ls', μ', e, I2, A2, F2, G2, rfl, rfl, k1, k2⟩ := rs_loopP (m := 305) (pc := 12) (ls := [vR 3 0, vI place, vR 0 c, vI span, vI 0, vU]) (μ := (SX q, (I, A, L, P, F, G), D)) (fun i ls μ => ∃ I' A' F' G', μ = (SX q, (I', A', L, P, F', G'), D) ∧ ls = [vR 3 0, vI place, vR 0 c, vI span, vI (i : Int), vU] ∧
      FrJ I A I' A' ∧ ∀ j, j < i → F' 0 j = mrkL σ.1 span j) 12
    ⟨_, _, _, _, rfl, rfl, FrJ.rf _ _, fun j hj => absurd hj (Nat.not_lt_zero _)⟩ (fun i hi ls μ ⟨I', A', F', G', e1, e2, k1, k2⟩ => by
      subst e1 e2
      have hC := h.frJ k1 hc hsl
      have ei : Unit → w32 ((i : Int) + 1) = ((i + 1 : Nat) : Int) := fun _ => by rw [w32_id (by omega) (by omega)]; omega
      have fin : ∀ (v : UInt32) (j : Nat), v = mrkL σ.1 span i → j < i + 1 → up2 F' 0 i v 0 j = mrkL σ.1 span j := fun v j hv hj => by
        by_cases z : j = i
        · subst z; rw [up2_eq, hv]
        · rw [up2_ne (by omega)]; exact k2 j (by omega)
      rw [s305_12]
      by_cases hz : i < σ.1.length
      · have s := hsl i (by omega)
        obtain ⟨o1, o2⟩ := ho i hz
        obtain ⟨I3, A3, G3, e3, f1, f2⟩ := c_judge q (I := I') (A := A') (L := L) (P := P) (F := F') (G := G') (D := D) (hC.2.2.2.1 i hz) (by omega) o1.sc hs (fun hq => (mrk_f (d := (lt σ.1 i).1) o1.sc hs.1 hq).1)
        simp only [s305_14, s305_15, s305_18, s305_19, s305_22, s305_23, s305_25, unJ_I, unJ_J, unJ_F, unJ_R, unJ_N, unJ_U, pushR_I, pushR_J, pushR_F, pushR_R, pushR_N, pushR_U, rfV_s, rfV_n, Option.bind_some, true_or, or_true, if_true, lx17, c_cat q hC hL hz]
        rw [if_pos (by omega), if_neg (by omega)]
        simp only [s305_28, s305_28n, s305_30, s305_31, s305_34, s305_36, s305_36n, s305_38n, s305_38, s305_41, s305_42, s305_42n, s305_44, s305_45, s305_48, unJ_I, unJ_J, unJ_F, unJ_R, unJ_N, unJ_U, pushR_I, pushR_J, pushR_F, pushR_R, pushR_N, pushR_U, rfV_s, rfV_n, Option.bind_some, true_or, or_true, if_true, e3]
        by_cases hq : 0 < scN (lt σ.1 i)
        · have f3 := (f2 hq).2.2.2
          rw [if_neg (by rw [b01_0]; exact fun z => z hq)]
          simp only [s305_51, s305_52, s305_55, s305_58, s305_60, s305_61, s305_64, unJ_I, unJ_J, unJ_F, unJ_R, unJ_N, unJ_U, pushR_I, pushR_J, pushR_F, pushR_R, pushR_N, pushR_U, rfV_s, rfV_n, Option.bind_some, true_or, or_true, if_true, lx17, f3, Int.toNat_natCast, ei ()]
          rw [if_pos (by omega)]
          exact ⟨_, _, rfl, _, _, _, _, rfl, rfl, k1.tr f1, fun j hj => fin _ j (by unfold mrkL; rw [if_pos ⟨hz, hq⟩]) hj⟩
        · rw [if_pos (by rw [b01_0]; exact hq)]
          simp only [s305_58, s305_60, s305_61, s305_64, unJ_I, unJ_J, unJ_F, unJ_R, unJ_N, unJ_U, pushR_I, pushR_J, pushR_F, pushR_R, pushR_N, pushR_U, rfV_s, rfV_n, Option.bind_some, true_or, or_true, if_true, lx17, Int.toNat_natCast, ei ()]
          rw [if_pos (by omega)]
          exact ⟨_, _, rfl, _, _, _, _, rfl, rfl, k1.tr f1, fun j hj => fin _ j (by unfold mrkL; rw [if_neg (fun z => hq z.2)]) hj⟩
      · simp only [s305_14, s305_15, s305_18, s305_19, s305_22, s305_23, s305_25, unJ_I, unJ_J, unJ_F, unJ_R, unJ_N, unJ_U, pushR_I, pushR_J, pushR_F, pushR_R, pushR_N, pushR_U, rfV_s, rfV_n, Option.bind_some, true_or, or_true, if_true, lx17, c_catN q hC (show σ.1.length ≤ i by omega)]
        rw [if_pos (by omega), if_neg (by omega)]
        simp only [s305_28, s305_28n, s305_30, s305_31, s305_34, s305_36, s305_36n, s305_38n, s305_38, s305_41, s305_42, s305_42n, s305_44, s305_45, s305_48, s305_28n, s305_36n, s305_38n, unJ_I, unJ_J, unJ_F, unJ_R, unJ_N, unJ_U, pushR_I, pushR_J, pushR_F, pushR_R, pushR_N, pushR_U, rfV_s, rfV_n, Option.bind_some, true_or, or_true, if_true, lx17, c_catN q hC (show σ.1.length ≤ i by omega)]
        simp only [s305_58, s305_60, s305_61, s305_64, unJ_I, unJ_J, unJ_F, unJ_R, unJ_N, unJ_U, pushR_I, pushR_J, pushR_F, pushR_R, pushR_N, pushR_U, rfV_s, rfV_n, Option.bind_some, true_or, or_true, if_true, lx17, Int.toNat_natCast, ei ()]
        rw [if_pos (by omega)]
        exact ⟨_, _, rfl, _, _, _, _, rfl, rfl, k1, fun j hj => fin _ j (by unfold mrkL; rw [if_neg (fun z => hz z.1)]) hj⟩)
  have hC := h.frJ k1 hc hsl
  -- what is ahead
  have ah : ∀ i, isSc σ.1 i → cntU (fun k => 0 < f_cmp .l (F2 0 k) (F2 0 i) ∨ (k < i ∧ f_cmp .l (F2 0 k) (F2 0 i) = 0)) 12 = ahU σ.1 span i := fun i hi => by
    unfold ahU
    refine cnt_congr (fun k hk => ?_)
    rw [k2 k hk, k2 i (by have := hi.1; omega)]
    constructor
    · intro z
      refine ⟨?_, z⟩
      by_cases hk2 : isSc σ.1 k
      · exact hk2
      · exfalso
        have e1 : mrkL σ.1 span k = 3212836864 := if_neg hk2
        have e2 : mrkL σ.1 span i = mrkU (lt σ.1 i).1 span := if_pos hi
        have mk := mrk_f (d := (lt σ.1 i).1) (ho i hi.1).1.sc hs.1 hi.2
        rw [e1, e2] at z
        have := mk.2.2.2.1
        omega
    · exact fun z => z.2
  have main : ∀ (d i : Nat), i + d = 12 → rs 305 70 [vR 3 0, vI place, vR 0 c, vU, vI (i : Int), vU] [] (SX q, (I2, A2, L, P, F2, G2), D) = some (vI (rkU σ.1 span place d i), (SX q, (I2, A2, L, P, F2, G2), D)) := by
    intro d
    induction d with
    | zero =>
      intro i hi
      rw [s305_70]
      simp only [s305_72, s305_73, s305_76, s305_77, s305_127, s305_129, unJ_I, unJ_J, unJ_F, unJ_R, unJ_N, unJ_U, pushR_I, pushR_J, pushR_F, pushR_R, pushR_N, pushR_U, rfV_s, rfV_n, Option.bind_some, true_or, or_true, if_true, lx17]
      rw [if_pos (by omega), if_pos (by omega)]
      rfl
    | succ d ih =>
      intro i hi
      have ei : Unit → w32 ((i : Int) + 1) = ((i + 1 : Nat) : Int) := fun _ => by rw [w32_id (by omega) (by omega)]; omega
      rw [s305_70]
      unfold rkU
      by_cases hz : i < σ.1.length
      · have k43 : I2 43 (sl i) = (lt σ.1 i).1 0 := (hC.2.2.2.1 i hz).1
        simp only [s305_72, s305_73, s305_76, s305_77, s305_80, s305_81, s305_83, unJ_I, unJ_J, unJ_F, unJ_R, unJ_N, unJ_U, pushR_I, pushR_J, pushR_F, pushR_R, pushR_N, pushR_U, rfV_s, rfV_n, Option.bind_some, true_or, or_true, if_true, lx17, c_cat q hC hL hz]
        rw [if_pos (by omega), if_neg (by omega)]
        simp only [s305_86, s305_86n, s305_88, s305_88n, s305_90n, s305_90, s305_93, s305_94, s305_97, s305_99, s305_100, s305_101, s305_102, unJ_I, unJ_J, unJ_F, unJ_R, unJ_N, unJ_U, pushR_I, pushR_J, pushR_F, pushR_R, pushR_N, pushR_U, rfV_s, rfV_n, Option.bind_some, true_or, or_true, if_true, lx17, Int.toNat_natCast, c_cat q hC hL hz]
        rw [if_pos (by omega), k2 i (by omega)]
        by_cases hq : isSc σ.1 i
        · have mk := mrk_f (d := (lt σ.1 i).1) (ho i hz).1.sc hs.1 hq.2
          have em : mrkL σ.1 span i = mrkU (lt σ.1 i).1 span := if_pos hq
          rw [em, if_neg (by omega)]
          simp only [s305_105, s305_106, s305_108, s305_111, s305_112, unJ_I, unJ_J, unJ_F, unJ_R, unJ_N, unJ_U, pushR_I, pushR_J, pushR_F, pushR_R, pushR_N, pushR_U, rfV_s, rfV_n, Option.bind_some, true_or, or_true, if_true, c_ahead q (show i < 12 by omega), ah i hq]
          by_cases hp : ahU σ.1 span i = place
          · rw [if_pos hp, if_pos ⟨hq, hp⟩]
            simp only [s305_115, s305_115n, s305_117, s305_120, unJ_I, unJ_J, unJ_F, unJ_R, unJ_N, unJ_U, pushR_I, pushR_J, pushR_F, pushR_R, pushR_N, pushR_U, rfV_s, rfV_n, Option.bind_some, true_or, or_true, if_true, k43]
          · rw [if_neg hp, if_neg (fun z => hp z.2)]
            simp only [s305_121, s305_124, unJ_I, unJ_J, unJ_F, unJ_R, unJ_N, unJ_U, pushR_I, pushR_J, pushR_F, pushR_R, pushR_N, pushR_U, rfV_s, rfV_n, Option.bind_some, true_or, or_true, if_true, ei ()]
            exact ih (i + 1) (by omega)
        · have em : mrkL σ.1 span i = 3212836864 := if_neg hq
          have lo : f_cmp .l 3212836864 FP.fconst0 < 0 := by decide +kernel
          rw [em, if_pos lo, if_neg (fun z => hq z.1)]
          simp only [s305_121, s305_124, unJ_I, unJ_J, unJ_F, unJ_R, unJ_N, unJ_U, pushR_I, pushR_J, pushR_F, pushR_R, pushR_N, pushR_U, rfV_s, rfV_n, Option.bind_some, true_or, or_true, if_true, ei ()]
          exact ih (i + 1) (by omega)
      · rw [if_neg (fun z => hz z.1.1)]
        simp only [s305_72, s305_73, s305_76, s305_77, s305_80, s305_81, s305_83, unJ_I, unJ_J, unJ_F, unJ_R, unJ_N, unJ_U, pushR_I, pushR_J, pushR_F, pushR_R, pushR_N, pushR_U, rfV_s, rfV_n, Option.bind_some, true_or, or_true, if_true, lx17, c_catN q hC (show σ.1.length ≤ i by omega)]
        rw [if_pos (by omega), if_neg (by omega)]
        simp only [s305_86n, s305_88n, s305_90n, s305_121, s305_124, unJ_I, unJ_J, unJ_F, unJ_R, unJ_N, unJ_U, pushR_I, pushR_J, pushR_F, pushR_R, pushR_N, pushR_U, rfV_s, rfV_n, Option.bind_some, true_or, or_true, if_true, ei ()]
        exact ih (i + 1) (by omega)
  refine ⟨I2, A2, F2, G2, ?_, k1⟩
  simp only [s305_0, s305_1, s305_4, s305_5, unJ_I, unJ_J, unJ_F, unJ_R, unJ_N, unJ_U, pushR_I, pushR_J, pushR_F, pushR_R, pushR_N, pushR_U, rfV_s, rfV_n, Option.bind_some, true_or, or_true, if_true, c_get]
  rw [show (1 : Int) = ((1 : Nat) : Int) from rfl, rget_n _ (by omega), set1]
  simp only [s305_8, s305_9, s305_10, unJ_I, unJ_J, unJ_F, unJ_R, unJ_N, unJ_U, pushR_I, pushR_J, pushR_F, pushR_R, pushR_N, pushR_U, rfV_s, rfV_n, Option.bind_some, true_or, or_true, if_true]
  refine e.trans ?_
  rw [s305_12]
  simp only [s305_14, s305_15, s305_18, s305_19, s305_67, s305_68, unJ_I, unJ_J, unJ_F, unJ_R, unJ_N, unJ_U, pushR_I, pushR_J, pushR_F, pushR_R, pushR_N, pushR_U, rfV_s, rfV_n, Option.bind_some, true_or, or_true, if_true, lx17]
  rw [if_pos (by omega), if_pos (by omega)]
  exact main 12 0 rfl
end
