/-! THE MODEL'S CALLS: sweeten, move, recipe, score -/
def Dom (m : Nat) (en : List AV) (q : Nat × (Nat → Int)) (C : MC) (J M T : M2) (a : AV) (X : XS) : Prop := ∃ J' M' T', rs m 0 en [] (SX q, C, (J, M, T)) = some (a, (SX q, C, (J', M', T'))) ∧ Mod J' M' X
theorem flat_set {ls : List Lt} {i : Nat} {w : Lt} (hi : i < ls.length) (h0 : w.1 0 = (lt ls i).1 0) (h2 : w.2 = (lt ls i).2) : flat (ls.set i w) = flat ls := by
  induction ls generalizing i with
  | nil => rfl
  | cons v r ih =>
    cases i with
    | zero =>
      have e0 : w.1 0 = v.1 0 := h0
      have e2 : w.2 = v.2 := h2
      show w.2.map _ ++ flat r = v.2.map _ ++ flat r
      rw [e0, e2]
    | succ i =>
      show v.2.map _ ++ flat (r.set i w) = v.2.map _ ++ flat r
      have e : lt (v :: r) (i + 1) = lt r i := by unfold lt; simp
      rw [e] at h0 h2
      rw [ih (by simpa using hi) h0 h2]
theorem flat_setN {ls : List Lt} {i k : Nat} {v : Int} (hi : i < ls.length) (hk : k ≠ 0) : flat (setN ls i k v) = flat ls := flat_set hi (sup_n (fun z => hk z.symm)) rfl
theorem MRow.setN {M : M2} {σ : St} {gs : List Gx} (h : MRow (M 0) σ gs) {i j : Nat} (hi : i < σ.1.length) (hj : j < 14) (v : Int) : MRow (up2 M 0 (40 + 14 * i + j) v 0) (setN σ.1 i j v, σ.2) gs := by
  obtain ⟨⟨a1, a2, a3, a4⟩, ⟨b1, b2, b3⟩, c, d, r, l, m⟩ := h
  have sl := setN_l σ.1 i j v
  refine ⟨⟨(up2_ne (by omega)).trans (by rw [a1]; show _ = (((_root_.Jvm.Pilot.CVineyardBlendsLaw_law_r1126_84277f.setN σ.1 i j v).length : Nat) : Int); rw [sl]), (up2_ne (by omega)).trans a2, (up2_ne (by omega)).trans a3, (up2_ne (by omega)).trans a4⟩, ⟨by show (_root_.Jvm.Pilot.CVineyardBlendsLaw_law_r1126_84277f.setN σ.1 i j v).length ≤ 13; omega, b2, b3⟩, fun k hk => (up2_ne (by omega)).trans (c k hk), fun k hk => (up2_ne (by omega)).trans (d k hk), fun k hk => ?_, fun a ha b hb => ?_, fun k hk => ?_⟩
  · have hk' : k < σ.2.1.length := hk
    rw [up2_ne (by omega), up2_ne (by omega), up2_ne (by omega)]; exact r k hk
  · have ha' : a < σ.1.length := by have : a < (_root_.Jvm.Pilot.CVineyardBlendsLaw_law_r1126_84277f.setN σ.1 i j v).length := ha; omega
    show _ = (lt (_root_.Jvm.Pilot.CVineyardBlendsLaw_law_r1126_84277f.setN σ.1 i j v) a).1 b
    rw [setN_g hi]
    by_cases e : a = i
    · subst e
      rw [if_pos rfl]
      show _ = if b = j then v else (lt σ.1 a).1 b
      by_cases e2 : b = j
      · subst e2; rw [if_pos rfl, up2_eq]
      · rw [if_neg e2, up2_ne (by omega)]; exact l a ha' b hb
    · rw [if_neg e, up2_ne (by omega)]; exact l a ha' b hb
  · rw [up2_ne (by omega), up2_ne (by omega), up2_ne (by omega)]; exact m k hk
section
variable (q : Nat × (Nat → Int)) {C : MC} {J M T : M2} {t : Int} {X : XS}
theorem w_at {σ : St} {gs : List Gx} (h : MRow (M 0) σ gs) {i w : Nat} (hi : i < σ.1.length) (hw : w < 14) : rs 1008 0 [vR 10 0, vI (i : Int), vI (w : Int)] [] (SX q, C, (J, M, T)) = some (vI ((lt σ.1 i).1 w), (SX q, C, (J, M, T))) := by
  have e := c_mat q (C := C) (J := J) (M := M) (T := T) (s := i) (w := w) (by have := h.2.1.1; omega) hw
  rw [h.2.2.2.2.2.1 i hi w hw] at e
  exact e
/-- a change of one number of a lot -/
theorem w_setN {J1 M1 : M2} (h1 : Mod J1 M1 (X.1, recH X.2.1 X.1, X.2.2)) {i k : Nat} (hi : i < X.1.1.length) (hk : k < 14) (h0 : k ≠ 0) (v : Int) : Mod J1 (up2 M1 0 (40 + 14 * i + k) v) (chg X (setN X.1.1 i k v, X.1.2)) := by
  obtain ⟨⟨gs, a, b⟩, -⟩ := id h1
  exact Mod.row (σ' := (setN X.1.1 i k v, X.1.2)) h1 rfl rfl (by funext y; exact up2_ne (by omega)) (by funext y; exact up2_ne (by omega)) (MRow.setN a hi hk v) (by show gs.Perm (flat (setN X.1.1 i k v)); rw [flat_setN hi h0]; exact b)
theorem w_sweeten (h : Mod J M X) (ho : okX t X) (l s : Int) : Dom 1024 [vR 10 0, vI l, vI s, vU, vU] q C J M T (vI (aSweeten X l s).1) (aSweeten X l s).2 := by
  obtain ⟨⟨gs, a, b⟩, -⟩ := id h
  have sl := w_slot q (C := C) (J := J) (T := T) a l
  unfold aSweeten
  by_cases h1 : 0 ≤ l ∧ 0 ≤ s ∧ s ≤ 500
  · rw [if_pos h1]
    by_cases hf : fnd X.1.1 l < X.1.1.length
    · rw [if_pos hf]
      rw [if_pos hf] at sl
      obtain ⟨J1, M1, e1, k1, k2, k3⟩ := w_change q (C := C) (T := T) h
      have a1 : MRow (M1 0) X.1 gs := by rw [k3 0 (by omega) (by omega)]; exact a
      have l12 := ho.2.1.2.1
      have at3 := w_at q (C := C) (J := J1) (T := T) a1 hf (show 3 < 14 by omega)
      have pt := c_mput q (C := C) (J := J1) (M := M1) (T := T) (s := fnd X.1.1 l) (w := 3) (by omega) (by omega) s
      refine ⟨J1, up2 M1 0 (40 + 14 * fnd X.1.1 l + 3) s, T, ?_, w_setN k1 hf (by omega) (by omega) s⟩
      simp only [s1024_0, s1024_1, s1024_4, s1024_5, s1024_6, s1024_7, s1024_10, s1024_13, s1024_16, s1024_17, s1024_18, s1024_19, s1024_20, unJ_I, unJ_J, unJ_F, unJ_R, unJ_N, unJ_U, pushR_I, pushR_J, pushR_F, pushR_R, pushR_N, pushR_U, rfV_s, rfV_n, Option.bind_some, true_or, or_true, if_true, c_in, b01_0]
      rw [if_neg (by omega), if_neg (by omega), sl]
      simp only [s1024_23, s1024_24, s1024_25, s1024_28, s1024_30, s1024_31, s1024_32, s1024_35, s1024_36, s1024_37, s1024_38, unJ_I, unJ_J, unJ_F, unJ_R, unJ_N, unJ_U, pushR_I, pushR_J, pushR_F, pushR_R, pushR_N, pushR_U, rfV_s, rfV_n, Option.bind_some, true_or, or_true, if_true, e1]
      rw [if_pos (by omega)]
      refine (congrArg (fun o => Option.bind o _) at3).trans ?_
      simp only [s1024_41, s1024_43, s1024_44, s1024_45, s1024_46, s1024_47, unJ_I, unJ_J, unJ_F, unJ_R, unJ_N, unJ_U, pushR_I, pushR_J, pushR_F, pushR_R, pushR_N, pushR_U, rfV_s, rfV_n, Option.bind_some, true_or, or_true, if_true]
      refine (congrArg (fun o => Option.bind o _) pt).trans ?_
      simp only [s1024_50, s1024_52, unJ_I, unJ_J, unJ_F, unJ_R, unJ_N, unJ_U, pushR_I, pushR_J, pushR_F, pushR_R, pushR_N, pushR_U, rfV_s, rfV_n, Option.bind_some, true_or, or_true, if_true]
    · rw [if_neg hf]
      rw [if_neg hf] at sl
      refine ⟨J, M, T, ?_, h⟩
      simp only [s1024_0, s1024_1, s1024_4, s1024_5, s1024_6, s1024_7, s1024_10, s1024_13, s1024_16, s1024_17, s1024_18, s1024_19, s1024_20, unJ_I, unJ_J, unJ_F, unJ_R, unJ_N, unJ_U, pushR_I, pushR_J, pushR_F, pushR_R, pushR_N, pushR_U, rfV_s, rfV_n, Option.bind_some, true_or, or_true, if_true, c_in, b01_0]
      rw [if_neg (by omega), if_neg (by omega), sl]
      simp only [s1024_23, s1024_24, s1024_25, s1024_28, s1024_30, unJ_I, unJ_J, unJ_F, unJ_R, unJ_N, unJ_U, pushR_I, pushR_J, pushR_F, pushR_R, pushR_N, pushR_U, rfV_s, rfV_n, Option.bind_some, true_or, or_true, if_true]
      rw [if_neg (by omega)]
  · rw [if_neg h1]
    refine ⟨J, M, T, ?_, h⟩
    simp only [s1024_0, s1024_1, s1024_4, s1024_5, s1024_6, s1024_7, s1024_10, s1024_13, s1024_16, s1024_17, unJ_I, unJ_J, unJ_F, unJ_R, unJ_N, unJ_U, pushR_I, pushR_J, pushR_F, pushR_R, pushR_N, pushR_U, rfV_s, rfV_n, Option.bind_some, true_or, or_true, if_true, c_in, b01_0]
    repeat' split
    all_goals first | rfl | (exfalso; omega)
theorem w_score (h : Mod J M X) (ho : okX t X) (l x v : Int) : Dom 1045 [vR 10 0, vI l, vI x, vI v, vU] q C J M T (vI (aScore X l x v).1) (aScore X l x v).2 := by
  obtain ⟨⟨gs, a, b⟩, -⟩ := id h
  have sl := w_slot q (C := C) (J := J) (T := T) a l
  unfold aScore
  by_cases h1 : 0 ≤ l ∧ (0 ≤ x ∧ x ≤ 7) ∧ -1 ≤ v ∧ v ≤ 200
  · rw [if_pos h1]
    by_cases hf : fnd X.1.1 l < X.1.1.length
    · rw [if_pos hf]
      rw [if_pos hf] at sl
      obtain ⟨J1, M1, e1, k1, k2, k3⟩ := w_change q (C := C) (T := T) h
      have l12 := ho.2.1.2.1
      obtain ⟨n, rfl⟩ : ∃ n : Nat, x = n := ⟨x.toNat, by omega⟩
      rw [Int.toNat_natCast]
      have pt := c_mput q (C := C) (J := J1) (M := M1) (T := T) (s := fnd X.1.1 l) (w := 6 + n) (by omega) (by omega) v
      have a2 : MRow (M1 0) X.1 gs := by rw [k3 0 (by omega) (by omega)]; exact a
      have a3 := a2.setN (i := fnd X.1.1 l) (j := 6 + n) hf (by omega) v
      have o := (ho.lot hf).1.sup0 (k := 6 + n) (v := v) (by omega)
      have g : lt (setN X.1.1 (fnd X.1.1 l) (6 + n) v) (fnd X.1.1 l) = (sup (lt X.1.1 (fnd X.1.1 l)).1 (6 + n) v, (lt X.1.1 (fnd X.1.1 l)).2) := by rw [setN_g hf, if_pos rfl]
      have sc := w_scores q (C := C) (J := J1) (T := T) a3 (s := fnd X.1.1 l) (by show fnd X.1.1 l < (setN X.1.1 (fnd X.1.1 l) (6 + n) v).length; rw [setN_l]; exact hf) (by show okSc (lt (setN X.1.1 (fnd X.1.1 l) (6 + n) v) (fnd X.1.1 l)).1; rw [g]; exact o.sc)
      have g2 : scN (lt (setN X.1.1 (fnd X.1.1 l) (6 + n) v) (fnd X.1.1 l)) = scN (sup (lt X.1.1 (fnd X.1.1 l)).1 (6 + n) v, []) := by rw [g]; rfl
      have e6 : Unit → w32 (6 + (n : Int)) = ((6 + n : Nat) : Int) := fun _ => by rw [w32_id (by omega) (by omega)]; omega
      refine ⟨J1, up2 M1 0 (40 + 14 * fnd X.1.1 l + (6 + n)) v, T, ?_, w_setN k1 hf (by omega) (by omega) v⟩
      simp only [s1045_0, s1045_1, s1045_4, s1045_5, s1045_6, s1045_7, s1045_10, s1045_13, s1045_16, s1045_17, s1045_18, s1045_21, s1045_24, s1045_27, s1045_30, s1045_31, s1045_32, s1045_33, s1045_34, unJ_I, unJ_J, unJ_F, unJ_R, unJ_N, unJ_U, pushR_I, pushR_J, pushR_F, pushR_R, pushR_N, pushR_U, rfV_s, rfV_n, Option.bind_some, true_or, or_true, if_true, c_in, b01_0]
      rw [if_neg (by omega), if_neg (by omega), if_neg (by omega), sl]
      simp only [s1045_37, s1045_39, s1045_41, s1045_44, s1045_46, s1045_47, s1045_48, s1045_51, s1045_52, s1045_54, s1045_56, s1045_57, s1045_58, s1045_59, unJ_I, unJ_J, unJ_F, unJ_R, unJ_N, unJ_U, pushR_I, pushR_J, pushR_F, pushR_R, pushR_N, pushR_U, rfV_s, rfV_n, Option.bind_some, true_or, or_true, if_true, e1, e6 ()]
      rw [if_pos (by omega)]
      refine (congrArg (fun o => Option.bind o _) pt).trans ?_
      simp only [s1045_62, s1045_63, s1045_65, unJ_I, unJ_J, unJ_F, unJ_R, unJ_N, unJ_U, pushR_I, pushR_J, pushR_F, pushR_R, pushR_N, pushR_U, rfV_s, rfV_n, Option.bind_some, true_or, or_true, if_true]
      refine (congrArg (fun o => Option.bind o _) sc).trans ?_
      simp only [s1045_68, unJ_I, unJ_J, unJ_F, unJ_R, unJ_N, unJ_U, pushR_I, pushR_J, pushR_F, pushR_R, pushR_N, pushR_U, rfV_s, rfV_n, Option.bind_some, true_or, or_true, if_true]
      show some (vI (scN (lt (setN X.1.1 (fnd X.1.1 l) (6 + n) v) (fnd X.1.1 l))), _) = _
      rw [g2]
    · rw [if_neg hf]
      rw [if_neg hf] at sl
      refine ⟨J, M, T, ?_, h⟩
      simp only [s1045_0, s1045_1, s1045_4, s1045_5, s1045_6, s1045_7, s1045_10, s1045_13, s1045_16, s1045_17, s1045_18, s1045_21, s1045_24, s1045_27, s1045_30, s1045_31, s1045_32, s1045_33, s1045_34, unJ_I, unJ_J, unJ_F, unJ_R, unJ_N, unJ_U, pushR_I, pushR_J, pushR_F, pushR_R, pushR_N, pushR_U, rfV_s, rfV_n, Option.bind_some, true_or, or_true, if_true, c_in, b01_0]
      rw [if_neg (by omega), if_neg (by omega), if_neg (by omega), sl]
      simp only [s1045_37, s1045_39, s1045_41, s1045_44, s1045_46, unJ_I, unJ_J, unJ_F, unJ_R, unJ_N, unJ_U, pushR_I, pushR_J, pushR_F, pushR_R, pushR_N, pushR_U, rfV_s, rfV_n, Option.bind_some, true_or, or_true, if_true]
      rw [if_neg (by omega)]
  · rw [if_neg h1]
    refine ⟨J, M, T, ?_, h⟩
    simp only [s1045_0, s1045_1, s1045_4, s1045_5, s1045_6, s1045_7, s1045_10, s1045_13, s1045_16, s1045_17, s1045_18, s1045_21, s1045_24, s1045_27, s1045_30, s1045_31, unJ_I, unJ_J, unJ_F, unJ_R, unJ_N, unJ_U, pushR_I, pushR_J, pushR_F, pushR_R, pushR_N, pushR_U, rfV_s, rfV_n, Option.bind_some, true_or, or_true, if_true, c_in, b01_0]
    repeat' split
    all_goals first | rfl | (exfalso; omega)
theorem okY.kn (h : okY X) {k : Int} (hk : 0 ≤ k ∧ k ≤ 1) : kndN X.1.1 k ≤ 6 := by
  have : k = 0 ∨ k = 1 := by omega
  rcases this with rfl | rfl
  · exact h.1.1
  · exact h.1.2.1
theorem w_move (h : Mod J M X) (ho : okX t X) (hy : okY X) (l k : Int) : Dom 1025 [vR 10 0, vI l, vI k, vU] q C J M T (vI (aMove X l k).1) (aMove X l k).2 := by
  obtain ⟨⟨gs, a, b⟩, -⟩ := id h
  have sl := w_slot q (C := C) (J := J) (T := T) a l
  unfold aMove
  by_cases h1 : 0 ≤ l ∧ 0 ≤ k ∧ k ≤ 1
  · rw [if_pos h1]
    have kn := hy.kn h1.2
    by_cases hf : fnd X.1.1 l < X.1.1.length
    · rw [if_pos hf]
      rw [if_pos hf] at sl
      have l12 := ho.2.1.2.1
      have at4 := w_at q (C := C) (J := J) (T := T) a hf (show 4 < 14 by omega)
      have lk := w_lots q (C := C) (J := J) (T := T) a k
      have run : rs 1025 0 [vR 10 0, vI l, vI k, vU] [] (SX q, C, (J, M, T)) = if (lt X.1.1 (fnd X.1.1 l)).1 4 = k then some (vI (-2), (SX q, C, (J, M, T))) else if kndN X.1.1 k = 6 then some (vI (-3), (SX q, C, (J, M, T))) else rs 1025 55 [vR 10 0, vI l, vI k, vI (fnd X.1.1 l : Int)] [] (SX q, C, (J, M, T)) := by
        simp only [s1025_0, s1025_1, s1025_4, s1025_5, s1025_6, s1025_7, s1025_8, s1025_11, s1025_14, s1025_15, s1025_16, s1025_17, s1025_18, unJ_I, unJ_J, unJ_F, unJ_R, unJ_N, unJ_U, pushR_I, pushR_J, pushR_F, pushR_R, pushR_N, pushR_U, rfV_s, rfV_n, Option.bind_some, true_or, or_true, if_true, c_in, b01_0]
        rw [if_neg (by omega), if_neg (by omega), sl]
        simp only [s1025_21, s1025_22, s1025_23, s1025_26, s1025_28, s1025_29, s1025_30, s1025_31, s1025_32, unJ_I, unJ_J, unJ_F, unJ_R, unJ_N, unJ_U, pushR_I, pushR_J, pushR_F, pushR_R, pushR_N, pushR_U, rfV_s, rfV_n, Option.bind_some, true_or, or_true, if_true]
        rw [if_pos (by omega)]
        refine (congrArg (fun o => Option.bind o _) at4).trans ?_
        simp only [s1025_35, s1025_36, s1025_39, s1025_41, s1025_42, s1025_43, s1025_44, s1025_47, s1025_49, s1025_52, s1025_54, unJ_I, unJ_J, unJ_F, unJ_R, unJ_N, unJ_U, pushR_I, pushR_J, pushR_F, pushR_R, pushR_N, pushR_U, rfV_s, rfV_n, Option.bind_some, true_or, or_true, if_true, lk]
      by_cases h2 : (lt X.1.1 (fnd X.1.1 l)).1 4 = k
      · rw [if_pos h2]
        exact ⟨J, M, T, run.trans (if_pos h2), h⟩
      · rw [if_neg h2]
        rw [if_neg h2] at run
        by_cases h3 : 6 ≤ kndN X.1.1 k
        · rw [if_pos h3]
          exact ⟨J, M, T, run.trans (if_pos (by omega)), h⟩
        · rw [if_neg h3]
          rw [if_neg (by omega)] at run
          obtain ⟨J1, M1, e1, k1, k2, k3⟩ := w_change q (C := C) (T := T) h
          have a2 : MRow (M1 0) X.1 gs := by rw [k3 0 (by omega) (by omega)]; exact a
          have pt := c_mput q (C := C) (J := J1) (M := M1) (T := T) (s := fnd X.1.1 l) (w := 4) (by omega) (by omega) k
          have lk2 := w_lots q (C := C) (J := J1) (T := T) (a2.setN hf (show 4 < 14 by omega) k) k
          refine ⟨J1, up2 M1 0 (40 + 14 * fnd X.1.1 l + 4) k, T, ?_, w_setN k1 hf (by omega) (by omega) k⟩
          rw [run]
          simp only [s1025_55, s1025_56, s1025_59, s1025_60, s1025_61, s1025_62, s1025_63, unJ_I, unJ_J, unJ_F, unJ_R, unJ_N, unJ_U, pushR_I, pushR_J, pushR_F, pushR_R, pushR_N, pushR_U, rfV_s, rfV_n, Option.bind_some, true_or, or_true, if_true, e1]
          refine (congrArg (fun o => Option.bind o _) pt).trans ?_
          simp only [s1025_66, s1025_67, s1025_68, s1025_71, unJ_I, unJ_J, unJ_F, unJ_R, unJ_N, unJ_U, pushR_I, pushR_J, pushR_F, pushR_R, pushR_N, pushR_U, rfV_s, rfV_n, Option.bind_some, true_or, or_true, if_true, lk2]
    · rw [if_neg hf]
      rw [if_neg hf] at sl
      refine ⟨J, M, T, ?_, h⟩
      simp only [s1025_0, s1025_1, s1025_4, s1025_5, s1025_6, s1025_7, s1025_8, s1025_11, s1025_14, s1025_15, s1025_16, s1025_17, s1025_18, unJ_I, unJ_J, unJ_F, unJ_R, unJ_N, unJ_U, pushR_I, pushR_J, pushR_F, pushR_R, pushR_N, pushR_U, rfV_s, rfV_n, Option.bind_some, true_or, or_true, if_true, c_in, b01_0]
      rw [if_neg (by omega), if_neg (by omega), sl]
      simp only [s1025_21, s1025_22, s1025_23, s1025_26, s1025_28, unJ_I, unJ_J, unJ_F, unJ_R, unJ_N, unJ_U, pushR_I, pushR_J, pushR_F, pushR_R, pushR_N, pushR_U, rfV_s, rfV_n, Option.bind_some, true_or, or_true, if_true]
      rw [if_neg (by omega)]
  · rw [if_neg h1]
    refine ⟨J, M, T, ?_, h⟩
    simp only [s1025_0, s1025_1, s1025_4, s1025_5, s1025_6, s1025_7, s1025_8, s1025_11, s1025_14, s1025_15, unJ_I, unJ_J, unJ_F, unJ_R, unJ_N, unJ_U, pushR_I, pushR_J, pushR_F, pushR_R, pushR_N, pushR_U, rfV_s, rfV_n, Option.bind_some, true_or, or_true, if_true, c_in, b01_0]
    repeat' split
    all_goals first | rfl | (exfalso; omega)
theorem w_recipe (h : Mod J M X) (ho : okX t X) (hy : okY X) (l p : Int) : Dom 1040 [vR 10 0, vI l, vI p, vU] q C J M T (vI (aRecipe X l p).1) (aRecipe X l p).2 := by
  obtain ⟨⟨gs, a, b⟩, -⟩ := id h
  have sl := w_slot q (C := C) (J := J) (T := T) a l
  have r6 := hy.1.2.2
  have oy := ky_recipe ho hy l p
  unfold aRecipe at oy ⊢
  by_cases h1 : 0 ≤ l ∧ 0 ≤ p ∧ p ≤ 20
  · rw [if_pos h1] at oy ⊢
    by_cases hf : fnd X.1.1 l < X.1.1.length
    · rw [if_pos hf] at oy ⊢
      rw [if_pos hf] at sl
      have l12 := ho.2.1.2.1
      obtain ⟨J0, M0, e0, x1, x2, x3, x4, x5⟩ := w_mix q (C := C) (J := J) (T := T) a r6
      have h0 : Mod J0 M0 X := h.same (x4 _ _ (by omega) (by omega)) (x4 _ _ (by omega) (by omega)) (fun k _ => by rw [x5 0 (by omega) (by omega)]) (x5 2 (by omega) (by omega)) (x5 3 (by omega) (by omega))
      have a0 : MRow (M0 0) X.1 gs := by rw [x5 0 (by omega) (by omega)]; exact a
      have at5 := w_at q (C := C) (J := J0) (T := T) a0 hf (show 5 < 14 by omega)
      have run : rs 1040 0 [vR 10 0, vI l, vI p, vU] [] (SX q, C, (J, M, T)) = if p ≤ 0 then rs 1040 60 [vR 10 0, vI l, vI p, vI (fnd X.1.1 l : Int)] [] (SX q, C, (J0, M0, T)) else if (lt X.1.1 (fnd X.1.1 l)).1 5 = 0 then (if rcpN X.1.1 = 6 then some (vI (-3), (SX q, C, (J0, M0, T))) else rs 1040 60 [vR 10 0, vI l, vI p, vI (fnd X.1.1 l : Int)] [] (SX q, C, (J0, M0, T))) else rs 1040 60 [vR 10 0, vI l, vI p, vI (fnd X.1.1 l : Int)] [] (SX q, C, (J0, M0, T)) := by
        simp only [s1040_0, s1040_1, s1040_4, s1040_5, s1040_6, s1040_7, s1040_10, s1040_13, s1040_16, s1040_17, s1040_18, s1040_19, s1040_20, unJ_I, unJ_J, unJ_F, unJ_R, unJ_N, unJ_U, pushR_I, pushR_J, pushR_F, pushR_R, pushR_N, pushR_U, rfV_s, rfV_n, Option.bind_some, true_or, or_true, if_true, c_in, b01_0]
        rw [if_neg (by omega), if_neg (by omega), sl]
        simp only [s1040_23, s1040_24, s1040_25, s1040_28, s1040_30, s1040_31, s1040_32, s1040_35, s1040_36, s1040_39, s1040_40, s1040_41, s1040_42, unJ_I, unJ_J, unJ_F, unJ_R, unJ_N, unJ_U, pushR_I, pushR_J, pushR_F, pushR_R, pushR_N, pushR_U, rfV_s, rfV_n, Option.bind_some, true_or, or_true, if_true, e0]
        rw [if_pos (by omega)]
        by_cases hp : p ≤ 0
        · rw [if_pos hp, if_pos hp]
        · rw [if_neg hp, if_neg hp]
          refine (congrArg (fun o => Option.bind o _) at5).trans ?_
          simp only [s1040_45, s1040_48, s1040_49, s1040_52, s1040_54, s1040_57, s1040_59, unJ_I, unJ_J, unJ_F, unJ_R, unJ_N, unJ_U, pushR_I, pushR_J, pushR_F, pushR_R, pushR_N, pushR_U, rfV_s, rfV_n, Option.bind_some, true_or, or_true, if_true, x1]
      by_cases h2 : 0 < p ∧ (lt X.1.1 (fnd X.1.1 l)).1 5 = 0 ∧ 6 ≤ rcpN X.1.1
      · rw [if_pos h2]
        exact ⟨J0, M0, T, run.trans (by rw [if_neg (by omega), if_pos h2.2.1, if_pos (by omega)]), h0⟩
      · rw [if_neg h2] at oy ⊢
        have run2 : rs 1040 0 [vR 10 0, vI l, vI p, vU] [] (SX q, C, (J, M, T)) = rs 1040 60 [vR 10 0, vI l, vI p, vI (fnd X.1.1 l : Int)] [] (SX q, C, (J0, M0, T)) := by
          rw [run]
          repeat' split
          all_goals first | rfl | (exfalso; omega)
        obtain ⟨J1, M1, e1, k1, k2, k3⟩ := w_change q (C := C) (T := T) h0
        have a2 : MRow (M1 0) X.1 gs := by rw [k3 0 (by omega) (by omega)]; exact a0
        have pt := c_mput q (C := C) (J := J1) (M := M1) (T := T) (s := fnd X.1.1 l) (w := 5) (by omega) (by omega) p
        have a3 := a2.setN hf (show 5 < 14 by omega) p
        obtain ⟨J3, M3, e3, y1, y2, y3, y4, y5⟩ := w_mix q (C := C) (J := J1) (T := T) a3 oy.1.2.2
        have h3 := w_setN k1 hf (k := 5) (by omega) (by omega) p
        refine ⟨J3, M3, T, ?_, h3.same (y4 _ _ (by omega) (by omega)) (y4 _ _ (by omega) (by omega)) (fun k _ => by rw [y5 0 (by omega) (by omega)]) (y5 2 (by omega) (by omega)) (y5 3 (by omega) (by omega))⟩
        rw [run2]
        simp only [s1040_60, s1040_61, s1040_64, s1040_65, s1040_66, s1040_67, s1040_68, unJ_I, unJ_J, unJ_F, unJ_R, unJ_N, unJ_U, pushR_I, pushR_J, pushR_F, pushR_R, pushR_N, pushR_U, rfV_s, rfV_n, Option.bind_some, true_or, or_true, if_true, e1]
        refine (congrArg (fun o => Option.bind o _) pt).trans ?_
        simp only [s1040_71, s1040_72, s1040_75, s1040_76, s1040_79, unJ_I, unJ_J, unJ_F, unJ_R, unJ_N, unJ_U, pushR_I, pushR_J, pushR_F, pushR_R, pushR_N, pushR_U, rfV_s, rfV_n, Option.bind_some, true_or, or_true, if_true, e3, y1]
    · rw [if_neg hf]
      rw [if_neg hf] at sl
      refine ⟨J, M, T, ?_, h⟩
      simp only [s1040_0, s1040_1, s1040_4, s1040_5, s1040_6, s1040_7, s1040_10, s1040_13, s1040_16, s1040_17, s1040_18, s1040_19, s1040_20, unJ_I, unJ_J, unJ_F, unJ_R, unJ_N, unJ_U, pushR_I, pushR_J, pushR_F, pushR_R, pushR_N, pushR_U, rfV_s, rfV_n, Option.bind_some, true_or, or_true, if_true, c_in, b01_0]
      rw [if_neg (by omega), if_neg (by omega), sl]
      simp only [s1040_23, s1040_24, s1040_25, s1040_28, s1040_30, unJ_I, unJ_J, unJ_F, unJ_R, unJ_N, unJ_U, pushR_I, pushR_J, pushR_F, pushR_R, pushR_N, pushR_U, rfV_s, rfV_n, Option.bind_some, true_or, or_true, if_true]
      rw [if_neg (by omega)]
  · rw [if_neg h1]
    refine ⟨J, M, T, ?_, h⟩
    simp only [s1040_0, s1040_1, s1040_4, s1040_5, s1040_6, s1040_7, s1040_10, s1040_13, s1040_16, s1040_17, unJ_I, unJ_J, unJ_F, unJ_R, unJ_N, unJ_U, pushR_I, pushR_J, pushR_F, pushR_R, pushR_N, pushR_U, rfV_s, rfV_n, Option.bind_some, true_or, or_true, if_true, c_in, b01_0]
    repeat' split
    all_goals first | rfl | (exfalso; omega)
end
