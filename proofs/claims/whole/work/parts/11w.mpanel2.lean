/-! THE MODEL CALLS: panel, ranked -/
theorem cnt_cu2 {p : Nat → Prop} [DecidablePred p] {n m : Nat} (h : n ≤ m) (hp : ∀ j, n ≤ j → j < m → ¬ p j) : cntU p m = cntU p n := by
  induction m with
  | zero => rw [show n = 0 by omega]
  | succ m ih =>
    by_cases e : n = m + 1
    · rw [e]
    · show cntU p m + (if p m then 1 else 0) = cntU p n
      rw [if_neg (hp m (by omega) (by omega)), Int.add_zero]
      exact ih (by omega) (fun j a b => hp j a (by omega))
section
variable (q : Nat × (Nat → Int)) {C : MC} {J M T : M2} {t : Int} {X : XS} {σ : St} {gs : List Gx} {s : Nat}
/-- counted -/
theorem w_cnt (h : MRow (M 0) σ gs) (hs : s < σ.1.length) (hd : okSc (lt σ.1 s).1) (hq : 0 < scN (lt σ.1 s)) (o : Int) : ∃ M', rs 1048 0 [vR 10 0, vI (s : Int), vI o, vU, vU, vU, vU] [] (SX q, C, (J, M, T)) = some (vI (if o = 0 then kepN (lt σ.1 s).1 (σ.2.2.1 1) 8 else kepS (lt σ.1 s).1 (σ.2.2.1 1) 8), (SX q, C, (J, M', T))) ∧ W10 M M' := by
  obtain ⟨M1, e1, k1⟩ := w_mid q (C := C) (J := J) (T := T) h hs hd hq
  have hM : MRow (M1 0) σ gs := by rw [k1 0 (by omega)]; exact h
  have loop := rs_loop (m := 1048) (pc := 12) (fun t => [vR 10 0, vI (s : Int), vI o, vI (midU (lt σ.1 s).1), vI (if o = 0 then kepN (lt σ.1 s).1 (σ.2.2.1 1) t else kepS (lt σ.1 s).1 (σ.2.2.1 1) t), vI (t : Int), vU]) (fun _ => (SX q, C, (J, M1, T))) 8 (fun t ht => by
    obtain ⟨e6, at6⟩ := w_sco q (C := C) (J := J) (T := T) hM hs ht
    have ou := w_out q (C := C) (J := J) (T := T) hM hs hd hq ht
    have dt := hd t ht
    have kr := kep_r (lt σ.1 s).1 hd (σ.2.2.1 1) t (by omega)
    have et : Unit → w32 ((t : Int) + 1) = ((t + 1 : Nat) : Int) := fun _ => by rw [w32_id (by omega) (by omega)]; omega
    have go : ∀ v : Int, (isKept (lt σ.1 s).1 (σ.2.2.1 1) t → v = 1) → (¬ isKept (lt σ.1 s).1 (σ.2.2.1 1) t → v = 0) → rs 1048 48 [vR 10 0, vI (s : Int), vI o, vI (midU (lt σ.1 s).1), vI (if o = 0 then kepN (lt σ.1 s).1 (σ.2.2.1 1) t else kepS (lt σ.1 s).1 (σ.2.2.1 1) t), vI (t : Int), vU] [vI v] (SX q, C, (J, M1, T)) = rs 1048 12 [vR 10 0, vI (s : Int), vI o, vI (midU (lt σ.1 s).1), vI (if o = 0 then kepN (lt σ.1 s).1 (σ.2.2.1 1) (t + 1) else kepS (lt σ.1 s).1 (σ.2.2.1 1) (t + 1)), vI ((t + 1 : Nat) : Int), vU] [] (SX q, C, (J, M1, T)) := fun v v1 v0 => by
      rw [kepN_s, kepS_s]
      by_cases hk : isKept (lt σ.1 s).1 (σ.2.2.1 1) t
      · rw [v1 hk, if_pos hk, if_pos hk]
        simp only [s1048_48, s1048_50, s1048_52, unJ_I, unJ_J, unJ_F, unJ_R, unJ_N, unJ_U, pushR_I, pushR_J, pushR_F, pushR_R, pushR_N, pushR_U, rfV_s, rfV_n, Option.bind_some, true_or, or_true, if_true]
        rw [s1048_54, if_neg (by omega)]
        by_cases ho : o = 0
        · subst ho
          have en : Unit → w32 (kepN (lt σ.1 s).1 (σ.2.2.1 1) t + 1) = kepN (lt σ.1 s).1 (σ.2.2.1 1) t + 1 := fun _ => w32_id (by omega) (by omega)
          simp only [s1048_61, s1048_62, s1048_78, s1048_79, s1048_80, s1048_82, s1048_85, unJ_I, unJ_J, unJ_F, unJ_R, unJ_N, unJ_U, pushR_I, pushR_J, pushR_F, pushR_R, pushR_N, pushR_U, rfV_s, rfV_n, Option.bind_some, true_or, or_true, if_true, en (), et ()]
        · have es : Unit → w32 (kepS (lt σ.1 s).1 (σ.2.2.1 1) t + (lt σ.1 s).1 (6 + t)) = kepS (lt σ.1 s).1 (σ.2.2.1 1) t + (lt σ.1 s).1 (6 + t) := fun _ => w32_id (by omega) (by omega)
          rw [if_neg ho, if_neg ho]
          simp only [s1048_61, unJ_I, unJ_J, unJ_F, unJ_R, unJ_N, unJ_U, pushR_I, pushR_J, pushR_F, pushR_R, pushR_N, pushR_U, rfV_s, rfV_n, Option.bind_some, true_or, or_true, if_true]
          rw [s1048_62, if_neg ho]
          simp only [s1048_65, s1048_66, s1048_67, s1048_69, s1048_71, s1048_72, unJ_I, unJ_J, unJ_F, unJ_R, unJ_N, unJ_U, pushR_I, pushR_J, pushR_F, pushR_R, pushR_N, pushR_U, rfV_s, rfV_n, Option.bind_some, true_or, or_true, if_true, e6, at6]
          simp only [s1048_75, s1048_78, s1048_79, s1048_80, s1048_82, s1048_85, unJ_I, unJ_J, unJ_F, unJ_R, unJ_N, unJ_U, pushR_I, pushR_J, pushR_F, pushR_R, pushR_N, pushR_U, rfV_s, rfV_n, Option.bind_some, true_or, or_true, if_true, es (), et ()]
      · have en : Unit → w32 (kepN (lt σ.1 s).1 (σ.2.2.1 1) t + 0) = kepN (lt σ.1 s).1 (σ.2.2.1 1) t + 0 := fun _ => w32_id (by omega) (by omega)
        have es : Unit → w32 (kepS (lt σ.1 s).1 (σ.2.2.1 1) t + 0) = kepS (lt σ.1 s).1 (σ.2.2.1 1) t + 0 := fun _ => w32_id (by omega) (by omega)
        rw [v0 hk, if_neg hk, if_neg hk]
        simp only [s1048_48, s1048_50, s1048_52, unJ_I, unJ_J, unJ_F, unJ_R, unJ_N, unJ_U, pushR_I, pushR_J, pushR_F, pushR_R, pushR_N, pushR_U, rfV_s, rfV_n, Option.bind_some, true_or, or_true, if_true]
        rw [s1048_54, if_pos rfl]
        by_cases ho : o = 0
        · rw [if_pos ho, if_pos ho]
          simp only [s1048_57, s1048_58, s1048_61, s1048_62, s1048_65, s1048_66, s1048_67, s1048_69, s1048_71, s1048_72, s1048_75, s1048_78, s1048_79, s1048_80, s1048_82, s1048_85, unJ_I, unJ_J, unJ_F, unJ_R, unJ_N, unJ_U, pushR_I, pushR_J, pushR_F, pushR_R, pushR_N, pushR_U, rfV_s, rfV_n, Option.bind_some, true_or, or_true, if_true, en (), et ()]
        · rw [if_neg ho, if_neg ho]
          simp only [s1048_57, s1048_58, s1048_61, s1048_62, s1048_65, s1048_66, s1048_67, s1048_69, s1048_71, s1048_72, s1048_75, s1048_78, s1048_79, s1048_80, s1048_82, s1048_85, unJ_I, unJ_J, unJ_F, unJ_R, unJ_N, unJ_U, pushR_I, pushR_J, pushR_F, pushR_R, pushR_N, pushR_U, rfV_s, rfV_n, Option.bind_some, true_or, or_true, if_true, es (), et ()]
    rw [s1048_12]
    simp only [s1048_14, s1048_16, s1048_19, s1048_20, s1048_21, s1048_23, s1048_25, s1048_26, unJ_I, unJ_J, unJ_F, unJ_R, unJ_N, unJ_U, pushR_I, pushR_J, pushR_F, pushR_R, pushR_N, pushR_U, rfV_s, rfV_n, Option.bind_some, true_or, or_true, if_true, e6, at6]
    rw [if_neg (by omega)]
    by_cases hz : (lt σ.1 s).1 (6 + t) = -1
    · rw [s1048_29, if_pos (by omega)]
      simp only [s1048_47, unJ_I, unJ_J, unJ_F, unJ_R, unJ_N, unJ_U, pushR_I, pushR_J, pushR_F, pushR_R, pushR_N, pushR_U, rfV_s, rfV_n, Option.bind_some, true_or, or_true, if_true]
      exact go 0 (fun z => absurd hz z.1) (fun _ => rfl)
    · rw [s1048_29, if_neg (by omega)]
      simp only [s1048_32, s1048_33, s1048_34, s1048_36, s1048_37, unJ_I, unJ_J, unJ_F, unJ_R, unJ_N, unJ_U, pushR_I, pushR_J, pushR_F, pushR_R, pushR_N, pushR_U, rfV_s, rfV_n, Option.bind_some, true_or, or_true, if_true, ou]
      rw [s1048_40]
      unfold b01
      by_cases ho : isOut (lt σ.1 s).1 (σ.2.2.1 1) t
      · rw [if_pos ho, if_neg (by omega)]
        simp only [s1048_47, unJ_I, unJ_J, unJ_F, unJ_R, unJ_N, unJ_U, pushR_I, pushR_J, pushR_F, pushR_R, pushR_N, pushR_U, rfV_s, rfV_n, Option.bind_some, true_or, or_true, if_true]
        exact go 0 (fun z => absurd ho.2 z.2) (fun _ => rfl)
      · rw [if_neg ho, if_pos rfl]
        simp only [s1048_43, s1048_44, unJ_I, unJ_J, unJ_F, unJ_R, unJ_N, unJ_U, pushR_I, pushR_J, pushR_F, pushR_R, pushR_N, pushR_U, rfV_s, rfV_n, Option.bind_some, true_or, or_true, if_true]
        exact go 1 (fun _ => rfl) (fun z => absurd ⟨hz, fun y => ho ⟨hz, y⟩⟩ z))
  refine ⟨M1, ?_, k1⟩
  simp only [s1048_0, s1048_1, s1048_2, unJ_I, unJ_J, unJ_F, unJ_R, unJ_N, unJ_U, pushR_I, pushR_J, pushR_F, pushR_R, pushR_N, pushR_U, rfV_s, rfV_n, Option.bind_some, true_or, or_true, if_true, e1]
  simp only [s1048_5, s1048_6, s1048_7, s1048_9, s1048_10, unJ_I, unJ_J, unJ_F, unJ_R, unJ_N, unJ_U, pushR_I, pushR_J, pushR_F, pushR_R, pushR_N, pushR_U, rfV_s, rfV_n, Option.bind_some, true_or, or_true, if_true]
  have e0 : rs 1048 12 [vR 10 0, vI (s : Int), vI o, vI (midU (lt σ.1 s).1), vI 0, vI 0, vU] [] (SX q, C, (J, M1, T)) = rs 1048 12 [vR 10 0, vI (s : Int), vI o, vI (midU (lt σ.1 s).1), vI (if o = 0 then kepN (lt σ.1 s).1 (σ.2.2.1 1) 0 else kepS (lt σ.1 s).1 (σ.2.2.1 1) 0), vI ((0 : Nat) : Int), vU] [] (SX q, C, (J, M1, T)) := by
    have : (if o = 0 then kepN (lt σ.1 s).1 (σ.2.2.1 1) 0 else kepS (lt σ.1 s).1 (σ.2.2.1 1) 0) = 0 := by split <;> rfl
    rw [this]; rfl
  refine e0.trans (loop.trans ?_)
  rw [s1048_12]
  simp only [s1048_14, s1048_16, s1048_88, s1048_90, unJ_I, unJ_J, unJ_F, unJ_R, unJ_N, unJ_U, pushR_I, pushR_J, pushR_F, pushR_R, pushR_N, pushR_U, rfV_s, rfV_n, Option.bind_some, true_or, or_true, if_true]
  rw [if_pos (by omega)]
/-- markOf -/
theorem w_mark (h : MRow (M 0) σ gs) (hs : s < σ.1.length) (hd : okSc (lt σ.1 s).1) (hq : 0 < scN (lt σ.1 s)) (hsp : 0 ≤ σ.2.2.1 1) : ∃ M', rs 1049 0 [vR 10 0, vI (s : Int)] [] (SX q, C, (J, M, T)) = some (vF (mrkU (lt σ.1 s).1 (σ.2.2.1 1)), (SX q, C, (J, M', T))) ∧ W10 M M' := by
  obtain ⟨M1, e1, k1⟩ := w_cnt q (C := C) (J := J) (T := T) h hs hd hq 1
  have hM : MRow (M1 0) σ gs := by rw [k1 0 (by omega)]; exact h
  obtain ⟨M2', e2, k2⟩ := w_cnt q (C := C) (J := J) (T := T) hM hs hd hq 0
  have mk := (mrk_f (d := (lt σ.1 s).1) hd hsp hq).1
  refine ⟨M2', ?_, k1.tr k2⟩
  simp only [s1049_0, s1049_1, s1049_2, s1049_3, unJ_I, unJ_J, unJ_F, unJ_R, unJ_N, unJ_U, pushR_I, pushR_J, pushR_F, pushR_R, pushR_N, pushR_U, rfV_s, rfV_n, Option.bind_some, true_or, or_true, if_true, e1]
  rw [if_neg (by omega)]
  simp only [s1049_6, s1049_7, s1049_8, s1049_9, s1049_10, unJ_I, unJ_J, unJ_F, unJ_R, unJ_N, unJ_U, pushR_I, pushR_J, pushR_F, pushR_R, pushR_N, pushR_U, rfV_s, rfV_n, Option.bind_some, true_or, or_true, if_true, e2]
  simp only [s1049_13, s1049_14, unJ_I, unJ_J, unJ_F, unJ_R, unJ_N, unJ_U, pushR_I, pushR_J, pushR_F, pushR_R, pushR_N, pushR_U, rfV_s, rfV_n, Option.bind_some, true_or, or_true, if_true]
  have mk' : f_ok (FP.fdiv (f_i2f (kepS (lt σ.1 s).1 (σ.2.2.1 1) 8)) (f_i2f (kepN (lt σ.1 s).1 (σ.2.2.1 1) 8))) = true := mk
  rw [if_pos mk', s1049_15]
  rfl
theorem w_panel (h : Mod J M X) (ho : okX t X) (l x : Int) : Dom 1050 [vR 10 0, vI l, vI x, vU, vU, vU] q C J M T (vI (aPanel X l x)) X := by
  obtain ⟨⟨gs, a, b⟩, -⟩ := id h
  have sl := w_slot q (C := C) (J := J) (T := T) a l
  have st1 := ho.2.1.2.2.2.1.2.1
  have w10 : ∀ M', W10 M M' → Mod J M' X := fun M' k => h.same rfl rfl (fun _ _ => by rw [k 0 (by omega)]) (k 2 (by omega)) (k 3 (by omega))
  unfold aPanel
  by_cases h1 : 0 ≤ l ∧ 0 ≤ x ∧ x ≤ 4
  · rw [if_pos h1]
    by_cases hf : fnd X.1.1 l < X.1.1.length
    · rw [if_pos hf] at sl
      obtain ⟨o1, o2⟩ := ho.2.1.1 _ hf
      have hd : okSc (lt X.1.1 (fnd X.1.1 l)).1 := o1.sc
      have sc := w_scores q (C := C) (J := J) (T := T) a hf hd
      have run : rs 1050 0 [vR 10 0, vI l, vI x, vU, vU, vU] [] (SX q, C, (J, M, T)) = if scN (lt X.1.1 (fnd X.1.1 l)) = 0 then some (vI (-4), (SX q, C, (J, M, T))) else rs 1050 45 [vR 10 0, vU, vI x, vI (fnd X.1.1 l : Int), vI 0, vI 0] [] (SX q, C, (J, M, T)) := by
        simp only [s1050_0, s1050_1, s1050_4, s1050_5, s1050_6, s1050_7, s1050_10, s1050_13, s1050_16, s1050_17, s1050_18, s1050_19, s1050_20, unJ_I, unJ_J, unJ_F, unJ_R, unJ_N, unJ_U, pushR_I, pushR_J, pushR_F, pushR_R, pushR_N, pushR_U, rfV_s, rfV_n, Option.bind_some, true_or, or_true, if_true, c_in, b01_0]
        rw [if_neg (by omega), if_neg (by omega)]
        simp only [s1050_20, unJ_I, unJ_J, unJ_F, unJ_R, unJ_N, unJ_U, pushR_I, pushR_J, pushR_F, pushR_R, pushR_N, pushR_U, rfV_s, rfV_n, Option.bind_some, true_or, or_true, if_true, sl]
        simp only [s1050_23, s1050_24, s1050_25, unJ_I, unJ_J, unJ_F, unJ_R, unJ_N, unJ_U, pushR_I, pushR_J, pushR_F, pushR_R, pushR_N, pushR_U, rfV_s, rfV_n, Option.bind_some, true_or, or_true, if_true]
        rw [if_neg (by omega)]
        simp only [s1050_28, s1050_29, s1050_30, s1050_33, s1050_36, s1050_38, s1050_39, s1050_40, s1050_42, s1050_43, unJ_I, unJ_J, unJ_F, unJ_R, unJ_N, unJ_U, pushR_I, pushR_J, pushR_F, pushR_R, pushR_N, pushR_U, rfV_s, rfV_n, Option.bind_some, true_or, or_true, if_true, sc]
      have n0 := (cntU_r (fun t => (lt X.1.1 (fnd X.1.1 l)).1 (6 + t) ≠ -1) 8).1
      have sn : scN (lt X.1.1 (fnd X.1.1 l)) = cntU (fun t => (lt X.1.1 (fnd X.1.1 l)).1 (6 + t) ≠ -1) 8 := rfl
      by_cases hq : 0 < scN (lt X.1.1 (fnd X.1.1 l))
      · rw [if_pos ⟨hf, hq⟩]
        rw [if_neg (by omega)] at run
        generalize hsd : fnd X.1.1 l = s at hf hd sc run hq o1 o2
        obtain ⟨ls', μ', e, Ma, rfl, rfl, k1⟩ := rs_loopP (m := 1050) (pc := 45) (ls := [vR 10 0, vU, vI x, vI (s : Int), vI 0, vI 0]) (μ := (SX q, C, (J, M, T))) (fun t ls μ => ∃ M', μ = (SX q, C, (J, M', T)) ∧ ls = [vR 10 0, vU, vI x, vI (s : Int), vI (outU (lt X.1.1 s).1 (X.1.2.2.1 1) t), vI (t : Int)] ∧ W10 M M') 8
          ⟨_, rfl, rfl, W10.rf M⟩ (fun t ht ls μ ⟨M', e1, e2, k1⟩ => by
            subst e1 e2
            have hM : MRow (M' 0) X.1 gs := by rw [k1 0 (by omega)]; exact a
            obtain ⟨M3, e3, k3⟩ := w_mid q (C := C) (J := J) (T := T) hM hf hd hq
            have hM3 : MRow (M3 0) X.1 gs := by rw [k3 0 (by omega)]; exact hM
            have ou := w_out q (C := C) (J := J) (T := T) hM3 hf hd hq ht
            have et : Unit → w32 ((t : Int) + 1) = ((t + 1 : Nat) : Int) := fun _ => by rw [w32_id (by omega) (by omega)]; omega
            refine ⟨[vR 10 0, vU, vI x, vI (s : Int), vI (outU (lt X.1.1 s).1 (X.1.2.2.1 1) (t + 1)), vI ((t + 1 : Nat) : Int)], _, ?_, M3, rfl, rfl, k1.tr k3⟩
            rw [s1050_45]
            simp only [s1050_47, s1050_49, s1050_52, s1050_54, s1050_55, s1050_56, s1050_58, s1050_59, s1050_60, unJ_I, unJ_J, unJ_F, unJ_R, unJ_N, unJ_U, pushR_I, pushR_J, pushR_F, pushR_R, pushR_N, pushR_U, rfV_s, rfV_n, Option.bind_some, true_or, or_true, if_true, e3]
            rw [if_neg (by omega)]
            simp only [s1050_63, unJ_I, unJ_J, unJ_F, unJ_R, unJ_N, unJ_U, pushR_I, pushR_J, pushR_F, pushR_R, pushR_N, pushR_U, rfV_s, rfV_n, Option.bind_some, true_or, or_true, if_true, ou]
            rw [s1050_66, outU_s]
            unfold b01
            by_cases hz : isOut (lt X.1.1 s).1 (X.1.2.2.1 1) t
            · rw [if_pos hz, if_pos hz, if_neg (by omega)]
              simp only [s1050_69, s1050_70, s1050_72, s1050_73, s1050_76, s1050_77, s1050_78, s1050_80, s1050_83, unJ_I, unJ_J, unJ_F, unJ_R, unJ_N, unJ_U, pushR_I, pushR_J, pushR_F, pushR_R, pushR_N, pushR_U, rfV_s, rfV_n, Option.bind_some, true_or, or_true, if_true, et ()]
            · obtain ⟨Y, eY⟩ := outU_32 (lt X.1.1 s).1 (X.1.2.2.1 1) t
              have z0 : i_or (outU (lt X.1.1 s).1 (X.1.2.2.1 1) t) 0 = outU (lt X.1.1 s).1 (X.1.2.2.1 1) t := by rw [eY]; exact i_or_z Y
              rw [if_neg hz, if_neg hz, if_pos rfl]
              simp only [s1050_76, s1050_77, s1050_78, s1050_80, s1050_83, unJ_I, unJ_J, unJ_F, unJ_R, unJ_N, unJ_U, pushR_I, pushR_J, pushR_F, pushR_R, pushR_N, pushR_U, rfV_s, rfV_n, Option.bind_some, true_or, or_true, if_true, et (), z0])
        have hM : MRow (Ma 0) X.1 gs := by rw [k1 0 (by omega)]; exact a
        have run2 : rs 1050 0 [vR 10 0, vI l, vI x, vU, vU, vU] [] (SX q, C, (J, M, T)) = rs 1050 87 [vR 10 0, vU, vI x, vI (s : Int), vI (outU (lt X.1.1 s).1 (X.1.2.2.1 1) 8), vI ((8 : Nat) : Int)] [vI x] (SX q, C, (J, Ma, T)) := by
          rw [run]
          refine e.trans ?_
          rw [s1050_45]
          simp only [s1050_47, s1050_49, s1050_86, unJ_I, unJ_J, unJ_F, unJ_R, unJ_N, unJ_U, pushR_I, pushR_J, pushR_F, pushR_R, pushR_N, pushR_U, rfV_s, rfV_n, Option.bind_some, true_or, or_true, if_true]
          rw [if_pos (by omega)]
        obtain ⟨Mm, em, km⟩ := w_mid q (C := C) (J := J) (T := T) hM hf hd hq
        obtain ⟨Mc, ec, kc⟩ := w_cnt q (C := C) (J := J) (T := T) hM hf hd hq 0
        obtain ⟨Mk, ek, kk⟩ := w_mark q (C := C) (J := J) (T := T) hM hf hd hq st1.1
        have mk := mrk_f (d := (lt X.1.1 s).1) hd st1.1 hq
        have hx : x = 0 ∨ x = 1 ∨ x = 2 ∨ x = 3 ∨ x = 4 := by omega
        rcases hx with rfl | rfl | rfl | rfl | rfl
        · refine ⟨J, Mm, T, ?_, w10 _ (k1.tr km)⟩
          rw [run2, s1050_87, if_pos rfl]
          simp only [s1050_116, s1050_117, s1050_118, s1050_121, unJ_I, unJ_J, unJ_F, unJ_R, unJ_N, unJ_U, pushR_I, pushR_J, pushR_F, pushR_R, pushR_N, pushR_U, rfV_s, rfV_n, Option.bind_some, true_or, or_true, if_true, em]
          rfl
        · refine ⟨J, Mc, T, ?_, w10 _ (k1.tr kc)⟩
          rw [run2, s1050_87, if_neg (by omega), if_pos rfl]
          simp only [s1050_122, s1050_123, s1050_124, s1050_125, s1050_128, unJ_I, unJ_J, unJ_F, unJ_R, unJ_N, unJ_U, pushR_I, pushR_J, pushR_F, pushR_R, pushR_N, pushR_U, rfV_s, rfV_n, Option.bind_some, true_or, or_true, if_true, ec]
          rfl
        · refine ⟨J, Ma, T, ?_, w10 _ k1⟩
          rw [run2, s1050_87, if_neg (by omega), if_neg (by omega), if_pos rfl]
          simp only [s1050_129, s1050_131, unJ_I, unJ_J, unJ_F, unJ_R, unJ_N, unJ_U, pushR_I, pushR_J, pushR_F, pushR_R, pushR_N, pushR_U, rfV_s, rfV_n, Option.bind_some, true_or, or_true, if_true]
          rfl
        · refine ⟨J, Mk, T, ?_, w10 _ (k1.tr kk)⟩
          rw [run2, s1050_87, if_neg (by omega), if_neg (by omega), if_neg (by omega), if_pos rfl]
          simp only [s1050_132, s1050_133, s1050_134, unJ_I, unJ_J, unJ_F, unJ_R, unJ_N, unJ_U, pushR_I, pushR_J, pushR_F, pushR_R, pushR_N, pushR_U, rfV_s, rfV_n, Option.bind_some, true_or, or_true, if_true, ek]
          simp only [s1050_137, s1050_140, s1502_0, s1502_1, s1502_4, s1502_7, s1502_8, s1502_11, s1502_12, s1502_14, s1501_0, s1501_1, s1501_2, s1501_3, s1501_6, s1501_7, s1501_10, s1501_11, unJ_I, unJ_J, unJ_F, unJ_R, unJ_N, unJ_U, pushR_I, pushR_J, pushR_F, pushR_R, pushR_N, pushR_U, rfV_s, rfV_n, Option.bind_some, true_or, or_true, if_true, mk.2.1]
          rfl
        · refine ⟨J, Mk, T, ?_, w10 _ (k1.tr kk)⟩
          rw [run2, s1050_87, if_neg (by omega), if_neg (by omega), if_neg (by omega), if_neg (by omega)]
          simp only [s1050_141, s1050_142, s1050_143, s1050_146, s1050_147, unJ_I, unJ_J, unJ_F, unJ_R, unJ_N, unJ_U, pushR_I, pushR_J, pushR_F, pushR_R, pushR_N, pushR_U, rfV_s, rfV_n, Option.bind_some, true_or, or_true, if_true, ek]
          rfl
      · rw [if_neg (fun z => hq z.2)]
        rw [if_pos (by omega)] at run
        exact ⟨J, M, T, run, h⟩
    · rw [if_neg (fun z => hf z.1)]
      rw [if_neg hf] at sl
      refine ⟨J, M, T, ?_, h⟩
      simp only [s1050_0, s1050_1, s1050_4, s1050_5, s1050_6, s1050_7, s1050_10, s1050_13, s1050_16, s1050_17, s1050_18, s1050_19, s1050_20, unJ_I, unJ_J, unJ_F, unJ_R, unJ_N, unJ_U, pushR_I, pushR_J, pushR_F, pushR_R, pushR_N, pushR_U, rfV_s, rfV_n, Option.bind_some, true_or, or_true, if_true, c_in, b01_0]
      rw [if_neg (by omega), if_neg (by omega)]
      simp only [s1050_20, unJ_I, unJ_J, unJ_F, unJ_R, unJ_N, unJ_U, pushR_I, pushR_J, pushR_F, pushR_R, pushR_N, pushR_U, rfV_s, rfV_n, Option.bind_some, true_or, or_true, if_true, sl]
      simp only [s1050_23, s1050_24, s1050_25, s1050_36, s1050_38, unJ_I, unJ_J, unJ_F, unJ_R, unJ_N, unJ_U, pushR_I, pushR_J, pushR_F, pushR_R, pushR_N, pushR_U, rfV_s, rfV_n, Option.bind_some, true_or, or_true, if_true]
      rw [if_pos (by omega)]
  · rw [if_neg h1]
    refine ⟨J, M, T, ?_, h⟩
    simp only [s1050_0, s1050_1, s1050_4, s1050_5, s1050_6, s1050_7, s1050_10, s1050_13, s1050_16, s1050_17, unJ_I, unJ_J, unJ_F, unJ_R, unJ_N, unJ_U, pushR_I, pushR_J, pushR_F, pushR_R, pushR_N, pushR_U, rfV_s, rfV_n, Option.bind_some, true_or, or_true, if_true, c_in, b01_0]
    repeat' split
    all_goals first | rfl | (exfalso; omega)
end
