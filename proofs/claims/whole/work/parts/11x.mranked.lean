/-! THE MODEL CALLS: ranked -/
abbrev ahP (ls : List Lt) (span : Int) (i k : Nat) : Prop := isSc ls k ∧ (0 < f_cmp .l (mrkL ls span k) (mrkL ls span i) ∨ (k < i ∧ f_cmp .l (mrkL ls span k) (mrkL ls span i) = 0))
theorem ah_len {ls : List Lt} (h : ls.length ≤ 12) (span : Int) (i : Nat) : ahU ls span i = cntU (ahP ls span i) ls.length :=
  cnt_cu2 h (fun j a _ z => by have := z.1.1; omega)
theorem rk_end {ls : List Lt} {span p : Int} : ∀ (d i : Nat), ls.length ≤ i → rkU ls span p d i = -4 := by
  intro d
  induction d with
  | zero => intro i _; rfl
  | succ d ih =>
    intro i hi
    unfold rkU
    rw [if_neg (fun z => by have := z.1.1; omega)]
    exact ih (i + 1) (by omega)
section
variable (q : Nat × (Nat → Int)) {C : MC} {J M T : M2} {t : Int} {X : XS} {σ : St} {gs : List Gx} {s : Nat}
/-- what is ahead of a scored lot -/
theorem w_ahead (h : MRow (M 0) σ gs) (hd : ∀ i, i < σ.1.length → okSc (lt σ.1 i).1) (hsp : 0 ≤ σ.2.2.1 1) {i : Nat} (hi : i < σ.1.length) (hq : 0 < scN (lt σ.1 i)) (p : Int) :
    ∃ M', rs 1051 23 [vR 10 0, vI p, vI (i : Int), vI 0, vI 0, vU] [] (SX q, C, (J, M, T)) = rs 1051 113 [vR 10 0, vI p, vI (i : Int), vI (cntU (ahP σ.1 (σ.2.2.1 1) i) σ.1.length), vI (σ.1.length : Int), vU] [] (SX q, C, (J, M', T)) ∧ W10 M M' := by
  have b1 := h.2.1.1
  obtain ⟨ls', μ', e, Ma, rfl, rfl, k1⟩ := rs_loopP (m := 1051) (pc := 23) (ls := [vR 10 0, vI p, vI (i : Int), vI 0, vI 0, vU]) (μ := (SX q, C, (J, M, T))) (fun k ls μ => ∃ M', μ = (SX q, C, (J, M', T)) ∧ ls = [vR 10 0, vI p, vI (i : Int), vI (cntU (ahP σ.1 (σ.2.2.1 1) i) k), vI (k : Int), vU] ∧ W10 M M') σ.1.length
    ⟨_, rfl, rfl, W10.rf M⟩ (fun k hk ls μ ⟨M', e1, e2, k1⟩ => by
      subst e1 e2
      have hM : MRow (M' 0) σ gs := by rw [k1 0 (by omega)]; exact h
      have m00 : M' 0 0 = (σ.1.length : Int) := hM.1.1
      have ek : Unit → w32 ((k : Int) + 1) = ((k + 1 : Nat) : Int) := fun _ => by rw [w32_id (by omega) (by omega)]; omega
      have cr := cntU_r (ahP σ.1 (σ.2.2.1 1) i) k
      have si := w_scores q (C := C) (J := J) (T := T) hM hi (hd i hi)
      have sk := w_scores q (C := C) (J := J) (T := T) hM hk (hd k hk)
      have fin : ∀ (v : Int) (M3 : M2) (l5 : AV), v = (if ahP σ.1 (σ.2.2.1 1) i k then 1 else 0) → rs 1051 92 [vR 10 0, vI p, vI (i : Int), vI (cntU (ahP σ.1 (σ.2.2.1 1) i) k), vI (k : Int), vU] [vI v] (SX q, C, (J, M3, T)) = rs 1051 23 [vR 10 0, vI p, vI (i : Int), vI (cntU (ahP σ.1 (σ.2.2.1 1) i) (k + 1)), vI ((k + 1 : Nat) : Int), vU] [] (SX q, C, (J, M3, T)) := fun v M3 l5 hv => by
        have ec : cntU (ahP σ.1 (σ.2.2.1 1) i) (k + 1) = cntU (ahP σ.1 (σ.2.2.1 1) i) k + v := by rw [hv]; rfl
        rw [ec]
        by_cases z : ahP σ.1 (σ.2.2.1 1) i k
        · rw [if_pos z] at hv
          subst hv
          have e1 : Unit → w32 (cntU (ahP σ.1 (σ.2.2.1 1) i) k + 1) = cntU (ahP σ.1 (σ.2.2.1 1) i) k + 1 := fun _ => w32_id (by omega) (by omega)
          simp only [s1051_92, s1051_94, s1051_95, s1051_97, s1051_100, s1051_101, s1051_104, s1051_105, s1051_106, s1051_107, s1051_110, unJ_I, unJ_J, unJ_F, unJ_R, unJ_N, unJ_U, pushR_I, pushR_J, pushR_F, pushR_R, pushR_N, pushR_U, rfV_s, rfV_n, Option.bind_some, true_or, or_true, if_true, ek (), e1 ()]
          rw [if_neg (by omega)]
        · rw [if_neg z] at hv
          subst hv
          have e1 : Unit → w32 (cntU (ahP σ.1 (σ.2.2.1 1) i) k + 0) = cntU (ahP σ.1 (σ.2.2.1 1) i) k + 0 := fun _ => w32_id (by omega) (by omega)
          simp only [s1051_92, s1051_94, s1051_95, s1051_97, s1051_100, s1051_101, s1051_104, s1051_105, s1051_106, s1051_107, s1051_110, unJ_I, unJ_J, unJ_F, unJ_R, unJ_N, unJ_U, pushR_I, pushR_J, pushR_F, pushR_R, pushR_N, pushR_U, rfV_s, rfV_n, Option.bind_some, true_or, or_true, if_true, ek (), e1 ()]
      rw [s1051_23]
      simp only [s1051_25, s1051_26, s1051_29, s1051_30, unJ_I, unJ_J, unJ_F, unJ_R, unJ_N, unJ_U, pushR_I, pushR_J, pushR_F, pushR_R, pushR_N, pushR_U, rfV_s, rfV_n, Option.bind_some, true_or, or_true, if_true, lm0]
      rw [if_pos (by omega)]
      simp only [Int.toNat_zero, m00]
      rw [s1051_31, if_neg (by omega)]
      simp only [s1051_34, s1051_35, s1051_36, unJ_I, unJ_J, unJ_F, unJ_R, unJ_N, unJ_U, pushR_I, pushR_J, pushR_F, pushR_R, pushR_N, pushR_U, rfV_s, rfV_n, Option.bind_some, true_or, or_true, if_true, si]
      rw [s1051_39, if_neg (by omega)]
      simp only [s1051_42, s1051_43, s1051_45, unJ_I, unJ_J, unJ_F, unJ_R, unJ_N, unJ_U, pushR_I, pushR_J, pushR_F, pushR_R, pushR_N, pushR_U, rfV_s, rfV_n, Option.bind_some, true_or, or_true, if_true, sk]
      rw [s1051_48]
      by_cases hs : 0 < scN (lt σ.1 k)
      · rw [if_neg (by omega)]
        obtain ⟨M3, e3, k3⟩ := w_mark q (C := C) (J := J) (T := T) hM hk (hd k hk) hs hsp
        have hM3 : MRow (M3 0) σ gs := by rw [k3 0 (by omega)]; exact hM
        obtain ⟨M4, e4, k4⟩ := w_mark q (C := C) (J := J) (T := T) hM3 hi (hd i hi) hq hsp
        have hM4 : MRow (M4 0) σ gs := by rw [k4 0 (by omega)]; exact hM3
        have mi : mrkL σ.1 (σ.2.2.1 1) i = mrkU (lt σ.1 i).1 (σ.2.2.1 1) := if_pos ⟨hi, hq⟩
        have mk : mrkL σ.1 (σ.2.2.1 1) k = mrkU (lt σ.1 k).1 (σ.2.2.1 1) := if_pos ⟨hk, hs⟩
        simp only [s1051_51, s1051_52, s1051_54, unJ_I, unJ_J, unJ_F, unJ_R, unJ_N, unJ_U, pushR_I, pushR_J, pushR_F, pushR_R, pushR_N, pushR_U, rfV_s, rfV_n, Option.bind_some, true_or, or_true, if_true, e3]
        simp only [s1051_57, s1051_58, s1051_59, unJ_I, unJ_J, unJ_F, unJ_R, unJ_N, unJ_U, pushR_I, pushR_J, pushR_F, pushR_R, pushR_N, pushR_U, rfV_s, rfV_n, Option.bind_some, true_or, or_true, if_true, e4]
        simp only [s1051_62, unJ_I, unJ_J, unJ_F, unJ_R, unJ_N, unJ_U, pushR_I, pushR_J, pushR_F, pushR_R, pushR_N, pushR_U, rfV_s, rfV_n, Option.bind_some, true_or, or_true, if_true]
        rw [s1051_63]
        by_cases c1 : 0 < f_cmp .l (mrkU (lt σ.1 k).1 (σ.2.2.1 1)) (mrkU (lt σ.1 i).1 (σ.2.2.1 1))
        · rw [if_pos c1]
          simp only [s1051_87, s1051_88, unJ_I, unJ_J, unJ_F, unJ_R, unJ_N, unJ_U, pushR_I, pushR_J, pushR_F, pushR_R, pushR_N, pushR_U, rfV_s, rfV_n, Option.bind_some, true_or, or_true, if_true]
          exact ⟨_, _, fin 1 M4 vU (by rw [if_pos ⟨⟨hk, hs⟩, Or.inl (by rw [mi, mk]; exact c1)⟩]), M4, rfl, rfl, k1.tr (k3.tr k4)⟩
        · rw [if_neg c1]
          obtain ⟨M5, e5, k5⟩ := w_mark q (C := C) (J := J) (T := T) hM4 hk (hd k hk) hs hsp
          have hM5 : MRow (M5 0) σ gs := by rw [k5 0 (by omega)]; exact hM4
          obtain ⟨M6, e6, k6⟩ := w_mark q (C := C) (J := J) (T := T) hM5 hi (hd i hi) hq hsp
          have kk : W10 M M6 := k1.tr (k3.tr (k4.tr (k5.tr k6)))
          simp only [s1051_66, s1051_67, s1051_69, unJ_I, unJ_J, unJ_F, unJ_R, unJ_N, unJ_U, pushR_I, pushR_J, pushR_F, pushR_R, pushR_N, pushR_U, rfV_s, rfV_n, Option.bind_some, true_or, or_true, if_true, e5]
          simp only [s1051_72, s1051_73, s1051_74, unJ_I, unJ_J, unJ_F, unJ_R, unJ_N, unJ_U, pushR_I, pushR_J, pushR_F, pushR_R, pushR_N, pushR_U, rfV_s, rfV_n, Option.bind_some, true_or, or_true, if_true, e6]
          simp only [s1051_77, unJ_I, unJ_J, unJ_F, unJ_R, unJ_N, unJ_U, pushR_I, pushR_J, pushR_F, pushR_R, pushR_N, pushR_U, rfV_s, rfV_n, Option.bind_some, true_or, or_true, if_true]
          rw [s1051_78]
          by_cases c2 : f_cmp .l (mrkU (lt σ.1 k).1 (σ.2.2.1 1)) (mrkU (lt σ.1 i).1 (σ.2.2.1 1)) = 0
          · rw [if_pos c2]
            simp only [s1051_81, s1051_83, unJ_I, unJ_J, unJ_F, unJ_R, unJ_N, unJ_U, pushR_I, pushR_J, pushR_F, pushR_R, pushR_N, pushR_U, rfV_s, rfV_n, Option.bind_some, true_or, or_true, if_true]
            rw [s1051_84]
            by_cases c3 : k < i
            · rw [if_neg (by omega)]
              simp only [s1051_87, s1051_88, unJ_I, unJ_J, unJ_F, unJ_R, unJ_N, unJ_U, pushR_I, pushR_J, pushR_F, pushR_R, pushR_N, pushR_U, rfV_s, rfV_n, Option.bind_some, true_or, or_true, if_true]
              exact ⟨_, _, fin 1 M6 vU (by rw [if_pos ⟨⟨hk, hs⟩, Or.inr ⟨c3, by rw [mi, mk]; exact c2⟩⟩]), M6, rfl, rfl, kk⟩
            · rw [if_pos (by omega)]
              simp only [s1051_91, unJ_I, unJ_J, unJ_F, unJ_R, unJ_N, unJ_U, pushR_I, pushR_J, pushR_F, pushR_R, pushR_N, pushR_U, rfV_s, rfV_n, Option.bind_some, true_or, or_true, if_true]
              exact ⟨_, _, fin 0 M6 vU (by rw [if_neg (fun z => by rcases z.2 with y | y; exact c1 (by rw [mi, mk] at y; exact y); exact c3 y.1)]), M6, rfl, rfl, kk⟩
          · rw [if_neg c2]
            simp only [s1051_91, unJ_I, unJ_J, unJ_F, unJ_R, unJ_N, unJ_U, pushR_I, pushR_J, pushR_F, pushR_R, pushR_N, pushR_U, rfV_s, rfV_n, Option.bind_some, true_or, or_true, if_true]
            exact ⟨_, _, fin 0 M6 vU (by rw [if_neg (fun z => by rcases z.2 with y | y; exact c1 (by rw [mi, mk] at y; exact y); exact c2 (by rw [mi, mk] at y; exact y.2))]), M6, rfl, rfl, kk⟩
      · rw [if_pos (by omega)]
        simp only [s1051_91, unJ_I, unJ_J, unJ_F, unJ_R, unJ_N, unJ_U, pushR_I, pushR_J, pushR_F, pushR_R, pushR_N, pushR_U, rfV_s, rfV_n, Option.bind_some, true_or, or_true, if_true]
        exact ⟨_, _, fin 0 M' vU (by rw [if_neg (fun z => hs z.1.2)]), M', rfl, rfl, k1⟩)
  have m00 : Ma 0 0 = (σ.1.length : Int) := by rw [k1 0 (by omega)]; exact h.1.1
  refine ⟨Ma, ?_, k1⟩
  refine e.trans ?_
  rw [s1051_23]
  simp only [s1051_25, s1051_26, s1051_29, s1051_30, unJ_I, unJ_J, unJ_F, unJ_R, unJ_N, unJ_U, pushR_I, pushR_J, pushR_F, pushR_R, pushR_N, pushR_U, rfV_s, rfV_n, Option.bind_some, true_or, or_true, if_true, lm0]
  rw [if_pos (by omega)]
  simp only [Int.toNat_zero, m00]
  rw [s1051_31, if_pos (by omega)]
theorem w_ranked (h : Mod J M X) (ho : okX t X) (p : Int) : Dom 1051 [vR 10 0, vI p, vU, vU, vU, vU] q C J M T (vI (aRanked X p)) X := by
  obtain ⟨⟨gs, a, b⟩, -⟩ := id h
  have st1 := ho.2.1.2.2.2.1.2.1
  have l12 := ho.2.1.2.1
  have w10 : ∀ M', W10 M M' → Mod J M' X := fun M' k => h.same rfl rfl (fun _ _ => by rw [k 0 (by omega)]) (k 2 (by omega)) (k 3 (by omega))
  have hd : ∀ i, i < X.1.1.length → okSc (lt X.1.1 i).1 := fun i hi => (ho.2.1.1 i hi).1.sc
  unfold aRanked
  by_cases h1 : 0 ≤ p
  · rw [if_pos h1]
    have main : ∀ (d i : Nat), i ≤ X.1.1.length → X.1.1.length ≤ i + d → ∀ M', W10 M M' → ∃ M2', rs 1051 8 [vR 10 0, vI p, vI (i : Int), vU, vU, vU] [] (SX q, C, (J, M', T)) = some (vI (rkU X.1.1 (X.1.2.2.1 1) p d i), (SX q, C, (J, M2', T))) ∧ W10 M M2' := by
      intro d
      induction d with
      | zero =>
        intro i hi hl M' k
        have m00 : M' 0 0 = (X.1.1.length : Int) := by rw [k 0 (by omega)]; exact a.1.1
        refine ⟨M', ?_, k⟩
        rw [s1051_8]
        simp only [s1051_9, s1051_10, s1051_13, s1051_14, unJ_I, unJ_J, unJ_F, unJ_R, unJ_N, unJ_U, pushR_I, pushR_J, pushR_F, pushR_R, pushR_N, pushR_U, rfV_s, rfV_n, Option.bind_some, true_or, or_true, if_true, lm0]
        rw [if_pos (by omega)]
        simp only [Int.toNat_zero, m00]
        simp only [s1051_15, s1051_139, s1051_141, unJ_I, unJ_J, unJ_F, unJ_R, unJ_N, unJ_U, pushR_I, pushR_J, pushR_F, pushR_R, pushR_N, pushR_U, rfV_s, rfV_n, Option.bind_some, true_or, or_true, if_true]
        rw [if_pos (by omega)]
        rfl
      | succ d ih =>
        intro i hi hl M' k
        have hM : MRow (M' 0) X.1 gs := by rw [k 0 (by omega)]; exact a
        have m00 : M' 0 0 = (X.1.1.length : Int) := hM.1.1
        by_cases hz : i < X.1.1.length
        · have ei : Unit → w32 ((i : Int) + 1) = ((i + 1 : Nat) : Int) := fun _ => by rw [w32_id (by omega) (by omega)]; omega
          have cr := cntU_r (ahP X.1.1 (X.1.2.2.1 1) i) X.1.1.length
          have eh := ah_len l12 (X.1.2.2.1 1) i
          have st : rs 1051 8 [vR 10 0, vI p, vI (i : Int), vU, vU, vU] [] (SX q, C, (J, M', T)) = rs 1051 23 [vR 10 0, vI p, vI (i : Int), vI 0, vI 0, vU] [] (SX q, C, (J, M', T)) := by
            rw [s1051_8]
            simp only [s1051_9, s1051_10, s1051_13, s1051_14, unJ_I, unJ_J, unJ_F, unJ_R, unJ_N, unJ_U, pushR_I, pushR_J, pushR_F, pushR_R, pushR_N, pushR_U, rfV_s, rfV_n, Option.bind_some, true_or, or_true, if_true, lm0]
            rw [if_pos (by omega)]
            simp only [Int.toNat_zero, m00]
            simp only [s1051_15, s1051_18, s1051_19, s1051_20, s1051_21, unJ_I, unJ_J, unJ_F, unJ_R, unJ_N, unJ_U, pushR_I, pushR_J, pushR_F, pushR_R, pushR_N, pushR_U, rfV_s, rfV_n, Option.bind_some, true_or, or_true, if_true]
            rw [if_neg (by omega)]
          unfold rkU
          by_cases hq : 0 < scN (lt X.1.1 i)
          · obtain ⟨M3, e3, k3⟩ := w_ahead q (C := C) (J := J) (T := T) hM hd st1.1 hz hq p
            have hM3 : MRow (M3 0) X.1 gs := by rw [k3 0 (by omega)]; exact hM
            have sc := w_scores q (C := C) (J := J) (T := T) hM3 hz (hd i hz)
            have at0 := w_at q (C := C) (J := J) (T := T) hM3 hz (show 0 < 14 by omega)
            by_cases hp : ahU X.1.1 (X.1.2.2.1 1) i = p
            · rw [if_pos ⟨⟨hz, hq⟩, hp⟩]
              refine ⟨M3, ?_, k.tr k3⟩
              rw [st, e3]
              simp only [s1051_113, s1051_114, s1051_115, unJ_I, unJ_J, unJ_F, unJ_R, unJ_N, unJ_U, pushR_I, pushR_J, pushR_F, pushR_R, pushR_N, pushR_U, rfV_s, rfV_n, Option.bind_some, true_or, or_true, if_true, sc]
              rw [s1051_118, if_neg (by omega)]
              simp only [s1051_121, s1051_122, unJ_I, unJ_J, unJ_F, unJ_R, unJ_N, unJ_U, pushR_I, pushR_J, pushR_F, pushR_R, pushR_N, pushR_U, rfV_s, rfV_n, Option.bind_some, true_or, or_true, if_true]
              rw [s1051_123, if_pos (by omega)]
              simp only [s1051_126, s1051_127, s1051_128, s1051_129, unJ_I, unJ_J, unJ_F, unJ_R, unJ_N, unJ_U, pushR_I, pushR_J, pushR_F, pushR_R, pushR_N, pushR_U, rfV_s, rfV_n, Option.bind_some, true_or, or_true, if_true]
              refine (congrArg (fun o => Option.bind o _) at0).trans ?_
              simp only [s1051_132, unJ_I, unJ_J, unJ_F, unJ_R, unJ_N, unJ_U, pushR_I, pushR_J, pushR_F, pushR_R, pushR_N, pushR_U, rfV_s, rfV_n, Option.bind_some, true_or, or_true, if_true]
            · rw [if_neg (fun z => hp z.2)]
              obtain ⟨M5, e5, k5⟩ := ih (i + 1) (by omega) (by omega) M3 (k.tr k3)
              refine ⟨M5, ?_, k5⟩
              rw [st, e3]
              simp only [s1051_113, s1051_114, s1051_115, unJ_I, unJ_J, unJ_F, unJ_R, unJ_N, unJ_U, pushR_I, pushR_J, pushR_F, pushR_R, pushR_N, pushR_U, rfV_s, rfV_n, Option.bind_some, true_or, or_true, if_true, sc]
              rw [s1051_118, if_neg (by omega)]
              simp only [s1051_121, s1051_122, unJ_I, unJ_J, unJ_F, unJ_R, unJ_N, unJ_U, pushR_I, pushR_J, pushR_F, pushR_R, pushR_N, pushR_U, rfV_s, rfV_n, Option.bind_some, true_or, or_true, if_true]
              rw [s1051_123, if_neg (by omega)]
              simp only [s1051_133, s1051_136, unJ_I, unJ_J, unJ_F, unJ_R, unJ_N, unJ_U, pushR_I, pushR_J, pushR_F, pushR_R, pushR_N, pushR_U, rfV_s, rfV_n, Option.bind_some, true_or, or_true, if_true, ei ()]
              exact e5
          · rw [if_neg (fun z => hq z.1.2)]
            have sc := w_scores q (C := C) (J := J) (T := T) hM hz (hd i hz)
            obtain ⟨M5, e5, k5⟩ := ih (i + 1) (by omega) (by omega) M' k
            refine ⟨M5, ?_, k5⟩
            rw [st, s1051_23]
            simp only [s1051_25, s1051_26, s1051_29, s1051_30, unJ_I, unJ_J, unJ_F, unJ_R, unJ_N, unJ_U, pushR_I, pushR_J, pushR_F, pushR_R, pushR_N, pushR_U, rfV_s, rfV_n, Option.bind_some, true_or, or_true, if_true, lm0]
            rw [if_pos (by omega)]
            simp only [Int.toNat_zero, m00]
            rw [s1051_31, if_neg (by omega)]
            simp only [s1051_34, s1051_35, s1051_36, unJ_I, unJ_J, unJ_F, unJ_R, unJ_N, unJ_U, pushR_I, pushR_J, pushR_F, pushR_R, pushR_N, pushR_U, rfV_s, rfV_n, Option.bind_some, true_or, or_true, if_true, sc]
            rw [s1051_39, if_pos (by omega)]
            simp only [s1051_113, s1051_114, s1051_115, unJ_I, unJ_J, unJ_F, unJ_R, unJ_N, unJ_U, pushR_I, pushR_J, pushR_F, pushR_R, pushR_N, pushR_U, rfV_s, rfV_n, Option.bind_some, true_or, or_true, if_true, sc]
            rw [s1051_118, if_pos (by omega)]
            simp only [s1051_133, s1051_136, unJ_I, unJ_J, unJ_F, unJ_R, unJ_N, unJ_U, pushR_I, pushR_J, pushR_F, pushR_R, pushR_N, pushR_U, rfV_s, rfV_n, Option.bind_some, true_or, or_true, if_true, ei ()]
            exact e5
        · refine ⟨M', ?_, k⟩
          rw [rk_end _ i (by omega), s1051_8]
          simp only [s1051_9, s1051_10, s1051_13, s1051_14, unJ_I, unJ_J, unJ_F, unJ_R, unJ_N, unJ_U, pushR_I, pushR_J, pushR_F, pushR_R, pushR_N, pushR_U, rfV_s, rfV_n, Option.bind_some, true_or, or_true, if_true, lm0]
          rw [if_pos (by omega)]
          simp only [Int.toNat_zero, m00]
          simp only [s1051_15, s1051_139, s1051_141, unJ_I, unJ_J, unJ_F, unJ_R, unJ_N, unJ_U, pushR_I, pushR_J, pushR_F, pushR_R, pushR_N, pushR_U, rfV_s, rfV_n, Option.bind_some, true_or, or_true, if_true]
          rw [if_pos (by omega)]
    obtain ⟨M5, e5, k5⟩ := main 12 0 (by omega) (by omega) M (W10.rf M)
    refine ⟨J, M5, T, ?_, w10 _ k5⟩
    simp only [s1051_0, s1051_1, s1051_4, s1051_5, s1051_6, s1051_7, unJ_I, unJ_J, unJ_F, unJ_R, unJ_N, unJ_U, pushR_I, pushR_J, pushR_F, pushR_R, pushR_N, pushR_U, rfV_s, rfV_n, Option.bind_some, true_or, or_true, if_true]
    rw [if_pos h1]
    exact e5
  · rw [if_neg h1]
    refine ⟨J, M, T, ?_, h⟩
    simp only [s1051_0, s1051_1, s1051_4, s1051_5, unJ_I, unJ_J, unJ_F, unJ_R, unJ_N, unJ_U, pushR_I, pushR_J, pushR_F, pushR_R, pushR_N, pushR_U, rfV_s, rfV_n, Option.bind_some, true_or, or_true, if_true]
    rw [if_neg h1]
end
