/-! A PANEL JUDGES -/
def midU (d : Nat → Int) : Int := (arrU d 8).2 (((arrU d 8).1 - 1) / 2)
def absI (x : Int) : Int := if 0 ≤ x then x else -x
abbrev isOut (d : Nat → Int) (span : Int) (t : Nat) : Prop := d (6 + t) ≠ -1 ∧ span < absI (d (6 + t) - midU d)
abbrev isKept (d : Nat → Int) (span : Int) (t : Nat) : Prop := d (6 + t) ≠ -1 ∧ ¬ span < absI (d (6 + t) - midU d)
def outU (d : Nat → Int) (span : Int) : Nat → Int
  | 0 => 0
  | t + 1 => if isOut d span t then i_or (outU d span t) (i_shl 1 t) else outU d span t
def kepN (d : Nat → Int) (span : Int) (n : Nat) : Int := cntU (isKept d span) n
def kepV (d : Nat → Int) (span : Int) (t : Nat) : Int := if isKept d span t then d (6 + t) else 0
def kepS (d : Nat → Int) (span : Int) (n : Nat) : Int := sumU (kepV d span) n
theorem kepN_s (d : Nat → Int) (span : Int) (t : Nat) : kepN d span (t + 1) = kepN d span t + (if isKept d span t then 1 else 0) := rfl
theorem kepS_s (d : Nat → Int) (span : Int) (t : Nat) : kepS d span (t + 1) = kepS d span t + (if isKept d span t then d (6 + t) else 0) := rfl
theorem outU_s (d : Nat → Int) (span : Int) (t : Nat) : outU d span (t + 1) = if isOut d span t then i_or (outU d span t) (i_shl 1 t) else outU d span t := rfl
def mrkU (d : Nat → Int) (span : Int) : UInt32 := FP.fdiv (f_i2f (kepS d span 8)) (f_i2f (kepN d span 8))
def okSc (d : Nat → Int) : Prop := ∀ t, t < 8 → -1 ≤ d (6 + t) ∧ d (6 + t) ≤ 200
theorem arr_mem {d : Nat → Int} : ∀ {t : Nat}, ∀ j, j < (arrU d t).1 → ∃ u, u < t ∧ d (6 + u) ≠ -1 ∧ (arrU d t).2 j = d (6 + u) := by
  intro t
  induction t with
  | zero => intro j hj; exact absurd hj (Nat.not_lt_zero _)
  | succ t ih =>
    intro j hj
    unfold arrU at hj ⊢
    by_cases h : d (6 + t) = -1
    · rw [if_pos h] at hj ⊢
      obtain ⟨u, u1, u2⟩ := ih j hj
      exact ⟨u, by omega, u2⟩
    · rw [if_neg h] at hj ⊢
      have hj' : j < (arrU d t).1 + 1 := hj
      have hp := posE_le (arrU d t).2 (d (6 + t)) (arrU d t).1
      show ∃ u, u < t + 1 ∧ d (6 + u) ≠ -1 ∧ insF (arrU d t).2 (arrU d t).1 (d (6 + t)) j = d (6 + u)
      unfold insF
      by_cases c1 : j < posE (arrU d t).2 (d (6 + t)) (arrU d t).1
      · rw [if_pos c1]
        obtain ⟨u, u1, u2⟩ := ih j (by omega)
        exact ⟨u, by omega, u2⟩
      · rw [if_neg c1]
        by_cases c2 : j = posE (arrU d t).2 (d (6 + t)) (arrU d t).1
        · rw [if_pos c2]; exact ⟨t, by omega, h, rfl⟩
        · rw [if_neg c2]
          obtain ⟨u, u1, u2⟩ := ih (j - 1) (by omega)
          exact ⟨u, by omega, u2⟩
theorem mid_mem {d : Nat → Int} (h : 0 < (arrU d 8).1) : ∃ u, u < 8 ∧ d (6 + u) ≠ -1 ∧ midU d = d (6 + u) := arr_mem _ (by omega)
theorem kep_r (d : Nat → Int) (hd : okSc d) (span : Int) (n : Nat) (hn : n ≤ 8) : 0 ≤ kepN d span n ∧ kepN d span n ≤ n ∧ 0 ≤ kepS d span n ∧ kepS d span n ≤ n * 200 := by
  have a := cntU_r (isKept d span) n
  have b := sumU_r (f := kepV d span) (b := 200) (n := n) (fun t ht => by
    have := hd t (by omega)
    unfold kepV
    split
    · rename_i h
      have h1 := h.1
      omega
    · omega)
  unfold kepN kepS
  omega
theorem kep_pos {d : Nat → Int} {span : Int} (hs : 0 ≤ span) (h : 0 < (arrU d 8).1) : 1 ≤ kepN d span 8 := by
  obtain ⟨u, u1, u2, u3⟩ := mid_mem h
  have k : isKept d span u := ⟨u2, by rw [u3]; unfold absI; rw [if_pos (by omega)]; omega⟩
  have := cnt_lt (p := fun _ => False) (r := isKept d span) (n := 8) (j := u) (fun _ _ z => z.elim) u1 k (fun z => z)
  have e := cnt_no (p := fun _ => False) (n := 8) (fun _ _ z => z)
  unfold kepN
  omega
section
variable (q : Nat × (Nat → Int)) {I A : M2} {L P : Nat → Nat → Option Nat} {F G : Nat → Nat → UInt32} {D : MD} {l : Nat} {w : Lt}
/-- only the panel has changed -/
def FrJ (I A I' A' : M2) : Prop := (∀ f y, ¬ (62 ≤ f ∧ f ≤ 64) → I' f y = I f y) ∧ ∀ r j, r ≠ 121 → A' r j = A r j
/-- Panel.judge -/
theorem c_judge (h : LotAt I A l w) (hl : l < 74) (hd : okSc w.1) {span : Int} (hs : 0 ≤ span ∧ span ≤ 200) (hf : 0 < scN w → f_ok (mrkU w.1 span) = true) :
    ∃ I' A' G', rs 302 0 [vR 3 0, vR 2 l, vI span, vU, vU, vU, vU] [] (SX q, (I, A, L, P, F, G), D) = some (vI (b01 (0 < scN w)), (SX q, (I', A', L, P, F, G'), D)) ∧ FrJ I A I' A' ∧
      (0 < scN w → I' 62 0 = midU w.1 ∧ I' 63 0 = kepN w.1 span 8 ∧ I' 64 0 = outU w.1 span 8 ∧ G' 65 0 = mrkU w.1 span) := by
  obtain ⟨A1, e1, k1, k2⟩ := c_arrange q (I := I) (A := A) (L := L) (P := P) (F := F) (G := G) (D := D) h hl
  have hlen := (len_l l hl).2.2
  have l5 : rowLen 121 = 8 := by decide
  have nl : sr l ≠ 121 := by have := (rw_l hl).2; omega
  have an := arrU_n w.1 8
  have al := arrU_le w.1 8
  have sn : scN w = ((arrU w.1 8).1 : Int) := an.symm
  by_cases hz : (arrU w.1 8).1 = 0
  · refine ⟨I, A1, G, ?_, ⟨fun _ _ _ => rfl, k2⟩, fun z => by omega⟩
    simp only [s302_0, s302_1, s302_2, s302_5, s302_6, s302_7, s302_10, s302_11, unJ_I, unJ_J, unJ_F, unJ_R, unJ_N, unJ_U, pushR_I, pushR_J, pushR_F, pushR_R, pushR_N, pushR_U, rfV_s, rfV_n, Option.bind_some, true_or, or_true, if_true, e1]
    rw [if_pos (by omega), sn, hz]
    rfl
  · have hm : A1 121 (((arrU w.1 8).1 - 1) / 2) = midU w.1 := k1 _ (by omega)
    obtain ⟨u, u1, u2, u3⟩ := mid_mem (d := w.1) (by omega)
    have mr := hd u u1
    have kp := kep_pos (d := w.1) hs.1 (by omega)
    have ktot := kep_r w.1 hd span 8 (by omega)
    obtain ⟨ls', μ', e, I2, rfl, rfl, g1, g2, g3, g4⟩ := rs_loopP (m := 302) (pc := 44) (ls := [vR 3 0, vR 2 l, vI span, vU, vI 0, vI 0, vU]) (μ := (SX q, (up2 (up2 (up2 I 62 0 (midU w.1)) 63 0 0) 64 0 0, A1, L, P, F, G), D)) (fun t ls μ => ∃ I', μ = (SX q, (I', A1, L, P, F, G), D) ∧ ls = [vR 3 0, vR 2 l, vI span, vU, vI (kepS w.1 span t), vI (t : Int), vU] ∧
        I' 62 0 = midU w.1 ∧ I' 63 0 = kepN w.1 span t ∧ I' 64 0 = outU w.1 span t ∧ ∀ f y, ¬ (62 ≤ f ∧ f ≤ 64) → I' f y = I f y) 8
      ⟨_, rfl, rfl, (up2_ne (by omega)).trans ((up2_ne (by omega)).trans up2_eq), (up2_ne (by omega)).trans up2_eq, up2_eq, fun f y z => (up2_ne (by omega)).trans ((up2_ne (by omega)).trans (up2_ne (by omega)))⟩ (fun t ht ls μ ⟨I', e1, e2, g1, g2, g3, g4⟩ => by
        subst e1 e2
        have sc : A1 (sr l) t = w.1 (6 + t) := (k2 _ _ nl).trans (h.2.2.2.2.2.2.1 t ht)
        have dr := hd t ht
        have kr := kep_r w.1 hd span t (by omega)
        have et : Unit → w32 ((t : Int) + 1) = ((t + 1 : Nat) : Int) := fun _ => by rw [w32_id (by omega) (by omega)]; omega
        have ed : Unit → w32 (w.1 (6 + t) - midU w.1) = w.1 (6 + t) - midU w.1 := fun _ => w32_id (by omega) (by omega)
        have ea : Unit → w32 (0 - (w.1 (6 + t) - midU w.1)) = -(w.1 (6 + t) - midU w.1) := fun _ => by rw [w32_id (by omega) (by omega)]; omega
        have ek : Unit → w32 (kepN w.1 span t + 1) = kepN w.1 span t + 1 := fun _ => w32_id (by omega) (by omega)
        have es : Unit → w32 (kepS w.1 span t + w.1 (6 + t)) = kepS w.1 span t + w.1 (6 + t) := fun _ => w32_id (by omega) (by omega)
        rw [s302_44]
        simp only [s302_46, s302_48, s302_51, s302_52, s302_55, s302_57, s302_60, s302_62, s302_64, s302_65, unJ_I, unJ_J, unJ_F, unJ_R, unJ_N, unJ_U, pushR_I, pushR_J, pushR_F, pushR_R, pushR_N, pushR_U, rfV_s, rfV_n, Option.bind_some, true_or, or_true, if_true, c_get]
        rw [if_neg (by omega), rget_n _ (by omega), sc]
        by_cases hq : w.1 (6 + t) = -1
        · rw [if_pos hq]
          have a1 : ¬ isOut w.1 span t := fun z => z.1 hq
          have a2 : ¬ isKept w.1 span t := fun z => z.1 hq
          simp only [s302_68, s302_118, s302_121, unJ_I, unJ_J, unJ_F, unJ_R, unJ_N, unJ_U, pushR_I, pushR_J, pushR_F, pushR_R, pushR_N, pushR_U, rfV_s, rfV_n, Option.bind_some, true_or, or_true, if_true, et ()]
          exact ⟨_, _, rfl, _, rfl, by rw [kepS_s, if_neg a2, Int.add_zero], g1, by rw [kepN_s]; rw [if_neg a2, Int.add_zero]; exact g2, by rw [outU_s]; rw [if_neg a1]; exact g3, g4⟩
        · rw [if_neg hq]
          simp only [s302_71, s302_73, s302_74, s302_77, s302_78, s302_81, s302_82, unJ_I, unJ_J, unJ_F, unJ_R, unJ_N, unJ_U, pushR_I, pushR_J, pushR_F, pushR_R, pushR_N, pushR_U, rfV_s, rfV_n, Option.bind_some, true_or, or_true, if_true, g1, ed (), ea ()]
          have eA : (if 0 ≤ w.1 (6 + t) - midU w.1 then w.1 (6 + t) - midU w.1 else -(w.1 (6 + t) - midU w.1)) = absI (w.1 (6 + t) - midU w.1) := rfl
          rw [eA]
          by_cases ho : absI (w.1 (6 + t) - midU w.1) ≤ span
          · rw [if_pos ho]
            have a1 : ¬ isOut w.1 span t := fun z => by have := z.2; omega
            have a2 : isKept w.1 span t := ⟨hq, by omega⟩
            simp only [s302_101, s302_102, s302_102r, s302_103, s302_106, s302_107, s302_108, s302_111, s302_113, s302_115, s302_116, s302_118, s302_121, unJ_I, unJ_J, unJ_F, unJ_R, unJ_N, unJ_U, pushR_I, pushR_J, pushR_F, pushR_R, pushR_N, pushR_U, rfV_s, rfV_n, Option.bind_some, true_or, or_true, if_true, et (), g2, ek (), es ()]
            exact ⟨_, _, rfl, _, rfl, by rw [kepS_s]; rw [if_pos a2], (up2_ne (by omega)).trans g1, up2_eq.trans (by rw [kepN_s]; rw [if_pos a2]), (up2_ne (by omega)).trans (by rw [outU_s]; rw [if_neg a1]; exact g3), fun f y z => (up2_ne (by omega)).trans (g4 f y z)⟩
          · rw [if_neg ho]
            have a1 : isOut w.1 span t := ⟨hq, by omega⟩
            have a2 : ¬ isKept w.1 span t := fun z => z.2 (by omega)
            simp only [s302_85, s302_86, s302_86r, s302_87, s302_90, s302_91, s302_93, s302_94, s302_95, s302_98, s302_118, s302_121, unJ_I, unJ_J, unJ_F, unJ_R, unJ_N, unJ_U, pushR_I, pushR_J, pushR_F, pushR_R, pushR_N, pushR_U, rfV_s, rfV_n, Option.bind_some, true_or, or_true, if_true, et (), g3]
            exact ⟨_, _, rfl, _, rfl, by rw [kepS_s, if_neg a2, Int.add_zero], (up2_ne (by omega)).trans g1, (up2_ne (by omega)).trans (by rw [kepN_s]; rw [if_neg a2, Int.add_zero]; exact g2), up2_eq.trans (by rw [outU_s]; rw [if_pos a1]), fun f y z => (up2_ne (by omega)).trans (g4 f y z)⟩)
    refine ⟨I2, A1, up2 G 65 0 (mrkU w.1 span), ?_, ⟨g4, k2⟩, fun _ => ⟨g1, g2, g3, up2_eq⟩⟩
    have e2 : Unit → w32 (Int.tdiv (w32 (((arrU w.1 8).1 : Int) - 1)) 2) = ((((arrU w.1 8).1 - 1) / 2 : Nat) : Int) := fun _ => by
      rw [w32_id (x := ((arrU w.1 8).1 : Int) - 1) (by omega) (by omega), Int.tdiv_eq_ediv_of_nonneg (by omega), w32_id (by omega) (by omega)]
      omega
    simp only [s302_0, s302_1, s302_2, s302_5, s302_6, s302_7, s302_10, s302_11, s302_12, s302_13, s302_14, s302_17, s302_18, s302_19, s302_20, s302_21, s302_22, unJ_I, unJ_J, unJ_F, unJ_R, unJ_N, unJ_U, pushR_I, pushR_J, pushR_F, pushR_R, pushR_N, pushR_U, rfV_s, rfV_n, Option.bind_some, true_or, or_true, if_true, e1]
    rw [if_neg (by omega), if_neg (by omega), e2 ()]
    simp only [s302_22, s302_25, s302_28, s302_29, s302_30, s302_33, s302_34, s302_35, s302_38, s302_39, s302_41, s302_42, unJ_I, unJ_J, unJ_F, unJ_R, unJ_N, unJ_U, pushR_I, pushR_J, pushR_F, pushR_R, pushR_N, pushR_U, rfV_s, rfV_n, Option.bind_some, true_or, or_true, if_true, c_get]
    rw [rget_n _ (by omega), hm]
    refine e.trans ?_
    rw [s302_44]
    simp only [s302_46, s302_48, s302_124, s302_125, s302_126, s302_129, s302_132, s302_134, s302_135, s302_136, s302_139, s302_140, s302_141, s302_144, s302_145, s302_148, s302_149, unJ_I, unJ_J, unJ_F, unJ_R, unJ_N, unJ_U, pushR_I, pushR_J, pushR_F, pushR_R, pushR_N, pushR_U, rfV_s, rfV_n, Option.bind_some, true_or, or_true, if_true, g2]
    rw [if_pos (by omega), if_neg (by omega)]
    have hf' : f_ok (FP.fdiv (f_i2f (kepS w.1 span 8)) (f_i2f (kepN w.1 span 8))) = true := hf (by omega)
    rw [if_pos hf', sn]
    unfold b01
    rw [if_pos (by omega)]
    rfl
end
