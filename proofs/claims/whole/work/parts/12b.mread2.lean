/-! THE MODEL CALLS: readRule -/
theorem cdW_inj : ∀ t, t < 8 → ∀ u, u < 8 → cdW t = cdW u → t = u := by decide +kernel
theorem wd_un {tx : List Int} {i : Int} {t u : Nat} (ht : t < 8) (hu : u < 8) (h : wdAt tx i t) (k : wdAt tx i u) : t = u := by
  have tf := txt_f t ht
  have l : ∀ j, j < (txt t).length → isLo (txC tx (i + j)) := fun j hj => by rw [h.1 j hj]; exact (tf.2.2.2 j hj).2
  have a := (wd_code ht l h.2).mp h
  have b := (wd_code hu l h.2).mp k
  exact cdW_inj t ht u hu (a.symm.trans b)
theorem wdR_ne {tx : List Int} {i : Int} {u : Nat} (h : wdAt tx i u) : ∀ {t : Nat}, u < t → wdR tx i t ≠ -1 := by
  intro t
  induction t with
  | zero => intro a; omega
  | succ t ih =>
    intro a
    unfold wdR
    by_cases z : wdAt tx i t
    · rw [if_pos z]; omega
    · rw [if_neg z]
      by_cases e : u = t
      · subst e; exact absurd h z
      · exact ih (by omega)
theorem wdR_is {tx : List Int} {i : Int} {u : Nat} (hu : u < 8) (h : wdAt tx i u) : wdR tx i 8 = (u : Int) := by
  rcases wdR_r (tx := tx) (i := i) (t := 8) with a | ⟨v, a, b, c⟩
  · exact absurd a (wdR_ne h hu)
  · rw [b, wd_un a hu c h]
theorem wdR_7 (tx : List Int) (i : Int) : wdR tx i 8 ≤ 7 := by
  rcases wdR_r (tx := tx) (i := i) (t := 8) with a | ⟨v, a, b, c⟩ <;> omega
theorem tpW_no {tx : List Int} {i : Int} : ∀ {d t : Nat}, tpW tx i d t = none → ∀ u, t ≤ u → u < t + d → ¬ wdAt tx i u := by
  intro d
  induction d with
  | zero => intro t _ u a b; omega
  | succ d ih =>
    intro t h u a b
    unfold tpW at h
    split at h
    · exact absurd h (by simp)
    · rename_i hw
      by_cases e : u = t
      · subst e; exact hw
      · exact ih h u (by omega) (by omega)
theorem kd_side (tx : List Int) (i : Int) (t : Nat) : kdW t (wdR tx i 8) = sideU tx i t := by
  unfold kdW sideU
  by_cases h7 : wdAt tx i 7
  · have n6 : ¬ wdAt tx i 6 := fun z => absurd (wd_un (by omega) (by omega) z h7) (by omega)
    rw [wdR_is (by omega) h7, if_neg (by omega), if_pos (by omega), if_neg (fun z => n6 z.2)]
    by_cases c : tpI 3 t = -1
    · rw [if_neg (fun z => z.1 c), c]
    · rw [if_pos ⟨c, h7⟩]
  · by_cases h6 : wdAt tx i 6
    · rw [wdR_is (by omega) h6, if_pos (by omega)]
      by_cases c : tpI 2 t = -1
      · rw [if_neg (fun z => z.1 c), if_neg (fun z => h7 z.2), c]
      · rw [if_pos ⟨c, h6⟩]
    · have n : ¬ wdR tx i 8 = 6 ∧ ¬ wdR tx i 8 = 7 := by
        rcases wdR_r (tx := tx) (i := i) (t := 8) with a | ⟨v, a, b, c⟩
        · omega
        · refine ⟨fun z => h6 ?_, fun z => h7 ?_⟩
          · rw [show v = 6 by omega] at c; exact c
          · rw [show v = 7 by omega] at c; exact c
      rw [if_neg n.1, if_neg n.2, if_neg (fun z => h6 z.2), if_neg (fun z => h7 z.2)]
/-- only the reading place and the rule said -/
def FR (J J' : M2) : Prop := ∀ f y, ¬ (f = 206 ∨ f = 210 ∨ f = 211 ∨ f = 212) → J' f y = J f y
theorem FR.tr {J J1 J2' : M2} (h : FR J J1) (k : FR J1 J2') : FR J J2' := fun f y z => (k f y z).trans (h f y z)
theorem FJ.r {J J' : M2} (h : FJ 206 206 J J') : FR J J' := fun f y z => h f y (by omega)
theorem FR.up (J : M2) (f : Nat) (v : Int) (h : f = 206 ∨ f = 210 ∨ f = 211 ∨ f = 212) : FR J (up2 J f 0 v) := fun g y z => up2_ne (by omega)
theorem TxM.fr {J M J' : M2} {tx : List Int} (h : TxM J M tx) (k : FR J J') : TxM J' M tx := ⟨(k _ _ (by omega)).trans h.1, h.2⟩
section
variable (q : Nat × (Nat → Int)) {C : MC} {J M T : M2} {tx : List Int}
/-- the form is read -/
def FormR (J M T : M2) (q : Nat × (Nat → Int)) (C : MC) (J0 : M2) (pc : Nat) (ls : List AV) (w : Int) (z : Int × (Int × Int × Int) × Int) (tx : List Int) : Prop :=
  (z.1 ≠ 0 ∧ ∃ J', rs 1067 pc ls [] (SX q, C, (J, M, T)) = some (vI z.1, (SX q, C, (J', M, T))) ∧ FR J0 J') ∨
  (z.1 = 0 ∧ ∃ J' w', rs 1067 pc ls [] (SX q, C, (J, M, T)) = rs 1067 127 [vR 10 0, vI w'] [] (SX q, C, (J', M, T)) ∧ FR J0 J' ∧ (∃ p : Nat, J' 206 0 = (p : Int) ∧ (p : Int) = z.2.2 ∧ p ≤ tx.length) ∧ J' 210 0 = z.2.1.1 ∧ J' 211 0 = z.2.1.2.1 ∧ J' 212 0 = z.2.1.2.2)
theorem w_form2 (h : TxM J M tx) {i : Nat} (hi : i ≤ tx.length) (hc : J 206 0 = (i : Int)) {t : Nat} (ht : t < 6) {s : Int} (hs : J 211 0 = s) : FormR J M T q C J 43 [vR 10 0, vI (t : Int)] (t : Int) (frm2 tx i t s) tx := by
  have l100 := h.2.1
  have bl := w_blank q (C := C) (T := T) h hi hc
  unfold frm2
  by_cases z1 : txC tx i = 32
  · rw [if_neg (fun y => y z1)]
    rw [if_pos z1, b01_t z1] at bl
    have il : i < tx.length := by
      rcases Nat.lt_or_ge i tx.length with a | a
      · exact a
      · rw [txC_out (by omega)] at z1; omega
    have ei : ((i : Int) + 1) = ((i + 1 : Nat) : Int) := by omega
    have f1 : FR J (up2 J 206 0 ((i + 1 : Nat) : Int)) := FR.up J 206 _ (by omega)
    obtain ⟨J2, e2, f2, p, p1, p2, p3⟩ := w_word q (C := C) (T := T) (h.fr f1) (i := i + 1) (by omega) up2_eq
    have f2' : FR J J2 := f1.tr f2.r
    have kd := c_kindW (μ := (SX q, C, (J2, M, T))) ht (wdR_7 tx ((i + 1 : Nat) : Int))
    rw [kd_side] at kd
    have f3 : FR J (up2 J2 210 0 (sideU tx ((i + 1 : Nat) : Int) t)) := f2'.tr (FR.up J2 210 _ (by omega))
    have run : rs 1067 43 [vR 10 0, vI (t : Int)] [] (SX q, C, (J, M, T)) = rs 1067 68 [vR 10 0, vI (t : Int)] [vI (sideU tx ((i + 1 : Nat) : Int) t)] (SX q, C, (up2 J2 210 0 (sideU tx ((i + 1 : Nat) : Int) t), M, T)) := by
      simp only [s1067_43, s1067_44, unJ_I, unJ_J, unJ_F, unJ_R, unJ_N, unJ_U, pushR_I, pushR_J, pushR_F, pushR_R, pushR_N, pushR_U, rfV_s, rfV_n, Option.bind_some, true_or, or_true, if_true, bl]
      simp only [s1067_47, unJ_I, unJ_J, unJ_F, unJ_R, unJ_N, unJ_U, pushR_I, pushR_J, pushR_F, pushR_R, pushR_N, pushR_U, rfV_s, rfV_n, Option.bind_some, true_or, or_true, if_true]
      rw [if_neg (by omega)]
      simp only [s1067_52, s1067_53, s1067_54, s1067_55, unJ_I, unJ_J, unJ_F, unJ_R, unJ_N, unJ_U, pushR_I, pushR_J, pushR_F, pushR_R, pushR_N, pushR_U, rfV_s, rfV_n, Option.bind_some, true_or, or_true, if_true, e2]
      simp only [s1067_58, s1067_61, s1067_64, s1067_65, unJ_I, unJ_J, unJ_F, unJ_R, unJ_N, unJ_U, pushR_I, pushR_J, pushR_F, pushR_R, pushR_N, pushR_U, rfV_s, rfV_n, Option.bind_some, true_or, or_true, if_true, kd, up2_eq]
    rw [ei]
    by_cases z2 : sideU tx ((i + 1 : Nat) : Int) t = -1
    · rw [if_pos z2]
      refine Or.inl ⟨by decide, _, ?_, f3⟩
      rw [run]
      simp only [s1067_68, s1067_71, s1067_72, unJ_I, unJ_J, unJ_F, unJ_R, unJ_N, unJ_U, pushR_I, pushR_J, pushR_F, pushR_R, pushR_N, pushR_U, rfV_s, rfV_n, Option.bind_some, true_or, or_true, if_true]
      rw [if_neg (by omega)]
    · rw [if_neg z2]
      have sr := sideU_r (tx := tx) (i := ((i + 1 : Nat) : Int)) ht z2
      have pL : ((p : Nat) : Int) = ((i + 1 : Nat) : Int) + sideL tx ((i + 1 : Nat) : Int) t := by
        unfold sideU at z2
        unfold sideL
        by_cases c : tpI 2 t ≠ -1 ∧ wdAt tx ((i + 1 : Nat) : Int) 6
        · rw [if_pos c, p3 6 (by omega) c.2]; unfold wLen; omega
        · rw [if_neg c] at z2 ⊢
          by_cases c2 : tpI 3 t ≠ -1 ∧ wdAt tx ((i + 1 : Nat) : Int) 7
          · rw [p3 7 (by omega) c2.2]; unfold wLen; omega
          · rw [if_neg c2] at z2; exact absurd rfl z2
      rw [← pL]
      obtain ⟨J4, e4, f4, p', q1, q2, q3⟩ := w_num q (C := C) (T := T) (h.fr f3) (i := p) p2 ((up2_ne (by omega)).trans p1)
      have f5 : ∀ v : Int, FR J (up2 J4 212 0 v) := fun v => f3.tr (f4.r.tr (FR.up J4 212 _ (by omega)))
      have run2 : rs 1067 43 [vR 10 0, vI (t : Int)] [] (SX q, C, (J, M, T)) = rs 1067 85 [vR 10 0, vI (t : Int)] [vI (if bnOk tx p then bnV tx p else -1)] (SX q, C, (up2 J4 212 0 (if bnOk tx p then bnV tx p else -1), M, T)) := by
        rw [run]
        simp only [s1067_68, s1067_71, s1067_72, s1067_73, s1067_74, s1067_75, unJ_I, unJ_J, unJ_F, unJ_R, unJ_N, unJ_U, pushR_I, pushR_J, pushR_F, pushR_R, pushR_N, pushR_U, rfV_s, rfV_n, Option.bind_some, true_or, or_true, if_true, e4]
        rw [if_pos (by omega)]
        simp only [s1067_78, s1067_81, s1067_82, unJ_I, unJ_J, unJ_F, unJ_R, unJ_N, unJ_U, pushR_I, pushR_J, pushR_F, pushR_R, pushR_N, pushR_U, rfV_s, rfV_n, Option.bind_some, true_or, or_true, if_true, up2_eq]
      by_cases z3 : bnOk tx p
      · rw [if_neg (fun y => y z3)]
        rw [if_pos z3] at run2
        have bv : 0 ≤ bnV tx p := (nmS_r tx ((p : Int) + 1) 4).2.1
        have pc := q3 z3
        have jl : up2 J4 212 0 (bnV tx p) 205 0 = (tx.length : Int) := (f5 _ 205 0 (by omega)).trans h.1
        have jp : up2 J4 212 0 (bnV tx p) 206 0 = (p' : Int) := (up2_ne (by omega)).trans q1
        have run3 : rs 1067 43 [vR 10 0, vI (t : Int)] [] (SX q, C, (J, M, T)) = if txC tx (p' : Int) = 59 then rs 1067 117 [vR 10 0, vI (t : Int)] [] (SX q, C, (up2 J4 212 0 (bnV tx p), M, T)) else some (vI 4, (SX q, C, (up2 J4 212 0 (bnV tx p), M, T))) := by
          rw [run2]
          simp only [s1067_85, s1067_88, s1067_89, s1067_90, s1067_91, s1067_94, s1067_95, s1067_98, unJ_I, unJ_J, unJ_F, unJ_R, unJ_N, unJ_U, pushR_I, pushR_J, pushR_F, pushR_R, pushR_N, pushR_U, rfV_s, rfV_n, Option.bind_some, true_or, or_true, if_true, jp, jl]
          rw [if_pos bv]
          by_cases c : p' < tx.length
          · rw [if_neg (by omega)]
            have cc := h.c c
            simp only [s1067_101, s1067_102, s1067_105, s1067_106, s1067_109, unJ_I, unJ_J, unJ_F, unJ_R, unJ_N, unJ_U, pushR_I, pushR_J, pushR_F, pushR_R, pushR_N, pushR_U, rfV_s, rfV_n, Option.bind_some, true_or, or_true, if_true, jp, lm3, Int.toNat_natCast]
            rw [if_pos (by omega)]
            simp only [s1067_110, s1067_112, s1067_115, s1067_116, unJ_I, unJ_J, unJ_F, unJ_R, unJ_N, unJ_U, pushR_I, pushR_J, pushR_F, pushR_R, pushR_N, pushR_U, rfV_s, rfV_n, Option.bind_some, true_or, or_true, if_true, cc]
          · rw [if_pos (by omega), txC_out (by omega), if_neg (by omega)]
            simp only [s1067_115, s1067_116, unJ_I, unJ_J, unJ_F, unJ_R, unJ_N, unJ_U, pushR_I, pushR_J, pushR_F, pushR_R, pushR_N, pushR_U, rfV_s, rfV_n, Option.bind_some, true_or, or_true, if_true]
        rw [← pc]
        by_cases z4 : txC tx (p' : Int) = 59
        · rw [if_pos z4] at run3 ⊢
          have il4 : p' < tx.length := by
            rcases Nat.lt_or_ge p' tx.length with a | a
            · exact a
            · rw [txC_out (by omega)] at z4; omega
          have ep : Unit → w32 ((p' : Int) + 1) = (p' : Int) + 1 := fun _ => w32_id (by omega) (by omega)
          refine Or.inr ⟨rfl, up2 (up2 J4 212 0 (bnV tx p)) 206 0 ((p' : Int) + 1), t, ?_, (f5 _).tr (FR.up _ 206 _ (by omega)), ⟨p' + 1, up2_eq, rfl, by omega⟩, (up2_ne (by omega)).trans ((up2_ne (by omega)).trans ((f4 _ _ (by omega)).trans up2_eq)), (up2_ne (by omega)).trans ((up2_ne (by omega)).trans ((f4 _ _ (by omega)).trans ((up2_ne (by omega)).trans ((f2 _ _ (by omega)).trans ((up2_ne (by omega)).trans hs))))), (up2_ne (by omega)).trans up2_eq⟩
          rw [run3]
          simp only [s1067_117, s1067_118, s1067_118r, s1067_119, s1067_122, s1067_123, s1067_124, unJ_I, unJ_J, unJ_F, unJ_R, unJ_N, unJ_U, pushR_I, pushR_J, pushR_F, pushR_R, pushR_N, pushR_U, rfV_s, rfV_n, Option.bind_some, true_or, or_true, if_true, jp, ep ()]
        · rw [if_neg z4] at run3 ⊢
          exact Or.inl ⟨by decide, _, run3, f5 _⟩
      · rw [if_pos (fun y => z3 y)]
        rw [if_neg z3] at run2
        refine Or.inl ⟨by decide, _, ?_, f5 (-1)⟩
        rw [run2]
        simp only [s1067_85, s1067_88, s1067_89, unJ_I, unJ_J, unJ_F, unJ_R, unJ_N, unJ_U, pushR_I, pushR_J, pushR_F, pushR_R, pushR_N, pushR_U, rfV_s, rfV_n, Option.bind_some, true_or, or_true, if_true]
        rw [if_neg (by omega)]
  · rw [if_pos z1]
    rw [if_neg z1, b01_f z1] at bl
    refine Or.inl ⟨by decide, up2 J 206 0 (i : Int), ?_, FR.up J 206 (i : Int) (by omega)⟩
    simp only [s1067_43, s1067_44, unJ_I, unJ_J, unJ_F, unJ_R, unJ_N, unJ_U, pushR_I, pushR_J, pushR_F, pushR_R, pushR_N, pushR_U, rfV_s, rfV_n, Option.bind_some, true_or, or_true, if_true, bl]
    simp only [s1067_47, s1067_50, s1067_51, unJ_I, unJ_J, unJ_F, unJ_R, unJ_N, unJ_U, pushR_I, pushR_J, pushR_F, pushR_R, pushR_N, pushR_U, rfV_s, rfV_n, Option.bind_some, true_or, or_true, if_true]
theorem w_form (h : TxM J M tx) {i : Nat} (hi : i ≤ tx.length) (hc : J 206 0 = (i : Int)) : FormR J M T q C J 0 [vR 10 0, vU] 0 (frmU tx i) tx := by
  obtain ⟨J1, e1, f1, p, p1, p2, p3⟩ := w_word q (C := C) (T := T) h hi hc
  have st : rs 1067 0 [vR 10 0, vU] [] (SX q, C, (J, M, T)) = rs 1067 6 [vR 10 0, vI (wdR tx i 8)] [vI (wdR tx i 8)] (SX q, C, (J1, M, T)) := by
    simp only [s1067_0, s1067_1, unJ_I, unJ_J, unJ_F, unJ_R, unJ_N, unJ_U, pushR_I, pushR_J, pushR_F, pushR_R, pushR_N, pushR_U, rfV_s, rfV_n, Option.bind_some, true_or, or_true, if_true, e1]
    simp only [s1067_4, s1067_5, unJ_I, unJ_J, unJ_F, unJ_R, unJ_N, unJ_U, pushR_I, pushR_J, pushR_F, pushR_R, pushR_N, pushR_U, rfV_s, rfV_n, Option.bind_some, true_or, or_true, if_true]
  unfold frmU
  cases hw : tpW tx i 6 0 with
  | none =>
    have no := tpW_no hw
    refine Or.inl ⟨show ¬ (1 : Int) = 0 by decide, J1, ?_, f1.r⟩
    rw [st]
    rcases wdR_r (tx := tx) (i := (i : Int)) (t := 8) with a | ⟨v, a, b, c⟩
    · simp only [s1067_6, s1067_14, s1067_15, unJ_I, unJ_J, unJ_F, unJ_R, unJ_N, unJ_U, pushR_I, pushR_J, pushR_F, pushR_R, pushR_N, pushR_U, rfV_s, rfV_n, Option.bind_some, true_or, or_true, if_true]
      rw [if_pos (by omega)]
    · have : 6 ≤ v := by
        rcases Nat.lt_or_ge v 6 with x | x
        · exact absurd c (no v (by omega) (by omega))
        · exact x
      simp only [s1067_6, s1067_9, s1067_10, s1067_11, s1067_14, s1067_15, unJ_I, unJ_J, unJ_F, unJ_R, unJ_N, unJ_U, pushR_I, pushR_J, pushR_F, pushR_R, pushR_N, pushR_U, rfV_s, rfV_n, Option.bind_some, true_or, or_true, if_true]
      rw [if_neg (by omega), if_neg (by omega)]
  | some t =>
    obtain ⟨t6, wt⟩ := tpW_lt hw
    have et := wdR_is (tx := tx) (i := (i : Int)) (u := t) (by omega) wt
    have pt := p3 t (by omega) wt
    have f2 : FR J (up2 J1 211 0 0) := f1.r.tr (FR.up J1 211 _ (by omega))
    have pw : ((p : Nat) : Int) = (i : Int) + wLen t := by rw [pt]; unfold wLen; omega
    have run : rs 1067 0 [vR 10 0, vU] [] (SX q, C, (J, M, T)) = rs 1067 21 [vR 10 0, vI (t : Int)] [] (SX q, C, (up2 J1 211 0 0, M, T)) := by
      rw [st, et]
      simp only [s1067_6, s1067_9, s1067_10, s1067_11, s1067_14, s1067_15, s1067_16, s1067_17, s1067_18, unJ_I, unJ_J, unJ_F, unJ_R, unJ_N, unJ_U, pushR_I, pushR_J, pushR_F, pushR_R, pushR_N, pushR_U, rfV_s, rfV_n, Option.bind_some, true_or, or_true, if_true]
      rw [if_neg (by omega), if_pos (by omega)]
    have go : ∀ (J2 : M2) (p2 : Nat) (s : Int), p2 ≤ tx.length → FR J J2 → J2 206 0 = (p2 : Int) → J2 211 0 = s → rs 1067 0 [vR 10 0, vU] [] (SX q, C, (J, M, T)) = rs 1067 43 [vR 10 0, vI (t : Int)] [] (SX q, C, (J2, M, T)) → FormR J M T q C J 0 [vR 10 0, vU] 0 (frm2 tx p2 t s) tx := fun J2 p2 s g1 g2 g3 g4 g5 => by
      rcases w_form2 q (C := C) (T := T) (h.fr g2) g1 g3 (by omega) g4 with ⟨a, J3, b, c⟩ | ⟨a, J3, w', b, c, d⟩
      · exact Or.inl ⟨a, J3, g5.trans b, g2.tr c⟩
      · exact Or.inr ⟨a, J3, w', g5.trans b, g2.tr c, d⟩
    show FormR J M T q C J 0 [vR 10 0, vU] 0 (if t ≤ 2 then (if bnOk tx (i + wLen t) then frm2 tx (bnC tx (i + wLen t)) t (bnV tx (i + wLen t)) else (2, (0, 0, 0), 0)) else frm2 tx (i + wLen t) t 0) tx
    rw [← pw]
    by_cases t2 : t ≤ 2
    · rw [if_pos t2]
      obtain ⟨J4, e4, f4, p', q1, q2, q3⟩ := w_num q (C := C) (T := T) (h.fr f2) (i := p) p2 ((up2_ne (by omega)).trans p1)
      have f5 : ∀ v : Int, FR J (up2 J4 211 0 v) := fun v => f2.tr (f4.r.tr (FR.up J4 211 _ (by omega)))
      have run2 : rs 1067 0 [vR 10 0, vU] [] (SX q, C, (J, M, T)) = rs 1067 38 [vR 10 0, vI (t : Int)] [vI (if bnOk tx p then bnV tx p else -1)] (SX q, C, (up2 J4 211 0 (if bnOk tx p then bnV tx p else -1), M, T)) := by
        rw [run]
        simp only [s1067_21, s1067_22, s1067_23, s1067_26, s1067_27, s1067_28, unJ_I, unJ_J, unJ_F, unJ_R, unJ_N, unJ_U, pushR_I, pushR_J, pushR_F, pushR_R, pushR_N, pushR_U, rfV_s, rfV_n, Option.bind_some, true_or, or_true, if_true, e4]
        rw [if_neg (by omega)]
        simp only [s1067_31, s1067_34, s1067_35, unJ_I, unJ_J, unJ_F, unJ_R, unJ_N, unJ_U, pushR_I, pushR_J, pushR_F, pushR_R, pushR_N, pushR_U, rfV_s, rfV_n, Option.bind_some, true_or, or_true, if_true, up2_eq]
      by_cases z3 : bnOk tx p
      · have bv : 0 ≤ bnV tx p := (nmS_r tx ((p : Int) + 1) 4).2.1
        rw [if_pos z3] at run2 ⊢
        have pc := q3 z3
        rw [← pc]
        refine go _ p' (bnV tx p) q2 (f5 _) ((up2_ne (by omega)).trans q1) up2_eq ?_
        rw [run2]
        simp only [s1067_38, unJ_I, unJ_J, unJ_F, unJ_R, unJ_N, unJ_U, pushR_I, pushR_J, pushR_F, pushR_R, pushR_N, pushR_U, rfV_s, rfV_n, Option.bind_some, true_or, or_true, if_true]
        rw [if_pos bv]
      · rw [if_neg z3] at run2 ⊢
        refine Or.inl ⟨by decide, _, ?_, f5 (-1)⟩
        rw [run2]
        simp only [s1067_38, s1067_41, s1067_42, unJ_I, unJ_J, unJ_F, unJ_R, unJ_N, unJ_U, pushR_I, pushR_J, pushR_F, pushR_R, pushR_N, pushR_U, rfV_s, rfV_n, Option.bind_some, true_or, or_true, if_true]
        rw [if_neg (by omega)]
    · rw [if_neg t2]
      refine go _ p 0 p2 f2 ((up2_ne (by omega)).trans p1) up2_eq ?_
      rw [run]
      simp only [s1067_21, s1067_22, s1067_23, unJ_I, unJ_J, unJ_F, unJ_R, unJ_N, unJ_U, pushR_I, pushR_J, pushR_F, pushR_R, pushR_N, pushR_U, rfV_s, rfV_n, Option.bind_some, true_or, or_true, if_true]
      rw [if_pos (by omega)]
end
