/-! A RULE OF THE TEXT: its form -/
def frm2 (tx : List Int) (i : Int) (t : Nat) (s : Int) : Int × (Int × Int × Int) × Int :=
  if txC tx i ≠ 32 then (2, (0, 0, 0), 0)
  else if sideU tx (i + 1) t = -1 then (1, (0, 0, 0), 0)
  else if ¬ bnOk tx (i + 1 + sideL tx (i + 1) t) then (2, (0, 0, 0), 0)
  else if txC tx (bnC tx (i + 1 + sideL tx (i + 1) t)) = 59 then (0, (sideU tx (i + 1) t, s, bnV tx (i + 1 + sideL tx (i + 1) t)), bnC tx (i + 1 + sideL tx (i + 1) t) + 1)
  else (4, (0, 0, 0), 0)
def frmU (tx : List Int) (i : Int) : Int × (Int × Int × Int) × Int :=
  match tpW tx i 6 0 with
  | none => (1, (0, 0, 0), 0)
  | some t => if t ≤ 2 then (if bnOk tx (i + wLen t) then frm2 tx (bnC tx (i + wLen t)) t (bnV tx (i + wLen t)) else (2, (0, 0, 0), 0)) else frm2 tx (i + wLen t) t 0
theorem wLen_r (t : Nat) (h : t < 8) : 4 ≤ wLen t ∧ wLen t ≤ 7 := by
  have := txt_f t h
  unfold wLen
  omega
theorem sideL_r (tx : List Int) (i : Int) (t : Nat) : 4 ≤ sideL tx i t ∧ sideL tx i t ≤ 7 := by
  have a := wLen_r 6 (by omega)
  have b := wLen_r 7 (by omega)
  unfold sideL
  split <;> omega
theorem bnC_r (tx : List Int) (i : Int) : i + 1 ≤ bnC tx i ∧ bnC tx i ≤ i + 5 := by
  have := nmS_r tx (i + 1) 4
  unfold bnC
  omega
theorem frm2_c {tx : List Int} {i : Int} {t : Nat} {s : Int} (h : (frm2 tx i t s).1 = 0) : i + 5 ≤ (frm2 tx i t s).2.2 ∧ (frm2 tx i t s).2.2 ≤ i + 20 ∧ (frm2 tx i t s).2.1.1 ≠ -1 ∧ (frm2 tx i t s).2.1.1 = sideU tx (i + 1) t := by
  have a := sideL_r tx (i + 1) t
  have b := bnC_r tx (i + 1 + sideL tx (i + 1) t)
  unfold frm2 at h ⊢
  by_cases h1 : txC tx i ≠ 32
  · rw [if_pos h1] at h; exact absurd h (by decide)
  · rw [if_neg h1] at h ⊢
    by_cases h2 : sideU tx (i + 1) t = -1
    · rw [if_pos h2] at h; exact absurd h (by decide)
    · rw [if_neg h2] at h ⊢
      by_cases h3 : ¬ bnOk tx (i + 1 + sideL tx (i + 1) t)
      · rw [if_pos h3] at h; exact absurd h (by decide)
      · rw [if_neg h3] at h ⊢
        by_cases h4 : txC tx (bnC tx (i + 1 + sideL tx (i + 1) t)) = 59
        · rw [if_pos h4]
          refine ⟨?_, ?_, h2, rfl⟩
          · show i + 5 ≤ bnC tx (i + 1 + sideL tx (i + 1) t) + 1
            omega
          · show bnC tx (i + 1 + sideL tx (i + 1) t) + 1 ≤ i + 20
            omega
        · rw [if_neg h4] at h; exact absurd h (by decide)
theorem tpI_k : ∀ t, t < 6 → -1 ≤ tpI 2 t ∧ tpI 2 t ≤ 8 ∧ -1 ≤ tpI 3 t ∧ tpI 3 t ≤ 8 := by decide
theorem sideU_r {tx : List Int} {i : Int} {t : Nat} (ht : t < 6) (h : sideU tx i t ≠ -1) : 0 ≤ sideU tx i t ∧ sideU tx i t ≤ 8 := by
  have k := tpI_k t ht
  unfold sideU at h ⊢
  split
  · rename_i z; have := z.1; omega
  · split
    · rename_i z; have := z.1; omega
    · rename_i a b; rw [if_neg a, if_neg b] at h; exact absurd rfl h
theorem frmU_c {tx : List Int} {i : Int} (h : (frmU tx i).1 = 0) : i + 1 ≤ (frmU tx i).2.2 ∧ (frmU tx i).2.2 ≤ i + 40 ∧ 0 ≤ (frmU tx i).2.1.1 ∧ (frmU tx i).2.1.1 ≤ 8 := by
  unfold frmU at h ⊢
  split
  · rename_i e; rw [e] at h; exact absurd h (show ¬ (1 : Int) = 0 by decide)
  · rename_i t e
    rw [e] at h
    simp only at h
    have ht := (tpW_lt e).1
    have w := wLen_r t (by omega)
    have bc := bnC_r tx (i + wLen t)
    by_cases h1 : t ≤ 2
    · rw [if_pos h1] at h ⊢
      by_cases h2 : bnOk tx (i + wLen t)
      · rw [if_pos h2] at h ⊢
        have f := frm2_c h
        have r := sideU_r (tx := tx) (i := bnC tx (i + wLen t) + 1) (t := t) (by omega) (by rw [← f.2.2.2]; exact f.2.2.1)
        rw [← f.2.2.2] at r
        exact ⟨by omega, by omega, r.1, r.2⟩
      · rw [if_neg h2] at h; exact absurd h (by decide)
    · rw [if_neg h1] at h ⊢
      have f := frm2_c h
      have r := sideU_r (tx := tx) (i := i + wLen t + 1) (t := t) (by omega) (by rw [← f.2.2.2]; exact f.2.2.1)
      rw [← f.2.2.2] at r
      exact ⟨by omega, by omega, r.1, r.2⟩
section
variable (q : Nat × (Nat → Int)) {I A : M2} {L P : Nat → Nat → Option Nat} {F G : Nat → Nat → UInt32} {D : MD} {tx : List Int}
theorem FrN.tr {lo hi : Nat} {I I1 I2 : M2} (h : FrN lo hi I I1) (k : FrN lo hi I1 I2) : FrN lo hi I I2 := fun f y z => (k f y z).trans (h f y z)
theorem FrN.wk {lo hi lo' hi' : Nat} {I I1 : M2} (h : FrN lo hi I I1) (a : lo' ≤ lo) (b : hi ≤ hi') : FrN lo' hi' I I1 := fun f y z => h f y (by omega)
theorem FrN.up (lo hi f : Nat) (I : M2) (v : Int) (h : lo ≤ f ∧ f ≤ hi) : FrN lo hi I (up2 I f 0 v) := fun g y z => up2_ne (by omega)
theorem c_form2 (h : TxAt I A tx) {i : Int} (hi : 0 ≤ i ∧ i ≤ 1000) (hc : I 126 0 = i) (t : Nat) (ht : t < 6) : ∃ I', rs 604 40 [vR 6 0, vR 11 t] [] (SX q, (I, A, L, P, F, G), D) = some (vI (frm2 tx i t (I 129 0)).1, (SX q, (I', A, L, P, F, G), D)) ∧ ((frm2 tx i t (I 129 0)).1 = 0 → I' 128 0 = (frm2 tx i t (I 129 0)).2.1.1 ∧ I' 129 0 = (frm2 tx i t (I 129 0)).2.1.2.1 ∧ I' 130 0 = (frm2 tx i t (I 129 0)).2.1.2.2 ∧ I' 126 0 = (frm2 tx i t (I 129 0)).2.2) ∧ FrN 126 130 I I' := by
  have sl := sideL_r tx (i + 1) t
  have bc := bnC_r tx (i + 1 + sideL tx (i + 1) t)
  generalize hs : I 129 0 = s
  simp only [s604_40, s604_41, s604_43, unJ_I, unJ_J, unJ_F, unJ_R, unJ_N, unJ_U, pushR_I, pushR_J, pushR_F, pushR_R, pushR_N, pushR_U, rfV_s, rfV_n, Option.bind_some, true_or, or_true, if_true, c_pass q h (show 0 ≤ i ∧ i ≤ 100000 by omega) hc]
  unfold frm2
  by_cases h1 : txC tx i = 32
  · rw [if_neg (show ¬ txC tx i ≠ 32 from fun z => z h1)]
    simp only [if_pos h1, b01_t h1, s604_46, unJ_I, unJ_J, unJ_F, unJ_R, unJ_N, unJ_U, pushR_I, pushR_J, pushR_F, pushR_R, pushR_N, pushR_U, rfV_s, rfV_n, Option.bind_some, true_or, or_true, if_true]
    rw [if_neg (by omega)]
    have T1 : TxAt (up2 I 126 0 (i + 1)) A tx := h.keep (fun f y e => up2_ne (by omega)) (fun _ => rfl)
    obtain ⟨I2, e2, a2, f2⟩ := c_passSide q (I := up2 I 126 0 (i + 1)) (A := A) (L := L) (P := P) (F := F) (G := G) (D := D) T1 (i := i + 1) (by omega) up2_eq t
    have g2 : FrN 126 130 I I2 := fun f y z => (f2 f y (by omega)).trans (up2_ne (by omega))
    simp only [s604_51, s604_52, s604_53, s604_53n, s604_54, s604_57, s604_60, unJ_I, unJ_J, unJ_F, unJ_R, unJ_N, unJ_U, pushR_I, pushR_J, pushR_F, pushR_R, pushR_N, pushR_U, rfV_s, rfV_n, Option.bind_some, true_or, or_true, if_true, e2]
    have u1 : up2 I2 128 0 (sideU tx (i + 1) t) 128 0 = sideU tx (i + 1) t := up2_eq
    simp only [s604_61, s604_64, s604_65, unJ_I, unJ_J, unJ_F, unJ_R, unJ_N, unJ_U, pushR_I, pushR_J, pushR_F, pushR_R, pushR_N, pushR_U, rfV_s, rfV_n, Option.bind_some, true_or, or_true, if_true, u1]
    by_cases h2 : sideU tx (i + 1) t = -1
    · rw [if_pos h2, if_pos h2]
      simp only [s604_68, s604_69, unJ_I, unJ_J, unJ_F, unJ_R, unJ_N, unJ_U, pushR_I, pushR_J, pushR_F, pushR_R, pushR_N, pushR_U, rfV_s, rfV_n, Option.bind_some, true_or, or_true, if_true]
      exact ⟨_, rfl, fun z => absurd z (by decide), g2.tr (FrN.up _ _ _ _ _ (by omega))⟩
    · rw [if_neg h2, if_neg h2]
      have T2 : TxAt (up2 I2 128 0 (sideU tx (i + 1) t)) A tx := h.keep (fun f y e => (up2_ne (by omega)).trans (g2 f y (by omega))) (fun _ => rfl)
      have u2 : up2 I2 128 0 (sideU tx (i + 1) t) 126 0 = i + 1 + sideL tx (i + 1) t := (up2_ne (by omega)).trans (a2 h2)
      obtain ⟨I3, e3, a3, f3⟩ := c_passBN q (I := up2 I2 128 0 (sideU tx (i + 1) t)) (A := A) (L := L) (P := P) (F := F) (G := G) (D := D) T2 (i := i + 1 + sideL tx (i + 1) t) (by omega) u2
      simp only [s604_70, s604_71, unJ_I, unJ_J, unJ_F, unJ_R, unJ_N, unJ_U, pushR_I, pushR_J, pushR_F, pushR_R, pushR_N, pushR_U, rfV_s, rfV_n, Option.bind_some, true_or, or_true, if_true, e3]
      by_cases h3 : bnOk tx (i + 1 + sideL tx (i + 1) t)
      · obtain ⟨a4, a5⟩ := a3 h3
        rw [if_neg (fun z => z h3)]
        simp only [s604_74, unJ_I, unJ_J, unJ_F, unJ_R, unJ_N, unJ_U, pushR_I, pushR_J, pushR_F, pushR_R, pushR_N, pushR_U, rfV_s, rfV_n, Option.bind_some, true_or, or_true, if_true, b01_t h3]
        rw [if_neg (by omega)]
        have g3 : FrN 126 130 I I3 := (g2.tr (FrN.up _ _ _ _ _ (by omega))).tr (f3.wk (by omega) (by omega))
        have T3 : TxAt (up2 I3 130 0 (bnV tx (i + 1 + sideL tx (i + 1) t))) A tx := h.keep (fun f y e => (up2_ne (by omega)).trans (g3 f y (by omega))) (fun _ => rfl)
        have u3 : up2 I3 130 0 (bnV tx (i + 1 + sideL tx (i + 1) t)) 126 0 = bnC tx (i + 1 + sideL tx (i + 1) t) := (up2_ne (by omega)).trans a5
        simp only [s604_79, s604_80, s604_81, s604_84, s604_87, s604_88, s604_90, unJ_I, unJ_J, unJ_F, unJ_R, unJ_N, unJ_U, pushR_I, pushR_J, pushR_F, pushR_R, pushR_N, pushR_U, rfV_s, rfV_n, Option.bind_some, true_or, or_true, if_true, a4, c_pass q T3 (show 0 ≤ bnC tx (i + 1 + sideL tx (i + 1) t) ∧ bnC tx (i + 1 + sideL tx (i + 1) t) ≤ 100000 by omega) u3]
        by_cases h4 : txC tx (bnC tx (i + 1 + sideL tx (i + 1) t)) = 59
        · rw [if_pos h4]
          simp only [if_pos h4, b01_t h4, s604_93, s604_96, s604_97, s604_100, s604_101, unJ_I, unJ_J, unJ_F, unJ_R, unJ_N, unJ_U, pushR_I, pushR_J, pushR_F, pushR_R, pushR_N, pushR_U, rfV_s, rfV_n, Option.bind_some, true_or, or_true, if_true]
          rw [if_neg (by omega)]
          refine ⟨_, rfl, fun _ => ⟨?_, ?_, ?_, up2_eq⟩, (g3.tr (FrN.up _ _ _ _ _ (by omega))).tr (FrN.up _ _ _ _ _ (by omega))⟩
          · exact (up2_ne (by omega)).trans ((up2_ne (by omega)).trans ((f3 _ _ (by omega)).trans u1))
          · exact (up2_ne (by omega)).trans ((up2_ne (by omega)).trans ((f3 _ _ (by omega)).trans ((up2_ne (by omega)).trans ((f2 _ _ (by omega)).trans ((up2_ne (by omega)).trans hs)))))
          · exact (up2_ne (by omega)).trans up2_eq
        · rw [if_neg h4]
          simp only [if_neg h4, b01_f h4, s604_93, s604_96, s604_97, s604_100, s604_101, unJ_I, unJ_J, unJ_F, unJ_R, unJ_N, unJ_U, pushR_I, pushR_J, pushR_F, pushR_R, pushR_N, pushR_U, rfV_s, rfV_n, Option.bind_some, true_or, or_true, if_true]
          exact ⟨_, rfl, fun z => absurd z (by decide), g3.tr (FrN.up _ _ _ _ _ (by omega))⟩
      · rw [if_pos h3]
        simp only [s604_74, s604_77, s604_78, unJ_I, unJ_J, unJ_F, unJ_R, unJ_N, unJ_U, pushR_I, pushR_J, pushR_F, pushR_R, pushR_N, pushR_U, rfV_s, rfV_n, Option.bind_some, true_or, or_true, if_true, b01_f h3]
        exact ⟨_, rfl, fun z => absurd z (by decide), (g2.tr (FrN.up _ _ _ _ _ (by omega))).tr (f3.wk (by omega) (by omega))⟩
  · rw [if_pos h1]
    simp only [if_neg h1, b01_f h1, s604_46, s604_49, s604_50, unJ_I, unJ_J, unJ_F, unJ_R, unJ_N, unJ_U, pushR_I, pushR_J, pushR_F, pushR_R, pushR_N, pushR_U, rfV_s, rfV_n, Option.bind_some, true_or, or_true, if_true]
    exact ⟨_, rfl, fun z => absurd z (by decide), fun _ _ _ => rfl⟩
/-- Script.reasonOfForm -/
theorem c_form (h : TxAt I A tx) {i : Int} (hi : 0 ≤ i ∧ i ≤ 200) (hc : I 126 0 = i) : ∃ I', rs 604 0 [vR 6 0, vU] [] (SX q, (I, A, L, P, F, G), D) = some (vI (frmU tx i).1, (SX q, (I', A, L, P, F, G), D)) ∧ ((frmU tx i).1 = 0 → I' 128 0 = (frmU tx i).2.1.1 ∧ I' 129 0 = (frmU tx i).2.1.2.1 ∧ I' 130 0 = (frmU tx i).2.1.2.2 ∧ I' 126 0 = (frmU tx i).2.2) ∧ FrN 126 130 I I' := by
  simp only [s604_0, s604_1, unJ_I, unJ_J, unJ_F, unJ_R, unJ_N, unJ_U, pushR_I, pushR_J, pushR_F, pushR_R, pushR_N, pushR_U, rfV_s, rfV_n, Option.bind_some, true_or, or_true, if_true, c_passTopic q h (show 0 ≤ i ∧ i ≤ 10000 by omega) hc]
  unfold frmU
  cases e : tpW tx i 6 0 with
  | none =>
    simp only [s604_4n, s604_5n, s604_6n, s604_9, s604_10, unJ_I, unJ_J, unJ_F, unJ_R, unJ_N, unJ_U, pushR_I, pushR_J, pushR_F, pushR_R, pushR_N, pushR_U, rfV_s, rfV_n, Option.bind_some, true_or, or_true, if_true]
    exact ⟨_, rfl, fun z => absurd z (by decide), fun _ _ _ => rfl⟩
  | some t =>
    have ht := (tpW_lt e).1
    have w := wLen_r t (by omega)
    have bc := bnC_r tx (i + wLen t)
    have g1 : FrN 126 130 I (up2 (up2 I 126 0 (i + wLen t)) 129 0 0) := (FrN.up _ _ _ _ _ (by omega)).tr (FrN.up _ _ _ _ _ (by omega))
    have T1 : TxAt (up2 (up2 I 126 0 (i + wLen t)) 129 0 0) A tx := h.keep (fun f y e => g1 f y (by omega)) (fun _ => rfl)
    have u1 : up2 (up2 I 126 0 (i + wLen t)) 129 0 0 126 0 = i + wLen t := (up2_ne (by omega)).trans up2_eq
    have u2 : up2 (up2 I 126 0 (i + wLen t)) 129 0 0 129 0 = 0 := up2_eq
    simp only [s604_4, s604_5, s604_6, s604_11, s604_12, s604_13, s604_16, s604_16n, s604_17, unJ_I, unJ_J, unJ_F, unJ_R, unJ_N, unJ_U, pushR_I, pushR_J, pushR_F, pushR_R, pushR_N, pushR_U, rfV_s, rfV_n, Option.bind_some, true_or, or_true, if_true, c_isOf]
    by_cases h1 : t ≤ 2
    · rw [if_pos h1]
      obtain ⟨I3, e3, a3, f3⟩ := c_passBN q (I := up2 (up2 I 126 0 (i + wLen t)) 129 0 0) (A := A) (L := L) (P := P) (F := F) (G := G) (D := D) T1 (i := i + wLen t) (by omega) u1
      simp only [s604_20, unJ_I, unJ_J, unJ_F, unJ_R, unJ_N, unJ_U, pushR_I, pushR_J, pushR_F, pushR_R, pushR_N, pushR_U, rfV_s, rfV_n, Option.bind_some, true_or, or_true, if_true, b01_t h1]
      rw [if_neg (by omega)]
      simp only [s604_23, s604_24, unJ_I, unJ_J, unJ_F, unJ_R, unJ_N, unJ_U, pushR_I, pushR_J, pushR_F, pushR_R, pushR_N, pushR_U, rfV_s, rfV_n, Option.bind_some, true_or, or_true, if_true, e3]
      by_cases h2 : bnOk tx (i + wLen t)
      · obtain ⟨a4, a5⟩ := a3 h2
        have g3 : FrN 126 130 I (up2 I3 129 0 (bnV tx (i + wLen t))) := (g1.tr (f3.wk (by omega) (by omega))).tr (FrN.up _ _ _ _ _ (by omega))
        rw [if_pos h2]
        simp only [s604_27, s604_30, s604_31, s604_32, s604_33, s604_34, s604_37, unJ_I, unJ_J, unJ_F, unJ_R, unJ_N, unJ_U, pushR_I, pushR_J, pushR_F, pushR_R, pushR_N, pushR_U, rfV_s, rfV_n, Option.bind_some, true_or, or_true, if_true, b01_t h2, a4]
        rw [if_neg (by omega)]
        obtain ⟨I4, e4, a6, f4⟩ := c_form2 q (I := up2 I3 129 0 (bnV tx (i + wLen t))) (A := A) (L := L) (P := P) (F := F) (G := G) (D := D) (h.keep (fun f y e => g3 f y (by omega)) (fun _ => rfl)) (i := bnC tx (i + wLen t)) (by omega) ((up2_ne (by omega)).trans a5) t (by omega)
        have u4 : up2 I3 129 0 (bnV tx (i + wLen t)) 129 0 = bnV tx (i + wLen t) := up2_eq
        rw [u4] at e4 a6
        exact ⟨I4, e4, a6, g3.tr f4⟩
      · rw [if_neg h2]
        simp only [s604_27, s604_30, s604_31, unJ_I, unJ_J, unJ_F, unJ_R, unJ_N, unJ_U, pushR_I, pushR_J, pushR_F, pushR_R, pushR_N, pushR_U, rfV_s, rfV_n, Option.bind_some, true_or, or_true, if_true, b01_f h2]
        exact ⟨_, rfl, fun z => absurd z (by decide), g1.tr (f3.wk (by omega) (by omega))⟩
    · rw [if_neg h1]
      simp only [s604_20, unJ_I, unJ_J, unJ_F, unJ_R, unJ_N, unJ_U, pushR_I, pushR_J, pushR_F, pushR_R, pushR_N, pushR_U, rfV_s, rfV_n, Option.bind_some, true_or, or_true, if_true, b01_f h1]
      obtain ⟨I4, e4, a6, f4⟩ := c_form2 q (I := up2 (up2 I 126 0 (i + wLen t)) 129 0 0) (A := A) (L := L) (P := P) (F := F) (G := G) (D := D) T1 (i := i + wLen t) (by omega) u1 t (by omega)
      rw [u2] at e4 a6
      exact ⟨I4, e4, a6, g1.tr f4⟩
end
