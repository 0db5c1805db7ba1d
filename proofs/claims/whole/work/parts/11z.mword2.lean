/-! THE MODEL CALLS: readWord, readsBlank, readNumber -/
def FJ (lo hi : Nat) (J J' : M2) : Prop := ∀ f y, ¬ (lo ≤ f ∧ f ≤ hi) → J' f y = J f y
theorem FJ.rf {lo hi : Nat} (J : M2) : FJ lo hi J J := fun _ _ _ => rfl
theorem FJ.tr {lo hi : Nat} {J J1 J2' : M2} (h : FJ lo hi J J1) (k : FJ lo hi J1 J2') : FJ lo hi J J2' := fun f y z => (k f y z).trans (h f y z)
theorem TxM.fj {J M J' : M2} {tx : List Int} (h : TxM J M tx) (k : FJ 206 212 J J') : TxM J' M tx := ⟨(k _ _ (by omega)).trans h.1, h.2⟩
theorem FJ.w {J J' : M2} (h : FJ 206 206 J J') : FJ 206 212 J J' := fun f y z => h f y (by omega)
theorem FJ.up {lo hi : Nat} (J : M2) (f : Nat) (v : Int) (h : lo ≤ f ∧ f ≤ hi) : FJ lo hi J (up2 J f 0 v) := fun g y z => up2_ne (by omega)
def wvW (tx : List Int) (i n : Nat) : Int := if n ≤ 7 then (pkW (fun k => txC tx ((i : Int) + k)) n : Int) else -1
section
variable (q : Nat × (Nat → Int)) {C : MC} {J M T : M2} {tx : List Int}
theorem w_letters (h : TxM J M tx) {i : Nat} : ∀ (d n : Nat) (J' : M2), i + n + d = tx.length → FJ 206 206 J J' → J' 206 0 = ((i + n : Nat) : Int) → (∀ k : Nat, k < n → isLo (txC tx ((i : Int) + k))) → ∃ n' J'', rs 1060 7 [vR 10 0, vJ (wvW tx i n), vU, vI (i : Int), vU, vU] [] (SX q, C, (J', M, T)) = rs 1060 86 [vR 10 0, vJ (wvW tx i n'), vU, vI (i : Int), vU, vU] [] (SX q, C, (J'', M, T)) ∧ FJ 206 206 J J'' ∧ J'' 206 0 = ((i + n' : Nat) : Int) ∧ i + n' ≤ tx.length ∧ (∀ k : Nat, k < n' → isLo (txC tx ((i : Int) + k))) ∧ ¬ isLo (txC tx ((i : Int) + n')) := by
  intro d
  induction d with
  | zero =>
    intro n J' hd hf hp hl
    have l5 : J' 205 0 = (tx.length : Int) := (hf _ _ (by omega)).trans h.1
    refine ⟨n, J', ?_, hf, hp, by omega, hl, ?_⟩
    · rw [s1060_7]
      simp only [s1060_8, s1060_11, s1060_12, s1060_15, unJ_I, unJ_J, unJ_F, unJ_R, unJ_N, unJ_U, pushR_I, pushR_J, pushR_F, pushR_R, pushR_N, pushR_U, rfV_s, rfV_n, Option.bind_some, true_or, or_true, if_true, hp, l5]
      rw [if_pos (by omega)]
    · rw [txC_out (by omega)]; exact fun z => by have := z.1; omega
  | succ d ih =>
    intro n J' hd hf hp hl
    have l5 : J' 205 0 = (tx.length : Int) := (hf _ _ (by omega)).trans h.1
    have l100 := h.2.1
    have cc := h.c (i := i + n) (by omega)
    have run : rs 1060 7 [vR 10 0, vJ (wvW tx i n), vU, vI (i : Int), vU, vU] [] (SX q, C, (J', M, T)) = if ¬ isLo (M 3 (i + n)) then rs 1060 86 [vR 10 0, vJ (wvW tx i n), vU, vI (i : Int), vU, vU] [] (SX q, C, (J', M, T)) else rs 1060 40 [vR 10 0, vJ (wvW tx i n), vU, vI (i : Int), vU, vU] [] (SX q, C, (J', M, T)) := by
      rw [s1060_7]
      simp only [s1060_8, s1060_11, s1060_12, s1060_15, s1060_18, s1060_19, s1060_22, s1060_23, s1060_26, unJ_I, unJ_J, unJ_F, unJ_R, unJ_N, unJ_U, pushR_I, pushR_J, pushR_F, pushR_R, pushR_N, pushR_U, rfV_s, rfV_n, Option.bind_some, true_or, or_true, if_true, hp, l5, lm3, Int.toNat_natCast]
      rw [if_neg (by omega), if_pos (by omega)]
      simp only [s1060_27, s1060_28, s1060_31, s1060_34, s1060_37, unJ_I, unJ_J, unJ_F, unJ_R, unJ_N, unJ_U, pushR_I, pushR_J, pushR_F, pushR_R, pushR_N, pushR_U, rfV_s, rfV_n, Option.bind_some, true_or, or_true, if_true, c_in, b01_0]
    have ein : ((i : Int) + (n : Nat)) = ((i + n : Nat) : Int) := by omega
    by_cases hz : isLo (M 3 (i + n))
    · rw [if_neg (fun z => z hz)] at run
      have hl' : ∀ k : Nat, k < n + 1 → isLo (txC tx ((i : Int) + k)) := fun k hk => by
        by_cases e : k = n
        · subst e; rw [ein, cc]; exact hz
        · exact hl k (by omega)
      have ep : Unit → w32 (((i + n : Nat) : Int) + 1) = ((i + (n + 1) : Nat) : Int) := fun _ => by rw [w32_id (by omega) (by omega)]; omega
      have es : Unit → w32 (((i + n : Nat) : Int) - (i : Int)) = (n : Int) := fun _ => by rw [w32_id (by omega) (by omega)]; omega
      obtain ⟨n', J'', e1, r⟩ := ih (n + 1) (up2 J' 206 0 ((i + (n + 1) : Nat) : Int)) (by omega) (hf.tr (FJ.up J' 206 _ (by omega))) up2_eq hl'
      refine ⟨n', J'', ?_, r⟩
      rw [run]
      refine Eq.trans ?_ e1
      have tail : ∀ v : Int, v = wvW tx i (n + 1) → ∀ l : AV, rs 1060 72 [vR 10 0, vJ (wvW tx i n), vU, vI (i : Int), vU, vU] [vJ v] (SX q, C, (J', M, T)) = rs 1060 7 [vR 10 0, vJ (wvW tx i (n + 1)), vU, vI (i : Int), vU, vU] [] (SX q, C, (up2 J' 206 0 ((i + (n + 1) : Nat) : Int), M, T)) := fun v hv _ => by
        rw [hv]
        simp only [s1060_72, s1060_73, s1060_74, s1060_74r, s1060_75, s1060_78, s1060_79, s1060_80, s1060_83, unJ_I, unJ_J, unJ_F, unJ_R, unJ_N, unJ_U, pushR_I, pushR_J, pushR_F, pushR_R, pushR_N, pushR_U, rfV_s, rfV_n, Option.bind_some, true_or, or_true, if_true, hp, ep ()]
      by_cases h7 : n < 7
      · have w1 : wvW tx i n = (pkW (fun k => txC tx ((i : Int) + k)) n : Int) := if_pos (by omega)
        have w2 : wvW tx i (n + 1) = (pkW (fun k => txC tx ((i : Int) + k)) (n + 1) : Int) := if_pos (by omega)
        have pl := pkW_lt (f := fun k => txC tx ((i : Int) + k)) hl
        have p6 : (256 : Nat) ^ n ≤ 2 ^ 48 := by
          have : (256 : Nat) ^ n ≤ 256 ^ 6 := Nat.pow_le_pow_right (by omega) (by omega)
          have e : (256 : Nat) ^ 6 = 2 ^ 48 := by decide
          omega
        have em : M 3 (i + n) = (((M 3 (i + n)).toNat : Nat) : Int) := by have := hz.1; omega
        have hj : j_or (j_shl (wvW tx i n) 8) (M 3 (i + n)) = wvW tx i (n + 1) := by
          rw [w1, w2, em, j_pack _ _ (by omega) (by have := hz.2; omega)]
          show _ = ((pkW (fun k => txC tx ((i : Int) + k)) n * 256 + (txC tx ((i : Int) + (n : Nat))).toNat : Nat) : Int)
          rw [ein, cc]
        refine Eq.trans ?_ (tail _ hj vU)
        simp only [s1060_40, s1060_41, s1060_44, s1060_45, s1060_46, s1060_48, unJ_I, unJ_J, unJ_F, unJ_R, unJ_N, unJ_U, pushR_I, pushR_J, pushR_F, pushR_R, pushR_N, pushR_U, rfV_s, rfV_n, Option.bind_some, true_or, or_true, if_true, hp, es ()]
        rw [if_neg (by omega)]
        simp only [s1060_51, s1060_52, s1060_54, s1060_55, s1060_56, s1060_59, s1060_60, s1060_63, unJ_I, unJ_J, unJ_F, unJ_R, unJ_N, unJ_U, pushR_I, pushR_J, pushR_F, pushR_R, pushR_N, pushR_U, rfV_s, rfV_n, Option.bind_some, true_or, or_true, if_true, hp, lm3, Int.toNat_natCast]
        rw [if_pos (by omega)]
        simp only [s1060_64, s1060_65, s1060_66, unJ_I, unJ_J, unJ_F, unJ_R, unJ_N, unJ_U, pushR_I, pushR_J, pushR_F, pushR_R, pushR_N, pushR_U, rfV_s, rfV_n, Option.bind_some, true_or, or_true, if_true]
      · have w2 : wvW tx i (n + 1) = -1 := if_neg (by omega)
        refine Eq.trans ?_ (tail _ w2.symm vU)
        simp only [s1060_40, s1060_41, s1060_44, s1060_45, s1060_46, s1060_48, unJ_I, unJ_J, unJ_F, unJ_R, unJ_N, unJ_U, pushR_I, pushR_J, pushR_F, pushR_R, pushR_N, pushR_U, rfV_s, rfV_n, Option.bind_some, true_or, or_true, if_true, hp, es ()]
        rw [if_pos (by omega)]
        simp only [s1060_69, unJ_I, unJ_J, unJ_F, unJ_R, unJ_N, unJ_U, pushR_I, pushR_J, pushR_F, pushR_R, pushR_N, pushR_U, rfV_s, rfV_n, Option.bind_some, true_or, or_true, if_true]
    · rw [if_pos hz] at run
      exact ⟨n, J', run, hf, hp, by omega, hl, by rw [ein, cc]; exact hz⟩
/-- readWord -/
theorem w_word (h : TxM J M tx) {i : Nat} (hi : i ≤ tx.length) (hc : J 206 0 = (i : Int)) : ∃ J', rs 1060 0 [vR 10 0, vU, vU, vU, vU, vU] [] (SX q, C, (J, M, T)) = some (vI (wdR tx i 8), (SX q, C, (J', M, T))) ∧ FJ 206 206 J J' ∧ ∃ p : Nat, J' 206 0 = (p : Int) ∧ p ≤ tx.length ∧ ∀ t : Nat, t < 8 → wdAt tx i t → p = i + (txt t).length := by
  obtain ⟨n, J1, e1, f1, p1, n1, l1, x1⟩ := w_letters q (C := C) (M := M) (T := T) h (i := i) (tx.length - i) 0 J (by omega) (FJ.rf J) hc (fun k hk => absurd hk (Nat.not_lt_zero _))
  have l100 := h.2.1
  have es : Unit → w32 (((i + n : Nat) : Int) - (i : Int)) = (n : Int) := fun _ => by rw [w32_id (by omega) (by omega)]; omega
  have e0 : rs 1060 0 [vR 10 0, vU, vU, vU, vU, vU] [] (SX q, C, (J, M, T)) = rs 1060 7 [vR 10 0, vJ (wvW tx i 0), vU, vI (i : Int), vU, vU] [] (SX q, C, (J, M, T)) := by
    simp only [s1060_0, s1060_1, s1060_2, s1060_3, s1060_6, unJ_I, unJ_J, unJ_F, unJ_R, unJ_N, unJ_U, pushR_I, pushR_J, pushR_F, pushR_R, pushR_N, pushR_U, rfV_s, rfV_n, Option.bind_some, true_or, or_true, if_true, hc]
    rfl
  refine ⟨J1, ?_, f1, i + n, p1, n1, fun t ht hw => ?_⟩
  · rw [e0, e1]
    by_cases h7 : n ≤ 7
    · have w1 : wvW tx i n = (pkW (fun k => txC tx ((i : Int) + k)) n : Int) := if_pos h7
      have loop := rs_loop (m := 1060) (pc := 105) (fun t => [vU, vJ (wvW tx i n), vU, vU, vI (wdR tx i t), vI (t : Int)]) (fun _ => (SX q, C, (J1, M, T))) 8 (fun t ht => by
        have et : Unit → w32 ((t : Int) + 1) = ((t + 1 : Nat) : Int) := fun _ => by rw [w32_id (by omega) (by omega)]; omega
        have wc := wd_code (tx := tx) (i := i) (n := n) ht l1 x1
        rw [s1060_105]
        simp only [s1060_107, s1060_109, s1060_112, s1060_114, unJ_I, unJ_J, unJ_F, unJ_R, unJ_N, unJ_U, pushR_I, pushR_J, pushR_F, pushR_R, pushR_N, pushR_U, rfV_s, rfV_n, Option.bind_some, true_or, or_true, if_true, c_code ht]
        rw [if_neg (by omega)]
        simp only [s1060_117, s1060_118, unJ_I, unJ_J, unJ_F, unJ_R, unJ_N, unJ_U, pushR_I, pushR_J, pushR_F, pushR_R, pushR_N, pushR_U, rfV_s, rfV_n, Option.bind_some, true_or, or_true, if_true]
        rw [s1060_119, wdR]
        by_cases hw : wdAt tx i t
        · have ej : j_cmp (cdW t : Int) (wvW tx i n) = 0 := by
            rw [w1, wc.mp hw]
            unfold j_cmp
            rw [if_neg (by omega), if_pos rfl]
          rw [if_pos hw, if_pos ej]
          simp only [s1060_122, s1060_124, s1060_127, s1060_129, s1060_131, s1060_134, unJ_I, unJ_J, unJ_F, unJ_R, unJ_N, unJ_U, pushR_I, pushR_J, pushR_F, pushR_R, pushR_N, pushR_U, rfV_s, rfV_n, Option.bind_some, true_or, or_true, if_true, et ()]
        · have ej : ¬ j_cmp (cdW t : Int) (wvW tx i n) = 0 := by
            have ne : ¬ (cdW t : Int) = wvW tx i n := fun z => hw (wc.mpr (by rw [w1] at z; omega))
            unfold j_cmp
            rw [if_neg ne]
            split <;> omega
          rw [if_neg hw, if_neg ej]
          simp only [s1060_127, s1060_129, s1060_131, s1060_134, unJ_I, unJ_J, unJ_F, unJ_R, unJ_N, unJ_U, pushR_I, pushR_J, pushR_F, pushR_R, pushR_N, pushR_U, rfV_s, rfV_n, Option.bind_some, true_or, or_true, if_true, et ()])
      simp only [s1060_86, s1060_87, s1060_90, s1060_91, s1060_92, s1060_94, unJ_I, unJ_J, unJ_F, unJ_R, unJ_N, unJ_U, pushR_I, pushR_J, pushR_F, pushR_R, pushR_N, pushR_U, rfV_s, rfV_n, Option.bind_some, true_or, or_true, if_true, p1, es ()]
      rw [if_pos (by omega)]
      simp only [s1060_99, s1060_100, s1060_102, s1060_103, unJ_I, unJ_J, unJ_F, unJ_R, unJ_N, unJ_U, pushR_I, pushR_J, pushR_F, pushR_R, pushR_N, pushR_U, rfV_s, rfV_n, Option.bind_some, true_or, or_true, if_true]
      refine loop.trans ?_
      rw [s1060_105]
      simp only [s1060_107, s1060_109, s1060_137, s1060_139, unJ_I, unJ_J, unJ_F, unJ_R, unJ_N, unJ_U, pushR_I, pushR_J, pushR_F, pushR_R, pushR_N, pushR_U, rfV_s, rfV_n, Option.bind_some, true_or, or_true, if_true]
      rw [if_pos (by omega)]
    · simp only [s1060_86, s1060_87, s1060_90, s1060_91, s1060_92, s1060_94, unJ_I, unJ_J, unJ_F, unJ_R, unJ_N, unJ_U, pushR_I, pushR_J, pushR_F, pushR_R, pushR_N, pushR_U, rfV_s, rfV_n, Option.bind_some, true_or, or_true, if_true, p1, es ()]
      rw [if_neg (by omega), wdR_no (fun u hu => wd_no hu l1 (by omega))]
      simp only [s1060_97, s1060_98, unJ_I, unJ_J, unJ_F, unJ_R, unJ_N, unJ_U, pushR_I, pushR_J, pushR_F, pushR_R, pushR_N, pushR_U, rfV_s, rfV_n, Option.bind_some, true_or, or_true, if_true]
  · have tf := txt_f t ht
    have : n = (txt t).length := by
      rcases Nat.lt_trichotomy n (txt t).length with a | a | a
      · exfalso; apply x1
        rw [hw.1 n a]
        exact (tf.2.2.2 n a).2
      · exact a
      · exact absurd (l1 _ a) hw.2
    rw [this]
/-- readsBlank -/
theorem w_blank (h : TxM J M tx) {i : Nat} (hi : i ≤ tx.length) (hc : J 206 0 = (i : Int)) : rs 1062 0 [vR 10 0, vU] [] (SX q, C, (J, M, T)) = some (vI (b01 (txC tx i = 32)), (SX q, C, (up2 J 206 0 (if txC tx i = 32 then ((i + 1 : Nat) : Int) else (i : Int)), M, T))) := by
  obtain ⟨h5, l100, h3⟩ := id h
  have go : ∀ v : Int, v = b01 (txC tx i = 32) → rs 1062 30 [vR 10 0, vU] [vI v] (SX q, C, (J, M, T)) = some (vI (b01 (txC tx i = 32)), (SX q, C, (up2 J 206 0 (if txC tx i = 32 then ((i + 1 : Nat) : Int) else (i : Int)), M, T))) := fun v hv => by
    have ep : Unit → w32 ((i : Int) + 1) = ((i + 1 : Nat) : Int) := fun _ => by rw [w32_id (by omega) (by omega)]; omega
    have ep0 : Unit → w32 ((i : Int) + 0) = (i : Int) := fun _ => by rw [w32_id (by omega) (by omega)]; omega
    rw [hv]
    unfold b01
    by_cases z : txC tx i = 32
    · rw [if_pos z, if_pos z]
      simp only [s1062_30, s1062_31, s1062_32, s1062_32r, s1062_33, s1062_36, s1062_37, unJ_I, unJ_J, unJ_F, unJ_R, unJ_N, unJ_U, pushR_I, pushR_J, pushR_F, pushR_R, pushR_N, pushR_U, rfV_s, rfV_n, Option.bind_some, true_or, or_true, if_true, hc]
      rw [if_neg (by omega)]
      simp only [s1062_40, s1062_41, s1062_44, s1062_45, s1062_46, s1062_49, s1062_50, unJ_I, unJ_J, unJ_F, unJ_R, unJ_N, unJ_U, pushR_I, pushR_J, pushR_F, pushR_R, pushR_N, pushR_U, rfV_s, rfV_n, Option.bind_some, true_or, or_true, if_true, ep ()]
    · rw [if_neg z, if_neg z]
      simp only [s1062_30, s1062_31, s1062_32, s1062_32r, s1062_33, s1062_36, s1062_37, s1062_40, s1062_41, s1062_44, s1062_45, s1062_46, s1062_49, s1062_50, unJ_I, unJ_J, unJ_F, unJ_R, unJ_N, unJ_U, pushR_I, pushR_J, pushR_F, pushR_R, pushR_N, pushR_U, rfV_s, rfV_n, Option.bind_some, true_or, or_true, if_true, hc, ep0 ()]
  by_cases hi : i < tx.length
  · have cc := h.c hi
    simp only [s1062_0, s1062_1, s1062_4, s1062_5, s1062_8, s1062_11, s1062_12, s1062_15, s1062_16, s1062_19, unJ_I, unJ_J, unJ_F, unJ_R, unJ_N, unJ_U, pushR_I, pushR_J, pushR_F, pushR_R, pushR_N, pushR_U, rfV_s, rfV_n, Option.bind_some, true_or, or_true, if_true, hc, h5, lm3, Int.toNat_natCast]
    rw [if_neg (by omega), if_pos (by omega)]
    simp only [s1062_20, s1062_22, unJ_I, unJ_J, unJ_F, unJ_R, unJ_N, unJ_U, pushR_I, pushR_J, pushR_F, pushR_R, pushR_N, pushR_U, rfV_s, rfV_n, Option.bind_some, true_or, or_true, if_true]
    by_cases z : M 3 i = 32
    · rw [if_pos z]
      simp only [s1062_25, s1062_26, unJ_I, unJ_J, unJ_F, unJ_R, unJ_N, unJ_U, pushR_I, pushR_J, pushR_F, pushR_R, pushR_N, pushR_U, rfV_s, rfV_n, Option.bind_some, true_or, or_true, if_true]
      exact go 1 (b01_t (cc.trans z)).symm
    · rw [if_neg z]
      simp only [s1062_29, unJ_I, unJ_J, unJ_F, unJ_R, unJ_N, unJ_U, pushR_I, pushR_J, pushR_F, pushR_R, pushR_N, pushR_U, rfV_s, rfV_n, Option.bind_some, true_or, or_true, if_true]
      exact go 0 (b01_f (fun y => z (cc.symm.trans y))).symm
  · have c0 : ¬ txC tx i = 32 := by rw [txC_out (by omega)]; omega
    simp only [s1062_0, s1062_1, s1062_4, s1062_5, s1062_8, unJ_I, unJ_J, unJ_F, unJ_R, unJ_N, unJ_U, pushR_I, pushR_J, pushR_F, pushR_R, pushR_N, pushR_U, rfV_s, rfV_n, Option.bind_some, true_or, or_true, if_true, hc, h5]
    rw [if_pos (by omega)]
    simp only [s1062_29, unJ_I, unJ_J, unJ_F, unJ_R, unJ_N, unJ_U, pushR_I, pushR_J, pushR_F, pushR_R, pushR_N, pushR_U, rfV_s, rfV_n, Option.bind_some, true_or, or_true, if_true]
    exact go 0 (b01_f c0).symm
theorem pow4 {k : Nat} (h : k < 4) {v : Int} (hv : v < 10 ^ k) : v < 10000 := by
  have : k = 0 ∨ k = 1 ∨ k = 2 ∨ k = 3 := by omega
  rcases this with rfl | rfl | rfl | rfl <;> simp at hv <;> omega
/-- readNumber -/
theorem w_num (h : TxM J M tx) {i : Nat} (hi : i ≤ tx.length) (hc : J 206 0 = (i : Int)) : ∃ J', rs 1063 0 [vR 10 0, vU, vU] [] (SX q, C, (J, M, T)) = some (vI (if bnOk tx i then bnV tx i else -1), (SX q, C, (J', M, T))) ∧ FJ 206 206 J J' ∧ ∃ p : Nat, J' 206 0 = (p : Int) ∧ p ≤ tx.length ∧ (bnOk tx i → (p : Int) = bnC tx i) := by
  obtain ⟨h5, l100, h3⟩ := id h
  have bl := w_blank q (C := C) (T := T) h hi hc
  by_cases z : txC tx i = 32
  · rw [if_pos z, b01_t z] at bl
    have il : i < tx.length := by
      rcases Nat.lt_or_ge i tx.length with a | a
      · exact a
      · rw [txC_out (by omega)] at z; omega
    have eq1 : ((i : Int) + 1) = ((i + 1 : Nat) : Int) := by omega
    have main : ∀ (d k : Nat) (J' : M2), k + d = 4 → (nmS tx ((i + 1 : Nat) : Int) k).2 = k → J' 206 0 = ((i + 1 + k : Nat) : Int) → i + 1 + k ≤ tx.length → FJ 206 206 J J' → ∃ (J'' : M2) (v2 : Int), rs 1063 13 [vR 10 0, vI (nmS tx ((i + 1 : Nat) : Int) k).1, vI (k : Int)] [] (SX q, C, (J', M, T)) = rs 1063 85 [vR 10 0, vI (nmS tx ((i + 1 : Nat) : Int) 4).1, vI ((nmS tx ((i + 1 : Nat) : Int) 4).2 : Int)] [] (SX q, C, (J'', M, T)) ∧ FJ 206 206 J J'' ∧ J'' 206 0 = ((i + 1 + (nmS tx ((i + 1 : Nat) : Int) 4).2 : Nat) : Int) ∧ i + 1 + (nmS tx ((i + 1 : Nat) : Int) 4).2 ≤ tx.length := by
      intro d
      induction d with
      | zero =>
        intro k J' hk h1 hp hl f
        have : k = 4 := by omega
        subst this
        refine ⟨J', 0, ?_, f, by rw [h1]; exact hp, by rw [h1]; exact hl⟩
        rw [s1063_13]
        simp only [s1063_14, s1063_15, unJ_I, unJ_J, unJ_F, unJ_R, unJ_N, unJ_U, pushR_I, pushR_J, pushR_F, pushR_R, pushR_N, pushR_U, rfV_s, rfV_n, Option.bind_some, true_or, or_true, if_true]
        rw [if_pos (by omega), h1]
      | succ d ih =>
        intro k J' hk h1 hp hl f
        have l5 : J' 205 0 = (tx.length : Int) := (f _ _ (by omega)).trans h5
        have ein : ((i + 1 : Nat) : Int) + (k : Nat) = ((i + 1 + k : Nat) : Int) := by omega
        by_cases hz : isDg (txC tx (((i + 1 : Nat) : Int) + k))
        · have il2 : i + 1 + k < tx.length := by
            rcases Nat.lt_or_ge (i + 1 + k) tx.length with a | a
            · exact a
            · rw [txC_out (by omega)] at hz; have := hz.1; omega
          have cc := h.c il2
          rw [ein, cc] at hz
          have hz' := hz
          unfold isDg at hz'
          have r := nmS_r tx ((i + 1 : Nat) : Int) k
          have r2 := pow4 (show k < 4 by omega) r.2.2
          have e1 : Unit → w32 (10 * (nmS tx ((i + 1 : Nat) : Int) k).1) = 10 * (nmS tx ((i + 1 : Nat) : Int) k).1 := fun _ => w32_id (by omega) (by omega)
          have e2 : Unit → w32 (10 * (nmS tx ((i + 1 : Nat) : Int) k).1 + M 3 (i + 1 + k)) = 10 * (nmS tx ((i + 1 : Nat) : Int) k).1 + M 3 (i + 1 + k) := fun _ => w32_id (by omega) (by omega)
          have e3 : Unit → w32 (10 * (nmS tx ((i + 1 : Nat) : Int) k).1 + M 3 (i + 1 + k) - 48) = 10 * (nmS tx ((i + 1 : Nat) : Int) k).1 + M 3 (i + 1 + k) - 48 := fun _ => w32_id (by omega) (by omega)
          have e4 : Unit → w32 (((i + 1 + k : Nat) : Int) + 1) = ((i + 1 + (k + 1) : Nat) : Int) := fun _ => by rw [w32_id (by omega) (by omega)]; omega
          have ek : Unit → w32 ((k : Int) + 1) = ((k + 1 : Nat) : Int) := fun _ => by rw [w32_id (by omega) (by omega)]; omega
          have ns : nmS tx ((i + 1 : Nat) : Int) (k + 1) = (10 * (nmS tx ((i + 1 : Nat) : Int) k).1 + M 3 (i + 1 + k) - 48, k + 1) := by
            rw [nmS, if_pos ⟨h1, by rw [ein, cc]; exact hz⟩, ein, cc]
            simp only [Prod.mk.injEq, and_true]
            omega
          obtain ⟨J'', v2, e, r⟩ := ih (k + 1) (up2 J' 206 0 ((i + 1 + (k + 1) : Nat) : Int)) (by omega) (by rw [ns]) up2_eq (by omega) (f.tr (FJ.up J' 206 _ (by omega)))
          refine ⟨J'', v2, ?_, r⟩
          refine Eq.trans ?_ e
          rw [s1063_13, ns]
          simp only [s1063_14, s1063_15, s1063_18, s1063_19, s1063_22, s1063_23, s1063_26, s1063_29, s1063_30, s1063_33, s1063_34, s1063_37, unJ_I, unJ_J, unJ_F, unJ_R, unJ_N, unJ_U, pushR_I, pushR_J, pushR_F, pushR_R, pushR_N, pushR_U, rfV_s, rfV_n, Option.bind_some, true_or, or_true, if_true, hp, l5, lm3, Int.toNat_natCast]
          rw [if_neg (by omega), if_neg (by omega), if_pos (by omega)]
          simp only [s1063_38, s1063_39, s1063_42, s1063_45, s1063_48, unJ_I, unJ_J, unJ_F, unJ_R, unJ_N, unJ_U, pushR_I, pushR_J, pushR_F, pushR_R, pushR_N, pushR_U, rfV_s, rfV_n, Option.bind_some, true_or, or_true, if_true, c_in, b01_0]
          rw [if_neg (fun y => y hz')]
          simp only [s1063_51, s1063_53, s1063_54, s1063_55, s1063_56, s1063_59, s1063_60, s1063_63, unJ_I, unJ_J, unJ_F, unJ_R, unJ_N, unJ_U, pushR_I, pushR_J, pushR_F, pushR_R, pushR_N, pushR_U, rfV_s, rfV_n, Option.bind_some, true_or, or_true, if_true, hp, lm3, Int.toNat_natCast, e1 ()]
          rw [if_pos (by omega)]
          simp only [s1063_64, s1063_65, s1063_67, s1063_68, s1063_69, s1063_70, s1063_70r, s1063_71, s1063_74, s1063_75, s1063_76, s1063_79, s1063_82, unJ_I, unJ_J, unJ_F, unJ_R, unJ_N, unJ_U, pushR_I, pushR_J, pushR_F, pushR_R, pushR_N, pushR_U, rfV_s, rfV_n, Option.bind_some, true_or, or_true, if_true, hp, e2 (), e3 (), e4 (), ek ()]
        · have ns : nmS tx ((i + 1 : Nat) : Int) (k + 1) = nmS tx ((i + 1 : Nat) : Int) k := by rw [nmS, if_neg (fun y => hz y.2)]
          have nf : nmS tx ((i + 1 : Nat) : Int) 4 = nmS tx ((i + 1 : Nat) : Int) k := by rw [nmS_st (k := k + 1) (by rw [ns]; omega) (by omega), ns]
          refine ⟨J', 0, ?_, f, by rw [nf, h1]; exact hp, by rw [nf, h1]; exact hl⟩
          rw [s1063_13, nf, h1]
          by_cases il2 : i + 1 + k < tx.length
          · have cc := h.c il2
            rw [ein, cc] at hz
            simp only [s1063_14, s1063_15, s1063_18, s1063_19, s1063_22, s1063_23, s1063_26, s1063_29, s1063_30, s1063_33, s1063_34, s1063_37, unJ_I, unJ_J, unJ_F, unJ_R, unJ_N, unJ_U, pushR_I, pushR_J, pushR_F, pushR_R, pushR_N, pushR_U, rfV_s, rfV_n, Option.bind_some, true_or, or_true, if_true, hp, l5, lm3, Int.toNat_natCast]
            rw [if_neg (by omega), if_neg (by omega), if_pos (by omega)]
            simp only [s1063_38, s1063_39, s1063_42, s1063_45, s1063_48, unJ_I, unJ_J, unJ_F, unJ_R, unJ_N, unJ_U, pushR_I, pushR_J, pushR_F, pushR_R, pushR_N, pushR_U, rfV_s, rfV_n, Option.bind_some, true_or, or_true, if_true, c_in, b01_0]
            rw [if_pos hz]
          · simp only [s1063_14, s1063_15, s1063_18, s1063_19, s1063_22, s1063_23, s1063_26, unJ_I, unJ_J, unJ_F, unJ_R, unJ_N, unJ_U, pushR_I, pushR_J, pushR_F, pushR_R, pushR_N, pushR_U, rfV_s, rfV_n, Option.bind_some, true_or, or_true, if_true, hp, l5]
            rw [if_neg (by omega), if_pos (by omega)]
    obtain ⟨J'', v2, e, f, p1, p2⟩ := main 4 0 (up2 J 206 0 ((i + 1 : Nat) : Int)) (by omega) rfl up2_eq (by omega) (FJ.up J 206 _ (by omega))
    refine ⟨J'', ?_, f, i + 1 + (nmS tx ((i + 1 : Nat) : Int) 4).2, p1, p2, fun _ => ?_⟩
    · simp only [s1063_0, s1063_1, unJ_I, unJ_J, unJ_F, unJ_R, unJ_N, unJ_U, pushR_I, pushR_J, pushR_F, pushR_R, pushR_N, pushR_U, rfV_s, rfV_n, Option.bind_some, true_or, or_true, if_true, bl]
      simp only [s1063_4, unJ_I, unJ_J, unJ_F, unJ_R, unJ_N, unJ_U, pushR_I, pushR_J, pushR_F, pushR_R, pushR_N, pushR_U, rfV_s, rfV_n, Option.bind_some, true_or, or_true, if_true]
      rw [if_neg (by omega)]
      simp only [s1063_9, s1063_10, s1063_11, s1063_12, unJ_I, unJ_J, unJ_F, unJ_R, unJ_N, unJ_U, pushR_I, pushR_J, pushR_F, pushR_R, pushR_N, pushR_U, rfV_s, rfV_n, Option.bind_some, true_or, or_true, if_true]
      refine e.trans ?_
      simp only [s1063_85, s1063_86, unJ_I, unJ_J, unJ_F, unJ_R, unJ_N, unJ_U, pushR_I, pushR_J, pushR_F, pushR_R, pushR_N, pushR_U, rfV_s, rfV_n, Option.bind_some, true_or, or_true, if_true]
      have ev : bnV tx i = (nmS tx ((i + 1 : Nat) : Int) 4).1 := by unfold bnV; rw [eq1]
      by_cases k0 : (nmS tx ((i + 1 : Nat) : Int) 4).2 = 0
      · rw [if_pos (by omega), if_neg (fun y => by have := y.2; rw [eq1] at this; omega)]
        simp only [s1063_89, s1063_90, s1063_93, s1063_94, unJ_I, unJ_J, unJ_F, unJ_R, unJ_N, unJ_U, pushR_I, pushR_J, pushR_F, pushR_R, pushR_N, pushR_U, rfV_s, rfV_n, Option.bind_some, true_or, or_true, if_true]
      · rw [if_neg (by omega), if_pos ⟨z, by rw [eq1]; omega⟩, ev]
        simp only [s1063_93, s1063_94, unJ_I, unJ_J, unJ_F, unJ_R, unJ_N, unJ_U, pushR_I, pushR_J, pushR_F, pushR_R, pushR_N, pushR_U, rfV_s, rfV_n, Option.bind_some, true_or, or_true, if_true]
    · unfold bnC
      rw [eq1]
      omega
  · rw [if_neg z, b01_f z] at bl
    refine ⟨_, ?_, FJ.up J 206 _ (by omega), i, up2_eq, hi, fun y => absurd y.1 z⟩
    simp only [s1063_0, s1063_1, unJ_I, unJ_J, unJ_F, unJ_R, unJ_N, unJ_U, pushR_I, pushR_J, pushR_F, pushR_R, pushR_N, pushR_U, rfV_s, rfV_n, Option.bind_some, true_or, or_true, if_true, bl]
    simp only [s1063_4, s1063_7, s1063_8, unJ_I, unJ_J, unJ_F, unJ_R, unJ_N, unJ_U, pushR_I, pushR_J, pushR_F, pushR_R, pushR_N, pushR_U, rfV_s, rfV_n, Option.bind_some, true_or, or_true, if_true]
    rw [if_neg (fun y => z y.1)]
end
