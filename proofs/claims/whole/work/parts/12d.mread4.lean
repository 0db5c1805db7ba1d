/-! THE MODEL CALLS: fault, read (the calls) -/
section
variable (q : Nat × (Nat → Int)) {C : MC} {J M T : M2} {t : Int} {X : XS}
/-- readsText -/
theorem w_text (h : Mod J M X) : ∃ J' M', rs 1068 0 [vR 10 0, vU] [] (SX q, C, (J, M, T)) = some (vI (ckX X).2.2.2, (SX q, C, (J', M', T))) ∧ Mod J' M' X ∧ 0 ≤ (ckX X).2.2.2 ∧ ((ckX X).2.2.2 = 0 → ∃ rd, (ckX X).1 = X.1.2.1 ++ rd ∧ (X.1.2.1 ++ rd).length ≤ 8 ∧ (ckX X).2.1 = rd.length ∧ RdM J' M' rd) ∧ ((ckX X).2.2.2 ≠ 0 → J' 207 0 = (ckX X).2.2.1) := by
  obtain ⟨⟨gs, a, b⟩, -, h5, h6, h7⟩ := id h
  have tm : TxM J M X.2.2 := ⟨h5, h6, h7⟩
  have ck := w_check q (C := C) (T := T) (l := X.1.2.1) tm a.1.2.2.2 a.2.2.2.2.1 100 0 [] 0 (up2 (up2 J 206 0 0) 208 0 0) M (by omega) (by omega) ((up2_ne (by omega)).trans up2_eq) ((FT.up J 206 0 (by omega)).tr (FT.up _ 208 0 (by omega))) (fun _ _ => rfl) ⟨up2_eq, fun k hk => absurd hk (Nat.not_lt_zero _)⟩ (by rw [List.append_nil]; exact a.2.1.2.2)
  rw [List.append_nil] at ck
  have ee : chkU X.2.2 100 ((0 : Nat) : Int) X.1.2.1 ((([] : List Ru).length : Nat) : Int) 0 = ckX X := rfl
  rw [ee] at ck
  obtain ⟨J', M', e, f, w, r⟩ := ck
  refine ⟨J', M', ?_, h.same (f _ _ (by omega)) (f _ _ (by omega)) (fun k _ => by rw [w 0 (by omega)]) (w 2 (by omega)) (w 3 (by omega)), r⟩
  simp only [s1068_0, s1068_1, s1068_2, s1068_5, s1068_6, s1068_7, unJ_I, unJ_J, unJ_F, unJ_R, unJ_N, unJ_U, pushR_I, pushR_J, pushR_F, pushR_R, pushR_N, pushR_U, rfV_s, rfV_n, Option.bind_some, true_or, or_true, if_true]
  exact e
theorem w_fault (h : Mod J M X) (x : Int) : Dom 1069 [vR 10 0, vI x, vU] q C J M T (vI (aFault X x)) X := by
  obtain ⟨J', M', e, k, p, r1, r2⟩ := w_text q (C := C) (T := T) h
  unfold aFault
  by_cases h1 : 0 ≤ x ∧ x ≤ 1
  · rw [if_pos h1]
    refine ⟨J', M', T, ?_, k⟩
    simp only [s1069_0, s1069_1, s1069_2, s1069_3, s1069_4, s1069_7, unJ_I, unJ_J, unJ_F, unJ_R, unJ_N, unJ_U, pushR_I, pushR_J, pushR_F, pushR_R, pushR_N, pushR_U, rfV_s, rfV_n, Option.bind_some, true_or, or_true, if_true, c_in, b01_0]
    rw [if_neg (fun z => z h1)]
    simp only [s1069_12, s1069_13, unJ_I, unJ_J, unJ_F, unJ_R, unJ_N, unJ_U, pushR_I, pushR_J, pushR_F, pushR_R, pushR_N, pushR_U, rfV_s, rfV_n, Option.bind_some, true_or, or_true, if_true, e]
    simp only [s1069_16, s1069_17, s1069_18, unJ_I, unJ_J, unJ_F, unJ_R, unJ_N, unJ_U, pushR_I, pushR_J, pushR_F, pushR_R, pushR_N, pushR_U, rfV_s, rfV_n, Option.bind_some, true_or, or_true, if_true]
    by_cases c : (ckX X).2.2.2 = 0
    · rw [if_pos c, if_pos c]
      simp only [s1069_21, s1069_23, s1069_38, unJ_I, unJ_J, unJ_F, unJ_R, unJ_N, unJ_U, pushR_I, pushR_J, pushR_F, pushR_R, pushR_N, pushR_U, rfV_s, rfV_n, Option.bind_some, true_or, or_true, if_true]
    · rw [if_neg c, if_neg c]
      simp only [s1069_26, s1069_27, unJ_I, unJ_J, unJ_F, unJ_R, unJ_N, unJ_U, pushR_I, pushR_J, pushR_F, pushR_R, pushR_N, pushR_U, rfV_s, rfV_n, Option.bind_some, true_or, or_true, if_true]
      by_cases c2 : x = 0
      · rw [if_pos c2, if_pos c2]
        simp only [s1069_30, s1069_31, s1069_34, s1069_37, s1069_38, unJ_I, unJ_J, unJ_F, unJ_R, unJ_N, unJ_U, pushR_I, pushR_J, pushR_F, pushR_R, pushR_N, pushR_U, rfV_s, rfV_n, Option.bind_some, true_or, or_true, if_true, r2 c]
      · rw [if_neg c2, if_neg c2]
        simp only [s1069_37, s1069_38, unJ_I, unJ_J, unJ_F, unJ_R, unJ_N, unJ_U, pushR_I, pushR_J, pushR_F, pushR_R, pushR_N, pushR_U, rfV_s, rfV_n, Option.bind_some, true_or, or_true, if_true]
  · rw [if_neg h1]
    refine ⟨J, M, T, ?_, h⟩
    simp only [s1069_0, s1069_1, s1069_2, s1069_3, s1069_4, s1069_7, s1069_10, s1069_11, unJ_I, unJ_J, unJ_F, unJ_R, unJ_N, unJ_U, pushR_I, pushR_J, pushR_F, pushR_R, pushR_N, pushR_U, rfV_s, rfV_n, Option.bind_some, true_or, or_true, if_true, c_in, b01_0]
    rw [if_pos h1]
theorem w_read (h : Mod J M X) : Dom 1070 [vR 10 0, vU] q C J M T (vI (aRead X).1) (aRead X).2 := by
  obtain ⟨J1, M1, e1, k1, p, r1, r2⟩ := w_text q (C := C) (T := T) h
  unfold aRead
  by_cases c : (ckX X).2.2.2 = 0
  · rw [if_pos c]
    obtain ⟨rd, g1, g2, g3, g4, g5⟩ := r1 c
    obtain ⟨J2, M2', e2, k2, f2, w2⟩ := w_change q (C := C) (T := T) k1
    obtain ⟨⟨gs, a, b⟩, -⟩ := id k2
    have a4 := a.1.2.2.2
    have b3 := a.2.1.2.2
    have l8 : X.1.2.1.length + rd.length ≤ 8 := by rw [List.length_append] at g2; exact g2
    have j8 : J2 208 0 = (rd.length : Int) := (f2 _ _ (by omega)).trans g4
    have m4 : M2' 4 = M1 4 := w2 4 (by omega) (by omega)
    have k3 : Unit → w32 (3 * (rd.length : Int)) = ((3 * rd.length : Nat) : Int) := fun _ => by rw [w32_id (by omega) (by omega)]; omega
    have l3 : Unit → w32 (3 * (X.1.2.1.length : Int)) = ((3 * X.1.2.1.length : Nat) : Int) := fun _ => by rw [w32_id (by omega) (by omega)]; omega
    have l16 : Unit → w32 (16 + ((3 * X.1.2.1.length : Nat) : Int)) = ((16 + 3 * X.1.2.1.length : Nat) : Int) := fun _ => by rw [w32_id (by omega) (by omega)]; omega
    have ll : Unit → w32 ((X.1.2.1.length : Int) + (rd.length : Int)) = ((X.1.2.1.length + rd.length : Nat) : Int) := fun _ => by rw [w32_id (by omega) (by omega)]; omega
    have m03 : ∀ k, cpF M2' 0 (fun k => M2' 4 k) (16 + 3 * X.1.2.1.length) k 0 3 = (X.1.2.1.length : Int) := fun k => (cpF_no (by omega)).trans a4
    have loop := rs_loop (m := 1070) (pc := 16) (fun k => [vR 10 0, vI (k : Int)]) (fun k => (SX q, C, (J2, cpF M2' 0 (fun k => M2' 4 k) (16 + 3 * X.1.2.1.length) k, T))) (3 * rd.length) (fun k hk => by
      have ek : Unit → w32 ((k : Int) + 1) = ((k + 1 : Nat) : Int) := fun _ => by rw [w32_id (by omega) (by omega)]; omega
      have es : Unit → w32 (((16 + 3 * X.1.2.1.length : Nat) : Int) + (k : Int)) = ((16 + 3 * X.1.2.1.length + k : Nat) : Int) := fun _ => by rw [w32_id (by omega) (by omega)]; omega
      have rd4 : cpF M2' 0 (fun k => M2' 4 k) (16 + 3 * X.1.2.1.length) k 4 k = M2' 4 k := cpF_no (by omega)
      have st := cpF_s M2' 0 (fun k => M2' 4 k) (16 + 3 * X.1.2.1.length) k
      rw [s1070_16]
      simp only [s1070_17, s1070_18, s1070_19, s1070_22, s1070_23, s1070_26, s1070_27, s1070_30, s1070_32, s1070_33, s1070_34, s1070_37, s1070_38, unJ_I, unJ_J, unJ_F, unJ_R, unJ_N, unJ_U, pushR_I, pushR_J, pushR_F, pushR_R, pushR_N, pushR_U, rfV_s, rfV_n, Option.bind_some, true_or, or_true, if_true, j8, k3 (), lm0]
      rw [if_neg (by omega), if_pos (by omega)]
      simp only [show Int.toNat 3 = 3 from rfl, m03]
      simp only [s1070_39, s1070_40, s1070_41, s1070_42, s1070_43, s1070_44, s1070_47, s1070_48, unJ_I, unJ_J, unJ_F, unJ_R, unJ_N, unJ_U, pushR_I, pushR_J, pushR_F, pushR_R, pushR_N, pushR_U, rfV_s, rfV_n, Option.bind_some, true_or, or_true, if_true, lm4, l3 (), l16 (), es (), Int.toNat_natCast, rd4]
      rw [if_pos (by omega)]
      simp only [s1070_49, s1070_50, s1070_53, unJ_I, unJ_J, unJ_F, unJ_R, unJ_N, unJ_U, pushR_I, pushR_J, pushR_F, pushR_R, pushR_N, pushR_U, rfV_s, rfV_n, Option.bind_some, true_or, or_true, if_true, lm0, Int.toNat_natCast, ek (), st]
      rw [if_pos (by omega)])
    have e0 : rs 1070 16 [vR 10 0, vI 0] [] (SX q, C, (J2, M2', T)) = rs 1070 16 [vR 10 0, vI ((0 : Nat) : Int)] [] (SX q, C, (J2, cpF M2' 0 (fun k => M2' 4 k) (16 + 3 * X.1.2.1.length) 0, T)) := by rw [cpF_0]; rfl
    refine ⟨J2, up2 (cpF M2' 0 (fun k => M2' 4 k) (16 + 3 * X.1.2.1.length) (3 * rd.length)) 0 3 ((X.1.2.1.length + rd.length : Nat) : Int), T, ?_, Mod.row (σ' := (X.1.1, X.1.2.1 ++ rd, X.1.2.2)) k2 rfl rfl (by funext y; exact (up2_ne (by omega)).trans (cpF_no (by omega))) (by funext y; exact (up2_ne (by omega)).trans (cpF_no (by omega))) (a.rul (fun k hk h3 hn => (up2_ne (by omega)).trans (cpF_no (by omega))) (up2_eq.trans (by rw [List.length_append])) g2 (fun k hk => ?_)) b |> fun z => by rw [g1]; exact z⟩
    · simp only [s1070_0, s1070_1, unJ_I, unJ_J, unJ_F, unJ_R, unJ_N, unJ_U, pushR_I, pushR_J, pushR_F, pushR_R, pushR_N, pushR_U, rfV_s, rfV_n, Option.bind_some, true_or, or_true, if_true, e1]
      simp only [s1070_4, unJ_I, unJ_J, unJ_F, unJ_R, unJ_N, unJ_U, pushR_I, pushR_J, pushR_F, pushR_R, pushR_N, pushR_U, rfV_s, rfV_n, Option.bind_some, true_or, or_true, if_true]
      rw [if_pos (by omega)]
      simp only [s1070_10, s1070_11, unJ_I, unJ_J, unJ_F, unJ_R, unJ_N, unJ_U, pushR_I, pushR_J, pushR_F, pushR_R, pushR_N, pushR_U, rfV_s, rfV_n, Option.bind_some, true_or, or_true, if_true, e2]
      simp only [s1070_14, s1070_15, unJ_I, unJ_J, unJ_F, unJ_R, unJ_N, unJ_U, pushR_I, pushR_J, pushR_F, pushR_R, pushR_N, pushR_U, rfV_s, rfV_n, Option.bind_some, true_or, or_true, if_true]
      refine (e0.trans loop).trans ?_
      rw [s1070_16]
      simp only [s1070_17, s1070_18, s1070_19, s1070_22, s1070_23, s1070_56, s1070_57, s1070_60, s1070_61, s1070_62, unJ_I, unJ_J, unJ_F, unJ_R, unJ_N, unJ_U, pushR_I, pushR_J, pushR_F, pushR_R, pushR_N, pushR_U, rfV_s, rfV_n, Option.bind_some, true_or, or_true, if_true, j8, k3 (), lm0]
      rw [if_pos (by omega), if_pos (by omega)]
      simp only [show Int.toNat 3 = 3 from rfl, m03]
      simp only [s1070_63, s1070_64, s1070_67, s1070_68, s1070_69, s1070_70, s1070_73, unJ_I, unJ_J, unJ_F, unJ_R, unJ_N, unJ_U, pushR_I, pushR_J, pushR_F, pushR_R, pushR_N, pushR_U, rfV_s, rfV_n, Option.bind_some, true_or, or_true, if_true, j8, ll (), lm0]
      rw [if_pos (by omega)]
      simp only [show Int.toNat 3 = 3 from rfl, g3]
    · rw [List.length_append] at hk
      by_cases ck : k < X.1.2.1.length
      · have e : rg (X.1.2.1 ++ rd) k = rg X.1.2.1 k := by unfold rg; rw [List.getD_eq_getElem?_getD, List.getD_eq_getElem?_getD, List.getElem?_append_left ck]
        rw [e, up2_ne (by omega), up2_ne (by omega), up2_ne (by omega), cpF_no (by omega), cpF_no (by omega), cpF_no (by omega)]
        exact a.2.2.2.2.1 k ck
      · obtain ⟨i, rfl⟩ : ∃ i, k = X.1.2.1.length + i := ⟨k - X.1.2.1.length, by omega⟩
        have e : rg (X.1.2.1 ++ rd) (X.1.2.1.length + i) = rg rd i := by unfold rg; rw [List.getD_eq_getElem?_getD, List.getD_eq_getElem?_getD, List.getElem?_append_right (by omega), show X.1.2.1.length + i - X.1.2.1.length = i by omega]
        have hi : i < rd.length := by omega
        rw [e, up2_ne (by omega), up2_ne (by omega), up2_ne (by omega), show 16 + 3 * (X.1.2.1.length + i) = 16 + 3 * X.1.2.1.length + 3 * i by omega, Nat.add_assoc (16 + 3 * X.1.2.1.length), Nat.add_assoc (16 + 3 * X.1.2.1.length), cpF_in (by omega), cpF_in (by omega), cpF_in (by omega), m4]
        exact g5 i hi
  · rw [if_neg c]
    refine ⟨J1, M1, T, ?_, k1⟩
    simp only [s1070_0, s1070_1, unJ_I, unJ_J, unJ_F, unJ_R, unJ_N, unJ_U, pushR_I, pushR_J, pushR_F, pushR_R, pushR_N, pushR_U, rfV_s, rfV_n, Option.bind_some, true_or, or_true, if_true, e1]
    simp only [s1070_4, s1070_7, s1070_9, unJ_I, unJ_J, unJ_F, unJ_R, unJ_N, unJ_U, pushR_I, pushR_J, pushR_F, pushR_R, pushR_N, pushR_U, rfV_s, rfV_n, Option.bind_some, true_or, or_true, if_true]
    rw [if_neg (by omega)]
end
