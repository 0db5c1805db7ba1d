/-! THE MODEL CALLS: bring -/
/-- a lot with nothing in it -/
def nwL (k x : Int) : Lt := (sup (sup d0 4 k) 0 x, [])
section
variable (q : Nat × (Nat → Int)) {C : MC} {J M T : M2} {t : Int} {X : XS} {σ : St} {gs : List Gx}
theorem w_newLot (h : MRow (M 0) σ gs) (hl : σ.1.length ≤ 12) (hx : 0 ≤ σ.2.2.2.2 ∧ σ.2.2.2.2 ≤ 1000000) (k : Int) :
    ∃ M', rs 1019 0 [vR 10 0, vI k, vU, vU] [] (SX q, C, (J, M, T)) = some (vI (σ.1.length : Int), (SX q, C, (J, M', T))) ∧ MRow (M' 0) (σ.1 ++ [nwL k σ.2.2.2.2], σ.2.1, σ.2.2.1, σ.2.2.2.1, σ.2.2.2.2 + 1) gs ∧ ∀ r, r ≠ 0 → M' r = M r := by
  obtain ⟨⟨a1, a2, a3, a4⟩, ⟨b1, b2, b3⟩, c, d, r, l, m⟩ := id h
  have loop := rs_loop (m := 1019) (pc := 9) (fun i => [vR 10 0, vI k, vI (σ.1.length : Int), vI (i : Int)]) (fun i => (SX q, C, (J, cpF M 0 d0 (40 + 14 * σ.1.length) i, T))) 14 (fun i hi => by
    have ei : Unit → w32 ((i : Int) + 1) = ((i + 1 : Nat) : Int) := fun _ => by rw [w32_id (by omega) (by omega)]; omega
    have p := c_mput q (C := C) (J := J) (M := cpF M 0 d0 (40 + 14 * σ.1.length) i) (T := T) (s := σ.1.length) (w := i) (by omega) hi (d0 i)
    rw [cpF_s M 0 d0 (40 + 14 * σ.1.length) i] at p
    rw [s1019_9]
    simp only [s1019_10, s1019_12, s1019_15, s1019_16, s1019_17, s1019_18, s1019_19, s1019_21, unJ_I, unJ_J, unJ_F, unJ_R, unJ_N, unJ_U, pushR_I, pushR_J, pushR_F, pushR_R, pushR_N, pushR_U, rfV_s, rfV_n, Option.bind_some, true_or, or_true, if_true]
    rw [if_neg (by omega)]
    by_cases z : i < 6
    · have e0 : d0 i = 0 := if_neg (by omega)
      rw [e0] at p
      rw [if_pos (by omega)]
      simp only [s1019_28, s1019_29, s1019_32, s1019_35, unJ_I, unJ_J, unJ_F, unJ_R, unJ_N, unJ_U, pushR_I, pushR_J, pushR_F, pushR_R, pushR_N, pushR_U, rfV_s, rfV_n, Option.bind_some, true_or, or_true, if_true, p, ei ()]
    · have e0 : d0 i = -1 := if_pos (by omega)
      rw [e0] at p
      rw [if_neg (by omega)]
      simp only [s1019_24, s1019_25, s1019_28, s1019_29, s1019_32, s1019_35, unJ_I, unJ_J, unJ_F, unJ_R, unJ_N, unJ_U, pushR_I, pushR_J, pushR_F, pushR_R, pushR_N, pushR_U, rfV_s, rfV_n, Option.bind_some, true_or, or_true, if_true, p, ei ()])
  have p0 := c_mput q (C := C) (J := J) (M := cpF M 0 d0 (40 + 14 * σ.1.length) 14) (T := T) (s := σ.1.length) (w := 0) (by omega) (by omega) σ.2.2.2.2
  have p4 := c_mput q (C := C) (J := J) (M := up2 (cpF M 0 d0 (40 + 14 * σ.1.length) 14) 0 (40 + 14 * σ.1.length + 0) σ.2.2.2.2) (T := T) (s := σ.1.length) (w := 4) (by omega) (by omega) k
  have e00 : up2 (up2 (cpF M 0 d0 (40 + 14 * σ.1.length) 14) 0 (40 + 14 * σ.1.length + 0) σ.2.2.2.2) 0 (40 + 14 * σ.1.length + 4) k 0 0 = (σ.1.length : Int) := (up2_ne (by omega)).trans ((up2_ne (by omega)).trans ((cpF_no (by omega)).trans a1))
  have e01 : cpF M 0 d0 (40 + 14 * σ.1.length) 14 0 1 = σ.2.2.2.2 := (cpF_no (by omega)).trans a2
  have e02 : up2 (up2 (up2 (cpF M 0 d0 (40 + 14 * σ.1.length) 14) 0 (40 + 14 * σ.1.length + 0) σ.2.2.2.2) 0 (40 + 14 * σ.1.length + 4) k) 0 0 ((σ.1.length + 1 : Nat) : Int) 0 1 = σ.2.2.2.2 := (up2_ne (by omega)).trans ((up2_ne (by omega)).trans ((up2_ne (by omega)).trans e01))
  have el : Unit → w32 ((σ.1.length : Int) + 1) = ((σ.1.length + 1 : Nat) : Int) := fun _ => by rw [w32_id (by omega) (by omega)]; omega
  have en : Unit → w32 (σ.2.2.2.2 + 1) = σ.2.2.2.2 + 1 := fun _ => w32_id (by omega) (by omega)
  have ee : rs 1019 9 [vR 10 0, vI k, vI (σ.1.length : Int), vI 0] [] (SX q, C, (J, M, T)) = rs 1019 9 [vR 10 0, vI k, vI (σ.1.length : Int), vI ((0 : Nat) : Int)] [] (SX q, C, (J, cpF M 0 d0 (40 + 14 * σ.1.length) 0, T)) := by rw [cpF_0]; rfl
  have hln : (σ.1 ++ [nwL k σ.2.2.2.2]).length = σ.1.length + 1 := by simp
  refine ⟨up2 (up2 (up2 (up2 (cpF M 0 d0 (40 + 14 * σ.1.length) 14) 0 (40 + 14 * σ.1.length + 0) σ.2.2.2.2) 0 (40 + 14 * σ.1.length + 4) k) 0 0 ((σ.1.length + 1 : Nat) : Int)) 0 1 (σ.2.2.2.2 + 1), ?_, ?_, fun r hr => ?_⟩
  · simp only [s1019_0, s1019_1, s1019_4, s1019_5, unJ_I, unJ_J, unJ_F, unJ_R, unJ_N, unJ_U, pushR_I, pushR_J, pushR_F, pushR_R, pushR_N, pushR_U, rfV_s, rfV_n, Option.bind_some, true_or, or_true, if_true, lm0]
    rw [if_pos (by omega)]
    simp only [Int.toNat_zero, a1]
    simp only [s1019_6, s1019_7, s1019_8, unJ_I, unJ_J, unJ_F, unJ_R, unJ_N, unJ_U, pushR_I, pushR_J, pushR_F, pushR_R, pushR_N, pushR_U, rfV_s, rfV_n, Option.bind_some, true_or, or_true, if_true]
    refine (ee.trans loop).trans ?_
    rw [s1019_9]
    simp only [s1019_10, s1019_12, s1019_38, s1019_39, s1019_40, s1019_41, s1019_42, s1019_45, s1019_46, unJ_I, unJ_J, unJ_F, unJ_R, unJ_N, unJ_U, pushR_I, pushR_J, pushR_F, pushR_R, pushR_N, pushR_U, rfV_s, rfV_n, Option.bind_some, true_or, or_true, if_true, lm0]
    rw [if_pos (by omega), if_pos (by omega)]
    simp only [show Int.toNat 1 = 1 from rfl, e01]
    rw [s1019_47]
    refine (congrArg (fun o => Option.bind o _) p0).trans ?_
    simp only [s1019_50, s1019_51, s1019_52, s1019_53, unJ_I, unJ_J, unJ_F, unJ_R, unJ_N, unJ_U, pushR_I, pushR_J, pushR_F, pushR_R, pushR_N, pushR_U, rfV_s, rfV_n, Option.bind_some, true_or, or_true, if_true]
    rw [s1019_54]
    refine (congrArg (fun o => Option.bind o _) p4).trans ?_
    simp only [s1019_57, s1019_58, s1019_61, s1019_62, s1019_63, unJ_I, unJ_J, unJ_F, unJ_R, unJ_N, unJ_U, pushR_I, pushR_J, pushR_F, pushR_R, pushR_N, pushR_U, rfV_s, rfV_n, Option.bind_some, true_or, or_true, if_true, lm0]
    rw [if_pos (by omega)]
    simp only [Int.toNat_zero, e00]
    simp only [s1019_64, s1019_65, s1019_66, unJ_I, unJ_J, unJ_F, unJ_R, unJ_N, unJ_U, pushR_I, pushR_J, pushR_F, pushR_R, pushR_N, pushR_U, rfV_s, rfV_n, Option.bind_some, true_or, or_true, if_true, lm0, el ()]
    rw [if_pos (by omega)]
    simp only [s1019_67, s1019_68, s1019_71, s1019_72, s1019_73, unJ_I, unJ_J, unJ_F, unJ_R, unJ_N, unJ_U, pushR_I, pushR_J, pushR_F, pushR_R, pushR_N, pushR_U, rfV_s, rfV_n, Option.bind_some, true_or, or_true, if_true, lm0]
    rw [if_pos (by omega)]
    simp only [show Int.toNat 1 = 1 from rfl, e02]
    simp only [s1019_74, s1019_75, s1019_76, unJ_I, unJ_J, unJ_F, unJ_R, unJ_N, unJ_U, pushR_I, pushR_J, pushR_F, pushR_R, pushR_N, pushR_U, rfV_s, rfV_n, Option.bind_some, true_or, or_true, if_true, lm0, en ()]
    rw [if_pos (by omega)]
    simp only [s1019_77, s1019_78, unJ_I, unJ_J, unJ_F, unJ_R, unJ_N, unJ_U, pushR_I, pushR_J, pushR_F, pushR_R, pushR_N, pushR_U, rfV_s, rfV_n, Option.bind_some, true_or, or_true, if_true, Int.toNat_zero, show Int.toNat 1 = 1 from rfl, e02, en ()]
  · have nn : ∀ y, y ≠ 0 → y ≠ 1 → ¬ (40 + 14 * σ.1.length ≤ y ∧ y < 40 + 14 * σ.1.length + 14) → up2 (up2 (up2 (up2 (cpF M 0 d0 (40 + 14 * σ.1.length) 14) 0 (40 + 14 * σ.1.length + 0) σ.2.2.2.2) 0 (40 + 14 * σ.1.length + 4) k) 0 0 ((σ.1.length + 1 : Nat) : Int)) 0 1 (σ.2.2.2.2 + 1) 0 y = M 0 y := fun y h1 h2 h3 => (up2_ne (by omega)).trans ((up2_ne (by omega)).trans ((up2_ne (by omega)).trans ((up2_ne (by omega)).trans (cpF_no (by omega)))))
    refine ⟨⟨(up2_ne (by omega)).trans (up2_eq.trans (by rw [hln])), up2_eq, (nn _ (by omega) (by omega) (by omega)).trans a3, (nn _ (by omega) (by omega) (by omega)).trans a4⟩, ⟨by rw [hln]; omega, b2, b3⟩, fun i hi => (nn _ (by omega) (by omega) (by omega)).trans (c i hi), fun i hi => (nn _ (by omega) (by omega) (by omega)).trans (d i hi), fun k hk => ?_, fun i hi j hj => ?_, fun k hk => ?_⟩
    · have hk' : k < σ.2.1.length := hk
      rw [nn _ (by omega) (by omega) (by omega), nn _ (by omega) (by omega) (by omega), nn _ (by omega) (by omega) (by omega)]; exact r k hk
    · have hi' : i < (σ.1 ++ [nwL k σ.2.2.2.2]).length := hi
      rw [hln] at hi'
      show _ = (lt (σ.1 ++ [nwL k σ.2.2.2.2]) i).1 j
      rw [lt_snoc]
      by_cases z : i < σ.1.length
      · rw [if_pos z, nn _ (by omega) (by omega) (by omega)]; exact l i z j hj
      · have ei : i = σ.1.length := by omega
        subst ei
        rw [if_neg z, if_pos rfl]
        show _ = sup (sup d0 4 k) 0 σ.2.2.2.2 j
        rw [up2_ne (by omega), up2_ne (by omega)]
        by_cases z4 : j = 4
        · subst z4; rw [up2_eq]; rfl
        · rw [up2_ne (by omega)]
          by_cases z0 : j = 0
          · subst z0; rw [up2_eq]; rfl
          · rw [up2_ne (by omega), cpF_in hj]
            show _ = if j = 0 then _ else if j = 4 then _ else d0 j
            rw [if_neg z0, if_neg z4]
    · rw [nn _ (by omega) (by omega) (by omega), nn _ (by omega) (by omega) (by omega), nn _ (by omega) (by omega) (by omega)]; exact m k hk
  · funext y
    exact (up2_ne (by omega)).trans ((up2_ne (by omega)).trans ((up2_ne (by omega)).trans ((up2_ne (by omega)).trans (cpF_no (by omega)))))
theorem c_keyM {μ : Mem} {o y v : Int} (ho : 0 ≤ o ∧ o ≤ 7) (hy : 2000 ≤ y ∧ y ≤ 2063) (hv : 0 ≤ v ∧ v ≤ 9) : rs 1020 0 [vI o, vI y, vI v] [] μ = some (vI (mk (kyU o y v)), μ) := by
  have e1 : Unit → w32 (o * 1024) = o * 1024 := fun _ => w32_id (by omega) (by omega)
  have e2 : Unit → w32 (y - 2000) = y - 2000 := fun _ => w32_id (by omega) (by omega)
  have e3 : Unit → w32 ((y - 2000) * 16) = (y - 2000) * 16 := fun _ => w32_id (by omega) (by omega)
  have e4 : Unit → w32 (o * 1024 + (y - 2000) * 16) = o * 1024 + (y - 2000) * 16 := fun _ => w32_id (by omega) (by omega)
  have e5 : Unit → w32 (o * 1024 + (y - 2000) * 16 + v) = mk (kyU o y v) := fun _ => by
    rw [w32_id (by omega) (by omega)]
    unfold mk kyU
    omega
  simp only [s1020_0, s1020_1, s1020_4, s1020_5, s1020_6, s1020_9, s1020_10, s1020_12, s1020_13, s1020_14, s1020_15, s1020_16, unJ_I, unJ_J, unJ_F, unJ_R, unJ_N, unJ_U, pushR_I, pushR_J, pushR_F, pushR_R, pushR_N, pushR_U, rfV_s, rfV_n, Option.bind_some, true_or, or_true, if_true, e1 (), e2 (), e3 (), e4 (), e5 ()]
theorem c_isG {μ : Mem} (o y v : Int) : rs 1022 0 [vI o, vI y, vI v] [] μ = some (vI (b01 ((0 ≤ o ∧ o ≤ 7) ∧ (2000 ≤ y ∧ y ≤ 2063) ∧ 0 ≤ v ∧ v ≤ 9)), μ) := by
  simp only [s1022_0, s1022_1, s1022_2, s1022_3, s1022_6, s1022_9, unJ_I, unJ_J, unJ_F, unJ_R, unJ_N, unJ_U, pushR_I, pushR_J, pushR_F, pushR_R, pushR_N, pushR_U, rfV_s, rfV_n, Option.bind_some, true_or, or_true, if_true, c_in]
  by_cases h1 : 0 ≤ o ∧ o ≤ 7
  · simp only [b01_t h1, s1022_9, s1022_12, s1022_13, s1022_14, s1022_17, s1022_20, s1022_23, unJ_I, unJ_J, unJ_F, unJ_R, unJ_N, unJ_U, pushR_I, pushR_J, pushR_F, pushR_R, pushR_N, pushR_U, rfV_s, rfV_n, Option.bind_some, true_or, or_true, if_true, c_in]
    rw [if_neg (by omega)]
    by_cases h2 : 2000 ≤ y ∧ y ≤ 2063
    · simp only [b01_t h2, s1022_23, s1022_26, s1022_27, s1022_28, s1022_29, s1022_32, s1022_35, unJ_I, unJ_J, unJ_F, unJ_R, unJ_N, unJ_U, pushR_I, pushR_J, pushR_F, pushR_R, pushR_N, pushR_U, rfV_s, rfV_n, Option.bind_some, true_or, or_true, if_true, c_in]
      rw [if_neg (by omega)]
      by_cases h3 : 0 ≤ v ∧ v ≤ 9
      · simp only [b01_t h3, s1022_35, s1022_38, s1022_39, s1022_42, s1022_43, unJ_I, unJ_J, unJ_F, unJ_R, unJ_N, unJ_U, pushR_I, pushR_J, pushR_F, pushR_R, pushR_N, pushR_U, rfV_s, rfV_n, Option.bind_some, true_or, or_true, if_true, b01_t (show (0 ≤ o ∧ o ≤ 7) ∧ (2000 ≤ y ∧ y ≤ 2063) ∧ 0 ≤ v ∧ v ≤ 9 from ⟨h1, h2, h3⟩)]
        simp
      · simp only [b01_f h3, s1022_35, s1022_38, s1022_39, s1022_42, s1022_43, unJ_I, unJ_J, unJ_F, unJ_R, unJ_N, unJ_U, pushR_I, pushR_J, pushR_F, pushR_R, pushR_N, pushR_U, rfV_s, rfV_n, Option.bind_some, true_or, or_true, if_true, b01_f (show ¬ ((0 ≤ o ∧ o ≤ 7) ∧ (2000 ≤ y ∧ y ≤ 2063) ∧ 0 ≤ v ∧ v ≤ 9) from fun z => h3 z.2.2)]
    · simp only [b01_f h2, s1022_23, s1022_26, s1022_27, s1022_28, s1022_29, s1022_32, s1022_35, s1022_38, s1022_39, s1022_42, s1022_43, unJ_I, unJ_J, unJ_F, unJ_R, unJ_N, unJ_U, pushR_I, pushR_J, pushR_F, pushR_R, pushR_N, pushR_U, rfV_s, rfV_n, Option.bind_some, true_or, or_true, if_true, b01_f (show ¬ ((0 ≤ o ∧ o ≤ 7) ∧ (2000 ≤ y ∧ y ≤ 2063) ∧ 0 ≤ v ∧ v ≤ 9) from fun z => h2 z.2.1)]
  · simp only [b01_f h1, s1022_9, s1022_12, s1022_13, s1022_14, s1022_17, s1022_20, s1022_23, s1022_26, s1022_27, s1022_28, s1022_29, s1022_32, s1022_35, s1022_38, s1022_39, s1022_42, s1022_43, unJ_I, unJ_J, unJ_F, unJ_R, unJ_N, unJ_U, pushR_I, pushR_J, pushR_F, pushR_R, pushR_N, pushR_U, rfV_s, rfV_n, Option.bind_some, true_or, or_true, if_true, b01_f (show ¬ ((0 ≤ o ∧ o ≤ 7) ∧ (2000 ≤ y ∧ y ≤ 2063) ∧ 0 ≤ v ∧ v ≤ 9) from fun z => h1 z.1)]
theorem addG_new {gs : List Gx} {y k a : Int} (h : ∀ z ∈ gs, z.1 ≠ y) : addG gs y k a = gs ++ [(y, k, a)] := by
  unfold addG
  rw [if_neg (fun z => by
    have e := (fdG_is z).1
    rw [gg_eq z] at e
    exact h _ (List.getElem_mem z) e)]
theorem w_bring (h : Mod J M X) (ho : okX t X) (hy : okY X) (n o y v al ac : Int) : Dom 1023 [vR 10 0, vI n, vI o, vI y, vI v, vI al, vI ac, vU] q C J M T (vI (aBring X n o y v al ac).1) (aBring X n o y v al ac).2 := by
  obtain ⟨⟨gs, a, b⟩, -⟩ := id h
  have hm := ho.2.1.m
  have l12 := ho.2.1.2.1
  have ag := ho.2.1.2.2.1
  have nx := ho.2.1.2.2.2.2.2.1
  have nm := ho.2.1.2.2.2.2.2.2.1
  have t1 := ho.1
  have kn : kndN X.1.1 0 ≤ 6 := hy.1.1
  have glen : (gs.length : Int) = allG X.1.1 := by rw [← flat_len, b.length_eq]
  obtain ⟨a1, a2, a3, a4⟩ := a.1
  unfold aBring
  by_cases h1 : (1 ≤ n ∧ n ≤ 10000) ∧ (0 ≤ al ∧ al ≤ 2000) ∧ (0 ≤ ac ∧ ac ≤ 200) ∧ (0 ≤ o ∧ o ≤ 7) ∧ (2000 ≤ y ∧ y ≤ 2063) ∧ 0 ≤ v ∧ v ≤ 9
  · rw [if_pos h1]
    obtain ⟨hn, hal, hac, hoo, hyy, hvv⟩ := h1
    have ks := w_lots q (C := C) (J := J) (T := T) a 0
    have run : rs 1023 0 [vR 10 0, vI n, vI o, vI y, vI v, vI al, vI ac, vU] [] (SX q, C, (J, M, T)) = if 12 ≤ X.1.1.length ∨ 6 ≤ kndN X.1.1 0 ∨ 200 ≤ allG X.1.1 then some (vI (-3), (SX q, C, (J, M, T))) else rs 1023 86 [vR 10 0, vI n, vI o, vI y, vI v, vI al, vI ac, vU] [] (SX q, C, (J, M, T)) := by
      simp only [s1023_0, s1023_1, s1023_2, s1023_3, s1023_6, s1023_9, s1023_12, s1023_13, s1023_14, s1023_16, unJ_I, unJ_J, unJ_F, unJ_R, unJ_N, unJ_U, pushR_I, pushR_J, pushR_F, pushR_R, pushR_N, pushR_U, rfV_s, rfV_n, Option.bind_some, true_or, or_true, if_true, c_in, c_isG, b01_0]
      rw [if_neg (by omega)]
      simp only [s1023_19, s1023_22, s1023_24, s1023_25, s1023_26, s1023_29, s1023_32, s1023_35, s1023_37, s1023_38, s1023_39, s1023_42, s1023_45, unJ_I, unJ_J, unJ_F, unJ_R, unJ_N, unJ_U, pushR_I, pushR_J, pushR_F, pushR_R, pushR_N, pushR_U, rfV_s, rfV_n, Option.bind_some, true_or, or_true, if_true, c_in, b01_0]
      rw [if_neg (fun z => z ⟨hoo, hyy, hvv⟩), if_neg (by omega), if_neg (by omega)]
      simp only [s1023_50, s1023_51, s1023_54, s1023_55, unJ_I, unJ_J, unJ_F, unJ_R, unJ_N, unJ_U, pushR_I, pushR_J, pushR_F, pushR_R, pushR_N, pushR_U, rfV_s, rfV_n, Option.bind_some, true_or, or_true, if_true, lm0]
      rw [if_pos (by omega)]
      simp only [Int.toNat_zero, a1]
      simp only [s1023_56, s1023_58, s1023_61, s1023_62, s1023_63, unJ_I, unJ_J, unJ_F, unJ_R, unJ_N, unJ_U, pushR_I, pushR_J, pushR_F, pushR_R, pushR_N, pushR_U, rfV_s, rfV_n, Option.bind_some, true_or, or_true, if_true, ks]
      by_cases c1 : 12 ≤ X.1.1.length
      · rw [if_pos (by omega), if_pos (Or.inl c1)]
        simp only [s1023_83, s1023_85, unJ_I, unJ_J, unJ_F, unJ_R, unJ_N, unJ_U, pushR_I, pushR_J, pushR_F, pushR_R, pushR_N, pushR_U, rfV_s, rfV_n, Option.bind_some, true_or, or_true, if_true]
      · rw [if_neg (by omega)]
        simp only [s1023_66, s1023_68, unJ_I, unJ_J, unJ_F, unJ_R, unJ_N, unJ_U, pushR_I, pushR_J, pushR_F, pushR_R, pushR_N, pushR_U, rfV_s, rfV_n, Option.bind_some, true_or, or_true, if_true]
        by_cases c2 : 6 ≤ kndN X.1.1 0
        · rw [if_pos (by omega), if_pos (Or.inr (Or.inl c2))]
          simp only [s1023_83, s1023_85, unJ_I, unJ_J, unJ_F, unJ_R, unJ_N, unJ_U, pushR_I, pushR_J, pushR_F, pushR_R, pushR_N, pushR_U, rfV_s, rfV_n, Option.bind_some, true_or, or_true, if_true]
        · rw [if_neg (by omega)]
          simp only [s1023_71, s1023_72, s1023_75, s1023_76, unJ_I, unJ_J, unJ_F, unJ_R, unJ_N, unJ_U, pushR_I, pushR_J, pushR_F, pushR_R, pushR_N, pushR_U, rfV_s, rfV_n, Option.bind_some, true_or, or_true, if_true, lm0]
          rw [if_pos (by omega)]
          simp only [show Int.toNat 2 = 2 from rfl, a3]
          simp only [s1023_77, s1023_80, unJ_I, unJ_J, unJ_F, unJ_R, unJ_N, unJ_U, pushR_I, pushR_J, pushR_F, pushR_R, pushR_N, pushR_U, rfV_s, rfV_n, Option.bind_some, true_or, or_true, if_true]
          by_cases c3 : 200 ≤ allG X.1.1
          · rw [if_pos (by omega), if_pos (Or.inr (Or.inr c3))]
            simp only [s1023_83, s1023_85, unJ_I, unJ_J, unJ_F, unJ_R, unJ_N, unJ_U, pushR_I, pushR_J, pushR_F, pushR_R, pushR_N, pushR_U, rfV_s, rfV_n, Option.bind_some, true_or, or_true, if_true]
          · rw [if_neg (by omega), if_neg (by omega)]
    by_cases h2 : 12 ≤ X.1.1.length ∨ 6 ≤ kndN X.1.1 0 ∨ 200 ≤ allG X.1.1
    · rw [if_pos h2] at run ⊢
      exact ⟨J, M, T, run, h⟩
    · rw [if_neg h2] at run ⊢
      obtain ⟨J1, M1, e1, k1, f1, w1⟩ := w_change q (C := C) (T := T) h
      have b1 : MRow (M1 0) X.1 gs := by rw [w1 0 (by omega) (by omega)]; exact a
      obtain ⟨M2', e2, b2, w2⟩ := w_newLot q (C := C) (J := J1) (T := T) b1 l12 (by omega) 0
      have hln : (X.1.1 ++ [nwL 0 X.1.2.2.2.2]).length = X.1.1.length + 1 := by simp
      have p1 := c_mput q (C := C) (J := J1) (M := M2') (T := T) (s := X.1.1.length) (w := 1) (by omega) (by omega) al
      have b3 := b2.setN (i := X.1.1.length) (j := 1) (by show X.1.1.length < (X.1.1 ++ [nwL 0 X.1.2.2.2.2]).length; omega) (by omega) al
      have p2 := c_mput q (C := C) (J := J1) (M := up2 M2' 0 (40 + 14 * X.1.1.length + 1) al) (T := T) (s := X.1.1.length) (w := 2) (by omega) (by omega) ac
      have b4 := b3.setN (i := X.1.1.length) (j := 2) (by show X.1.1.length < (setN (X.1.1 ++ [nwL 0 X.1.2.2.2.2]) X.1.1.length 1 al).length; rw [setN_l]; omega) (by omega) ac
      have b5 := b4.lots (ls := X.1.1 ++ [(sup (sup (sup (sup d0 1 al) 2 ac) 4 0) 0 X.1.2.2.2.2, [(kyU o y v, n)])]) (by show _ = (setN (setN (X.1.1 ++ [nwL 0 X.1.2.2.2.2]) X.1.1.length 1 al) X.1.1.length 2 ac).length; rw [setN_l, setN_l, hln]; simp) (fun i hi => by
        have hi' : i < X.1.1.length + 1 := by
          have : i < (setN (setN (X.1.1 ++ [nwL 0 X.1.2.2.2.2]) X.1.1.length 1 al) X.1.1.length 2 ac).length := hi
          rw [setN_l, setN_l, hln] at this; exact this
        show _ = (lt (setN (setN (X.1.1 ++ [nwL 0 X.1.2.2.2.2]) X.1.1.length 1 al) X.1.1.length 2 ac) i).1
        have g2 := setN_g (ls := X.1.1 ++ [nwL 0 X.1.2.2.2.2]) (i := X.1.1.length) (k := 1) (v := al) (by omega)
        rw [setN_g (by rw [setN_l]; omega), g2 i, g2 X.1.1.length, lt_snoc]
        by_cases z : i < X.1.1.length
        · rw [if_pos z, if_neg (by omega), if_neg (by omega), lt_snoc, if_pos z]
        · have ei : i = X.1.1.length := by omega
          subst ei
          rw [if_neg z, if_pos rfl, if_pos rfl, if_pos rfl, lt_snoc, if_neg z, if_pos rfl]
          funext j
          show sup (sup (sup (sup d0 1 al) 2 ac) 4 0) 0 X.1.2.2.2.2 j = sup (sup (sup (sup d0 4 0) 0 X.1.2.2.2.2) 1 al) 2 ac j
          unfold sup
          by_cases z0 : j = 0
          · subst z0; rfl
          · by_cases z1 : j = 1
            · subst z1; rfl
            · by_cases z2 : j = 2
              · subst z2; rfl
              · by_cases z4 : j = 4
                · subst z4; rfl
                · simp [z0, z1, z2, z4])
      have at0 := w_at q (C := C) (J := J1) (T := T) b5 (i := X.1.1.length) (w := 0) (by show X.1.1.length < (X.1.1 ++ [_]).length; simp) (by omega)
      have e0 : (lt (X.1.1 ++ [((sup (sup (sup (sup d0 1 al) 2 ac) 4 0) 0 X.1.2.2.2.2, [(kyU o y v, n)]) : Lt)]) X.1.1.length).1 0 = X.1.2.2.2.2 := by
        rw [lt_snoc, if_neg (Nat.lt_irrefl _), if_pos rfl]; rfl
      have at0' : rs 1008 0 [vR 10 0, vI (X.1.1.length : Int), vI 0] [] (SX q, C, (J1, up2 (up2 M2' 0 (40 + 14 * X.1.1.length + 1) al) 0 (40 + 14 * X.1.1.length + 2) ac, T)) = some (vI X.1.2.2.2.2, (SX q, C, (J1, up2 (up2 M2' 0 (40 + 14 * X.1.1.length + 1) al) 0 (40 + 14 * X.1.1.length + 2) ac, T))) := by
        refine Eq.trans at0 ?_
        show some (vI ((lt (X.1.1 ++ [((sup (sup (sup (sup d0 1 al) 2 ac) 4 0) 0 X.1.2.2.2.2, [(kyU o y v, n)]) : Lt)]) X.1.1.length).1 0), _) = _
        rw [e0]
      obtain ⟨ox, ob⟩ := hm.gx b
      have ky : 0 ≤ kyU o y v ∧ kyU o y v < 5120 := by unfold kyU; omega
      obtain ⟨M6, e6, b6, w6⟩ := w_addG q (C := C) (J := J1) (T := T) b5 (fun z hz => ⟨(ox.1 z hz).1, (ox.1 z hz).2.1⟩) (fun z hz => ⟨(ob z hz).1, by have := (ob z hz).2; omega⟩) (by omega) (y := X.1.2.2.2.2) (k := kyU o y v) (a := n) ky (by omega)
      rw [addG_new (fun z hz e => by
        obtain ⟨w, hw, e1, -⟩ := flat_mem.mp (b.mem_iff.mp hz)
        obtain ⟨j, hj, ej⟩ := List.getElem_of_mem hw
        have := nm j hj
        rw [lt_eq hj, ej] at this
        omega)] at b6
      have m8 : M6 0 8 = X.1.2.2.2.1 0 := b6.2.2.2.1 0 (by omega)
      have b7 := b6.adA (i := 0) (by omega) n
      have at7 := w_at q (C := C) (J := J1) (M := up2 M6 0 (8 + 0) (w32 (M6 0 (8 + 0) + n))) (T := T) b7 (i := X.1.1.length) (w := 0) (by show X.1.1.length < (X.1.1 ++ [_]).length; simp) (by omega)
      have at7' : rs 1008 0 [vR 10 0, vI (X.1.1.length : Int), vI 0] [] (SX q, C, (J1, up2 M6 0 8 (w32 (M6 0 8 + n)), T)) = some (vI X.1.2.2.2.2, (SX q, C, (J1, up2 M6 0 8 (w32 (M6 0 8 + n)), T))) := by
        refine Eq.trans at7 ?_
        show some (vI ((lt (X.1.1 ++ [((sup (sup (sup (sup d0 1 al) 2 ac) 4 0) 0 X.1.2.2.2.2, [(kyU o y v, n)]) : Lt)]) X.1.1.length).1 0), _) = _
        rw [e0]
      refine ⟨J1, up2 M6 0 (8 + 0) (w32 (M6 0 (8 + 0) + n)), T, ?_, Mod.row (σ' := (X.1.1 ++ [((sup (sup (sup (sup d0 1 al) 2 ac) 4 0) 0 X.1.2.2.2.2, [(kyU o y v, n)]) : Lt)], X.1.2.1, X.1.2.2.1, adA X.1.2.2.2.1 0 n, X.1.2.2.2.2 + 1)) k1 rfl rfl (by funext z; exact (up2_ne (by omega)).trans (by rw [w6 2 (by omega)]; exact (up2_ne (by omega)).trans ((up2_ne (by omega)).trans (by rw [w2 2 (by omega)])))) (by funext z; exact (up2_ne (by omega)).trans (by rw [w6 3 (by omega)]; exact (up2_ne (by omega)).trans ((up2_ne (by omega)).trans (by rw [w2 3 (by omega)])))) b7 ?_⟩
      · rw [run]
        simp only [s1023_86, s1023_87, s1023_90, s1023_91, s1023_92, unJ_I, unJ_J, unJ_F, unJ_R, unJ_N, unJ_U, pushR_I, pushR_J, pushR_F, pushR_R, pushR_N, pushR_U, rfV_s, rfV_n, Option.bind_some, true_or, or_true, if_true, e1, e2]
        simp only [s1023_95, s1023_97, s1023_98, s1023_100, s1023_101, unJ_I, unJ_J, unJ_F, unJ_R, unJ_N, unJ_U, pushR_I, pushR_J, pushR_F, pushR_R, pushR_N, pushR_U, rfV_s, rfV_n, Option.bind_some, true_or, or_true, if_true]
        rw [s1023_103]
        refine (congrArg (fun o => Option.bind o _) p1).trans ?_
        simp only [s1023_106, s1023_107, s1023_109, s1023_110, s1023_112, unJ_I, unJ_J, unJ_F, unJ_R, unJ_N, unJ_U, pushR_I, pushR_J, pushR_F, pushR_R, pushR_N, pushR_U, rfV_s, rfV_n, Option.bind_some, true_or, or_true, if_true]
        refine (congrArg (fun o => Option.bind o _) p2).trans ?_
        simp only [s1023_115, s1023_116, s1023_117, s1023_119, s1023_120, unJ_I, unJ_J, unJ_F, unJ_R, unJ_N, unJ_U, pushR_I, pushR_J, pushR_F, pushR_R, pushR_N, pushR_U, rfV_s, rfV_n, Option.bind_some, true_or, or_true, if_true, at0']
        simp only [s1023_123, s1023_124, s1023_125, s1023_127, unJ_I, unJ_J, unJ_F, unJ_R, unJ_N, unJ_U, pushR_I, pushR_J, pushR_F, pushR_R, pushR_N, pushR_U, rfV_s, rfV_n, Option.bind_some, true_or, or_true, if_true, c_keyM hoo hyy hvv]
        simp only [s1023_130, s1023_131, unJ_I, unJ_J, unJ_F, unJ_R, unJ_N, unJ_U, pushR_I, pushR_J, pushR_F, pushR_R, pushR_N, pushR_U, rfV_s, rfV_n, Option.bind_some, true_or, or_true, if_true, e6]
        simp only [s1023_134, s1023_135, s1023_138, s1023_140, s1023_141, unJ_I, unJ_J, unJ_F, unJ_R, unJ_N, unJ_U, pushR_I, pushR_J, pushR_F, pushR_R, pushR_N, pushR_U, rfV_s, rfV_n, Option.bind_some, true_or, or_true, if_true, lm0]
        rw [if_pos (by omega)]
        simp only [show Int.toNat 8 = 8 from rfl]
        simp only [s1023_142, s1023_143, s1023_144, unJ_I, unJ_J, unJ_F, unJ_R, unJ_N, unJ_U, pushR_I, pushR_J, pushR_F, pushR_R, pushR_N, pushR_U, rfV_s, rfV_n, Option.bind_some, true_or, or_true, if_true, lm0]
        rw [if_pos (by omega)]
        simp only [s1023_145, s1023_146, s1023_148, s1023_149, s1023_152, unJ_I, unJ_J, unJ_F, unJ_R, unJ_N, unJ_U, pushR_I, pushR_J, pushR_F, pushR_R, pushR_N, pushR_U, rfV_s, rfV_n, Option.bind_some, true_or, or_true, if_true, show Int.toNat 8 = 8 from rfl, at7']
      · show (gs ++ [(X.1.2.2.2.2, kyU o y v, n)]).Perm (flat (X.1.1 ++ [((sup (sup (sup (sup d0 1 al) 2 ac) 4 0) 0 X.1.2.2.2.2, [(kyU o y v, n)]) : Lt)]))
        rw [flat_app]
        exact b.append_right _
  · rw [if_neg h1]
    refine ⟨J, M, T, ?_, h⟩
    simp only [s1023_0, s1023_1, s1023_2, s1023_3, s1023_6, s1023_9, s1023_12, s1023_13, s1023_14, s1023_16, s1023_19, s1023_22, s1023_24, s1023_25, s1023_26, s1023_29, s1023_32, s1023_35, s1023_37, s1023_38, s1023_39, s1023_42, s1023_45, s1023_48, s1023_49, unJ_I, unJ_J, unJ_F, unJ_R, unJ_N, unJ_U, pushR_I, pushR_J, pushR_F, pushR_R, pushR_N, pushR_U, rfV_s, rfV_n, Option.bind_some, true_or, or_true, if_true, c_in, c_isG, b01_0]
    repeat' split
    all_goals first | rfl | (exfalso; omega)
end
