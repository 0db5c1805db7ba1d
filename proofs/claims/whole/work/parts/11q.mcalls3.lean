/-! THE MODEL CALLS: rule, account, set, dropRule, type, clearText, count -/
theorem MRow.acc {M : M2} {σ : St} {gs : List Gx} (h : MRow (M 0) σ gs) {i : Nat} (hi : i < 8) (v : Int) : MRow (up2 M 0 (8 + i) v 0) (σ.1, σ.2.1, σ.2.2.1, sup σ.2.2.2.1 i v, σ.2.2.2.2) gs := by
  obtain ⟨⟨a1, a2, a3, a4⟩, ⟨b1, b2, b3⟩, c, d, r, l, m⟩ := h
  refine ⟨⟨(up2_ne (by omega)).trans a1, (up2_ne (by omega)).trans a2, (up2_ne (by omega)).trans a3, (up2_ne (by omega)).trans a4⟩, ⟨b1, b2, b3⟩, fun k hk => (up2_ne (by omega)).trans (c k hk), fun k hk => ?_, fun k hk => ?_, fun x hx y hy => (up2_ne (by omega)).trans (l x hx y hy), fun k hk => ?_⟩
  · show _ = if k = i then v else σ.2.2.2.1 k
    by_cases e : k = i
    · rw [if_pos e, e, up2_eq]
    · rw [if_neg e, up2_ne (by omega)]; exact d k hk
  · rw [up2_ne (by omega), up2_ne (by omega), up2_ne (by omega)]; exact r k hk
  · rw [up2_ne (by omega), up2_ne (by omega), up2_ne (by omega)]; exact m k hk
theorem MRow.sett {M : M2} {σ : St} {gs : List Gx} (h : MRow (M 0) σ gs) {i : Nat} (hi : i < 4) (v : Int) : MRow (up2 M 0 (4 + i) v 0) (σ.1, σ.2.1, sup σ.2.2.1 i v, σ.2.2.2) gs := by
  obtain ⟨⟨a1, a2, a3, a4⟩, ⟨b1, b2, b3⟩, c, d, r, l, m⟩ := h
  refine ⟨⟨(up2_ne (by omega)).trans a1, (up2_ne (by omega)).trans a2, (up2_ne (by omega)).trans a3, (up2_ne (by omega)).trans a4⟩, ⟨b1, b2, b3⟩, fun k hk => ?_, fun k hk => (up2_ne (by omega)).trans (d k hk), fun k hk => ?_, fun x hx y hy => (up2_ne (by omega)).trans (l x hx y hy), fun k hk => ?_⟩
  · show _ = if k = i then v else σ.2.2.1 k
    by_cases e : k = i
    · rw [if_pos e, e, up2_eq]
    · rw [if_neg e, up2_ne (by omega)]; exact c k hk
  · rw [up2_ne (by omega), up2_ne (by omega), up2_ne (by omega)]; exact r k hk
  · rw [up2_ne (by omega), up2_ne (by omega), up2_ne (by omega)]; exact m k hk
/-- only the rules' part of a row changes -/
theorem MRow.rul {f g : Nat → Int} {σ : St} {gs : List Gx} {ru : List Ru} (h : MRow f σ gs) (e : ∀ k, k < 1422 → k ≠ 3 → ¬ (16 ≤ k ∧ k < 40) → g k = f k) (h3 : g 3 = ru.length) (h8 : ru.length ≤ 8) (hr : ∀ k, k < ru.length → g (16 + 3 * k) = (rg ru k).1 ∧ g (16 + 3 * k + 1) = (rg ru k).2.1 ∧ g (16 + 3 * k + 2) = (rg ru k).2.2) : MRow g (σ.1, ru, σ.2.2) gs := by
  obtain ⟨⟨a1, a2, a3, a4⟩, ⟨b1, b2, b3⟩, c, d, r, l, m⟩ := h
  refine ⟨⟨(e _ (by omega) (by omega) (by omega)).trans a1, (e _ (by omega) (by omega) (by omega)).trans a2, (e _ (by omega) (by omega) (by omega)).trans a3, h3⟩, ⟨b1, b2, h8⟩, fun k hk => (e _ (by omega) (by omega) (by omega)).trans (c k hk), fun k hk => (e _ (by omega) (by omega) (by omega)).trans (d k hk), hr, fun x hx y hy => by
    have hx' : x < σ.1.length := hx
    exact (e _ (by omega) (by omega) (by omega)).trans (l x hx y hy), fun k hk => ?_⟩
  rw [e _ (by omega) (by omega) (by omega), e _ (by omega) (by omega) (by omega), e _ (by omega) (by omega) (by omega)]
  exact m k hk
section
variable (q : Nat × (Nat → Int)) {C : MC} {J M T : M2} {t : Int} {X : XS}
theorem w_rule (h : Mod J M X) (ho : okX t X) (r x : Int) : Dom 1035 [vR 10 0, vI r, vI x] q C J M T (vI (aRule X r x)) X := by
  obtain ⟨⟨gs, a, b⟩, -⟩ := id h
  obtain ⟨a1, a2, a3, a4⟩ := a.1
  have b3 := a.2.1.2.2
  refine ⟨J, M, T, ?_, h⟩
  unfold aRule
  by_cases h1 : 0 ≤ r ∧ 0 ≤ x ∧ x ≤ 2
  · rw [if_pos h1]
    simp only [s1035_0, s1035_1, s1035_4, s1035_5, s1035_6, s1035_7, s1035_10, s1035_13, s1035_16, s1035_17, s1035_18, s1035_19, s1035_20, s1035_23, s1035_24, unJ_I, unJ_J, unJ_F, unJ_R, unJ_N, unJ_U, pushR_I, pushR_J, pushR_F, pushR_R, pushR_N, pushR_U, rfV_s, rfV_n, Option.bind_some, true_or, or_true, if_true, lm0, c_in, b01_0]
    rw [if_neg (by omega), if_neg (by omega), if_pos (by omega)]
    simp only [show Int.toNat 3 = 3 from rfl, a4]
    by_cases hr : r < X.1.2.1.length
    · rw [if_pos hr]
      obtain ⟨n, rfl⟩ : ∃ n : Nat, r = n := ⟨r.toNat, by omega⟩
      obtain ⟨m, rfl⟩ : ∃ m : Nat, x = m := ⟨x.toNat, by omega⟩
      obtain ⟨r0, r1, r2⟩ := a.2.2.2.2.1 n (by omega)
      have k := ho.ru n (by omega)
      have e1 : Unit → w32 (3 * (n : Int)) = 3 * n := fun _ => w32_id (by omega) (by omega)
      have e2 : Unit → w32 (16 + 3 * (n : Int)) = ((16 + 3 * n : Nat) : Int) := fun _ => by rw [w32_id (by omega) (by omega)]; omega
      have e3 : Unit → w32 (((16 + 3 * n : Nat) : Int) + m) = ((16 + 3 * n + m : Nat) : Int) := fun _ => by rw [w32_id (by omega) (by omega)]; omega
      have tail : rs 1035 53 [vR 10 0, vI (n : Int), vI (m : Int)] [] (SX q, C, (J, M, T)) = some (vI (M 0 (16 + 3 * n + m)), (SX q, C, (J, M, T))) := by
        simp only [s1035_53, s1035_54, s1035_57, s1035_59, s1035_60, s1035_61, s1035_62, s1035_63, s1035_64, s1035_65, unJ_I, unJ_J, unJ_F, unJ_R, unJ_N, unJ_U, pushR_I, pushR_J, pushR_F, pushR_R, pushR_N, pushR_U, rfV_s, rfV_n, Option.bind_some, true_or, or_true, if_true, lm0, e1 (), e2 (), e3 (), Int.toNat_natCast]
        rw [if_pos (by omega)]
        simp only [s1035_66, unJ_I, unJ_J, unJ_F, unJ_R, unJ_N, unJ_U, pushR_I, pushR_J, pushR_F, pushR_R, pushR_N, pushR_U, rfV_s, rfV_n, Option.bind_some, true_or, or_true, if_true]
      have tp : ∀ z : Int, 0 ≤ z → z ≤ 8 → (tpOf z ≤ 2 ↔ z ≤ 3) := fun z z0 z8 => by
        have : z = 0 ∨ z = 1 ∨ z = 2 ∨ z = 3 ∨ z = 4 ∨ z = 5 ∨ z = 6 ∨ z = 7 ∨ z = 8 := by omega
        rcases this with rfl | rfl | rfl | rfl | rfl | rfl | rfl | rfl | rfl <;> decide
      simp only [s1035_25, s1035_28, s1035_29, s1035_30, unJ_I, unJ_J, unJ_F, unJ_R, unJ_N, unJ_U, pushR_I, pushR_J, pushR_F, pushR_R, pushR_N, pushR_U, rfV_s, rfV_n, Option.bind_some, true_or, or_true, if_true]
      rw [if_neg (by omega), Int.toNat_natCast]
      by_cases x1 : (m : Int) = 1
      · rw [if_pos x1, if_neg (by omega), if_neg (by omega)]
        simp only [s1035_33, s1035_34, s1035_37, s1035_39, s1035_40, s1035_41, s1035_42, s1035_43, unJ_I, unJ_J, unJ_F, unJ_R, unJ_N, unJ_U, pushR_I, pushR_J, pushR_F, pushR_R, pushR_N, pushR_U, rfV_s, rfV_n, Option.bind_some, true_or, or_true, if_true, lm0, e1 (), e2 (), Int.toNat_natCast, r0]
        rw [if_pos (by omega)]
        simp only [s1035_44, s1035_45, s1035_48, s1035_50, s1035_66, unJ_I, unJ_J, unJ_F, unJ_R, unJ_N, unJ_U, pushR_I, pushR_J, pushR_F, pushR_R, pushR_N, pushR_U, rfV_s, rfV_n, Option.bind_some, true_or, or_true, if_true]
        have m1 : m = 1 := by omega
        by_cases z : (rg X.1.2.1 n).1 ≤ 3
        · rw [if_pos z, if_pos ((tp _ k.1 k.2).mpr z), tail, m1, r1]
        · rw [if_neg z, if_neg (fun y => z ((tp _ k.1 k.2).mp y))]
      · rw [if_neg x1, tail]
        have : m = 0 ∨ m = 2 := by omega
        rcases this with rfl | rfl
        · rw [if_pos (show ((0 : Nat) : Int) = 0 from rfl), Nat.add_zero, r0]
        · rw [if_neg (by omega), if_pos (show ((2 : Nat) : Int) = 2 from rfl), r2]
    · rw [if_neg hr]
      simp only [s1035_25, s1035_28, s1035_29, s1035_30, s1035_33, s1035_34, s1035_37, s1035_39, s1035_40, s1035_41, s1035_42, s1035_43, s1035_44, s1035_45, s1035_48, s1035_50, s1035_66, unJ_I, unJ_J, unJ_F, unJ_R, unJ_N, unJ_U, pushR_I, pushR_J, pushR_F, pushR_R, pushR_N, pushR_U, rfV_s, rfV_n, Option.bind_some, true_or, or_true, if_true]
      rw [if_pos (by omega)]
  · rw [if_neg h1]
    simp only [s1035_0, s1035_1, s1035_4, s1035_5, s1035_6, s1035_7, s1035_10, s1035_13, s1035_16, s1035_17, unJ_I, unJ_J, unJ_F, unJ_R, unJ_N, unJ_U, pushR_I, pushR_J, pushR_F, pushR_R, pushR_N, pushR_U, rfV_s, rfV_n, Option.bind_some, true_or, or_true, if_true, c_in, b01_0]
    repeat' split
    all_goals first | rfl | (exfalso; omega)
theorem w_all {σ : St} {gs : List Gx} (h : MRow (M 0) σ gs) (hm : okM σ.1) (hp : gs.Perm (flat σ.1)) : rs 1055 0 [vR 10 0, vU, vU] [] (SX q, C, (J, M, T)) = some (vI (litL σ.1), (SX q, C, (J, M, T))) := by
  have a3 := h.1.2.2.1
  have b2 := h.2.1.2.1
  obtain ⟨ox, ob⟩ := hm.gx hp
  have loop := rs_loop (m := 1055) (pc := 4) (fun k => [vR 10 0, vI (sumU (fun k => (gg gs k).2.2) k), vI (k : Int)]) (fun _ => (SX q, C, (J, M, T))) gs.length (fun k hk => by
    have r := sumU_r (f := fun k => (gg gs k).2.2) (b := 10000) (n := k) (fun i hi => ob _ (gg_mem (show i < gs.length by omega)))
    have y := ob _ (gg_mem hk)
    have ek : Unit → w32 ((k : Int) + 1) = ((k + 1 : Nat) : Int) := fun _ => by rw [w32_id (by omega) (by omega)]; omega
    obtain ⟨m0, m1, m2⟩ := h.2.2.2.2.2.2 k hk
    have e1 : Unit → w32 (3 * (k : Int)) = 3 * k := fun _ => w32_id (by omega) (by omega)
    have e2 : Unit → w32 (222 + 3 * (k : Int)) = 222 + 3 * k := fun _ => w32_id (by omega) (by omega)
    have e4 : Unit → w32 (222 + 3 * (k : Int) + 2) = ((222 + 3 * k + 2 : Nat) : Int) := fun _ => by rw [w32_id (by omega) (by omega)]; omega
    have es : Unit → w32 (sumU (fun k => (gg gs k).2.2) k + (gg gs k).2.2) = sumU (fun k => (gg gs k).2.2) (k + 1) := fun _ => by rw [sumU]; exact w32_id (by omega) (by omega)
    rw [s1055_4]
    simp only [s1055_5, s1055_6, s1055_9, s1055_10, s1055_11, unJ_I, unJ_J, unJ_F, unJ_R, unJ_N, unJ_U, pushR_I, pushR_J, pushR_F, pushR_R, pushR_N, pushR_U, rfV_s, rfV_n, Option.bind_some, true_or, or_true, if_true, lm0]
    rw [if_pos (by omega)]
    simp only [show Int.toNat 2 = 2 from rfl, a3]
    rw [if_neg (by omega)]
    simp only [s1055_14, s1055_15, s1055_16, s1055_19, s1055_22, s1055_23, s1055_24, s1055_25, s1055_26, s1055_27, s1055_28, unJ_I, unJ_J, unJ_F, unJ_R, unJ_N, unJ_U, pushR_I, pushR_J, pushR_F, pushR_R, pushR_N, pushR_U, rfV_s, rfV_n, Option.bind_some, true_or, or_true, if_true, lm0, e1 (), e2 (), e4 (), Int.toNat_natCast, m2]
    rw [if_pos (by omega)]
    simp only [s1055_29, s1055_30, s1055_31, s1055_34, unJ_I, unJ_J, unJ_F, unJ_R, unJ_N, unJ_U, pushR_I, pushR_J, pushR_F, pushR_R, pushR_N, pushR_U, rfV_s, rfV_n, Option.bind_some, true_or, or_true, if_true, es (), ek ()])
  simp only [s1055_0, s1055_1, s1055_2, s1055_3, unJ_I, unJ_J, unJ_F, unJ_R, unJ_N, unJ_U, pushR_I, pushR_J, pushR_F, pushR_R, pushR_N, pushR_U, rfV_s, rfV_n, Option.bind_some, true_or, or_true, if_true]
  refine loop.trans ?_
  rw [s1055_4]
  simp only [s1055_5, s1055_6, s1055_9, s1055_10, s1055_11, unJ_I, unJ_J, unJ_F, unJ_R, unJ_N, unJ_U, pushR_I, pushR_J, pushR_F, pushR_R, pushR_N, pushR_U, rfV_s, rfV_n, Option.bind_some, true_or, or_true, if_true, lm0]
  rw [if_pos (by omega)]
  simp only [show Int.toNat 2 = 2 from rfl, a3]
  rw [if_pos (by omega)]
  simp only [s1055_37, s1055_38, unJ_I, unJ_J, unJ_F, unJ_R, unJ_N, unJ_U, pushR_I, pushR_J, pushR_F, pushR_R, pushR_N, pushR_U, rfV_s, rfV_n, Option.bind_some, true_or, or_true, if_true]
  rw [wsum_sumU (fun y => y.2.2), wsum_perm hp, wsum_all]
theorem w_account (h : Mod J M X) (ho : okX t X) (x : Int) : Dom 1056 [vR 10 0, vI x] q C J M T (vI (aAccount X x)) X := by
  obtain ⟨⟨gs, a, b⟩, -⟩ := id h
  refine ⟨J, M, T, ?_, h⟩
  unfold aAccount
  by_cases h1 : 0 ≤ x ∧ x ≤ 7
  · rw [if_pos h1]
    simp only [s1056_0, s1056_1, s1056_2, s1056_3, s1056_6, s1056_9, s1056_12, s1056_13, s1056_16, s1056_17, s1056_18, unJ_I, unJ_J, unJ_F, unJ_R, unJ_N, unJ_U, pushR_I, pushR_J, pushR_F, pushR_R, pushR_N, pushR_U, rfV_s, rfV_n, Option.bind_some, true_or, or_true, if_true, c_in, b01_0]
    rw [if_neg (fun z => z h1)]
    by_cases hx : x = 4
    · rw [if_pos hx, if_pos hx]
      simp only [s1056_21, s1056_22, s1056_25, s1056_37, unJ_I, unJ_J, unJ_F, unJ_R, unJ_N, unJ_U, pushR_I, pushR_J, pushR_F, pushR_R, pushR_N, pushR_U, rfV_s, rfV_n, Option.bind_some, true_or, or_true, if_true, w_all q a ho.2.1.m b]
    · rw [if_neg hx, if_neg hx]
      obtain ⟨n, rfl⟩ : ∃ n : Nat, x = n := ⟨x.toNat, by omega⟩
      have e1 : Unit → w32 (8 + (n : Int)) = ((8 + n : Nat) : Int) := fun _ => by rw [w32_id (by omega) (by omega)]; omega
      simp only [s1056_28, s1056_29, s1056_32, s1056_34, s1056_35, s1056_36, unJ_I, unJ_J, unJ_F, unJ_R, unJ_N, unJ_U, pushR_I, pushR_J, pushR_F, pushR_R, pushR_N, pushR_U, rfV_s, rfV_n, Option.bind_some, true_or, or_true, if_true, lm0, e1 (), Int.toNat_natCast, a.2.2.2.1 n (by omega)]
      rw [if_pos (by omega)]
      simp only [s1056_37, unJ_I, unJ_J, unJ_F, unJ_R, unJ_N, unJ_U, pushR_I, pushR_J, pushR_F, pushR_R, pushR_N, pushR_U, rfV_s, rfV_n, Option.bind_some, true_or, or_true, if_true]
  · rw [if_neg h1]
    simp only [s1056_0, s1056_1, s1056_2, s1056_3, s1056_6, s1056_9, unJ_I, unJ_J, unJ_F, unJ_R, unJ_N, unJ_U, pushR_I, pushR_J, pushR_F, pushR_R, pushR_N, pushR_U, rfV_s, rfV_n, Option.bind_some, true_or, or_true, if_true, c_in, b01_0]
    rw [if_pos h1]
    simp only [s1056_12, s1056_13, s1056_37, unJ_I, unJ_J, unJ_F, unJ_R, unJ_N, unJ_U, pushR_I, pushR_J, pushR_F, pushR_R, pushR_N, pushR_U, rfV_s, rfV_n, Option.bind_some, true_or, or_true, if_true]
theorem w_type (h : Mod J M X) (x : Int) : Dom 1058 [vR 10 0, vI x] q C J M T (vI (aType X x).1) (aType X x).2 := by
  obtain ⟨h1, h2, h5, h6, h7⟩ := id h
  unfold aType
  by_cases hx : 32 ≤ x ∧ x ≤ 126
  · rw [if_pos hx]
    by_cases hl : X.2.2.length < 100
    · rw [if_pos hl]
      have e1 : Unit → w32 ((X.2.2.length : Int) + 1) = (X.2.2.length : Int) + 1 := fun _ => w32_id (by omega) (by omega)
      have j1 : up2 J 205 0 ((X.2.2.length : Int) + 1) 205 0 = (X.2.2.length : Int) + 1 := up2_eq
      refine ⟨up2 J 205 0 ((X.2.2.length : Int) + 1), up2 M 3 X.2.2.length x, T, ?_, ⟨?_, ⟨(up2_ne (by omega)).trans h2.1, h2.2.1, fun i hi => ?_⟩, ?_, ?_, fun j hj => ?_⟩⟩
      · simp only [s1058_0, s1058_1, s1058_2, s1058_5, s1058_8, s1058_11, s1058_14, s1058_15, s1058_16, s1058_17, s1058_20, s1058_22, unJ_I, unJ_J, unJ_F, unJ_R, unJ_N, unJ_U, pushR_I, pushR_J, pushR_F, pushR_R, pushR_N, pushR_U, rfV_s, rfV_n, Option.bind_some, true_or, or_true, if_true, c_in, b01_0, h5]
        rw [if_neg (by omega), if_neg (by omega)]
        simp only [s1058_28, s1058_29, s1058_32, s1058_33, s1058_36, s1058_37, s1058_38, s1058_39, s1058_39r, s1058_40, s1058_43, s1058_44, s1058_45, s1058_48, s1058_49, s1058_52, unJ_I, unJ_J, unJ_F, unJ_R, unJ_N, unJ_U, pushR_I, pushR_J, pushR_F, pushR_R, pushR_N, pushR_U, rfV_s, rfV_n, Option.bind_some, true_or, or_true, if_true, lm3, h5, Int.toNat_natCast, e1 (), j1]
        rw [if_pos (by omega)]
      · obtain ⟨gs, a, b⟩ := h1
        exact ⟨gs, a.congr (fun k _ => up2_ne (by omega)), b⟩
      · obtain ⟨gs, a, b⟩ := h2.2.2 i hi
        exact ⟨gs, a.congr (fun k _ => up2_ne (by omega)), b⟩
      · show up2 J 205 0 ((X.2.2.length : Int) + 1) 205 0 = (((X.2.2 ++ [x]).length : Nat) : Int)
        rw [up2_eq]; simp
      · show (X.2.2 ++ [x]).length ≤ 100
        simp; omega
      · have hj' : j < (X.2.2 ++ [x]).length := hj
        show up2 M 3 X.2.2.length x 3 j = (X.2.2 ++ [x]).getD j 0
        rw [getD_app]
        by_cases e : j < X.2.2.length
        · rw [if_pos e, up2_ne (by omega)]; exact h7 j e
        · have ej : j = X.2.2.length := by simp at hj'; omega
          rw [if_neg e, if_pos ej, ej, up2_eq]
    · rw [if_neg hl]
      refine ⟨J, M, T, ?_, h⟩
      simp only [s1058_0, s1058_1, s1058_2, s1058_5, s1058_8, s1058_11, s1058_14, s1058_15, s1058_16, s1058_17, s1058_20, s1058_22, s1058_25, s1058_27, unJ_I, unJ_J, unJ_F, unJ_R, unJ_N, unJ_U, pushR_I, pushR_J, pushR_F, pushR_R, pushR_N, pushR_U, rfV_s, rfV_n, Option.bind_some, true_or, or_true, if_true, c_in, b01_0, h5]
      rw [if_neg (by omega), if_pos (by omega)]
  · rw [if_neg hx]
    refine ⟨J, M, T, ?_, h⟩
    simp only [s1058_0, s1058_1, s1058_2, s1058_5, s1058_8, s1058_11, s1058_14, s1058_15, unJ_I, unJ_J, unJ_F, unJ_R, unJ_N, unJ_U, pushR_I, pushR_J, pushR_F, pushR_R, pushR_N, pushR_U, rfV_s, rfV_n, Option.bind_some, true_or, or_true, if_true, c_in, b01_0]
    rw [if_pos hx]
theorem w_clear (h : Mod J M X) : Dom 1059 [vR 10 0, vU] q C J M T (vI (aClear X).1) (aClear X).2 := by
  obtain ⟨h1, h2, h5, h6, h7⟩ := id h
  refine ⟨up2 J 205 0 0, M, T, ?_, ⟨h1, ⟨(up2_ne (by omega)).trans h2.1, h2.2.1, h2.2.2⟩, up2_eq, by show 0 ≤ 100; omega, fun j hj => absurd hj (Nat.not_lt_zero _)⟩⟩
  simp only [s1059_0, s1059_1, s1059_4, s1059_5, s1059_6, s1059_7, s1059_10, s1059_11, unJ_I, unJ_J, unJ_F, unJ_R, unJ_N, unJ_U, pushR_I, pushR_J, pushR_F, pushR_R, pushR_N, pushR_U, rfV_s, rfV_n, Option.bind_some, true_or, or_true, if_true, h5]
  rfl
theorem w_set (h : Mod J M X) (x v : Int) : Dom 1054 [vR 10 0, vI x, vI v, vU] q C J M T (vI (aSet X x v).1) (aSet X x v).2 := by
  unfold aSet
  have hmx : ∀ P : Int → Prop, (0 ≤ x ∧ x ≤ 3) → True := fun _ _ => trivial
  by_cases hx : 0 ≤ x ∧ x ≤ 3
  · have run : rs 1054 0 [vR 10 0, vI x, vI v, vU] [] (SX q, C, (J, M, T)) = if ¬ (0 ≤ v ∧ v ≤ mxSet x) then some (vI (-1), (SX q, C, (J, M, T))) else rs 1054 52 [vR 10 0, vI x, vI v, vU] [] (SX q, C, (J, M, T)) := by
      simp only [s1054_0, s1054_1, s1054_2, s1054_3, s1054_6, s1054_9, unJ_I, unJ_J, unJ_F, unJ_R, unJ_N, unJ_U, pushR_I, pushR_J, pushR_F, pushR_R, pushR_N, pushR_U, rfV_s, rfV_n, Option.bind_some, true_or, or_true, if_true, c_in, b01_0]
      rw [if_neg (fun z => z hx)]
      have : x = 0 ∨ x = 1 ∨ x = 2 ∨ x = 3 := by omega
      rcases this with rfl | rfl | rfl | rfl
      · simp [s1054_12, s1054_13, s1054_14, s1054_15, s1054_16, s1054_19, s1054_20, s1054_21, s1054_24, s1054_27, s1054_30, s1054_31, s1054_32, s1054_35, s1054_38, s1054_41, s1054_44, s1054_47, s1054_50, s1054_51, unJ_I, unJ_J, unJ_F, unJ_R, unJ_N, unJ_U, pushR_I, pushR_J, pushR_F, pushR_R, pushR_N, pushR_U, rfV_s, rfV_n, Option.bind_some, true_or, or_true, if_true, c_in, b01_0, mxSet]
      · simp [s1054_12, s1054_13, s1054_14, s1054_15, s1054_16, s1054_19, s1054_20, s1054_21, s1054_24, s1054_27, s1054_30, s1054_31, s1054_32, s1054_35, s1054_38, s1054_41, s1054_44, s1054_47, s1054_50, s1054_51, unJ_I, unJ_J, unJ_F, unJ_R, unJ_N, unJ_U, pushR_I, pushR_J, pushR_F, pushR_R, pushR_N, pushR_U, rfV_s, rfV_n, Option.bind_some, true_or, or_true, if_true, c_in, b01_0, mxSet]
      · simp [s1054_12, s1054_13, s1054_14, s1054_15, s1054_16, s1054_19, s1054_20, s1054_21, s1054_24, s1054_27, s1054_30, s1054_31, s1054_32, s1054_35, s1054_38, s1054_41, s1054_44, s1054_47, s1054_50, s1054_51, unJ_I, unJ_J, unJ_F, unJ_R, unJ_N, unJ_U, pushR_I, pushR_J, pushR_F, pushR_R, pushR_N, pushR_U, rfV_s, rfV_n, Option.bind_some, true_or, or_true, if_true, c_in, b01_0, mxSet]
      · simp [s1054_12, s1054_13, s1054_14, s1054_15, s1054_16, s1054_19, s1054_20, s1054_21, s1054_24, s1054_27, s1054_30, s1054_31, s1054_32, s1054_35, s1054_38, s1054_41, s1054_44, s1054_47, s1054_50, s1054_51, unJ_I, unJ_J, unJ_F, unJ_R, unJ_N, unJ_U, pushR_I, pushR_J, pushR_F, pushR_R, pushR_N, pushR_U, rfV_s, rfV_n, Option.bind_some, true_or, or_true, if_true, c_in, b01_0, mxSet]
    by_cases hv : 0 ≤ v ∧ v ≤ mxSet x
    · rw [if_pos ⟨hx, hv⟩]
      rw [if_neg (fun z => z hv)] at run
      obtain ⟨J1, M1, e1, k1, k2, k3⟩ := w_change q (C := C) (T := T) h
      obtain ⟨⟨gs, a, b⟩, -⟩ := id k1
      obtain ⟨n, rfl⟩ : ∃ n : Nat, x = n := ⟨x.toNat, by omega⟩
      rw [Int.toNat_natCast]
      have e4 : Unit → w32 (4 + (n : Int)) = ((4 + n : Nat) : Int) := fun _ => by rw [w32_id (by omega) (by omega)]; omega
      have r4 : M1 0 (4 + n) = X.1.2.2.1 n := a.2.2.1 n (by omega)
      refine ⟨J1, up2 M1 0 (4 + n) v, T, ?_, Mod.row (σ' := (X.1.1, X.1.2.1, sup X.1.2.2.1 n v, X.1.2.2.2)) k1 rfl rfl (by funext y; exact up2_ne (by omega)) (by funext y; exact up2_ne (by omega)) (a.sett (by omega) v) b⟩
      rw [run]
      simp only [s1054_52, s1054_53, s1054_56, s1054_57, s1054_60, s1054_61, s1054_62, s1054_63, unJ_I, unJ_J, unJ_F, unJ_R, unJ_N, unJ_U, pushR_I, pushR_J, pushR_F, pushR_R, pushR_N, pushR_U, rfV_s, rfV_n, Option.bind_some, true_or, or_true, if_true, lm0, e1, e4 (), Int.toNat_natCast, r4]
      rw [if_pos (by omega)]
      simp only [s1054_64, s1054_65, s1054_66, s1054_69, s1054_70, s1054_71, s1054_72, s1054_73, s1054_74, s1054_75, unJ_I, unJ_J, unJ_F, unJ_R, unJ_N, unJ_U, pushR_I, pushR_J, pushR_F, pushR_R, pushR_N, pushR_U, rfV_s, rfV_n, Option.bind_some, true_or, or_true, if_true, lm0, e4 (), Int.toNat_natCast]
      rw [if_pos (by omega)]
    · rw [if_neg (fun z => hv z.2)]
      rw [if_pos hv] at run
      exact ⟨J, M, T, run, h⟩
  · rw [if_neg (fun z => hx z.1)]
    refine ⟨J, M, T, ?_, h⟩
    simp only [s1054_0, s1054_1, s1054_2, s1054_3, s1054_6, s1054_9, s1054_50, s1054_51, unJ_I, unJ_J, unJ_F, unJ_R, unJ_N, unJ_U, pushR_I, pushR_J, pushR_F, pushR_R, pushR_N, pushR_U, rfV_s, rfV_n, Option.bind_some, true_or, or_true, if_true, c_in, b01_0]
    rw [if_pos hx]
end
