/-! CALLS: account, count, rule, set, undo, dropRule, type, clearText, fault, read -/
def mxSet (x : Int) : Int := if x = 1 then 200 else if x = 3 then 1000 else 100
def aSet (X : XS) (x v : Int) : Int × XS := if (0 ≤ x ∧ x ≤ 3) ∧ 0 ≤ v ∧ v ≤ mxSet x then (X.1.2.2.1 x.toNat, chg X (X.1.1, X.1.2.1, sup X.1.2.2.1 x.toNat v, X.1.2.2.2)) else (-1, X)
def aUndo (X : XS) : Int × XS := if X.2.1.length = 0 then (-2, X) else ((X.2.1.length : Int) - 1, (X.2.1.getD (X.2.1.length - 1) s0, X.2.1.dropLast, X.2.2))
def aDropRule (X : XS) (r : Int) : Int × XS := if 0 ≤ r then (if r < X.1.2.1.length then ((X.1.2.1.length : Int) - 1, chg X (X.1.1, X.1.2.1.eraseIdx r.toNat, X.1.2.2)) else (-4, X)) else (-1, X)
def aType (X : XS) (c : Int) : Int × XS := if 32 ≤ c ∧ c ≤ 126 then (if X.2.2.length < 100 then ((X.2.2.length : Int) + 1, (X.1, X.2.1, X.2.2 ++ [c])) else (-3, X)) else (-1, X)
def aClear (X : XS) : Int × XS := (X.2.2.length, (X.1, X.2.1, []))
section
variable (q : Nat × (Nat → Int)) {I A : M2} {L P : Nat → Nat → Option Nat} {F G : Nat → Nat → UInt32} {D : MD} {T : Int} {X : XS}
theorem v_account (h : Cls I A L P X) (ho : okX T X) (x : Int) : rs 920 0 [vR 9 0, vI x] [] (SX q, (I, A, L, P, F, G), D) = some (vI (aAccount X x), (SX q, (I, A, L, P, F, G), D)) := by
  obtain ⟨S, ph, a, b, c, d⟩ := id h
  have a0 := a 0 (by omega)
  have l4 := (len_c 0 (by omega)).2
  unfold aAccount
  by_cases h1 : 0 ≤ x ∧ x ≤ 7
  · rw [if_pos h1]
    have li := c_litres q (F := F) (G := G) (P := P) (D := D) b a0 (fun i hi => by have := ho.lot hi; omega)
    simp only [s920_0, s920_1, s920_2, s920_4, s920_7, s920_10, s920_11, s920_12, s920_13, s920_14, unJ_I, unJ_J, unJ_F, unJ_R, unJ_N, unJ_U, pushR_I, pushR_J, pushR_F, pushR_R, pushR_N, pushR_U, rfV_s, rfV_n, Option.bind_some, true_or, or_true, if_true, c_within, b01_0]
    rw [if_neg (fun z => z h1)]
    by_cases hx : x = 4
    · rw [if_pos hx, if_pos hx]
      simp only [s920_17, s920_18, s920_21, s920_24, s920_38, unJ_I, unJ_J, unJ_F, unJ_R, unJ_N, unJ_U, pushR_I, pushR_J, pushR_F, pushR_R, pushR_N, pushR_U, rfV_s, rfV_n, Option.bind_some, true_or, or_true, if_true, li]
      rfl
    · rw [if_neg hx, if_neg hx]
      obtain ⟨n, rfl⟩ : ∃ n : Nat, x = n := ⟨x.toNat, by omega⟩
      simp only [s920_27, s920_28, s920_31, s920_34, s920_35, s920_38, unJ_I, unJ_J, unJ_F, unJ_R, unJ_N, unJ_U, pushR_I, pushR_J, pushR_F, pushR_R, pushR_N, pushR_U, rfV_s, rfV_n, Option.bind_some, true_or, or_true, if_true, c_get, Int.toNat_natCast]
      rw [rget_n _ (by omega), b.2.2.2.2.2.2.1 n (by omega)]
  · rw [if_neg h1]
    simp only [s920_0, s920_1, s920_2, s920_4, s920_7, s920_10, s920_11, unJ_I, unJ_J, unJ_F, unJ_R, unJ_N, unJ_U, pushR_I, pushR_J, pushR_F, pushR_R, pushR_N, pushR_U, rfV_s, rfV_n, Option.bind_some, true_or, or_true, if_true, c_within, b01_0]
    rw [if_pos h1]
theorem v_count (h : Cls I A L P X) (ho : okX T X) (x : Int) : rs 921 0 [vR 9 0, vI x] [] (SX q, (I, A, L, P, F, G), D) = some (vI (aCount X x), (SX q, (I, A, L, P, F, G), D)) := by
  obtain ⟨S, ph, a, b, c, d⟩ := id h
  have a0 := a 0 (by omega)
  have l4 := (len_c 0 (by omega)).1
  unfold aCount
  by_cases h1 : 0 ≤ x ∧ x ≤ 13
  · rw [if_pos h1]
    have k0 : ∀ k : Int, rs 8 0 [vR 0 0, vI k, vU, vU, vU] [] (SX q, (I, A, L, P, F, G), D) = some (vI (kndN X.1.1 k), (SX q, (I, A, L, P, F, G), D)) := fun k => c_kind q (F := F) (G := G) (P := P) (D := D) b a0 k
    have kr : rs 9 0 [vR 0 0, vU, vU, vU] [] (SX q, (I, A, L, P, F, G), D) = some (vI (rcpN X.1.1), (SX q, (I, A, L, P, F, G), D)) := c_recipe q (F := F) (G := G) (P := P) (D := D) b a0
    have kg : rs 11 0 [vR 0 0, vU, vU, vU] [] (SX q, (I, A, L, P, F, G), D) = some (vI (allG X.1.1), (SX q, (I, A, L, P, F, G), D)) := c_grains q (F := F) (G := G) (P := P) (D := D) b a0 ho.gl
    have ks : rs 10 0 [vR 0 0, vU, vU, vU] [] (SX q, (I, A, L, P, F, G), D) = some (vI (scoL X.1.1), (SX q, (I, A, L, P, F, G), D)) := c_scored q (F := F) (G := G) (P := P) (D := D) b a0 (by omega)
    have i4 := b.1
    have i5 := b.2.2.1
    have i103 := b.2.2.2.2.1.1
    have i21 := c.1
    have i122 := d.1
    simp only [s921_0, s921_1, s921_2, s921_4, s921_7, s921_10, s921_11, s921_12, unJ_I, unJ_J, unJ_F, unJ_R, unJ_N, unJ_U, pushR_I, pushR_J, pushR_F, pushR_R, pushR_N, pushR_U, rfV_s, rfV_n, Option.bind_some, true_or, or_true, if_true, c_within, b01_0]
    rw [if_neg (fun z => z h1)]
    have st : ∀ n : Nat, n < 4 → rs 402 0 [vR 4 (19 * 0 + 2 * (0 / 5) + 5), vI (n : Int)] [] (SX q, (I, A, L, P, F, G), D) = some (vI (X.1.2.2.1 n), (SX q, (I, A, L, P, F, G), D)) := fun n hn => by
      rw [c_get, rget_n _ (by omega), b.2.2.2.2.2.1 n hn]
    have st0 := st 0 (by omega)
    have st1 := st 1 (by omega)
    have st2 := st 2 (by omega)
    have st3 := st 3 (by omega)
    have hx : x = 0 ∨ x = 1 ∨ x = 2 ∨ x = 3 ∨ x = 4 ∨ x = 5 ∨ x = 6 ∨ x = 7 ∨ x = 8 ∨ x = 9 ∨ x = 10 ∨ x = 11 ∨ x = 12 ∨ x = 13 := by omega
    rcases hx with rfl | rfl | rfl | rfl | rfl | rfl | rfl | rfl | rfl | rfl | rfl | rfl | rfl | rfl
    · simp [s921_13, s921_84, s921_85, s921_88, s921_91, unJ_I, unJ_J, unJ_F, unJ_R, unJ_N, unJ_U, pushR_I, pushR_J, pushR_F, pushR_R, pushR_N, pushR_U, rfV_s, rfV_n, Option.bind_some, true_or, or_true, if_true, i4]
    · simp [s921_13, s921_84, s921_85, s921_88, s921_91, s921_92, s921_93, s921_96, s921_97, s921_100, unJ_I, unJ_J, unJ_F, unJ_R, unJ_N, unJ_U, pushR_I, pushR_J, pushR_F, pushR_R, pushR_N, pushR_U, rfV_s, rfV_n, Option.bind_some, true_or, or_true, if_true, k0]
    · simp [s921_13, s921_84, s921_85, s921_88, s921_91, s921_92, s921_93, s921_96, s921_97, s921_100, s921_101, s921_102, s921_105, s921_106, s921_109, unJ_I, unJ_J, unJ_F, unJ_R, unJ_N, unJ_U, pushR_I, pushR_J, pushR_F, pushR_R, pushR_N, pushR_U, rfV_s, rfV_n, Option.bind_some, true_or, or_true, if_true, k0]
    · simp [s921_13, s921_84, s921_85, s921_88, s921_91, s921_92, s921_93, s921_96, s921_97, s921_100, s921_101, s921_102, s921_105, s921_106, s921_109, s921_110, s921_111, s921_114, s921_117, unJ_I, unJ_J, unJ_F, unJ_R, unJ_N, unJ_U, pushR_I, pushR_J, pushR_F, pushR_R, pushR_N, pushR_U, rfV_s, rfV_n, Option.bind_some, true_or, or_true, if_true, kg]
    · simp [s921_13, s921_84, s921_85, s921_88, s921_91, s921_92, s921_93, s921_96, s921_97, s921_100, s921_101, s921_102, s921_105, s921_106, s921_109, s921_110, s921_111, s921_114, s921_117, s921_118, s921_119, s921_122, s921_125, s921_128, unJ_I, unJ_J, unJ_F, unJ_R, unJ_N, unJ_U, pushR_I, pushR_J, pushR_F, pushR_R, pushR_N, pushR_U, rfV_s, rfV_n, Option.bind_some, true_or, or_true, if_true, i103]
    · simp [s921_13, s921_84, s921_85, s921_88, s921_91, s921_92, s921_93, s921_96, s921_97, s921_100, s921_101, s921_102, s921_105, s921_106, s921_109, s921_110, s921_111, s921_114, s921_117, s921_118, s921_119, s921_122, s921_125, s921_128, s921_129, s921_130, s921_133, s921_136, unJ_I, unJ_J, unJ_F, unJ_R, unJ_N, unJ_U, pushR_I, pushR_J, pushR_F, pushR_R, pushR_N, pushR_U, rfV_s, rfV_n, Option.bind_some, true_or, or_true, if_true, kr]
    · simp [s921_13, s921_84, s921_85, s921_88, s921_91, s921_92, s921_93, s921_96, s921_97, s921_100, s921_101, s921_102, s921_105, s921_106, s921_109, s921_110, s921_111, s921_114, s921_117, s921_118, s921_119, s921_122, s921_125, s921_128, s921_129, s921_130, s921_133, s921_136, s921_137, s921_138, s921_141, s921_144, unJ_I, unJ_J, unJ_F, unJ_R, unJ_N, unJ_U, pushR_I, pushR_J, pushR_F, pushR_R, pushR_N, pushR_U, rfV_s, rfV_n, Option.bind_some, true_or, or_true, if_true, i5]
    · rw [s921_13, if_neg (by omega), if_neg (by omega), if_neg (by omega), if_neg (by omega), if_neg (by omega), if_neg (by omega), if_neg (by omega), if_pos rfl]
      simp only [s921_169, s921_170, s921_173, s921_176, s921_177, s921_179, s921_180, s921_183, unJ_I, unJ_J, unJ_F, unJ_R, unJ_N, unJ_U, pushR_I, pushR_J, pushR_F, pushR_R, pushR_N, pushR_U, rfV_s, rfV_n, Option.bind_some, true_or, or_true, if_true]
      refine (congrArg (fun o => Option.bind o _) st0).trans ?_
      simp only [s921_183, unJ_I, unJ_J, unJ_F, unJ_R, unJ_N, unJ_U, pushR_I, pushR_J, pushR_F, pushR_R, pushR_N, pushR_U, rfV_s, rfV_n, Option.bind_some, true_or, or_true, if_true]
      rfl
    · rw [s921_13, if_neg (by omega), if_neg (by omega), if_neg (by omega), if_neg (by omega), if_neg (by omega), if_neg (by omega), if_neg (by omega), if_neg (by omega), if_pos rfl]
      simp only [s921_169, s921_170, s921_173, s921_176, s921_177, s921_179, s921_180, s921_183, unJ_I, unJ_J, unJ_F, unJ_R, unJ_N, unJ_U, pushR_I, pushR_J, pushR_F, pushR_R, pushR_N, pushR_U, rfV_s, rfV_n, Option.bind_some, true_or, or_true, if_true]
      refine (congrArg (fun o => Option.bind o _) st1).trans ?_
      simp only [s921_183, unJ_I, unJ_J, unJ_F, unJ_R, unJ_N, unJ_U, pushR_I, pushR_J, pushR_F, pushR_R, pushR_N, pushR_U, rfV_s, rfV_n, Option.bind_some, true_or, or_true, if_true]
      rfl
    · rw [s921_13, if_neg (by omega), if_neg (by omega), if_neg (by omega), if_neg (by omega), if_neg (by omega), if_neg (by omega), if_neg (by omega), if_neg (by omega), if_neg (by omega), if_pos rfl]
      simp only [s921_169, s921_170, s921_173, s921_176, s921_177, s921_179, s921_180, s921_183, unJ_I, unJ_J, unJ_F, unJ_R, unJ_N, unJ_U, pushR_I, pushR_J, pushR_F, pushR_R, pushR_N, pushR_U, rfV_s, rfV_n, Option.bind_some, true_or, or_true, if_true]
      refine (congrArg (fun o => Option.bind o _) st2).trans ?_
      simp only [s921_183, unJ_I, unJ_J, unJ_F, unJ_R, unJ_N, unJ_U, pushR_I, pushR_J, pushR_F, pushR_R, pushR_N, pushR_U, rfV_s, rfV_n, Option.bind_some, true_or, or_true, if_true]
      rfl
    · rw [s921_13, if_neg (by omega), if_neg (by omega), if_neg (by omega), if_neg (by omega), if_neg (by omega), if_neg (by omega), if_neg (by omega), if_neg (by omega), if_neg (by omega), if_neg (by omega), if_pos rfl]
      simp only [s921_169, s921_170, s921_173, s921_176, s921_177, s921_179, s921_180, s921_183, unJ_I, unJ_J, unJ_F, unJ_R, unJ_N, unJ_U, pushR_I, pushR_J, pushR_F, pushR_R, pushR_N, pushR_U, rfV_s, rfV_n, Option.bind_some, true_or, or_true, if_true]
      refine (congrArg (fun o => Option.bind o _) st3).trans ?_
      simp only [s921_183, unJ_I, unJ_J, unJ_F, unJ_R, unJ_N, unJ_U, pushR_I, pushR_J, pushR_F, pushR_R, pushR_N, pushR_U, rfV_s, rfV_n, Option.bind_some, true_or, or_true, if_true]
      rfl
    · simp [s921_13, s921_145, s921_146, s921_149, s921_152, unJ_I, unJ_J, unJ_F, unJ_R, unJ_N, unJ_U, pushR_I, pushR_J, pushR_F, pushR_R, pushR_N, pushR_U, rfV_s, rfV_n, Option.bind_some, true_or, or_true, if_true, ks]
    · simp [s921_13, s921_153, s921_154, s921_157, s921_160, unJ_I, unJ_J, unJ_F, unJ_R, unJ_N, unJ_U, pushR_I, pushR_J, pushR_F, pushR_R, pushR_N, pushR_U, rfV_s, rfV_n, Option.bind_some, true_or, or_true, if_true, i21]
    · simp [s921_13, s921_161, s921_162, s921_165, s921_168, unJ_I, unJ_J, unJ_F, unJ_R, unJ_N, unJ_U, pushR_I, pushR_J, pushR_F, pushR_R, pushR_N, pushR_U, rfV_s, rfV_n, Option.bind_some, true_or, or_true, if_true, i122]
  · rw [if_neg h1]
    simp only [s921_0, s921_1, s921_2, s921_4, s921_7, s921_10, s921_11, unJ_I, unJ_J, unJ_F, unJ_R, unJ_N, unJ_U, pushR_I, pushR_J, pushR_F, pushR_R, pushR_N, pushR_U, rfV_s, rfV_n, Option.bind_some, true_or, or_true, if_true, c_within, b01_0]
    rw [if_pos h1]
end
