theorem s2_0 (l1 l2 l3 l4 : AV) (t x : Nat) (st : List AV) (μ : Mem) : rs 2 0 [vR t x, l1, l2, l3, l4] st μ = rs 2 1 [vR t x, l1, l2, l3, l4] (vR t x :: st) μ := rs_st rfl rfl
theorem s2_1 (l0 l1 l2 l3 l4 : AV) (x : Nat) (st : List AV) (q : Nat × (Nat → Int)) (C : MC) (D : MD) : rs 2 1 [l0, l1, l2, l3, l4] (vR 0 x :: st) (SX q, C, D) = rs 2 4 [l0, l1, l2, l3, l4] (vR 4 (19 * x + 2 * (x / 5)) :: st) (SX q, C, D) := rs_st rfl rfl
theorem s2_4 (l0 l2 l3 l4 : AV) (t x : Nat) (st : List AV) (μ : Mem) : rs 2 4 [l0, vR t x, l2, l3, l4] st μ = rs 2 5 [l0, vR t x, l2, l3, l4] (vR t x :: st) μ := rs_st rfl rfl
theorem s2_5 (l0 l1 l2 l3 l4 : AV) (x : Nat) (st : List AV) (q : Nat × (Nat → Int)) (C : MC) (D : MD) : rs 2 5 [l0, l1, l2, l3, l4] (vR 0 x :: st) (SX q, C, D) = rs 2 8 [l0, l1, l2, l3, l4] (vR 4 (19 * x + 2 * (x / 5)) :: st) (SX q, C, D) := rs_st rfl rfl
theorem s2_8 (l0 l1 l2 l3 l4 : AV) (st : List AV) (μ : Mem) : rs 2 8 [l0, l1, l2, l3, l4] st μ = rs 2 11 [l0, l1, l2, l3, l4] (vI 200 :: st) μ := rs_st rfl rfl
theorem s2_11 (l0 l1 l2 l3 l4 : AV) (z : Nat) (a0 : Nat) (a1 : Int)  (μ : Mem) : rs 2 11 [l0, l1, l2, l3, l4] [vI a1, vR 4 a0, vR 4 z] μ = (rs 405 0 [vR 4 z, vR 4 a0, vI a1, vU] [] μ).bind (fun w => rs 2 14 [l0, l1, l2, l3, l4] (pushR w.1 []) w.2) := rs_ca rfl rfl rfl
theorem s2_14 (l1 l2 l3 l4 : AV) (t x : Nat) (st : List AV) (μ : Mem) : rs 2 14 [vR t x, l1, l2, l3, l4] st μ = rs 2 15 [vR t x, l1, l2, l3, l4] (vR t x :: st) μ := rs_st rfl rfl
theorem s2_15 (l0 l1 l2 l3 l4 : AV) (x : Nat) (st : List AV) (q : Nat × (Nat → Int)) (C : MC) (D : MD) : rs 2 15 [l0, l1, l2, l3, l4] (vR 0 x :: st) (SX q, C, D) = rs 2 18 [l0, l1, l2, l3, l4] (vR 4 (19 * x + 2 * (x / 5) + 1) :: st) (SX q, C, D) := rs_st rfl rfl
theorem s2_18 (l0 l2 l3 l4 : AV) (t x : Nat) (st : List AV) (μ : Mem) : rs 2 18 [l0, vR t x, l2, l3, l4] st μ = rs 2 19 [l0, vR t x, l2, l3, l4] (vR t x :: st) μ := rs_st rfl rfl
theorem s2_19 (l0 l1 l2 l3 l4 : AV) (x : Nat) (st : List AV) (q : Nat × (Nat → Int)) (C : MC) (D : MD) : rs 2 19 [l0, l1, l2, l3, l4] (vR 0 x :: st) (SX q, C, D) = rs 2 22 [l0, l1, l2, l3, l4] (vR 4 (19 * x + 2 * (x / 5) + 1) :: st) (SX q, C, D) := rs_st rfl rfl
theorem s2_22 (l0 l1 l2 l3 l4 : AV) (st : List AV) (μ : Mem) : rs 2 22 [l0, l1, l2, l3, l4] st μ = rs 2 25 [l0, l1, l2, l3, l4] (vI 200 :: st) μ := rs_st rfl rfl
theorem s2_25 (l0 l1 l2 l3 l4 : AV) (z : Nat) (a0 : Nat) (a1 : Int)  (μ : Mem) : rs 2 25 [l0, l1, l2, l3, l4] [vI a1, vR 4 a0, vR 4 z] μ = (rs 405 0 [vR 4 z, vR 4 a0, vI a1, vU] [] μ).bind (fun w => rs 2 28 [l0, l1, l2, l3, l4] (pushR w.1 []) w.2) := rs_ca rfl rfl rfl
theorem s2_28 (l0 l1 l2 l3 l4 : AV) (st : List AV) (μ : Mem) : rs 2 28 [l0, l1, l2, l3, l4] st μ = rs 2 29 [l0, l1, l2, l3, l4] (vI 0 :: st) μ := rs_st rfl rfl
theorem s2_29 (l0 l1 l2 l3 l4 : AV) (x : Int) (st : List AV) (μ : Mem) : rs 2 29 [l0, l1, l2, l3, l4] (vI x :: st) μ = rs 2 30 [l0, unJ l1, vI x, vU, vU] st μ := rs_st rfl rfl
theorem s2_30 (l0 l1 l3 l4 : AV) (x : Int) (st : List AV) (μ : Mem) : rs 2 30 [l0, l1, vI x, l3, l4] st μ = rs 2 31 [l0, l1, vI x, l3, l4] (vI x :: st) μ := rs_st rfl rfl
theorem s2_31 (l1 l2 l3 l4 : AV) (t x : Nat) (st : List AV) (μ : Mem) : rs 2 31 [vR t x, l1, l2, l3, l4] st μ = rs 2 32 [vR t x, l1, l2, l3, l4] (vR t x :: st) μ := rs_st rfl rfl
theorem s2_32 (l0 l1 l2 l3 l4 : AV) (x : Nat) (st : List AV) (q : Nat × (Nat → Int)) (C : MC) (D : MD) : rs 2 32 [l0, l1, l2, l3, l4] (vR 0 x :: st) (SX q, C, D) = rs 2 35 [l0, l1, l2, l3, l4] (vR 15 x :: st) (SX q, C, D) := rs_st rfl rfl
theorem s2_35 (l0 l1 l2 l3 l4 : AV) (x : Nat) (st : List AV) (q : Nat × (Nat → Int)) (C : MC) (D : MD) : rs 2 35 [l0, l1, l2, l3, l4] (vR 15 x :: st) (SX q, C, D) = if (LX q.1 15 x) < 2147483648 then rs 2 36 [l0, l1, l2, l3, l4] (vI ((LX q.1 15 x) : Nat) :: st) (SX q, C, D) else none := rs_ok rfl rfl
theorem s2_36 (l0 l1 l2 l3 l4 : AV) (x y : Int) (st : List AV) (μ : Mem) : rs 2 36 [l0, l1, l2, l3, l4] (vI y :: vI x :: st) μ = if y ≤ x then rs 2 74 [l0, l1, l2, l3, l4] st μ else rs 2 39 [l0, l1, l2, l3, l4] st μ := rs_ifb rfl (cnd_ge _ _) rfl rfl
theorem s2_39 (l0 l2 l3 l4 : AV) (t x : Nat) (st : List AV) (μ : Mem) : rs 2 39 [l0, vR t x, l2, l3, l4] st μ = rs 2 40 [l0, vR t x, l2, l3, l4] (vR t x :: st) μ := rs_st rfl rfl
theorem s2_40 (l0 l1 l3 l4 : AV) (x : Int) (st : List AV) (μ : Mem) : rs 2 40 [l0, l1, vI x, l3, l4] st μ = rs 2 41 [l0, l1, vI x, l3, l4] (vI x :: st) μ := rs_st rfl rfl
theorem s2_41 (l0 l1 l2 l3 l4 : AV) (z : Nat) (a0 : Int)  (μ : Mem) : rs 2 41 [l0, l1, l2, l3, l4] [vI a0, vR 0 z] μ = (rs 3 0 [vR 0 z, vI a0] [] μ).bind (fun w => rs 2 44 [l0, l1, l2, l3, l4] (pushR w.1 []) w.2) := rs_ca rfl rfl rfl
theorem s2_44 (l0 l1 l2 l3 l4 : AV) (t x : Nat) (st : List AV) (μ : Mem) : rs 2 44 [l0, l1, l2, l3, l4] (vR t x :: st) μ = rs 2 45 [l0, l1, unJ l2, vR t x, l4] st μ := rs_st rfl rfl
theorem s2_44n (l0 l1 l2 l3 l4 : AV) (st : List AV) (μ : Mem) : rs 2 44 [l0, l1, l2, l3, l4] (vN :: st) μ = rs 2 45 [l0, l1, unJ l2, vN, l4] st μ := rs_st rfl rfl
theorem s2_45 (l1 l2 l3 l4 : AV) (t x : Nat) (st : List AV) (μ : Mem) : rs 2 45 [vR t x, l1, l2, l3, l4] st μ = rs 2 46 [vR t x, l1, l2, l3, l4] (vR t x :: st) μ := rs_st rfl rfl
theorem s2_46 (l0 l1 l2 l3 l4 : AV) (x : Nat) (st : List AV) (q : Nat × (Nat → Int)) (C : MC) (D : MD) : rs 2 46 [l0, l1, l2, l3, l4] (vR 0 x :: st) (SX q, C, D) = rs 2 49 [l0, l1, l2, l3, l4] (vR 15 x :: st) (SX q, C, D) := rs_st rfl rfl
theorem s2_49 (l0 l1 l3 l4 : AV) (x : Int) (st : List AV) (μ : Mem) : rs 2 49 [l0, l1, vI x, l3, l4] st μ = rs 2 50 [l0, l1, vI x, l3, l4] (vI x :: st) μ := rs_st rfl rfl
theorem s2_50 (l0 l1 l2 l3 l4 : AV) (a : Nat) (x : Int) (st : List AV) (q : Nat × (Nat → Int)) (I A : M2) (L P : Nat → Nat → Option Nat) (F G : Nat → Nat → UInt32) (D : MD) : rs 2 50 [l0, l1, l2, l3, l4] (vI x :: vR 15 a :: st) (SX q, (I, A, L, P, F, G), D) = if 0 ≤ x ∧ x < (((LX q.1 15 a) : Nat) : Int) then rs 2 51 [l0, l1, l2, l3, l4] (rfV 2 (L a x.toNat) :: st) (SX q, (I, A, L, P, F, G), D) else none := rs_in rfl rfl
theorem s2_51 (l0 l1 l2 l3 l4 : AV) (t x : Nat) (st : List AV) (μ : Mem) : rs 2 51 [l0, l1, l2, l3, l4] (vR t x :: st) μ = rs 2 53 [l0, l1, l2, unJ l3, vR t x] st μ := rs_st rfl rfl
theorem s2_51n (l0 l1 l2 l3 l4 : AV) (st : List AV) (μ : Mem) : rs 2 51 [l0, l1, l2, l3, l4] (vN :: st) μ = rs 2 53 [l0, l1, l2, unJ l3, vN] st μ := rs_st rfl rfl
theorem s2_53 (l0 l1 l2 l4 : AV) (t x : Nat) (st : List AV) (μ : Mem) : rs 2 53 [l0, l1, l2, vR t x, l4] st μ = rs 2 54 [l0, l1, l2, vR t x, l4] (vR t x :: st) μ := rs_st rfl rfl
theorem s2_53n (l0 l1 l2 l4 : AV) (st : List AV) (μ : Mem) : rs 2 53 [l0, l1, l2, vN, l4] st μ = rs 2 54 [l0, l1, l2, vN, l4] (vN :: st) μ := rs_st rfl rfl
theorem s2_54n (l0 l1 l2 l3 l4 : AV) (st : List AV) (μ : Mem) : rs 2 54 [l0, l1, l2, l3, l4] (vN :: st) μ = rs 2 68 [l0, l1, l2, l3, l4] st μ := rs_st rfl rfl
theorem s2_54 (l0 l1 l2 l3 l4 : AV) (t x : Nat) (st : List AV) (μ : Mem) : rs 2 54 [l0, l1, l2, l3, l4] (vR t x :: st) μ = rs 2 57 [l0, l1, l2, l3, l4] st μ := rs_st rfl rfl
theorem s2_57 (l0 l1 l2 l3 : AV) (t x : Nat) (st : List AV) (μ : Mem) : rs 2 57 [l0, l1, l2, l3, vR t x] st μ = rs 2 59 [l0, l1, l2, l3, vR t x] (vR t x :: st) μ := rs_st rfl rfl
theorem s2_57n (l0 l1 l2 l3 : AV) (st : List AV) (μ : Mem) : rs 2 57 [l0, l1, l2, l3, vN] st μ = rs 2 59 [l0, l1, l2, l3, vN] (vN :: st) μ := rs_st rfl rfl
theorem s2_59n (l0 l1 l2 l3 l4 : AV) (st : List AV) (μ : Mem) : rs 2 59 [l0, l1, l2, l3, l4] (vN :: st) μ = rs 2 68 [l0, l1, l2, l3, l4] st μ := rs_st rfl rfl
theorem s2_59 (l0 l1 l2 l3 l4 : AV) (t x : Nat) (st : List AV) (μ : Mem) : rs 2 59 [l0, l1, l2, l3, l4] (vR t x :: st) μ = rs 2 62 [l0, l1, l2, l3, l4] st μ := rs_st rfl rfl
theorem s2_62 (l0 l1 l2 l3 : AV) (t x : Nat) (st : List AV) (μ : Mem) : rs 2 62 [l0, l1, l2, l3, vR t x] st μ = rs 2 64 [l0, l1, l2, l3, vR t x] (vR t x :: st) μ := rs_st rfl rfl
theorem s2_62n (l0 l1 l2 l3 : AV) (st : List AV) (μ : Mem) : rs 2 62 [l0, l1, l2, l3, vN] st μ = rs 2 64 [l0, l1, l2, l3, vN] (vN :: st) μ := rs_st rfl rfl
theorem s2_64 (l0 l1 l2 l4 : AV) (t x : Nat) (st : List AV) (μ : Mem) : rs 2 64 [l0, l1, l2, vR t x, l4] st μ = rs 2 65 [l0, l1, l2, vR t x, l4] (vR t x :: st) μ := rs_st rfl rfl
theorem s2_64n (l0 l1 l2 l4 : AV) (st : List AV) (μ : Mem) : rs 2 64 [l0, l1, l2, vN, l4] st μ = rs 2 65 [l0, l1, l2, vN, l4] (vN :: st) μ := rs_st rfl rfl
theorem s2_65 (l0 l1 l2 l3 l4 : AV) (z : Nat) (a0 : Nat)  (μ : Mem) : rs 2 65 [l0, l1, l2, l3, l4] [vR 2 a0, vR 2 z] μ = (rs 203 0 [vR 2 z, vR 2 a0] [] μ).bind (fun w => rs 2 68 [l0, l1, l2, l3, l4] (pushR w.1 []) w.2) := rs_ca rfl rfl rfl
theorem s2_68 (l0 l1 l3 l4 : AV) (x : Int) (st : List AV) (μ : Mem) : rs 2 68 [l0, l1, vI x, l3, l4] st μ = rs 2 71 [l0, unJ l1, vI (w32 (x + 1)), l3, l4] st μ := rs_st rfl rfl
theorem s2_71 (l0 l1 l2 l3 l4 : AV) (st : List AV) (μ : Mem) : rs 2 71 [l0, l1, l2, l3, l4] st μ = rs 2 30 [l0, l1, l2, vU, vU] st μ := rs_st rfl rfl
theorem s2_74 (l1 l2 l3 l4 : AV) (t x : Nat) (st : List AV) (μ : Mem) : rs 2 74 [vR t x, l1, l2, l3, l4] st μ = rs 2 75 [vR t x, l1, l2, l3, l4] (vR t x :: st) μ := rs_st rfl rfl
theorem s2_75 (l0 l1 l2 l3 l4 : AV) (x : Nat) (st : List AV) (q : Nat × (Nat → Int)) (C : MC) (D : MD) : rs 2 75 [l0, l1, l2, l3, l4] (vR 0 x :: st) (SX q, C, D) = rs 2 78 [l0, l1, l2, l3, l4] (vR 5 x :: st) (SX q, C, D) := rs_st rfl rfl
theorem s2_78 (l0 l2 l3 l4 : AV) (t x : Nat) (st : List AV) (μ : Mem) : rs 2 78 [l0, vR t x, l2, l3, l4] st μ = rs 2 79 [l0, vR t x, l2, l3, l4] (vR t x :: st) μ := rs_st rfl rfl
theorem s2_79 (l0 l1 l2 l3 l4 : AV) (x : Nat) (st : List AV) (q : Nat × (Nat → Int)) (C : MC) (D : MD) : rs 2 79 [l0, l1, l2, l3, l4] (vR 0 x :: st) (SX q, C, D) = rs 2 82 [l0, l1, l2, l3, l4] (vR 5 x :: st) (SX q, C, D) := rs_st rfl rfl
theorem s2_82 (l0 l1 l2 l3 l4 : AV) (z : Nat) (a0 : Nat)  (μ : Mem) : rs 2 82 [l0, l1, l2, l3, l4] [vR 5 a0, vR 5 z] μ = (rs 502 0 [vR 5 z, vR 5 a0] [] μ).bind (fun w => rs 2 85 [l0, l1, l2, l3, l4] (pushR w.1 []) w.2) := rs_ca rfl rfl rfl
theorem s2_85 (l1 l2 l3 l4 : AV) (t x : Nat) (st : List AV) (μ : Mem) : rs 2 85 [vR t x, l1, l2, l3, l4] st μ = rs 2 86 [vR t x, l1, l2, l3, l4] (vR t x :: st) μ := rs_st rfl rfl
theorem s2_86 (l0 l1 l2 l3 l4 : AV) (x : Nat) (st : List AV) (q : Nat × (Nat → Int)) (C : MC) (D : MD) : rs 2 86 [l0, l1, l2, l3, l4] (vR 0 x :: st) (SX q, C, D) = rs 2 89 [l0, l1, l2, l3, l4] (vR 4 (19 * x + 2 * (x / 5) + 5) :: st) (SX q, C, D) := rs_st rfl rfl
theorem s2_89 (l0 l2 l3 l4 : AV) (t x : Nat) (st : List AV) (μ : Mem) : rs 2 89 [l0, vR t x, l2, l3, l4] st μ = rs 2 90 [l0, vR t x, l2, l3, l4] (vR t x :: st) μ := rs_st rfl rfl
theorem s2_90 (l0 l1 l2 l3 l4 : AV) (x : Nat) (st : List AV) (q : Nat × (Nat → Int)) (C : MC) (D : MD) : rs 2 90 [l0, l1, l2, l3, l4] (vR 0 x :: st) (SX q, C, D) = rs 2 93 [l0, l1, l2, l3, l4] (vR 4 (19 * x + 2 * (x / 5) + 5) :: st) (SX q, C, D) := rs_st rfl rfl
theorem s2_93 (l0 l1 l2 l3 l4 : AV) (st : List AV) (μ : Mem) : rs 2 93 [l0, l1, l2, l3, l4] st μ = rs 2 94 [l0, l1, l2, l3, l4] (vI 4 :: st) μ := rs_st rfl rfl
theorem s2_94 (l0 l1 l2 l3 l4 : AV) (z : Nat) (a0 : Nat) (a1 : Int)  (μ : Mem) : rs 2 94 [l0, l1, l2, l3, l4] [vI a1, vR 4 a0, vR 4 z] μ = (rs 405 0 [vR 4 z, vR 4 a0, vI a1, vU] [] μ).bind (fun w => rs 2 97 [l0, l1, l2, l3, l4] (pushR w.1 []) w.2) := rs_ca rfl rfl rfl
theorem s2_97 (l1 l2 l3 l4 : AV) (t x : Nat) (st : List AV) (μ : Mem) : rs 2 97 [vR t x, l1, l2, l3, l4] st μ = rs 2 98 [vR t x, l1, l2, l3, l4] (vR t x :: st) μ := rs_st rfl rfl
theorem s2_98 (l0 l1 l2 l3 l4 : AV) (x : Nat) (st : List AV) (q : Nat × (Nat → Int)) (C : MC) (D : MD) : rs 2 98 [l0, l1, l2, l3, l4] (vR 0 x :: st) (SX q, C, D) = rs 2 101 [l0, l1, l2, l3, l4] (vR 4 (19 * x + 2 * (x / 5) + 6) :: st) (SX q, C, D) := rs_st rfl rfl
theorem s2_101 (l0 l2 l3 l4 : AV) (t x : Nat) (st : List AV) (μ : Mem) : rs 2 101 [l0, vR t x, l2, l3, l4] st μ = rs 2 102 [l0, vR t x, l2, l3, l4] (vR t x :: st) μ := rs_st rfl rfl
theorem s2_102 (l0 l1 l2 l3 l4 : AV) (x : Nat) (st : List AV) (q : Nat × (Nat → Int)) (C : MC) (D : MD) : rs 2 102 [l0, l1, l2, l3, l4] (vR 0 x :: st) (SX q, C, D) = rs 2 105 [l0, l1, l2, l3, l4] (vR 4 (19 * x + 2 * (x / 5) + 6) :: st) (SX q, C, D) := rs_st rfl rfl
theorem s2_105 (l0 l1 l2 l3 l4 : AV) (st : List AV) (μ : Mem) : rs 2 105 [l0, l1, l2, l3, l4] st μ = rs 2 107 [l0, l1, l2, l3, l4] (vI 8 :: st) μ := rs_st rfl rfl
theorem s2_107 (l0 l1 l2 l3 l4 : AV) (z : Nat) (a0 : Nat) (a1 : Int)  (μ : Mem) : rs 2 107 [l0, l1, l2, l3, l4] [vI a1, vR 4 a0, vR 4 z] μ = (rs 405 0 [vR 4 z, vR 4 a0, vI a1, vU] [] μ).bind (fun w => rs 2 110 [l0, l1, l2, l3, l4] (pushR w.1 []) w.2) := rs_ca rfl rfl rfl
theorem s2_110 (l1 l2 l3 l4 : AV) (t x : Nat) (st : List AV) (μ : Mem) : rs 2 110 [vR t x, l1, l2, l3, l4] st μ = rs 2 111 [vR t x, l1, l2, l3, l4] (vR t x :: st) μ := rs_st rfl rfl
theorem s2_111 (l0 l2 l3 l4 : AV) (t x : Nat) (st : List AV) (μ : Mem) : rs 2 111 [l0, vR t x, l2, l3, l4] st μ = rs 2 112 [l0, vR t x, l2, l3, l4] (vR t x :: st) μ := rs_st rfl rfl
theorem s2_112 (l0 l1 l2 l3 l4 : AV) (x : Nat) (st : List AV) (q : Nat × (Nat → Int)) (I A : M2) (L P : Nat → Nat → Option Nat) (F G : Nat → Nat → UInt32) (D : MD) : rs 2 112 [l0, l1, l2, l3, l4] (vR 0 x :: st) (SX q, (I, A, L, P, F, G), D) = rs 2 115 [l0, l1, l2, l3, l4] (vI (I 4 x) :: st) (SX q, (I, A, L, P, F, G), D) := rs_st rfl rfl
theorem s2_115 (l0 l1 l2 l3 l4 : AV) (x : Nat) (v : Int) (st : List AV) (q : Nat × (Nat → Int)) (I A : M2) (L P : Nat → Nat → Option Nat) (F G : Nat → Nat → UInt32) (D : MD) : rs 2 115 [l0, l1, l2, l3, l4] (vI v :: vR 0 x :: st) (SX q, (I, A, L, P, F, G), D) = rs 2 118 [l0, l1, l2, l3, l4] st (SX q, (up2 I 4 x v, A, L, P, F, G), D) := rs_st rfl rfl
theorem s2_118 (l1 l2 l3 l4 : AV) (t x : Nat) (st : List AV) (μ : Mem) : rs 2 118 [vR t x, l1, l2, l3, l4] st μ = rs 2 119 [vR t x, l1, l2, l3, l4] (vR t x :: st) μ := rs_st rfl rfl
theorem s2_119 (l0 l2 l3 l4 : AV) (t x : Nat) (st : List AV) (μ : Mem) : rs 2 119 [l0, vR t x, l2, l3, l4] st μ = rs 2 120 [l0, vR t x, l2, l3, l4] (vR t x :: st) μ := rs_st rfl rfl
theorem s2_120 (l0 l1 l2 l3 l4 : AV) (x : Nat) (st : List AV) (q : Nat × (Nat → Int)) (I A : M2) (L P : Nat → Nat → Option Nat) (F G : Nat → Nat → UInt32) (D : MD) : rs 2 120 [l0, l1, l2, l3, l4] (vR 0 x :: st) (SX q, (I, A, L, P, F, G), D) = rs 2 123 [l0, l1, l2, l3, l4] (vI (I 5 x) :: st) (SX q, (I, A, L, P, F, G), D) := rs_st rfl rfl
theorem s2_123 (l0 l1 l2 l3 l4 : AV) (x : Nat) (v : Int) (st : List AV) (q : Nat × (Nat → Int)) (I A : M2) (L P : Nat → Nat → Option Nat) (F G : Nat → Nat → UInt32) (D : MD) : rs 2 123 [l0, l1, l2, l3, l4] (vI v :: vR 0 x :: st) (SX q, (I, A, L, P, F, G), D) = rs 2 126 [l0, l1, l2, l3, l4] st (SX q, (up2 I 5 x v, A, L, P, F, G), D) := rs_st rfl rfl
theorem s2_126 (l0 l1 l2 l3 l4 : AV)  (μ : Mem) : rs 2 126 [l0, l1, l2, l3, l4] [] μ = some (vU, μ) := rs_ret rfl
theorem s3_0 (l0 : AV) (x : Int) (st : List AV) (μ : Mem) : rs 3 0 [l0, vI x] st μ = rs 3 1 [l0, vI x] (vI x :: st) μ := rs_st rfl rfl
theorem s3_1 (l0 l1 : AV) (x : Int) (st : List AV) (μ : Mem) : rs 3 1 [l0, l1] (vI x :: st) μ = if x < 0 then rs 3 30 [l0, l1] st μ else rs 3 4 [l0, l1] st μ := rs_ifb rfl (cnd_lt _ _) rfl rfl
theorem s3_4 (l0 : AV) (x : Int) (st : List AV) (μ : Mem) : rs 3 4 [l0, vI x] st μ = rs 3 5 [l0, vI x] (vI x :: st) μ := rs_st rfl rfl
theorem s3_5 (l1 : AV) (t x : Nat) (st : List AV) (μ : Mem) : rs 3 5 [vR t x, l1] st μ = rs 3 6 [vR t x, l1] (vR t x :: st) μ := rs_st rfl rfl
theorem s3_6 (l0 l1 : AV) (x : Nat) (st : List AV) (q : Nat × (Nat → Int)) (I A : M2) (L P : Nat → Nat → Option Nat) (F G : Nat → Nat → UInt32) (D : MD) : rs 3 6 [l0, l1] (vR 0 x :: st) (SX q, (I, A, L, P, F, G), D) = rs 3 9 [l0, l1] (vI (I 4 x) :: st) (SX q, (I, A, L, P, F, G), D) := rs_st rfl rfl
theorem s3_9 (l0 l1 : AV) (x y : Int) (st : List AV) (μ : Mem) : rs 3 9 [l0, l1] (vI y :: vI x :: st) μ = if y ≤ x then rs 3 30 [l0, l1] st μ else rs 3 12 [l0, l1] st μ := rs_ifb rfl (cnd_ge _ _) rfl rfl
theorem s3_12 (l0 : AV) (x : Int) (st : List AV) (μ : Mem) : rs 3 12 [l0, vI x] st μ = rs 3 13 [l0, vI x] (vI x :: st) μ := rs_st rfl rfl
theorem s3_13 (l1 : AV) (t x : Nat) (st : List AV) (μ : Mem) : rs 3 13 [vR t x, l1] st μ = rs 3 14 [vR t x, l1] (vR t x :: st) μ := rs_st rfl rfl
theorem s3_14 (l0 l1 : AV) (x : Nat) (st : List AV) (q : Nat × (Nat → Int)) (C : MC) (D : MD) : rs 3 14 [l0, l1] (vR 0 x :: st) (SX q, C, D) = rs 3 17 [l0, l1] (vR 15 x :: st) (SX q, C, D) := rs_st rfl rfl
theorem s3_17 (l0 l1 : AV) (x : Nat) (st : List AV) (q : Nat × (Nat → Int)) (C : MC) (D : MD) : rs 3 17 [l0, l1] (vR 15 x :: st) (SX q, C, D) = if (LX q.1 15 x) < 2147483648 then rs 3 18 [l0, l1] (vI ((LX q.1 15 x) : Nat) :: st) (SX q, C, D) else none := rs_ok rfl rfl
theorem s3_18 (l0 l1 : AV) (x y : Int) (st : List AV) (μ : Mem) : rs 3 18 [l0, l1] (vI y :: vI x :: st) μ = if y ≤ x then rs 3 30 [l0, l1] st μ else rs 3 21 [l0, l1] st μ := rs_ifb rfl (cnd_ge _ _) rfl rfl
theorem s3_21 (l1 : AV) (t x : Nat) (st : List AV) (μ : Mem) : rs 3 21 [vR t x, l1] st μ = rs 3 22 [vR t x, l1] (vR t x :: st) μ := rs_st rfl rfl
theorem s3_22 (l0 l1 : AV) (x : Nat) (st : List AV) (q : Nat × (Nat → Int)) (C : MC) (D : MD) : rs 3 22 [l0, l1] (vR 0 x :: st) (SX q, C, D) = rs 3 25 [l0, l1] (vR 15 x :: st) (SX q, C, D) := rs_st rfl rfl
theorem s3_25 (l0 : AV) (x : Int) (st : List AV) (μ : Mem) : rs 3 25 [l0, vI x] st μ = rs 3 26 [l0, vI x] (vI x :: st) μ := rs_st rfl rfl
theorem s3_26 (l0 l1 : AV) (a : Nat) (x : Int) (st : List AV) (q : Nat × (Nat → Int)) (I A : M2) (L P : Nat → Nat → Option Nat) (F G : Nat → Nat → UInt32) (D : MD) : rs 3 26 [l0, l1] (vI x :: vR 15 a :: st) (SX q, (I, A, L, P, F, G), D) = if 0 ≤ x ∧ x < (((LX q.1 15 a) : Nat) : Int) then rs 3 27 [l0, l1] (rfV 2 (L a x.toNat) :: st) (SX q, (I, A, L, P, F, G), D) else none := rs_in rfl rfl
theorem s3_27 (l0 l1 : AV) (st : List AV) (μ : Mem) : rs 3 27 [l0, l1] st μ = rs 3 31 [l0, l1] st μ := rs_st rfl rfl
theorem s3_30 (l0 l1 : AV) (st : List AV) (μ : Mem) : rs 3 30 [l0, l1] st μ = rs 3 31 [l0, l1] (vN :: st) μ := rs_st rfl rfl
theorem s3_31 (l0 l1 : AV) (t x : Nat) (μ : Mem) : rs 3 31 [l0, l1] [vR t x] μ = some (vR t x, μ) := rs_ret rfl
theorem s3_31n (l0 l1 : AV)  (μ : Mem) : rs 3 31 [l0, l1] [vN] μ = some (vN, μ) := rs_ret rfl
theorem s4_0 (l0 l1 l2 l3 : AV) (st : List AV) (μ : Mem) : rs 4 0 [l0, l1, l2, l3] st μ = rs 4 1 [l0, l1, l2, l3] (vI 0 :: st) μ := rs_st rfl rfl
theorem s4_1 (l0 l1 l2 l3 : AV) (x : Int) (st : List AV) (μ : Mem) : rs 4 1 [l0, l1, l2, l3] (vI x :: st) μ = rs 4 2 [l0, unJ l1, vI x, vU] st μ := rs_st rfl rfl
theorem s4_2 (l0 l1 l3 : AV) (x : Int) (st : List AV) (μ : Mem) : rs 4 2 [l0, l1, vI x, l3] st μ = rs 4 3 [l0, l1, vI x, l3] (vI x :: st) μ := rs_st rfl rfl
theorem s4_3 (l1 l2 l3 : AV) (t x : Nat) (st : List AV) (μ : Mem) : rs 4 3 [vR t x, l1, l2, l3] st μ = rs 4 4 [vR t x, l1, l2, l3] (vR t x :: st) μ := rs_st rfl rfl
theorem s4_4 (l0 l1 l2 l3 : AV) (x : Nat) (st : List AV) (q : Nat × (Nat → Int)) (I A : M2) (L P : Nat → Nat → Option Nat) (F G : Nat → Nat → UInt32) (D : MD) : rs 4 4 [l0, l1, l2, l3] (vR 0 x :: st) (SX q, (I, A, L, P, F, G), D) = rs 4 7 [l0, l1, l2, l3] (vI (I 4 x) :: st) (SX q, (I, A, L, P, F, G), D) := rs_st rfl rfl
theorem s4_7 (l0 l1 l2 l3 : AV) (x y : Int) (st : List AV) (μ : Mem) : rs 4 7 [l0, l1, l2, l3] (vI y :: vI x :: st) μ = if y ≤ x then rs 4 36 [l0, l1, l2, l3] st μ else rs 4 10 [l0, l1, l2, l3] st μ := rs_ifb rfl (cnd_ge _ _) rfl rfl
theorem s4_10 (l1 l2 l3 : AV) (t x : Nat) (st : List AV) (μ : Mem) : rs 4 10 [vR t x, l1, l2, l3] st μ = rs 4 11 [vR t x, l1, l2, l3] (vR t x :: st) μ := rs_st rfl rfl
theorem s4_11 (l0 l1 l3 : AV) (x : Int) (st : List AV) (μ : Mem) : rs 4 11 [l0, l1, vI x, l3] st μ = rs 4 12 [l0, l1, vI x, l3] (vI x :: st) μ := rs_st rfl rfl
theorem s4_12 (l0 l1 l2 l3 : AV) (z : Nat) (a0 : Int)  (μ : Mem) : rs 4 12 [l0, l1, l2, l3] [vI a0, vR 0 z] μ = (rs 3 0 [vR 0 z, vI a0] [] μ).bind (fun w => rs 4 15 [l0, l1, l2, l3] (pushR w.1 []) w.2) := rs_ca rfl rfl rfl
theorem s4_15 (l0 l1 l2 l3 : AV) (t x : Nat) (st : List AV) (μ : Mem) : rs 4 15 [l0, l1, l2, l3] (vR t x :: st) μ = rs 4 16 [l0, l1, unJ l2, vR t x] st μ := rs_st rfl rfl
theorem s4_15n (l0 l1 l2 l3 : AV) (st : List AV) (μ : Mem) : rs 4 15 [l0, l1, l2, l3] (vN :: st) μ = rs 4 16 [l0, l1, unJ l2, vN] st μ := rs_st rfl rfl
theorem s4_16 (l0 l1 l2 : AV) (t x : Nat) (st : List AV) (μ : Mem) : rs 4 16 [l0, l1, l2, vR t x] st μ = rs 4 17 [l0, l1, l2, vR t x] (vR t x :: st) μ := rs_st rfl rfl
theorem s4_16n (l0 l1 l2 : AV) (st : List AV) (μ : Mem) : rs 4 16 [l0, l1, l2, vN] st μ = rs 4 17 [l0, l1, l2, vN] (vN :: st) μ := rs_st rfl rfl
theorem s4_17n (l0 l1 l2 l3 : AV) (st : List AV) (μ : Mem) : rs 4 17 [l0, l1, l2, l3] (vN :: st) μ = rs 4 30 [l0, l1, l2, l3] st μ := rs_st rfl rfl
theorem s4_17 (l0 l1 l2 l3 : AV) (t x : Nat) (st : List AV) (μ : Mem) : rs 4 17 [l0, l1, l2, l3] (vR t x :: st) μ = rs 4 20 [l0, l1, l2, l3] st μ := rs_st rfl rfl
theorem s4_20 (l0 l1 l2 : AV) (t x : Nat) (st : List AV) (μ : Mem) : rs 4 20 [l0, l1, l2, vR t x] st μ = rs 4 21 [l0, l1, l2, vR t x] (vR t x :: st) μ := rs_st rfl rfl
theorem s4_20n (l0 l1 l2 : AV) (st : List AV) (μ : Mem) : rs 4 20 [l0, l1, l2, vN] st μ = rs 4 21 [l0, l1, l2, vN] (vN :: st) μ := rs_st rfl rfl
theorem s4_21 (l0 l1 l2 l3 : AV) (x : Nat) (st : List AV) (q : Nat × (Nat → Int)) (I A : M2) (L P : Nat → Nat → Option Nat) (F G : Nat → Nat → UInt32) (D : MD) : rs 4 21 [l0, l1, l2, l3] (vR 2 x :: st) (SX q, (I, A, L, P, F, G), D) = rs 4 24 [l0, l1, l2, l3] (vI (I 43 x) :: st) (SX q, (I, A, L, P, F, G), D) := rs_st rfl rfl
theorem s4_24 (l0 l2 l3 : AV) (x : Int) (st : List AV) (μ : Mem) : rs 4 24 [l0, vI x, l2, l3] st μ = rs 4 25 [l0, vI x, l2, l3] (vI x :: st) μ := rs_st rfl rfl
theorem s4_25 (l0 l1 l2 l3 : AV) (x y : Int) (st : List AV) (μ : Mem) : rs 4 25 [l0, l1, l2, l3] (vI y :: vI x :: st) μ = if x = y then rs 4 28 [l0, l1, l2, l3] st μ else rs 4 30 [l0, l1, l2, l3] st μ := rs_ifn rfl (cnd_ne _ _) rfl rfl
theorem s4_28 (l0 l1 l2 : AV) (t x : Nat) (st : List AV) (μ : Mem) : rs 4 28 [l0, l1, l2, vR t x] st μ = rs 4 29 [l0, l1, l2, vR t x] (vR t x :: st) μ := rs_st rfl rfl
theorem s4_28n (l0 l1 l2 : AV) (st : List AV) (μ : Mem) : rs 4 28 [l0, l1, l2, vN] st μ = rs 4 29 [l0, l1, l2, vN] (vN :: st) μ := rs_st rfl rfl
theorem s4_29 (l0 l1 l2 l3 : AV) (t x : Nat) (μ : Mem) : rs 4 29 [l0, l1, l2, l3] [vR t x] μ = some (vR t x, μ) := rs_ret rfl
theorem s4_29n (l0 l1 l2 l3 : AV)  (μ : Mem) : rs 4 29 [l0, l1, l2, l3] [vN] μ = some (vN, μ) := rs_ret rfl
theorem s4_30 (l0 l1 l3 : AV) (x : Int) (st : List AV) (μ : Mem) : rs 4 30 [l0, l1, vI x, l3] st μ = rs 4 33 [l0, unJ l1, vI (w32 (x + 1)), l3] st μ := rs_st rfl rfl
theorem s4_33 (l0 l1 l2 l3 : AV) (st : List AV) (μ : Mem) : rs 4 33 [l0, l1, l2, l3] st μ = rs 4 2 [l0, l1, l2, vU] st μ := rs_st rfl rfl
theorem s4_36 (l0 l1 l2 l3 : AV) (st : List AV) (μ : Mem) : rs 4 36 [l0, l1, l2, l3] st μ = rs 4 37 [l0, l1, l2, l3] (vN :: st) μ := rs_st rfl rfl
theorem s4_37 (l0 l1 l2 l3 : AV) (t x : Nat) (μ : Mem) : rs 4 37 [l0, l1, l2, l3] [vR t x] μ = some (vR t x, μ) := rs_ret rfl
theorem s4_37n (l0 l1 l2 l3 : AV)  (μ : Mem) : rs 4 37 [l0, l1, l2, l3] [vN] μ = some (vN, μ) := rs_ret rfl
theorem s5_0 (l1 l2 l3 : AV) (t x : Nat) (st : List AV) (μ : Mem) : rs 5 0 [vR t x, l1, l2, l3] st μ = rs 5 1 [vR t x, l1, l2, l3] (vR t x :: st) μ := rs_st rfl rfl
theorem s5_1 (l0 l1 l2 l3 : AV) (x : Nat) (st : List AV) (q : Nat × (Nat → Int)) (I A : M2) (L P : Nat → Nat → Option Nat) (F G : Nat → Nat → UInt32) (D : MD) : rs 5 1 [l0, l1, l2, l3] (vR 0 x :: st) (SX q, (I, A, L, P, F, G), D) = rs 5 4 [l0, l1, l2, l3] (vI (I 4 x) :: st) (SX q, (I, A, L, P, F, G), D) := rs_st rfl rfl
theorem s5_4 (l0 l1 l2 l3 : AV) (x : Int) (st : List AV) (μ : Mem) : rs 5 4 [l0, l1, l2, l3] (vI x :: st) μ = if x < 0 then rs 5 19 [l0, l1, l2, l3] st μ else rs 5 7 [l0, l1, l2, l3] st μ := rs_ifb rfl (cnd_lt _ _) rfl rfl
theorem s5_7 (l1 l2 l3 : AV) (t x : Nat) (st : List AV) (μ : Mem) : rs 5 7 [vR t x, l1, l2, l3] st μ = rs 5 8 [vR t x, l1, l2, l3] (vR t x :: st) μ := rs_st rfl rfl
theorem s5_8 (l0 l1 l2 l3 : AV) (x : Nat) (st : List AV) (q : Nat × (Nat → Int)) (I A : M2) (L P : Nat → Nat → Option Nat) (F G : Nat → Nat → UInt32) (D : MD) : rs 5 8 [l0, l1, l2, l3] (vR 0 x :: st) (SX q, (I, A, L, P, F, G), D) = rs 5 11 [l0, l1, l2, l3] (vI (I 4 x) :: st) (SX q, (I, A, L, P, F, G), D) := rs_st rfl rfl
theorem s5_11 (l1 l2 l3 : AV) (t x : Nat) (st : List AV) (μ : Mem) : rs 5 11 [vR t x, l1, l2, l3] st μ = rs 5 12 [vR t x, l1, l2, l3] (vR t x :: st) μ := rs_st rfl rfl
theorem s5_12 (l0 l1 l2 l3 : AV) (x : Nat) (st : List AV) (q : Nat × (Nat → Int)) (C : MC) (D : MD) : rs 5 12 [l0, l1, l2, l3] (vR 0 x :: st) (SX q, C, D) = rs 5 15 [l0, l1, l2, l3] (vR 15 x :: st) (SX q, C, D) := rs_st rfl rfl
theorem s5_15 (l0 l1 l2 l3 : AV) (x : Nat) (st : List AV) (q : Nat × (Nat → Int)) (C : MC) (D : MD) : rs 5 15 [l0, l1, l2, l3] (vR 15 x :: st) (SX q, C, D) = if (LX q.1 15 x) < 2147483648 then rs 5 16 [l0, l1, l2, l3] (vI ((LX q.1 15 x) : Nat) :: st) (SX q, C, D) else none := rs_ok rfl rfl
theorem s5_16 (l0 l1 l2 l3 : AV) (x y : Int) (st : List AV) (μ : Mem) : rs 5 16 [l0, l1, l2, l3] (vI y :: vI x :: st) μ = if x < y then rs 5 22 [l0, l1, l2, l3] st μ else rs 5 19 [l0, l1, l2, l3] st μ := rs_ifb rfl (cnd_lt _ _) rfl rfl
theorem s5_19 (l0 l1 l2 l3 : AV) (st : List AV) (μ : Mem) : rs 5 19 [l0, l1, l2, l3] st μ = rs 5 21 [l0, l1, l2, l3] (vI (-3) :: st) μ := rs_st rfl rfl
theorem s5_21 (l0 l1 l2 l3 : AV) (x : Int) (μ : Mem) : rs 5 21 [l0, l1, l2, l3] [vI x] μ = some (vI x, μ) := rs_ret rfl
theorem s5_22 (l1 l2 l3 : AV) (t x : Nat) (st : List AV) (μ : Mem) : rs 5 22 [vR t x, l1, l2, l3] st μ = rs 5 23 [vR t x, l1, l2, l3] (vR t x :: st) μ := rs_st rfl rfl
theorem s5_23 (l0 l1 l2 l3 : AV) (x : Nat) (st : List AV) (q : Nat × (Nat → Int)) (C : MC) (D : MD) : rs 5 23 [l0, l1, l2, l3] (vR 0 x :: st) (SX q, C, D) = rs 5 26 [l0, l1, l2, l3] (vR 15 x :: st) (SX q, C, D) := rs_st rfl rfl
theorem s5_26 (l1 l2 l3 : AV) (t x : Nat) (st : List AV) (μ : Mem) : rs 5 26 [vR t x, l1, l2, l3] st μ = rs 5 27 [vR t x, l1, l2, l3] (vR t x :: st) μ := rs_st rfl rfl
theorem s5_27 (l0 l1 l2 l3 : AV) (x : Nat) (st : List AV) (q : Nat × (Nat → Int)) (I A : M2) (L P : Nat → Nat → Option Nat) (F G : Nat → Nat → UInt32) (D : MD) : rs 5 27 [l0, l1, l2, l3] (vR 0 x :: st) (SX q, (I, A, L, P, F, G), D) = rs 5 30 [l0, l1, l2, l3] (vI (I 4 x) :: st) (SX q, (I, A, L, P, F, G), D) := rs_st rfl rfl
theorem s5_30 (l0 l1 l2 l3 : AV) (a : Nat) (x : Int) (st : List AV) (q : Nat × (Nat → Int)) (I A : M2) (L P : Nat → Nat → Option Nat) (F G : Nat → Nat → UInt32) (D : MD) : rs 5 30 [l0, l1, l2, l3] (vI x :: vR 15 a :: st) (SX q, (I, A, L, P, F, G), D) = if 0 ≤ x ∧ x < (((LX q.1 15 a) : Nat) : Int) then rs 5 31 [l0, l1, l2, l3] (rfV 2 (L a x.toNat) :: st) (SX q, (I, A, L, P, F, G), D) else none := rs_in rfl rfl
theorem s5_31 (l0 l1 l2 l3 : AV) (t x : Nat) (st : List AV) (μ : Mem) : rs 5 31 [l0, l1, l2, l3] (vR t x :: st) μ = rs 5 32 [l0, l1, unJ l2, vR t x] st μ := rs_st rfl rfl
theorem s5_31n (l0 l1 l2 l3 : AV) (st : List AV) (μ : Mem) : rs 5 31 [l0, l1, l2, l3] (vN :: st) μ = rs 5 32 [l0, l1, unJ l2, vN] st μ := rs_st rfl rfl
theorem s5_32 (l0 l1 l2 : AV) (t x : Nat) (st : List AV) (μ : Mem) : rs 5 32 [l0, l1, l2, vR t x] st μ = rs 5 33 [l0, l1, l2, vR t x] (vR t x :: st) μ := rs_st rfl rfl
theorem s5_32n (l0 l1 l2 : AV) (st : List AV) (μ : Mem) : rs 5 32 [l0, l1, l2, vN] st μ = rs 5 33 [l0, l1, l2, vN] (vN :: st) μ := rs_st rfl rfl
theorem s5_33n (l0 l1 l2 l3 : AV) (st : List AV) (μ : Mem) : rs 5 33 [l0, l1, l2, l3] (vN :: st) μ = rs 5 36 [l0, l1, l2, l3] st μ := rs_st rfl rfl
theorem s5_33 (l0 l1 l2 l3 : AV) (t x : Nat) (st : List AV) (μ : Mem) : rs 5 33 [l0, l1, l2, l3] (vR t x :: st) μ = rs 5 39 [l0, l1, l2, l3] st μ := rs_st rfl rfl
theorem s5_36 (l0 l1 l2 l3 : AV) (st : List AV) (μ : Mem) : rs 5 36 [l0, l1, l2, l3] st μ = rs 5 38 [l0, l1, l2, l3] (vI (-3) :: st) μ := rs_st rfl rfl
theorem s5_38 (l0 l1 l2 l3 : AV) (x : Int) (μ : Mem) : rs 5 38 [l0, l1, l2, l3] [vI x] μ = some (vI x, μ) := rs_ret rfl
theorem s5_39 (l0 l1 l2 : AV) (t x : Nat) (st : List AV) (μ : Mem) : rs 5 39 [l0, l1, l2, vR t x] st μ = rs 5 40 [l0, l1, l2, vR t x] (vR t x :: st) μ := rs_st rfl rfl
theorem s5_39n (l0 l1 l2 : AV) (st : List AV) (μ : Mem) : rs 5 39 [l0, l1, l2, vN] st μ = rs 5 40 [l0, l1, l2, vN] (vN :: st) μ := rs_st rfl rfl
theorem s5_40 (l0 l2 l3 : AV) (t x : Nat) (st : List AV) (μ : Mem) : rs 5 40 [l0, vR t x, l2, l3] st μ = rs 5 41 [l0, vR t x, l2, l3] (vR t x :: st) μ := rs_st rfl rfl
theorem s5_41 (l0 l1 l2 l3 : AV) (z : Nat) (a0 : Nat)  (μ : Mem) : rs 5 41 [l0, l1, l2, l3] [vR 2 a0, vR 2 z] μ = (rs 203 0 [vR 2 z, vR 2 a0] [] μ).bind (fun w => rs 5 44 [l0, l1, l2, l3] (pushR w.1 []) w.2) := rs_ca rfl rfl rfl
theorem s5_44 (l0 l1 l2 : AV) (t x : Nat) (st : List AV) (μ : Mem) : rs 5 44 [l0, l1, l2, vR t x] st μ = rs 5 45 [l0, l1, l2, vR t x] (vR t x :: st) μ := rs_st rfl rfl
theorem s5_44n (l0 l1 l2 : AV) (st : List AV) (μ : Mem) : rs 5 44 [l0, l1, l2, vN] st μ = rs 5 45 [l0, l1, l2, vN] (vN :: st) μ := rs_st rfl rfl
theorem s5_45 (l0 l2 l3 : AV) (t x : Nat) (st : List AV) (μ : Mem) : rs 5 45 [l0, vR t x, l2, l3] st μ = rs 5 46 [l0, vR t x, l2, l3] (vR t x :: st) μ := rs_st rfl rfl
theorem s5_46 (l1 l2 l3 : AV) (t x : Nat) (st : List AV) (μ : Mem) : rs 5 46 [vR t x, l1, l2, l3] st μ = rs 5 47 [vR t x, l1, l2, l3] (vR t x :: st) μ := rs_st rfl rfl
theorem s5_47 (l0 l1 l2 l3 : AV) (z : Nat) (b0 : Nat) (b1 : Nat) (μ : Mem) : rs 5 47 [l0, l1, l2, l3] [vR 0 z, vR 2 b0, vR 2 b1] μ = (rs 13 0 [vR 0 z, vU, vU, vU] [] μ).bind (fun w => rs 5 50 [l0, l1, l2, l3] (pushR w.1 [vR 2 b0, vR 2 b1]) w.2) := rs_ca rfl rfl rfl
theorem s5_50 (l0 l1 l2 l3 : AV) (z : Nat) (a0 : Nat) (a1 : Int)  (μ : Mem) : rs 5 50 [l0, l1, l2, l3] [vI a1, vR 2 a0, vR 2 z] μ = (rs 213 0 [vR 2 z, vR 2 a0, vI a1, vU, vU] [] μ).bind (fun w => rs 5 53 [l0, l1, l2, l3] (pushR w.1 []) w.2) := rs_ca rfl rfl rfl
theorem s5_53 (l0 l1 l2 : AV) (t x : Nat) (st : List AV) (μ : Mem) : rs 5 53 [l0, l1, l2, vR t x] st μ = rs 5 54 [l0, l1, l2, vR t x] (vR t x :: st) μ := rs_st rfl rfl
theorem s5_53n (l0 l1 l2 : AV) (st : List AV) (μ : Mem) : rs 5 53 [l0, l1, l2, vN] st μ = rs 5 54 [l0, l1, l2, vN] (vN :: st) μ := rs_st rfl rfl
theorem s5_54 (l0 l1 l3 : AV) (x : Int) (st : List AV) (μ : Mem) : rs 5 54 [l0, l1, vI x, l3] st μ = rs 5 55 [l0, l1, vI x, l3] (vI x :: st) μ := rs_st rfl rfl
theorem s5_55 (l0 l1 l2 l3 : AV) (x : Nat) (v : Int) (st : List AV) (q : Nat × (Nat → Int)) (I A : M2) (L P : Nat → Nat → Option Nat) (F G : Nat → Nat → UInt32) (D : MD) : rs 5 55 [l0, l1, l2, l3] (vI v :: vR 2 x :: st) (SX q, (I, A, L, P, F, G), D) = rs 5 58 [l0, l1, l2, l3] st (SX q, (up2 I 46 x v, A, L, P, F, G), D) := rs_st rfl rfl
theorem s5_58 (l0 l1 l2 : AV) (t x : Nat) (st : List AV) (μ : Mem) : rs 5 58 [l0, l1, l2, vR t x] st μ = rs 5 59 [l0, l1, l2, vR t x] (vR t x :: st) μ := rs_st rfl rfl
theorem s5_58n (l0 l1 l2 : AV) (st : List AV) (μ : Mem) : rs 5 58 [l0, l1, l2, vN] st μ = rs 5 59 [l0, l1, l2, vN] (vN :: st) μ := rs_st rfl rfl
theorem s5_59 (l1 l2 l3 : AV) (t x : Nat) (st : List AV) (μ : Mem) : rs 5 59 [vR t x, l1, l2, l3] st μ = rs 5 60 [vR t x, l1, l2, l3] (vR t x :: st) μ := rs_st rfl rfl
theorem s5_60 (l0 l1 l2 l3 : AV) (x : Nat) (st : List AV) (q : Nat × (Nat → Int)) (I A : M2) (L P : Nat → Nat → Option Nat) (F G : Nat → Nat → UInt32) (D : MD) : rs 5 60 [l0, l1, l2, l3] (vR 0 x :: st) (SX q, (I, A, L, P, F, G), D) = rs 5 63 [l0, l1, l2, l3] (vI (I 5 x) :: st) (SX q, (I, A, L, P, F, G), D) := rs_st rfl rfl
theorem s5_63 (l0 l1 l2 l3 : AV) (x : Nat) (v : Int) (st : List AV) (q : Nat × (Nat → Int)) (I A : M2) (L P : Nat → Nat → Option Nat) (F G : Nat → Nat → UInt32) (D : MD) : rs 5 63 [l0, l1, l2, l3] (vI v :: vR 2 x :: st) (SX q, (I, A, L, P, F, G), D) = rs 5 66 [l0, l1, l2, l3] st (SX q, (up2 I 43 x v, A, L, P, F, G), D) := rs_st rfl rfl
theorem s5_66 (l1 l2 l3 : AV) (t x : Nat) (st : List AV) (μ : Mem) : rs 5 66 [vR t x, l1, l2, l3] st μ = rs 5 67 [vR t x, l1, l2, l3] (vR t x :: st) μ := rs_st rfl rfl
theorem s5_67 (l0 l1 l2 l3 : AV) (x : Int) (st : List AV) (μ : Mem) : rs 5 67 [l0, l1, l2, l3] (vI x :: st) μ = rs 5 68 [l0, l1, l2, l3] (vI x :: vI x :: st) μ := rs_st rfl rfl
theorem s5_67r (l0 l1 l2 l3 : AV) (t x : Nat) (st : List AV) (μ : Mem) : rs 5 67 [l0, l1, l2, l3] (vR t x :: st) μ = rs 5 68 [l0, l1, l2, l3] (vR t x :: vR t x :: st) μ := rs_st rfl rfl
theorem s5_68 (l0 l1 l2 l3 : AV) (x : Nat) (st : List AV) (q : Nat × (Nat → Int)) (I A : M2) (L P : Nat → Nat → Option Nat) (F G : Nat → Nat → UInt32) (D : MD) : rs 5 68 [l0, l1, l2, l3] (vR 0 x :: st) (SX q, (I, A, L, P, F, G), D) = rs 5 71 [l0, l1, l2, l3] (vI (I 4 x) :: st) (SX q, (I, A, L, P, F, G), D) := rs_st rfl rfl
theorem s5_71 (l0 l1 l2 l3 : AV) (st : List AV) (μ : Mem) : rs 5 71 [l0, l1, l2, l3] st μ = rs 5 72 [l0, l1, l2, l3] (vI 1 :: st) μ := rs_st rfl rfl
theorem s5_72 (l0 l1 l2 l3 : AV) (x y : Int) (st : List AV) (μ : Mem) : rs 5 72 [l0, l1, l2, l3] (vI y :: vI x :: st) μ = rs 5 73 [l0, l1, l2, l3] (vI (w32 (x + y)) :: st) μ := rs_st rfl rfl
theorem s5_73 (l0 l1 l2 l3 : AV) (x : Nat) (v : Int) (st : List AV) (q : Nat × (Nat → Int)) (I A : M2) (L P : Nat → Nat → Option Nat) (F G : Nat → Nat → UInt32) (D : MD) : rs 5 73 [l0, l1, l2, l3] (vI v :: vR 0 x :: st) (SX q, (I, A, L, P, F, G), D) = rs 5 76 [l0, l1, l2, l3] st (SX q, (up2 I 4 x v, A, L, P, F, G), D) := rs_st rfl rfl
theorem s5_76 (l1 l2 l3 : AV) (t x : Nat) (st : List AV) (μ : Mem) : rs 5 76 [vR t x, l1, l2, l3] st μ = rs 5 77 [vR t x, l1, l2, l3] (vR t x :: st) μ := rs_st rfl rfl
theorem s5_77 (l0 l1 l2 l3 : AV) (x : Int) (st : List AV) (μ : Mem) : rs 5 77 [l0, l1, l2, l3] (vI x :: st) μ = rs 5 78 [l0, l1, l2, l3] (vI x :: vI x :: st) μ := rs_st rfl rfl
theorem s5_77r (l0 l1 l2 l3 : AV) (t x : Nat) (st : List AV) (μ : Mem) : rs 5 77 [l0, l1, l2, l3] (vR t x :: st) μ = rs 5 78 [l0, l1, l2, l3] (vR t x :: vR t x :: st) μ := rs_st rfl rfl
theorem s5_78 (l0 l1 l2 l3 : AV) (x : Nat) (st : List AV) (q : Nat × (Nat → Int)) (I A : M2) (L P : Nat → Nat → Option Nat) (F G : Nat → Nat → UInt32) (D : MD) : rs 5 78 [l0, l1, l2, l3] (vR 0 x :: st) (SX q, (I, A, L, P, F, G), D) = rs 5 81 [l0, l1, l2, l3] (vI (I 5 x) :: st) (SX q, (I, A, L, P, F, G), D) := rs_st rfl rfl
theorem s5_81 (l0 l1 l2 l3 : AV) (st : List AV) (μ : Mem) : rs 5 81 [l0, l1, l2, l3] st μ = rs 5 82 [l0, l1, l2, l3] (vI 1 :: st) μ := rs_st rfl rfl
theorem s5_82 (l0 l1 l2 l3 : AV) (x y : Int) (st : List AV) (μ : Mem) : rs 5 82 [l0, l1, l2, l3] (vI y :: vI x :: st) μ = rs 5 83 [l0, l1, l2, l3] (vI (w32 (x + y)) :: st) μ := rs_st rfl rfl
theorem s5_83 (l0 l1 l2 l3 : AV) (x : Nat) (v : Int) (st : List AV) (q : Nat × (Nat → Int)) (I A : M2) (L P : Nat → Nat → Option Nat) (F G : Nat → Nat → UInt32) (D : MD) : rs 5 83 [l0, l1, l2, l3] (vI v :: vR 0 x :: st) (SX q, (I, A, L, P, F, G), D) = rs 5 86 [l0, l1, l2, l3] st (SX q, (up2 I 5 x v, A, L, P, F, G), D) := rs_st rfl rfl
theorem s5_86 (l0 l1 l2 : AV) (t x : Nat) (st : List AV) (μ : Mem) : rs 5 86 [l0, l1, l2, vR t x] st μ = rs 5 87 [l0, l1, l2, vR t x] (vR t x :: st) μ := rs_st rfl rfl
theorem s5_86n (l0 l1 l2 : AV) (st : List AV) (μ : Mem) : rs 5 86 [l0, l1, l2, vN] st μ = rs 5 87 [l0, l1, l2, vN] (vN :: st) μ := rs_st rfl rfl
theorem s5_87 (l0 l1 l2 l3 : AV) (x : Nat) (st : List AV) (q : Nat × (Nat → Int)) (I A : M2) (L P : Nat → Nat → Option Nat) (F G : Nat → Nat → UInt32) (D : MD) : rs 5 87 [l0, l1, l2, l3] (vR 2 x :: st) (SX q, (I, A, L, P, F, G), D) = rs 5 90 [l0, l1, l2, l3] (vI (I 43 x) :: st) (SX q, (I, A, L, P, F, G), D) := rs_st rfl rfl
theorem s5_90 (l0 l1 l2 l3 : AV) (x : Int) (μ : Mem) : rs 5 90 [l0, l1, l2, l3] [vI x] μ = some (vI x, μ) := rs_ret rfl
theorem s6_0 (l0 l1 l2 l3 : AV) (st : List AV) (μ : Mem) : rs 6 0 [l0, l1, l2, l3] st μ = rs 6 1 [l0, l1, l2, l3] (vI 0 :: st) μ := rs_st rfl rfl
theorem s6_1 (l0 l1 l2 l3 : AV) (x : Int) (st : List AV) (μ : Mem) : rs 6 1 [l0, l1, l2, l3] (vI x :: st) μ = rs 6 2 [unJ l0, vI x, l2, l3] st μ := rs_st rfl rfl
theorem s6_2 (l0 l1 l2 l3 : AV) (st : List AV) (μ : Mem) : rs 6 2 [l0, l1, l2, l3] st μ = rs 6 3 [l0, l1, l2, l3] (vI 0 :: st) μ := rs_st rfl rfl
theorem s6_3 (l0 l1 l2 l3 : AV) (x : Int) (st : List AV) (μ : Mem) : rs 6 3 [l0, l1, l2, l3] (vI x :: st) μ = rs 6 4 [l0, unJ l1, vI x, vU] st μ := rs_st rfl rfl
theorem s6_4 (l0 l1 l3 : AV) (x : Int) (st : List AV) (μ : Mem) : rs 6 4 [l0, l1, vI x, l3] st μ = rs 6 5 [l0, l1, vI x, l3] (vI x :: st) μ := rs_st rfl rfl
theorem s6_5 (l1 l2 l3 : AV) (t x : Nat) (st : List AV) (μ : Mem) : rs 6 5 [vR t x, l1, l2, l3] st μ = rs 6 6 [vR t x, l1, l2, l3] (vR t x :: st) μ := rs_st rfl rfl
theorem s6_6 (l0 l1 l2 l3 : AV) (x : Nat) (st : List AV) (q : Nat × (Nat → Int)) (I A : M2) (L P : Nat → Nat → Option Nat) (F G : Nat → Nat → UInt32) (D : MD) : rs 6 6 [l0, l1, l2, l3] (vR 0 x :: st) (SX q, (I, A, L, P, F, G), D) = rs 6 9 [l0, l1, l2, l3] (vI (I 4 x) :: st) (SX q, (I, A, L, P, F, G), D) := rs_st rfl rfl
theorem s6_9 (l0 l1 l2 l3 : AV) (x y : Int) (st : List AV) (μ : Mem) : rs 6 9 [l0, l1, l2, l3] (vI y :: vI x :: st) μ = if y ≤ x then rs 6 76 [l0, l1, l2, l3] st μ else rs 6 12 [l0, l1, l2, l3] st μ := rs_ifb rfl (cnd_ge _ _) rfl rfl
theorem s6_12 (l0 l1 l3 : AV) (x : Int) (st : List AV) (μ : Mem) : rs 6 12 [l0, l1, vI x, l3] st μ = rs 6 13 [l0, l1, vI x, l3] (vI x :: st) μ := rs_st rfl rfl
theorem s6_13 (l1 l2 l3 : AV) (t x : Nat) (st : List AV) (μ : Mem) : rs 6 13 [vR t x, l1, l2, l3] st μ = rs 6 14 [vR t x, l1, l2, l3] (vR t x :: st) μ := rs_st rfl rfl
theorem s6_14 (l0 l1 l2 l3 : AV) (x : Nat) (st : List AV) (q : Nat × (Nat → Int)) (C : MC) (D : MD) : rs 6 14 [l0, l1, l2, l3] (vR 0 x :: st) (SX q, C, D) = rs 6 17 [l0, l1, l2, l3] (vR 15 x :: st) (SX q, C, D) := rs_st rfl rfl
theorem s6_17 (l0 l1 l2 l3 : AV) (x : Nat) (st : List AV) (q : Nat × (Nat → Int)) (C : MC) (D : MD) : rs 6 17 [l0, l1, l2, l3] (vR 15 x :: st) (SX q, C, D) = if (LX q.1 15 x) < 2147483648 then rs 6 18 [l0, l1, l2, l3] (vI ((LX q.1 15 x) : Nat) :: st) (SX q, C, D) else none := rs_ok rfl rfl
theorem s6_18 (l0 l1 l2 l3 : AV) (x y : Int) (st : List AV) (μ : Mem) : rs 6 18 [l0, l1, l2, l3] (vI y :: vI x :: st) μ = if y ≤ x then rs 6 76 [l0, l1, l2, l3] st μ else rs 6 21 [l0, l1, l2, l3] st μ := rs_ifb rfl (cnd_ge _ _) rfl rfl
theorem s6_21 (l0 l2 l3 : AV) (x : Int) (st : List AV) (μ : Mem) : rs 6 21 [l0, vI x, l2, l3] st μ = rs 6 22 [l0, vI x, l2, l3] (vI x :: st) μ := rs_st rfl rfl
theorem s6_22 (l1 l2 l3 : AV) (t x : Nat) (st : List AV) (μ : Mem) : rs 6 22 [vR t x, l1, l2, l3] st μ = rs 6 23 [vR t x, l1, l2, l3] (vR t x :: st) μ := rs_st rfl rfl
theorem s6_23 (l0 l1 l2 l3 : AV) (x : Nat) (st : List AV) (q : Nat × (Nat → Int)) (C : MC) (D : MD) : rs 6 23 [l0, l1, l2, l3] (vR 0 x :: st) (SX q, C, D) = rs 6 26 [l0, l1, l2, l3] (vR 15 x :: st) (SX q, C, D) := rs_st rfl rfl
theorem s6_26 (l0 l1 l2 l3 : AV) (x : Nat) (st : List AV) (q : Nat × (Nat → Int)) (C : MC) (D : MD) : rs 6 26 [l0, l1, l2, l3] (vR 15 x :: st) (SX q, C, D) = if (LX q.1 15 x) < 2147483648 then rs 6 27 [l0, l1, l2, l3] (vI ((LX q.1 15 x) : Nat) :: st) (SX q, C, D) else none := rs_ok rfl rfl
theorem s6_27 (l0 l1 l2 l3 : AV) (x y : Int) (st : List AV) (μ : Mem) : rs 6 27 [l0, l1, l2, l3] (vI y :: vI x :: st) μ = if y ≤ x then rs 6 76 [l0, l1, l2, l3] st μ else rs 6 30 [l0, l1, l2, l3] st μ := rs_ifb rfl (cnd_ge _ _) rfl rfl
theorem s6_30 (l1 l2 l3 : AV) (t x : Nat) (st : List AV) (μ : Mem) : rs 6 30 [vR t x, l1, l2, l3] st μ = rs 6 31 [vR t x, l1, l2, l3] (vR t x :: st) μ := rs_st rfl rfl
theorem s6_31 (l0 l1 l2 l3 : AV) (x : Nat) (st : List AV) (q : Nat × (Nat → Int)) (C : MC) (D : MD) : rs 6 31 [l0, l1, l2, l3] (vR 0 x :: st) (SX q, C, D) = rs 6 34 [l0, l1, l2, l3] (vR 15 x :: st) (SX q, C, D) := rs_st rfl rfl
theorem s6_34 (l0 l1 l3 : AV) (x : Int) (st : List AV) (μ : Mem) : rs 6 34 [l0, l1, vI x, l3] st μ = rs 6 35 [l0, l1, vI x, l3] (vI x :: st) μ := rs_st rfl rfl
theorem s6_35 (l0 l1 l2 l3 : AV) (a : Nat) (x : Int) (st : List AV) (q : Nat × (Nat → Int)) (I A : M2) (L P : Nat → Nat → Option Nat) (F G : Nat → Nat → UInt32) (D : MD) : rs 6 35 [l0, l1, l2, l3] (vI x :: vR 15 a :: st) (SX q, (I, A, L, P, F, G), D) = if 0 ≤ x ∧ x < (((LX q.1 15 a) : Nat) : Int) then rs 6 36 [l0, l1, l2, l3] (rfV 2 (L a x.toNat) :: st) (SX q, (I, A, L, P, F, G), D) else none := rs_in rfl rfl
theorem s6_36 (l0 l1 l2 l3 : AV) (t x : Nat) (st : List AV) (μ : Mem) : rs 6 36 [l0, l1, l2, l3] (vR t x :: st) μ = rs 6 37 [l0, l1, unJ l2, vR t x] st μ := rs_st rfl rfl
theorem s6_36n (l0 l1 l2 l3 : AV) (st : List AV) (μ : Mem) : rs 6 36 [l0, l1, l2, l3] (vN :: st) μ = rs 6 37 [l0, l1, unJ l2, vN] st μ := rs_st rfl rfl
theorem s6_37 (l0 l1 l2 : AV) (t x : Nat) (st : List AV) (μ : Mem) : rs 6 37 [l0, l1, l2, vR t x] st μ = rs 6 38 [l0, l1, l2, vR t x] (vR t x :: st) μ := rs_st rfl rfl
theorem s6_37n (l0 l1 l2 : AV) (st : List AV) (μ : Mem) : rs 6 37 [l0, l1, l2, vN] st μ = rs 6 38 [l0, l1, l2, vN] (vN :: st) μ := rs_st rfl rfl
theorem s6_38n (l0 l1 l2 l3 : AV) (st : List AV) (μ : Mem) : rs 6 38 [l0, l1, l2, l3] (vN :: st) μ = rs 6 70 [l0, l1, l2, l3] st μ := rs_st rfl rfl
theorem s6_38 (l0 l1 l2 l3 : AV) (t x : Nat) (st : List AV) (μ : Mem) : rs 6 38 [l0, l1, l2, l3] (vR t x :: st) μ = rs 6 41 [l0, l1, l2, l3] st μ := rs_st rfl rfl
theorem s6_41 (l0 l1 l2 : AV) (t x : Nat) (st : List AV) (μ : Mem) : rs 6 41 [l0, l1, l2, vR t x] st μ = rs 6 42 [l0, l1, l2, vR t x] (vR t x :: st) μ := rs_st rfl rfl
theorem s6_41n (l0 l1 l2 : AV) (st : List AV) (μ : Mem) : rs 6 41 [l0, l1, l2, vN] st μ = rs 6 42 [l0, l1, l2, vN] (vN :: st) μ := rs_st rfl rfl
theorem s6_42 (l0 l1 l2 l3 : AV) (x : Nat) (st : List AV) (q : Nat × (Nat → Int)) (I A : M2) (L P : Nat → Nat → Option Nat) (F G : Nat → Nat → UInt32) (D : MD) : rs 6 42 [l0, l1, l2, l3] (vR 2 x :: st) (SX q, (I, A, L, P, F, G), D) = rs 6 45 [l0, l1, l2, l3] (vI (I 45 x) :: st) (SX q, (I, A, L, P, F, G), D) := rs_st rfl rfl
theorem s6_45 (l0 l1 l2 l3 : AV) (x : Int) (st : List AV) (μ : Mem) : rs 6 45 [l0, l1, l2, l3] (vI x :: st) μ = if x ≤ 0 then rs 6 70 [l0, l1, l2, l3] st μ else rs 6 48 [l0, l1, l2, l3] st μ := rs_ifb rfl (cnd_le _ _) rfl rfl
theorem s6_48 (l1 l2 l3 : AV) (t x : Nat) (st : List AV) (μ : Mem) : rs 6 48 [vR t x, l1, l2, l3] st μ = rs 6 49 [vR t x, l1, l2, l3] (vR t x :: st) μ := rs_st rfl rfl
theorem s6_49 (l0 l1 l2 l3 : AV) (x : Nat) (st : List AV) (q : Nat × (Nat → Int)) (C : MC) (D : MD) : rs 6 49 [l0, l1, l2, l3] (vR 0 x :: st) (SX q, C, D) = rs 6 52 [l0, l1, l2, l3] (vR 15 x :: st) (SX q, C, D) := rs_st rfl rfl
theorem s6_52 (l0 l1 l3 : AV) (x : Int) (st : List AV) (μ : Mem) : rs 6 52 [l0, l1, vI x, l3] st μ = rs 6 53 [l0, l1, vI x, l3] (vI x :: st) μ := rs_st rfl rfl
theorem s6_53 (l1 l2 l3 : AV) (t x : Nat) (st : List AV) (μ : Mem) : rs 6 53 [vR t x, l1, l2, l3] st μ = rs 6 54 [vR t x, l1, l2, l3] (vR t x :: st) μ := rs_st rfl rfl
theorem s6_54 (l0 l1 l2 l3 : AV) (x : Nat) (st : List AV) (q : Nat × (Nat → Int)) (C : MC) (D : MD) : rs 6 54 [l0, l1, l2, l3] (vR 0 x :: st) (SX q, C, D) = rs 6 57 [l0, l1, l2, l3] (vR 15 x :: st) (SX q, C, D) := rs_st rfl rfl
theorem s6_57 (l0 l2 l3 : AV) (x : Int) (st : List AV) (μ : Mem) : rs 6 57 [l0, vI x, l2, l3] st μ = rs 6 58 [l0, vI x, l2, l3] (vI x :: st) μ := rs_st rfl rfl
theorem s6_58 (l0 l1 l2 l3 : AV) (a : Nat) (x : Int) (st : List AV) (q : Nat × (Nat → Int)) (I A : M2) (L P : Nat → Nat → Option Nat) (F G : Nat → Nat → UInt32) (D : MD) : rs 6 58 [l0, l1, l2, l3] (vI x :: vR 15 a :: st) (SX q, (I, A, L, P, F, G), D) = if 0 ≤ x ∧ x < (((LX q.1 15 a) : Nat) : Int) then rs 6 59 [l0, l1, l2, l3] (rfV 2 (L a x.toNat) :: st) (SX q, (I, A, L, P, F, G), D) else none := rs_in rfl rfl
theorem s6_59 (l0 l1 l2 l3 : AV) (a : Nat) (x : Int) (v : Nat) (st : List AV) (q : Nat × (Nat → Int)) (I A : M2) (L P : Nat → Nat → Option Nat) (F G : Nat → Nat → UInt32) (D : MD) : rs 6 59 [l0, l1, l2, l3] (vR 2 v :: vI x :: vR 15 a :: st) (SX q, (I, A, L, P, F, G), D) = if 0 ≤ x ∧ x < (((LX q.1 15 a) : Nat) : Int) then rs 6 60 [l0, l1, l2, l3] st (SX q, (I, A, up2 L a x.toNat (some v), P, F, G), D) else none := rs_in rfl rfl
theorem s6_60 (l1 l2 l3 : AV) (t x : Nat) (st : List AV) (μ : Mem) : rs 6 60 [vR t x, l1, l2, l3] st μ = rs 6 61 [vR t x, l1, l2, l3] (vR t x :: st) μ := rs_st rfl rfl
theorem s6_61 (l0 l1 l2 l3 : AV) (x : Nat) (st : List AV) (q : Nat × (Nat → Int)) (C : MC) (D : MD) : rs 6 61 [l0, l1, l2, l3] (vR 0 x :: st) (SX q, C, D) = rs 6 64 [l0, l1, l2, l3] (vR 15 x :: st) (SX q, C, D) := rs_st rfl rfl
theorem s6_64 (l0 l2 l3 : AV) (x : Int) (st : List AV) (μ : Mem) : rs 6 64 [l0, vI x, l2, l3] st μ = rs 6 65 [l0, vI x, l2, l3] (vI x :: st) μ := rs_st rfl rfl
theorem s6_65 (l0 l1 l2 : AV) (t x : Nat) (st : List AV) (μ : Mem) : rs 6 65 [l0, l1, l2, vR t x] st μ = rs 6 66 [l0, l1, l2, vR t x] (vR t x :: st) μ := rs_st rfl rfl
theorem s6_65n (l0 l1 l2 : AV) (st : List AV) (μ : Mem) : rs 6 65 [l0, l1, l2, vN] st μ = rs 6 66 [l0, l1, l2, vN] (vN :: st) μ := rs_st rfl rfl
theorem s6_66 (l0 l1 l2 l3 : AV) (a : Nat) (x : Int) (v : Nat) (st : List AV) (q : Nat × (Nat → Int)) (I A : M2) (L P : Nat → Nat → Option Nat) (F G : Nat → Nat → UInt32) (D : MD) : rs 6 66 [l0, l1, l2, l3] (vR 2 v :: vI x :: vR 15 a :: st) (SX q, (I, A, L, P, F, G), D) = if 0 ≤ x ∧ x < (((LX q.1 15 a) : Nat) : Int) then rs 6 67 [l0, l1, l2, l3] st (SX q, (I, A, up2 L a x.toNat (some v), P, F, G), D) else none := rs_in rfl rfl
theorem s6_67 (l0 l2 l3 : AV) (x : Int) (st : List AV) (μ : Mem) : rs 6 67 [l0, vI x, l2, l3] st μ = rs 6 70 [unJ l0, vI (w32 (x + 1)), l2, l3] st μ := rs_st rfl rfl
theorem s6_70 (l0 l1 l3 : AV) (x : Int) (st : List AV) (μ : Mem) : rs 6 70 [l0, l1, vI x, l3] st μ = rs 6 73 [l0, unJ l1, vI (w32 (x + 1)), l3] st μ := rs_st rfl rfl
theorem s6_73 (l0 l1 l2 l3 : AV) (st : List AV) (μ : Mem) : rs 6 73 [l0, l1, l2, l3] st μ = rs 6 4 [l0, l1, l2, vU] st μ := rs_st rfl rfl
theorem s6_76 (l1 l2 l3 : AV) (t x : Nat) (st : List AV) (μ : Mem) : rs 6 76 [vR t x, l1, l2, l3] st μ = rs 6 77 [vR t x, l1, l2, l3] (vR t x :: st) μ := rs_st rfl rfl
theorem s6_77 (l0 l2 l3 : AV) (x : Int) (st : List AV) (μ : Mem) : rs 6 77 [l0, vI x, l2, l3] st μ = rs 6 78 [l0, vI x, l2, l3] (vI x :: st) μ := rs_st rfl rfl
theorem s6_78 (l0 l1 l2 l3 : AV) (x : Nat) (v : Int) (st : List AV) (q : Nat × (Nat → Int)) (I A : M2) (L P : Nat → Nat → Option Nat) (F G : Nat → Nat → UInt32) (D : MD) : rs 6 78 [l0, l1, l2, l3] (vI v :: vR 0 x :: st) (SX q, (I, A, L, P, F, G), D) = rs 6 81 [l0, l1, l2, l3] st (SX q, (up2 I 4 x v, A, L, P, F, G), D) := rs_st rfl rfl
theorem s6_81 (l0 l1 l2 l3 : AV)  (μ : Mem) : rs 6 81 [l0, l1, l2, l3] [] μ = some (vU, μ) := rs_ret rfl
theorem s7_0 (l0 l1 l2 l3 l4 l5 : AV) (st : List AV) (μ : Mem) : rs 7 0 [l0, l1, l2, l3, l4, l5] st μ = rs 7 1 [l0, l1, l2, l3, l4, l5] (vI 0 :: st) μ := rs_st rfl rfl
theorem s7_1 (l0 l1 l2 l3 l4 l5 : AV) (x : Int) (st : List AV) (μ : Mem) : rs 7 1 [l0, l1, l2, l3, l4, l5] (vI x :: st) μ = rs 7 2 [l0, unJ l1, vI x, l3, l4, l5] st μ := rs_st rfl rfl
theorem s7_2 (l0 l1 l2 l3 l4 l5 : AV) (st : List AV) (μ : Mem) : rs 7 2 [l0, l1, l2, l3, l4, l5] st μ = rs 7 3 [l0, l1, l2, l3, l4, l5] (vI 0 :: st) μ := rs_st rfl rfl
theorem s7_3 (l0 l1 l2 l3 l4 l5 : AV) (x : Int) (st : List AV) (μ : Mem) : rs 7 3 [l0, l1, l2, l3, l4, l5] (vI x :: st) μ = rs 7 4 [l0, l1, unJ l2, vI x, vU, vU] st μ := rs_st rfl rfl
theorem s7_4 (l0 l1 l2 l4 l5 : AV) (x : Int) (st : List AV) (μ : Mem) : rs 7 4 [l0, l1, l2, vI x, l4, l5] st μ = rs 7 5 [l0, l1, l2, vI x, l4, l5] (vI x :: st) μ := rs_st rfl rfl
theorem s7_5 (l1 l2 l3 l4 l5 : AV) (t x : Nat) (st : List AV) (μ : Mem) : rs 7 5 [vR t x, l1, l2, l3, l4, l5] st μ = rs 7 6 [vR t x, l1, l2, l3, l4, l5] (vR t x :: st) μ := rs_st rfl rfl
theorem s7_6 (l0 l1 l2 l3 l4 l5 : AV) (x : Nat) (st : List AV) (q : Nat × (Nat → Int)) (I A : M2) (L P : Nat → Nat → Option Nat) (F G : Nat → Nat → UInt32) (D : MD) : rs 7 6 [l0, l1, l2, l3, l4, l5] (vR 0 x :: st) (SX q, (I, A, L, P, F, G), D) = rs 7 9 [l0, l1, l2, l3, l4, l5] (vI (I 4 x) :: st) (SX q, (I, A, L, P, F, G), D) := rs_st rfl rfl
theorem s7_9 (l0 l1 l2 l3 l4 l5 : AV) (x y : Int) (st : List AV) (μ : Mem) : rs 7 9 [l0, l1, l2, l3, l4, l5] (vI y :: vI x :: st) μ = if y ≤ x then rs 7 77 [l0, l1, l2, l3, l4, l5] st μ else rs 7 12 [l0, l1, l2, l3, l4, l5] st μ := rs_ifb rfl (cnd_ge _ _) rfl rfl
theorem s7_12 (l1 l2 l3 l4 l5 : AV) (t x : Nat) (st : List AV) (μ : Mem) : rs 7 12 [vR t x, l1, l2, l3, l4, l5] st μ = rs 7 13 [vR t x, l1, l2, l3, l4, l5] (vR t x :: st) μ := rs_st rfl rfl
theorem s7_13 (l0 l1 l2 l4 l5 : AV) (x : Int) (st : List AV) (μ : Mem) : rs 7 13 [l0, l1, l2, vI x, l4, l5] st μ = rs 7 14 [l0, l1, l2, vI x, l4, l5] (vI x :: st) μ := rs_st rfl rfl
theorem s7_14 (l0 l1 l2 l3 l4 l5 : AV) (z : Nat) (a0 : Int)  (μ : Mem) : rs 7 14 [l0, l1, l2, l3, l4, l5] [vI a0, vR 0 z] μ = (rs 3 0 [vR 0 z, vI a0] [] μ).bind (fun w => rs 7 17 [l0, l1, l2, l3, l4, l5] (pushR w.1 []) w.2) := rs_ca rfl rfl rfl
theorem s7_17 (l0 l1 l2 l3 l4 l5 : AV) (t x : Nat) (st : List AV) (μ : Mem) : rs 7 17 [l0, l1, l2, l3, l4, l5] (vR t x :: st) μ = rs 7 19 [l0, l1, l2, unJ l3, vR t x, l5] st μ := rs_st rfl rfl
theorem s7_17n (l0 l1 l2 l3 l4 l5 : AV) (st : List AV) (μ : Mem) : rs 7 17 [l0, l1, l2, l3, l4, l5] (vN :: st) μ = rs 7 19 [l0, l1, l2, unJ l3, vN, l5] st μ := rs_st rfl rfl
theorem s7_19 (l0 l1 l2 l3 l5 : AV) (t x : Nat) (st : List AV) (μ : Mem) : rs 7 19 [l0, l1, l2, l3, vR t x, l5] st μ = rs 7 21 [l0, l1, l2, l3, vR t x, l5] (vR t x :: st) μ := rs_st rfl rfl
theorem s7_19n (l0 l1 l2 l3 l5 : AV) (st : List AV) (μ : Mem) : rs 7 19 [l0, l1, l2, l3, vN, l5] st μ = rs 7 21 [l0, l1, l2, l3, vN, l5] (vN :: st) μ := rs_st rfl rfl
theorem s7_21n (l0 l1 l2 l3 l4 l5 : AV) (st : List AV) (μ : Mem) : rs 7 21 [l0, l1, l2, l3, l4, l5] (vN :: st) μ = rs 7 71 [l0, l1, l2, l3, l4, l5] st μ := rs_st rfl rfl
theorem s7_21 (l0 l1 l2 l3 l4 l5 : AV) (t x : Nat) (st : List AV) (μ : Mem) : rs 7 21 [l0, l1, l2, l3, l4, l5] (vR t x :: st) μ = rs 7 24 [l0, l1, l2, l3, l4, l5] st μ := rs_st rfl rfl
theorem s7_24 (l0 l1 l2 l3 l5 : AV) (t x : Nat) (st : List AV) (μ : Mem) : rs 7 24 [l0, l1, l2, l3, vR t x, l5] st μ = rs 7 26 [l0, l1, l2, l3, vR t x, l5] (vR t x :: st) μ := rs_st rfl rfl
theorem s7_24n (l0 l1 l2 l3 l5 : AV) (st : List AV) (μ : Mem) : rs 7 24 [l0, l1, l2, l3, vN, l5] st μ = rs 7 26 [l0, l1, l2, l3, vN, l5] (vN :: st) μ := rs_st rfl rfl
theorem s7_26 (l0 l1 l2 l3 l4 l5 : AV) (x : Nat) (st : List AV) (q : Nat × (Nat → Int)) (I A : M2) (L P : Nat → Nat → Option Nat) (F G : Nat → Nat → UInt32) (D : MD) : rs 7 26 [l0, l1, l2, l3, l4, l5] (vR 2 x :: st) (SX q, (I, A, L, P, F, G), D) = rs 7 29 [l0, l1, l2, l3, l4, l5] (vI (I 46 x) :: st) (SX q, (I, A, L, P, F, G), D) := rs_st rfl rfl
theorem s7_29 (l0 l1 l2 l3 l4 l5 : AV) (st : List AV) (μ : Mem) : rs 7 29 [l0, l1, l2, l3, l4, l5] st μ = rs 7 30 [l0, l1, l2, l3, l4, l5] (vI 1 :: st) μ := rs_st rfl rfl
theorem s7_30 (l0 l1 l2 l3 l4 l5 : AV) (x y : Int) (st : List AV) (μ : Mem) : rs 7 30 [l0, l1, l2, l3, l4, l5] (vI y :: vI x :: st) μ = if x = y then rs 7 33 [l0, l1, l2, l3, l4, l5] st μ else rs 7 71 [l0, l1, l2, l3, l4, l5] st μ := rs_ifn rfl (cnd_ne _ _) rfl rfl
theorem s7_33 (l0 l1 l2 l3 l5 : AV) (t x : Nat) (st : List AV) (μ : Mem) : rs 7 33 [l0, l1, l2, l3, vR t x, l5] st μ = rs 7 35 [l0, l1, l2, l3, vR t x, l5] (vR t x :: st) μ := rs_st rfl rfl
theorem s7_33n (l0 l1 l2 l3 l5 : AV) (st : List AV) (μ : Mem) : rs 7 33 [l0, l1, l2, l3, vN, l5] st μ = rs 7 35 [l0, l1, l2, l3, vN, l5] (vN :: st) μ := rs_st rfl rfl
theorem s7_35 (l0 l1 l2 l3 l4 l5 : AV) (x : Nat) (st : List AV) (q : Nat × (Nat → Int)) (I A : M2) (L P : Nat → Nat → Option Nat) (F G : Nat → Nat → UInt32) (D : MD) : rs 7 35 [l0, l1, l2, l3, l4, l5] (vR 2 x :: st) (SX q, (I, A, L, P, F, G), D) = rs 7 38 [l0, l1, l2, l3, l4, l5] (vI (I 45 x) :: st) (SX q, (I, A, L, P, F, G), D) := rs_st rfl rfl
theorem s7_38 (l1 l2 l3 l4 l5 : AV) (t x : Nat) (st : List AV) (μ : Mem) : rs 7 38 [vR t x, l1, l2, l3, l4, l5] st μ = rs 7 39 [vR t x, l1, l2, l3, l4, l5] (vR t x :: st) μ := rs_st rfl rfl
theorem s7_39 (l0 l1 l2 l3 l4 l5 : AV) (x : Nat) (st : List AV) (q : Nat × (Nat → Int)) (C : MC) (D : MD) : rs 7 39 [l0, l1, l2, l3, l4, l5] (vR 0 x :: st) (SX q, C, D) = rs 7 42 [l0, l1, l2, l3, l4, l5] (vR 4 (19 * x + 2 * (x / 5) + 5) :: st) (SX q, C, D) := rs_st rfl rfl
theorem s7_42 (l0 l1 l2 l3 l4 l5 : AV) (st : List AV) (μ : Mem) : rs 7 42 [l0, l1, l2, l3, l4, l5] st μ = rs 7 43 [l0, l1, l2, l3, l4, l5] (vI 2 :: st) μ := rs_st rfl rfl
theorem s7_43 (l0 l1 l2 l3 l4 l5 : AV) (z : Nat) (a0 : Int) (b0 : Int) (μ : Mem) : rs 7 43 [l0, l1, l2, l3, l4, l5] [vI a0, vR 4 z, vI b0] μ = (rs 402 0 [vR 4 z, vI a0] [] μ).bind (fun w => rs 7 46 [l0, l1, l2, l3, l4, l5] (pushR w.1 [vI b0]) w.2) := rs_ca rfl rfl rfl
theorem s7_46 (l0 l1 l2 l3 l4 l5 : AV) (x y : Int) (st : List AV) (μ : Mem) : rs 7 46 [l0, l1, l2, l3, l4, l5] (vI y :: vI x :: st) μ = rs 7 47 [l0, l1, l2, l3, l4, l5] (vI (w32 (x * y)) :: st) μ := rs_st rfl rfl
theorem s7_47 (l0 l1 l2 l3 l4 l5 : AV) (st : List AV) (μ : Mem) : rs 7 47 [l0, l1, l2, l3, l4, l5] st μ = rs 7 50 [l0, l1, l2, l3, l4, l5] (vI 1000 :: st) μ := rs_st rfl rfl
theorem s7_50 (l0 l1 l2 l3 l4 l5 : AV) (x y : Int) (st : List AV) (μ : Mem) : rs 7 50 [l0, l1, l2, l3, l4, l5] (vI y :: vI x :: st) μ = if y = 0 then none else rs 7 51 [l0, l1, l2, l3, l4, l5] (vI (w32 (Int.tdiv x y)) :: st) μ := rs_no rfl rfl
theorem s7_51 (l0 l1 l2 l3 l4 l5 : AV) (x : Int) (st : List AV) (μ : Mem) : rs 7 51 [l0, l1, l2, l3, l4, l5] (vI x :: st) μ = rs 7 53 [l0, l1, l2, l3, unJ l4, vI x] st μ := rs_st rfl rfl
theorem s7_53 (l0 l1 l2 l3 l4 : AV) (x : Int) (st : List AV) (μ : Mem) : rs 7 53 [l0, l1, l2, l3, l4, vI x] st μ = rs 7 55 [l0, l1, l2, l3, l4, vI x] (vI x :: st) μ := rs_st rfl rfl
theorem s7_55 (l0 l1 l2 l3 l4 l5 : AV) (x : Int) (st : List AV) (μ : Mem) : rs 7 55 [l0, l1, l2, l3, l4, l5] (vI x :: st) μ = if x ≤ 0 then rs 7 66 [l0, l1, l2, l3, l4, l5] st μ else rs 7 58 [l0, l1, l2, l3, l4, l5] st μ := rs_ifb rfl (cnd_le _ _) rfl rfl
theorem s7_58 (l0 l1 l2 l3 l5 : AV) (t x : Nat) (st : List AV) (μ : Mem) : rs 7 58 [l0, l1, l2, l3, vR t x, l5] st μ = rs 7 60 [l0, l1, l2, l3, vR t x, l5] (vR t x :: st) μ := rs_st rfl rfl
theorem s7_58n (l0 l1 l2 l3 l5 : AV) (st : List AV) (μ : Mem) : rs 7 58 [l0, l1, l2, l3, vN, l5] st μ = rs 7 60 [l0, l1, l2, l3, vN, l5] (vN :: st) μ := rs_st rfl rfl
theorem s7_60 (l0 l1 l2 l3 l4 : AV) (x : Int) (st : List AV) (μ : Mem) : rs 7 60 [l0, l1, l2, l3, l4, vI x] st μ = rs 7 62 [l0, l1, l2, l3, l4, vI x] (vI x :: st) μ := rs_st rfl rfl
theorem s7_62 (l0 l2 l3 l4 l5 : AV) (t x : Nat) (st : List AV) (μ : Mem) : rs 7 62 [l0, vR t x, l2, l3, l4, l5] st μ = rs 7 63 [l0, vR t x, l2, l3, l4, l5] (vR t x :: st) μ := rs_st rfl rfl
theorem s7_63 (l0 l1 l2 l3 l4 l5 : AV) (z : Nat) (a0 : Int) (a1 : Nat)  (μ : Mem) : rs 7 63 [l0, l1, l2, l3, l4, l5] [vR 7 a1, vI a0, vR 2 z] μ = (rs 206 0 [vR 2 z, vI a0, vR 7 a1] [] μ).bind (fun w => rs 7 66 [l0, l1, l2, l3, l4, l5] (pushR w.1 []) w.2) := rs_ca rfl rfl rfl
theorem s7_66 (l0 l1 l3 l4 l5 : AV) (x : Int) (st : List AV) (μ : Mem) : rs 7 66 [l0, l1, vI x, l3, l4, l5] st μ = rs 7 67 [l0, l1, vI x, l3, l4, l5] (vI x :: st) μ := rs_st rfl rfl
theorem s7_67 (l0 l1 l2 l3 l4 : AV) (x : Int) (st : List AV) (μ : Mem) : rs 7 67 [l0, l1, l2, l3, l4, vI x] st μ = rs 7 69 [l0, l1, l2, l3, l4, vI x] (vI x :: st) μ := rs_st rfl rfl
theorem s7_69 (l0 l1 l2 l3 l4 l5 : AV) (x y : Int) (st : List AV) (μ : Mem) : rs 7 69 [l0, l1, l2, l3, l4, l5] (vI y :: vI x :: st) μ = rs 7 70 [l0, l1, l2, l3, l4, l5] (vI (w32 (x + y)) :: st) μ := rs_st rfl rfl
theorem s7_70 (l0 l1 l2 l3 l4 l5 : AV) (x : Int) (st : List AV) (μ : Mem) : rs 7 70 [l0, l1, l2, l3, l4, l5] (vI x :: st) μ = rs 7 71 [l0, unJ l1, vI x, l3, l4, l5] st μ := rs_st rfl rfl
theorem s7_71 (l0 l1 l2 l4 l5 : AV) (x : Int) (st : List AV) (μ : Mem) : rs 7 71 [l0, l1, l2, vI x, l4, l5] st μ = rs 7 74 [l0, l1, unJ l2, vI (w32 (x + 1)), l4, l5] st μ := rs_st rfl rfl
theorem s7_74 (l0 l1 l2 l3 l4 l5 : AV) (st : List AV) (μ : Mem) : rs 7 74 [l0, l1, l2, l3, l4, l5] st μ = rs 7 4 [l0, l1, l2, l3, vU, vU] st μ := rs_st rfl rfl
theorem s7_77 (l0 l1 l3 l4 l5 : AV) (x : Int) (st : List AV) (μ : Mem) : rs 7 77 [l0, l1, vI x, l3, l4, l5] st μ = rs 7 78 [l0, l1, vI x, l3, l4, l5] (vI x :: st) μ := rs_st rfl rfl
theorem s7_78 (l0 l1 l2 l3 l4 l5 : AV) (x : Int) (μ : Mem) : rs 7 78 [l0, l1, l2, l3, l4, l5] [vI x] μ = some (vI x, μ) := rs_ret rfl
theorem s8_0 (l0 l1 l2 l3 l4 : AV) (st : List AV) (μ : Mem) : rs 8 0 [l0, l1, l2, l3, l4] st μ = rs 8 1 [l0, l1, l2, l3, l4] (vI 0 :: st) μ := rs_st rfl rfl
theorem s8_1 (l0 l1 l2 l3 l4 : AV) (x : Int) (st : List AV) (μ : Mem) : rs 8 1 [l0, l1, l2, l3, l4] (vI x :: st) μ = rs 8 2 [l0, unJ l1, vI x, l3, l4] st μ := rs_st rfl rfl
theorem s8_2 (l0 l1 l2 l3 l4 : AV) (st : List AV) (μ : Mem) : rs 8 2 [l0, l1, l2, l3, l4] st μ = rs 8 3 [l0, l1, l2, l3, l4] (vI 0 :: st) μ := rs_st rfl rfl
theorem s8_3 (l0 l1 l2 l3 l4 : AV) (x : Int) (st : List AV) (μ : Mem) : rs 8 3 [l0, l1, l2, l3, l4] (vI x :: st) μ = rs 8 4 [l0, l1, unJ l2, vI x, vU] st μ := rs_st rfl rfl
theorem s8_4 (l0 l1 l2 l4 : AV) (x : Int) (st : List AV) (μ : Mem) : rs 8 4 [l0, l1, l2, vI x, l4] st μ = rs 8 5 [l0, l1, l2, vI x, l4] (vI x :: st) μ := rs_st rfl rfl
theorem s8_5 (l1 l2 l3 l4 : AV) (t x : Nat) (st : List AV) (μ : Mem) : rs 8 5 [vR t x, l1, l2, l3, l4] st μ = rs 8 6 [vR t x, l1, l2, l3, l4] (vR t x :: st) μ := rs_st rfl rfl
theorem s8_6 (l0 l1 l2 l3 l4 : AV) (x : Nat) (st : List AV) (q : Nat × (Nat → Int)) (I A : M2) (L P : Nat → Nat → Option Nat) (F G : Nat → Nat → UInt32) (D : MD) : rs 8 6 [l0, l1, l2, l3, l4] (vR 0 x :: st) (SX q, (I, A, L, P, F, G), D) = rs 8 9 [l0, l1, l2, l3, l4] (vI (I 4 x) :: st) (SX q, (I, A, L, P, F, G), D) := rs_st rfl rfl
theorem s8_9 (l0 l1 l2 l3 l4 : AV) (x y : Int) (st : List AV) (μ : Mem) : rs 8 9 [l0, l1, l2, l3, l4] (vI y :: vI x :: st) μ = if y ≤ x then rs 8 42 [l0, l1, l2, l3, l4] st μ else rs 8 12 [l0, l1, l2, l3, l4] st μ := rs_ifb rfl (cnd_ge _ _) rfl rfl
theorem s8_12 (l1 l2 l3 l4 : AV) (t x : Nat) (st : List AV) (μ : Mem) : rs 8 12 [vR t x, l1, l2, l3, l4] st μ = rs 8 13 [vR t x, l1, l2, l3, l4] (vR t x :: st) μ := rs_st rfl rfl
theorem s8_13 (l0 l1 l2 l4 : AV) (x : Int) (st : List AV) (μ : Mem) : rs 8 13 [l0, l1, l2, vI x, l4] st μ = rs 8 14 [l0, l1, l2, vI x, l4] (vI x :: st) μ := rs_st rfl rfl
theorem s8_14 (l0 l1 l2 l3 l4 : AV) (z : Nat) (a0 : Int)  (μ : Mem) : rs 8 14 [l0, l1, l2, l3, l4] [vI a0, vR 0 z] μ = (rs 3 0 [vR 0 z, vI a0] [] μ).bind (fun w => rs 8 17 [l0, l1, l2, l3, l4] (pushR w.1 []) w.2) := rs_ca rfl rfl rfl
theorem s8_17 (l0 l1 l2 l3 l4 : AV) (t x : Nat) (st : List AV) (μ : Mem) : rs 8 17 [l0, l1, l2, l3, l4] (vR t x :: st) μ = rs 8 19 [l0, l1, l2, unJ l3, vR t x] st μ := rs_st rfl rfl
theorem s8_17n (l0 l1 l2 l3 l4 : AV) (st : List AV) (μ : Mem) : rs 8 17 [l0, l1, l2, l3, l4] (vN :: st) μ = rs 8 19 [l0, l1, l2, unJ l3, vN] st μ := rs_st rfl rfl
theorem s8_19 (l0 l1 l2 l3 : AV) (t x : Nat) (st : List AV) (μ : Mem) : rs 8 19 [l0, l1, l2, l3, vR t x] st μ = rs 8 21 [l0, l1, l2, l3, vR t x] (vR t x :: st) μ := rs_st rfl rfl
theorem s8_19n (l0 l1 l2 l3 : AV) (st : List AV) (μ : Mem) : rs 8 19 [l0, l1, l2, l3, vN] st μ = rs 8 21 [l0, l1, l2, l3, vN] (vN :: st) μ := rs_st rfl rfl
theorem s8_21n (l0 l1 l2 l3 l4 : AV) (st : List AV) (μ : Mem) : rs 8 21 [l0, l1, l2, l3, l4] (vN :: st) μ = rs 8 36 [l0, l1, l2, l3, l4] st μ := rs_st rfl rfl
theorem s8_21 (l0 l1 l2 l3 l4 : AV) (t x : Nat) (st : List AV) (μ : Mem) : rs 8 21 [l0, l1, l2, l3, l4] (vR t x :: st) μ = rs 8 24 [l0, l1, l2, l3, l4] st μ := rs_st rfl rfl
theorem s8_24 (l0 l1 l2 l3 : AV) (t x : Nat) (st : List AV) (μ : Mem) : rs 8 24 [l0, l1, l2, l3, vR t x] st μ = rs 8 26 [l0, l1, l2, l3, vR t x] (vR t x :: st) μ := rs_st rfl rfl
theorem s8_24n (l0 l1 l2 l3 : AV) (st : List AV) (μ : Mem) : rs 8 24 [l0, l1, l2, l3, vN] st μ = rs 8 26 [l0, l1, l2, l3, vN] (vN :: st) μ := rs_st rfl rfl
theorem s8_26 (l0 l1 l2 l3 l4 : AV) (x : Nat) (st : List AV) (q : Nat × (Nat → Int)) (I A : M2) (L P : Nat → Nat → Option Nat) (F G : Nat → Nat → UInt32) (D : MD) : rs 8 26 [l0, l1, l2, l3, l4] (vR 2 x :: st) (SX q, (I, A, L, P, F, G), D) = rs 8 29 [l0, l1, l2, l3, l4] (vI (I 46 x) :: st) (SX q, (I, A, L, P, F, G), D) := rs_st rfl rfl
theorem s8_29 (l0 l2 l3 l4 : AV) (x : Int) (st : List AV) (μ : Mem) : rs 8 29 [l0, vI x, l2, l3, l4] st μ = rs 8 30 [l0, vI x, l2, l3, l4] (vI x :: st) μ := rs_st rfl rfl
theorem s8_30 (l0 l1 l2 l3 l4 : AV) (x y : Int) (st : List AV) (μ : Mem) : rs 8 30 [l0, l1, l2, l3, l4] (vI y :: vI x :: st) μ = if x = y then rs 8 33 [l0, l1, l2, l3, l4] st μ else rs 8 36 [l0, l1, l2, l3, l4] st μ := rs_ifn rfl (cnd_ne _ _) rfl rfl
theorem s8_33 (l0 l1 l3 l4 : AV) (x : Int) (st : List AV) (μ : Mem) : rs 8 33 [l0, l1, vI x, l3, l4] st μ = rs 8 36 [l0, unJ l1, vI (w32 (x + 1)), l3, l4] st μ := rs_st rfl rfl
theorem s8_36 (l0 l1 l2 l4 : AV) (x : Int) (st : List AV) (μ : Mem) : rs 8 36 [l0, l1, l2, vI x, l4] st μ = rs 8 39 [l0, l1, unJ l2, vI (w32 (x + 1)), l4] st μ := rs_st rfl rfl
theorem s8_39 (l0 l1 l2 l3 l4 : AV) (st : List AV) (μ : Mem) : rs 8 39 [l0, l1, l2, l3, l4] st μ = rs 8 4 [l0, l1, l2, l3, vU] st μ := rs_st rfl rfl
theorem s8_42 (l0 l1 l3 l4 : AV) (x : Int) (st : List AV) (μ : Mem) : rs 8 42 [l0, l1, vI x, l3, l4] st μ = rs 8 43 [l0, l1, vI x, l3, l4] (vI x :: st) μ := rs_st rfl rfl
theorem s8_43 (l0 l1 l2 l3 l4 : AV) (x : Int) (μ : Mem) : rs 8 43 [l0, l1, l2, l3, l4] [vI x] μ = some (vI x, μ) := rs_ret rfl
theorem s9_0 (l0 l1 l2 l3 : AV) (st : List AV) (μ : Mem) : rs 9 0 [l0, l1, l2, l3] st μ = rs 9 1 [l0, l1, l2, l3] (vI 0 :: st) μ := rs_st rfl rfl
theorem s9_1 (l0 l1 l2 l3 : AV) (x : Int) (st : List AV) (μ : Mem) : rs 9 1 [l0, l1, l2, l3] (vI x :: st) μ = rs 9 2 [unJ l0, vI x, l2, l3] st μ := rs_st rfl rfl
theorem s9_2 (l0 l1 l2 l3 : AV) (st : List AV) (μ : Mem) : rs 9 2 [l0, l1, l2, l3] st μ = rs 9 3 [l0, l1, l2, l3] (vI 0 :: st) μ := rs_st rfl rfl
theorem s9_3 (l0 l1 l2 l3 : AV) (x : Int) (st : List AV) (μ : Mem) : rs 9 3 [l0, l1, l2, l3] (vI x :: st) μ = rs 9 4 [l0, unJ l1, vI x, vU] st μ := rs_st rfl rfl
theorem s9_4 (l0 l1 l3 : AV) (x : Int) (st : List AV) (μ : Mem) : rs 9 4 [l0, l1, vI x, l3] st μ = rs 9 5 [l0, l1, vI x, l3] (vI x :: st) μ := rs_st rfl rfl
theorem s9_5 (l1 l2 l3 : AV) (t x : Nat) (st : List AV) (μ : Mem) : rs 9 5 [vR t x, l1, l2, l3] st μ = rs 9 6 [vR t x, l1, l2, l3] (vR t x :: st) μ := rs_st rfl rfl
theorem s9_6 (l0 l1 l2 l3 : AV) (x : Nat) (st : List AV) (q : Nat × (Nat → Int)) (I A : M2) (L P : Nat → Nat → Option Nat) (F G : Nat → Nat → UInt32) (D : MD) : rs 9 6 [l0, l1, l2, l3] (vR 0 x :: st) (SX q, (I, A, L, P, F, G), D) = rs 9 9 [l0, l1, l2, l3] (vI (I 4 x) :: st) (SX q, (I, A, L, P, F, G), D) := rs_st rfl rfl
theorem s9_9 (l0 l1 l2 l3 : AV) (x y : Int) (st : List AV) (μ : Mem) : rs 9 9 [l0, l1, l2, l3] (vI y :: vI x :: st) μ = if y ≤ x then rs 9 38 [l0, l1, l2, l3] st μ else rs 9 12 [l0, l1, l2, l3] st μ := rs_ifb rfl (cnd_ge _ _) rfl rfl
theorem s9_12 (l1 l2 l3 : AV) (t x : Nat) (st : List AV) (μ : Mem) : rs 9 12 [vR t x, l1, l2, l3] st μ = rs 9 13 [vR t x, l1, l2, l3] (vR t x :: st) μ := rs_st rfl rfl
theorem s9_13 (l0 l1 l3 : AV) (x : Int) (st : List AV) (μ : Mem) : rs 9 13 [l0, l1, vI x, l3] st μ = rs 9 14 [l0, l1, vI x, l3] (vI x :: st) μ := rs_st rfl rfl
theorem s9_14 (l0 l1 l2 l3 : AV) (z : Nat) (a0 : Int)  (μ : Mem) : rs 9 14 [l0, l1, l2, l3] [vI a0, vR 0 z] μ = (rs 3 0 [vR 0 z, vI a0] [] μ).bind (fun w => rs 9 17 [l0, l1, l2, l3] (pushR w.1 []) w.2) := rs_ca rfl rfl rfl
theorem s9_17 (l0 l1 l2 l3 : AV) (t x : Nat) (st : List AV) (μ : Mem) : rs 9 17 [l0, l1, l2, l3] (vR t x :: st) μ = rs 9 18 [l0, l1, unJ l2, vR t x] st μ := rs_st rfl rfl
theorem s9_17n (l0 l1 l2 l3 : AV) (st : List AV) (μ : Mem) : rs 9 17 [l0, l1, l2, l3] (vN :: st) μ = rs 9 18 [l0, l1, unJ l2, vN] st μ := rs_st rfl rfl
theorem s9_18 (l0 l1 l2 : AV) (t x : Nat) (st : List AV) (μ : Mem) : rs 9 18 [l0, l1, l2, vR t x] st μ = rs 9 19 [l0, l1, l2, vR t x] (vR t x :: st) μ := rs_st rfl rfl
theorem s9_18n (l0 l1 l2 : AV) (st : List AV) (μ : Mem) : rs 9 18 [l0, l1, l2, vN] st μ = rs 9 19 [l0, l1, l2, vN] (vN :: st) μ := rs_st rfl rfl
theorem s9_19n (l0 l1 l2 l3 : AV) (st : List AV) (μ : Mem) : rs 9 19 [l0, l1, l2, l3] (vN :: st) μ = rs 9 32 [l0, l1, l2, l3] st μ := rs_st rfl rfl
theorem s9_19 (l0 l1 l2 l3 : AV) (t x : Nat) (st : List AV) (μ : Mem) : rs 9 19 [l0, l1, l2, l3] (vR t x :: st) μ = rs 9 22 [l0, l1, l2, l3] st μ := rs_st rfl rfl
theorem s9_22 (l0 l1 l2 : AV) (t x : Nat) (st : List AV) (μ : Mem) : rs 9 22 [l0, l1, l2, vR t x] st μ = rs 9 23 [l0, l1, l2, vR t x] (vR t x :: st) μ := rs_st rfl rfl
theorem s9_22n (l0 l1 l2 : AV) (st : List AV) (μ : Mem) : rs 9 22 [l0, l1, l2, vN] st μ = rs 9 23 [l0, l1, l2, vN] (vN :: st) μ := rs_st rfl rfl
theorem s9_23 (l0 l1 l2 l3 : AV) (x : Nat) (st : List AV) (q : Nat × (Nat → Int)) (I A : M2) (L P : Nat → Nat → Option Nat) (F G : Nat → Nat → UInt32) (D : MD) : rs 9 23 [l0, l1, l2, l3] (vR 2 x :: st) (SX q, (I, A, L, P, F, G), D) = rs 9 26 [l0, l1, l2, l3] (vI (I 50 x) :: st) (SX q, (I, A, L, P, F, G), D) := rs_st rfl rfl
theorem s9_26 (l0 l1 l2 l3 : AV) (x : Int) (st : List AV) (μ : Mem) : rs 9 26 [l0, l1, l2, l3] (vI x :: st) μ = if x ≤ 0 then rs 9 32 [l0, l1, l2, l3] st μ else rs 9 29 [l0, l1, l2, l3] st μ := rs_ifb rfl (cnd_le _ _) rfl rfl
theorem s9_29 (l0 l2 l3 : AV) (x : Int) (st : List AV) (μ : Mem) : rs 9 29 [l0, vI x, l2, l3] st μ = rs 9 32 [unJ l0, vI (w32 (x + 1)), l2, l3] st μ := rs_st rfl rfl
theorem s9_32 (l0 l1 l3 : AV) (x : Int) (st : List AV) (μ : Mem) : rs 9 32 [l0, l1, vI x, l3] st μ = rs 9 35 [l0, unJ l1, vI (w32 (x + 1)), l3] st μ := rs_st rfl rfl
theorem s9_35 (l0 l1 l2 l3 : AV) (st : List AV) (μ : Mem) : rs 9 35 [l0, l1, l2, l3] st μ = rs 9 4 [l0, l1, l2, vU] st μ := rs_st rfl rfl
theorem s9_38 (l0 l2 l3 : AV) (x : Int) (st : List AV) (μ : Mem) : rs 9 38 [l0, vI x, l2, l3] st μ = rs 9 39 [l0, vI x, l2, l3] (vI x :: st) μ := rs_st rfl rfl
theorem s9_39 (l0 l1 l2 l3 : AV) (x : Int) (μ : Mem) : rs 9 39 [l0, l1, l2, l3] [vI x] μ = some (vI x, μ) := rs_ret rfl
theorem s10_0 (l0 l1 l2 l3 : AV) (st : List AV) (μ : Mem) : rs 10 0 [l0, l1, l2, l3] st μ = rs 10 1 [l0, l1, l2, l3] (vI 0 :: st) μ := rs_st rfl rfl
theorem s10_1 (l0 l1 l2 l3 : AV) (x : Int) (st : List AV) (μ : Mem) : rs 10 1 [l0, l1, l2, l3] (vI x :: st) μ = rs 10 2 [unJ l0, vI x, l2, l3] st μ := rs_st rfl rfl
theorem s10_2 (l0 l1 l2 l3 : AV) (st : List AV) (μ : Mem) : rs 10 2 [l0, l1, l2, l3] st μ = rs 10 3 [l0, l1, l2, l3] (vI 0 :: st) μ := rs_st rfl rfl
theorem s10_3 (l0 l1 l2 l3 : AV) (x : Int) (st : List AV) (μ : Mem) : rs 10 3 [l0, l1, l2, l3] (vI x :: st) μ = rs 10 4 [l0, unJ l1, vI x, vU] st μ := rs_st rfl rfl
theorem s10_4 (l0 l1 l3 : AV) (x : Int) (st : List AV) (μ : Mem) : rs 10 4 [l0, l1, vI x, l3] st μ = rs 10 5 [l0, l1, vI x, l3] (vI x :: st) μ := rs_st rfl rfl
theorem s10_5 (l1 l2 l3 : AV) (t x : Nat) (st : List AV) (μ : Mem) : rs 10 5 [vR t x, l1, l2, l3] st μ = rs 10 6 [vR t x, l1, l2, l3] (vR t x :: st) μ := rs_st rfl rfl
theorem s10_6 (l0 l1 l2 l3 : AV) (x : Nat) (st : List AV) (q : Nat × (Nat → Int)) (I A : M2) (L P : Nat → Nat → Option Nat) (F G : Nat → Nat → UInt32) (D : MD) : rs 10 6 [l0, l1, l2, l3] (vR 0 x :: st) (SX q, (I, A, L, P, F, G), D) = rs 10 9 [l0, l1, l2, l3] (vI (I 4 x) :: st) (SX q, (I, A, L, P, F, G), D) := rs_st rfl rfl
theorem s10_9 (l0 l1 l2 l3 : AV) (x y : Int) (st : List AV) (μ : Mem) : rs 10 9 [l0, l1, l2, l3] (vI y :: vI x :: st) μ = if y ≤ x then rs 10 38 [l0, l1, l2, l3] st μ else rs 10 12 [l0, l1, l2, l3] st μ := rs_ifb rfl (cnd_ge _ _) rfl rfl
theorem s10_12 (l1 l2 l3 : AV) (t x : Nat) (st : List AV) (μ : Mem) : rs 10 12 [vR t x, l1, l2, l3] st μ = rs 10 13 [vR t x, l1, l2, l3] (vR t x :: st) μ := rs_st rfl rfl
theorem s10_13 (l0 l1 l3 : AV) (x : Int) (st : List AV) (μ : Mem) : rs 10 13 [l0, l1, vI x, l3] st μ = rs 10 14 [l0, l1, vI x, l3] (vI x :: st) μ := rs_st rfl rfl
theorem s10_14 (l0 l1 l2 l3 : AV) (z : Nat) (a0 : Int)  (μ : Mem) : rs 10 14 [l0, l1, l2, l3] [vI a0, vR 0 z] μ = (rs 3 0 [vR 0 z, vI a0] [] μ).bind (fun w => rs 10 17 [l0, l1, l2, l3] (pushR w.1 []) w.2) := rs_ca rfl rfl rfl
theorem s10_17 (l0 l1 l2 l3 : AV) (t x : Nat) (st : List AV) (μ : Mem) : rs 10 17 [l0, l1, l2, l3] (vR t x :: st) μ = rs 10 18 [l0, l1, unJ l2, vR t x] st μ := rs_st rfl rfl
theorem s10_17n (l0 l1 l2 l3 : AV) (st : List AV) (μ : Mem) : rs 10 17 [l0, l1, l2, l3] (vN :: st) μ = rs 10 18 [l0, l1, unJ l2, vN] st μ := rs_st rfl rfl
theorem s10_18 (l0 l1 l2 : AV) (t x : Nat) (st : List AV) (μ : Mem) : rs 10 18 [l0, l1, l2, vR t x] st μ = rs 10 19 [l0, l1, l2, vR t x] (vR t x :: st) μ := rs_st rfl rfl
theorem s10_18n (l0 l1 l2 : AV) (st : List AV) (μ : Mem) : rs 10 18 [l0, l1, l2, vN] st μ = rs 10 19 [l0, l1, l2, vN] (vN :: st) μ := rs_st rfl rfl
theorem s10_19n (l0 l1 l2 l3 : AV) (st : List AV) (μ : Mem) : rs 10 19 [l0, l1, l2, l3] (vN :: st) μ = rs 10 32 [l0, l1, l2, l3] st μ := rs_st rfl rfl
theorem s10_19 (l0 l1 l2 l3 : AV) (t x : Nat) (st : List AV) (μ : Mem) : rs 10 19 [l0, l1, l2, l3] (vR t x :: st) μ = rs 10 22 [l0, l1, l2, l3] st μ := rs_st rfl rfl
theorem s10_22 (l0 l1 l2 : AV) (t x : Nat) (st : List AV) (μ : Mem) : rs 10 22 [l0, l1, l2, vR t x] st μ = rs 10 23 [l0, l1, l2, vR t x] (vR t x :: st) μ := rs_st rfl rfl
theorem s10_22n (l0 l1 l2 : AV) (st : List AV) (μ : Mem) : rs 10 22 [l0, l1, l2, vN] st μ = rs 10 23 [l0, l1, l2, vN] (vN :: st) μ := rs_st rfl rfl
theorem s10_23 (l0 l1 l2 l3 : AV) (z : Nat)  (μ : Mem) : rs 10 23 [l0, l1, l2, l3] [vR 2 z] μ = (rs 212 0 [vR 2 z, vU, vU] [] μ).bind (fun w => rs 10 26 [l0, l1, l2, l3] (pushR w.1 []) w.2) := rs_ca rfl rfl rfl
theorem s10_26 (l0 l1 l2 l3 : AV) (x : Int) (st : List AV) (μ : Mem) : rs 10 26 [l0, l1, l2, l3] (vI x :: st) μ = if x ≤ 0 then rs 10 32 [l0, l1, l2, l3] st μ else rs 10 29 [l0, l1, l2, l3] st μ := rs_ifb rfl (cnd_le _ _) rfl rfl
theorem s10_29 (l0 l2 l3 : AV) (x : Int) (st : List AV) (μ : Mem) : rs 10 29 [l0, vI x, l2, l3] st μ = rs 10 32 [unJ l0, vI (w32 (x + 1)), l2, l3] st μ := rs_st rfl rfl
theorem s10_32 (l0 l1 l3 : AV) (x : Int) (st : List AV) (μ : Mem) : rs 10 32 [l0, l1, vI x, l3] st μ = rs 10 35 [l0, unJ l1, vI (w32 (x + 1)), l3] st μ := rs_st rfl rfl
theorem s10_35 (l0 l1 l2 l3 : AV) (st : List AV) (μ : Mem) : rs 10 35 [l0, l1, l2, l3] st μ = rs 10 4 [l0, l1, l2, vU] st μ := rs_st rfl rfl
theorem s10_38 (l0 l2 l3 : AV) (x : Int) (st : List AV) (μ : Mem) : rs 10 38 [l0, vI x, l2, l3] st μ = rs 10 39 [l0, vI x, l2, l3] (vI x :: st) μ := rs_st rfl rfl
theorem s10_39 (l0 l1 l2 l3 : AV) (x : Int) (μ : Mem) : rs 10 39 [l0, l1, l2, l3] [vI x] μ = some (vI x, μ) := rs_ret rfl
theorem s11_0 (l0 l1 l2 l3 : AV) (st : List AV) (μ : Mem) : rs 11 0 [l0, l1, l2, l3] st μ = rs 11 1 [l0, l1, l2, l3] (vI 0 :: st) μ := rs_st rfl rfl
theorem s11_1 (l0 l1 l2 l3 : AV) (x : Int) (st : List AV) (μ : Mem) : rs 11 1 [l0, l1, l2, l3] (vI x :: st) μ = rs 11 2 [unJ l0, vI x, l2, l3] st μ := rs_st rfl rfl
theorem s11_2 (l0 l1 l2 l3 : AV) (st : List AV) (μ : Mem) : rs 11 2 [l0, l1, l2, l3] st μ = rs 11 3 [l0, l1, l2, l3] (vI 0 :: st) μ := rs_st rfl rfl
theorem s11_3 (l0 l1 l2 l3 : AV) (x : Int) (st : List AV) (μ : Mem) : rs 11 3 [l0, l1, l2, l3] (vI x :: st) μ = rs 11 4 [l0, unJ l1, vI x, vU] st μ := rs_st rfl rfl
theorem s11_4 (l0 l1 l3 : AV) (x : Int) (st : List AV) (μ : Mem) : rs 11 4 [l0, l1, vI x, l3] st μ = rs 11 5 [l0, l1, vI x, l3] (vI x :: st) μ := rs_st rfl rfl
theorem s11_5 (l1 l2 l3 : AV) (t x : Nat) (st : List AV) (μ : Mem) : rs 11 5 [vR t x, l1, l2, l3] st μ = rs 11 6 [vR t x, l1, l2, l3] (vR t x :: st) μ := rs_st rfl rfl
theorem s11_6 (l0 l1 l2 l3 : AV) (x : Nat) (st : List AV) (q : Nat × (Nat → Int)) (I A : M2) (L P : Nat → Nat → Option Nat) (F G : Nat → Nat → UInt32) (D : MD) : rs 11 6 [l0, l1, l2, l3] (vR 0 x :: st) (SX q, (I, A, L, P, F, G), D) = rs 11 9 [l0, l1, l2, l3] (vI (I 4 x) :: st) (SX q, (I, A, L, P, F, G), D) := rs_st rfl rfl
theorem s11_9 (l0 l1 l2 l3 : AV) (x y : Int) (st : List AV) (μ : Mem) : rs 11 9 [l0, l1, l2, l3] (vI y :: vI x :: st) μ = if y ≤ x then rs 11 35 [l0, l1, l2, l3] st μ else rs 11 12 [l0, l1, l2, l3] st μ := rs_ifb rfl (cnd_ge _ _) rfl rfl
theorem s11_12 (l1 l2 l3 : AV) (t x : Nat) (st : List AV) (μ : Mem) : rs 11 12 [vR t x, l1, l2, l3] st μ = rs 11 13 [vR t x, l1, l2, l3] (vR t x :: st) μ := rs_st rfl rfl
theorem s11_13 (l0 l1 l3 : AV) (x : Int) (st : List AV) (μ : Mem) : rs 11 13 [l0, l1, vI x, l3] st μ = rs 11 14 [l0, l1, vI x, l3] (vI x :: st) μ := rs_st rfl rfl
theorem s11_14 (l0 l1 l2 l3 : AV) (z : Nat) (a0 : Int)  (μ : Mem) : rs 11 14 [l0, l1, l2, l3] [vI a0, vR 0 z] μ = (rs 3 0 [vR 0 z, vI a0] [] μ).bind (fun w => rs 11 17 [l0, l1, l2, l3] (pushR w.1 []) w.2) := rs_ca rfl rfl rfl
theorem s11_17 (l0 l1 l2 l3 : AV) (t x : Nat) (st : List AV) (μ : Mem) : rs 11 17 [l0, l1, l2, l3] (vR t x :: st) μ = rs 11 18 [l0, l1, unJ l2, vR t x] st μ := rs_st rfl rfl
theorem s11_17n (l0 l1 l2 l3 : AV) (st : List AV) (μ : Mem) : rs 11 17 [l0, l1, l2, l3] (vN :: st) μ = rs 11 18 [l0, l1, unJ l2, vN] st μ := rs_st rfl rfl
theorem s11_18 (l0 l1 l2 : AV) (t x : Nat) (st : List AV) (μ : Mem) : rs 11 18 [l0, l1, l2, vR t x] st μ = rs 11 19 [l0, l1, l2, vR t x] (vR t x :: st) μ := rs_st rfl rfl
theorem s11_18n (l0 l1 l2 : AV) (st : List AV) (μ : Mem) : rs 11 18 [l0, l1, l2, vN] st μ = rs 11 19 [l0, l1, l2, vN] (vN :: st) μ := rs_st rfl rfl
theorem s11_19n (l0 l1 l2 l3 : AV) (st : List AV) (μ : Mem) : rs 11 19 [l0, l1, l2, l3] (vN :: st) μ = rs 11 29 [l0, l1, l2, l3] st μ := rs_st rfl rfl
theorem s11_19 (l0 l1 l2 l3 : AV) (t x : Nat) (st : List AV) (μ : Mem) : rs 11 19 [l0, l1, l2, l3] (vR t x :: st) μ = rs 11 22 [l0, l1, l2, l3] st μ := rs_st rfl rfl
theorem s11_22 (l0 l2 l3 : AV) (x : Int) (st : List AV) (μ : Mem) : rs 11 22 [l0, vI x, l2, l3] st μ = rs 11 23 [l0, vI x, l2, l3] (vI x :: st) μ := rs_st rfl rfl
theorem s11_23 (l0 l1 l2 : AV) (t x : Nat) (st : List AV) (μ : Mem) : rs 11 23 [l0, l1, l2, vR t x] st μ = rs 11 24 [l0, l1, l2, vR t x] (vR t x :: st) μ := rs_st rfl rfl
theorem s11_23n (l0 l1 l2 : AV) (st : List AV) (μ : Mem) : rs 11 23 [l0, l1, l2, vN] st μ = rs 11 24 [l0, l1, l2, vN] (vN :: st) μ := rs_st rfl rfl
theorem s11_24 (l0 l1 l2 l3 : AV) (x : Nat) (st : List AV) (q : Nat × (Nat → Int)) (I A : M2) (L P : Nat → Nat → Option Nat) (F G : Nat → Nat → UInt32) (D : MD) : rs 11 24 [l0, l1, l2, l3] (vR 2 x :: st) (SX q, (I, A, L, P, F, G), D) = rs 11 27 [l0, l1, l2, l3] (vI (I 44 x) :: st) (SX q, (I, A, L, P, F, G), D) := rs_st rfl rfl
theorem s11_27 (l0 l1 l2 l3 : AV) (x y : Int) (st : List AV) (μ : Mem) : rs 11 27 [l0, l1, l2, l3] (vI y :: vI x :: st) μ = rs 11 28 [l0, l1, l2, l3] (vI (w32 (x + y)) :: st) μ := rs_st rfl rfl
theorem s11_28 (l0 l1 l2 l3 : AV) (x : Int) (st : List AV) (μ : Mem) : rs 11 28 [l0, l1, l2, l3] (vI x :: st) μ = rs 11 29 [unJ l0, vI x, l2, l3] st μ := rs_st rfl rfl
theorem s11_29 (l0 l1 l3 : AV) (x : Int) (st : List AV) (μ : Mem) : rs 11 29 [l0, l1, vI x, l3] st μ = rs 11 32 [l0, unJ l1, vI (w32 (x + 1)), l3] st μ := rs_st rfl rfl
theorem s11_32 (l0 l1 l2 l3 : AV) (st : List AV) (μ : Mem) : rs 11 32 [l0, l1, l2, l3] st μ = rs 11 4 [l0, l1, l2, vU] st μ := rs_st rfl rfl
theorem s11_35 (l0 l2 l3 : AV) (x : Int) (st : List AV) (μ : Mem) : rs 11 35 [l0, vI x, l2, l3] st μ = rs 11 36 [l0, vI x, l2, l3] (vI x :: st) μ := rs_st rfl rfl
theorem s11_36 (l0 l1 l2 l3 : AV) (x : Int) (μ : Mem) : rs 11 36 [l0, l1, l2, l3] [vI x] μ = some (vI x, μ) := rs_ret rfl
theorem s12_0 (l0 l1 l2 l3 : AV) (st : List AV) (μ : Mem) : rs 12 0 [l0, l1, l2, l3] st μ = rs 12 1 [l0, l1, l2, l3] (vI 0 :: st) μ := rs_st rfl rfl
theorem s12_1 (l0 l1 l2 l3 : AV) (x : Int) (st : List AV) (μ : Mem) : rs 12 1 [l0, l1, l2, l3] (vI x :: st) μ = rs 12 2 [unJ l0, vI x, l2, l3] st μ := rs_st rfl rfl
theorem s12_2 (l0 l1 l2 l3 : AV) (st : List AV) (μ : Mem) : rs 12 2 [l0, l1, l2, l3] st μ = rs 12 3 [l0, l1, l2, l3] (vI 0 :: st) μ := rs_st rfl rfl
theorem s12_3 (l0 l1 l2 l3 : AV) (x : Int) (st : List AV) (μ : Mem) : rs 12 3 [l0, l1, l2, l3] (vI x :: st) μ = rs 12 4 [l0, unJ l1, vI x, vU] st μ := rs_st rfl rfl
theorem s12_4 (l0 l1 l3 : AV) (x : Int) (st : List AV) (μ : Mem) : rs 12 4 [l0, l1, vI x, l3] st μ = rs 12 5 [l0, l1, vI x, l3] (vI x :: st) μ := rs_st rfl rfl
theorem s12_5 (l1 l2 l3 : AV) (t x : Nat) (st : List AV) (μ : Mem) : rs 12 5 [vR t x, l1, l2, l3] st μ = rs 12 6 [vR t x, l1, l2, l3] (vR t x :: st) μ := rs_st rfl rfl
theorem s12_6 (l0 l1 l2 l3 : AV) (x : Nat) (st : List AV) (q : Nat × (Nat → Int)) (I A : M2) (L P : Nat → Nat → Option Nat) (F G : Nat → Nat → UInt32) (D : MD) : rs 12 6 [l0, l1, l2, l3] (vR 0 x :: st) (SX q, (I, A, L, P, F, G), D) = rs 12 9 [l0, l1, l2, l3] (vI (I 4 x) :: st) (SX q, (I, A, L, P, F, G), D) := rs_st rfl rfl
theorem s12_9 (l0 l1 l2 l3 : AV) (x y : Int) (st : List AV) (μ : Mem) : rs 12 9 [l0, l1, l2, l3] (vI y :: vI x :: st) μ = if y ≤ x then rs 12 35 [l0, l1, l2, l3] st μ else rs 12 12 [l0, l1, l2, l3] st μ := rs_ifb rfl (cnd_ge _ _) rfl rfl
theorem s12_12 (l1 l2 l3 : AV) (t x : Nat) (st : List AV) (μ : Mem) : rs 12 12 [vR t x, l1, l2, l3] st μ = rs 12 13 [vR t x, l1, l2, l3] (vR t x :: st) μ := rs_st rfl rfl
theorem s12_13 (l0 l1 l3 : AV) (x : Int) (st : List AV) (μ : Mem) : rs 12 13 [l0, l1, vI x, l3] st μ = rs 12 14 [l0, l1, vI x, l3] (vI x :: st) μ := rs_st rfl rfl
theorem s12_14 (l0 l1 l2 l3 : AV) (z : Nat) (a0 : Int)  (μ : Mem) : rs 12 14 [l0, l1, l2, l3] [vI a0, vR 0 z] μ = (rs 3 0 [vR 0 z, vI a0] [] μ).bind (fun w => rs 12 17 [l0, l1, l2, l3] (pushR w.1 []) w.2) := rs_ca rfl rfl rfl
theorem s12_17 (l0 l1 l2 l3 : AV) (t x : Nat) (st : List AV) (μ : Mem) : rs 12 17 [l0, l1, l2, l3] (vR t x :: st) μ = rs 12 18 [l0, l1, unJ l2, vR t x] st μ := rs_st rfl rfl
theorem s12_17n (l0 l1 l2 l3 : AV) (st : List AV) (μ : Mem) : rs 12 17 [l0, l1, l2, l3] (vN :: st) μ = rs 12 18 [l0, l1, unJ l2, vN] st μ := rs_st rfl rfl
theorem s12_18 (l0 l1 l2 : AV) (t x : Nat) (st : List AV) (μ : Mem) : rs 12 18 [l0, l1, l2, vR t x] st μ = rs 12 19 [l0, l1, l2, vR t x] (vR t x :: st) μ := rs_st rfl rfl
theorem s12_18n (l0 l1 l2 : AV) (st : List AV) (μ : Mem) : rs 12 18 [l0, l1, l2, vN] st μ = rs 12 19 [l0, l1, l2, vN] (vN :: st) μ := rs_st rfl rfl
theorem s12_19n (l0 l1 l2 l3 : AV) (st : List AV) (μ : Mem) : rs 12 19 [l0, l1, l2, l3] (vN :: st) μ = rs 12 29 [l0, l1, l2, l3] st μ := rs_st rfl rfl
theorem s12_19 (l0 l1 l2 l3 : AV) (t x : Nat) (st : List AV) (μ : Mem) : rs 12 19 [l0, l1, l2, l3] (vR t x :: st) μ = rs 12 22 [l0, l1, l2, l3] st μ := rs_st rfl rfl
theorem s12_22 (l0 l2 l3 : AV) (x : Int) (st : List AV) (μ : Mem) : rs 12 22 [l0, vI x, l2, l3] st μ = rs 12 23 [l0, vI x, l2, l3] (vI x :: st) μ := rs_st rfl rfl
theorem s12_23 (l0 l1 l2 : AV) (t x : Nat) (st : List AV) (μ : Mem) : rs 12 23 [l0, l1, l2, vR t x] st μ = rs 12 24 [l0, l1, l2, vR t x] (vR t x :: st) μ := rs_st rfl rfl
theorem s12_23n (l0 l1 l2 : AV) (st : List AV) (μ : Mem) : rs 12 23 [l0, l1, l2, vN] st μ = rs 12 24 [l0, l1, l2, vN] (vN :: st) μ := rs_st rfl rfl
theorem s12_24 (l0 l1 l2 l3 : AV) (x : Nat) (st : List AV) (q : Nat × (Nat → Int)) (I A : M2) (L P : Nat → Nat → Option Nat) (F G : Nat → Nat → UInt32) (D : MD) : rs 12 24 [l0, l1, l2, l3] (vR 2 x :: st) (SX q, (I, A, L, P, F, G), D) = rs 12 27 [l0, l1, l2, l3] (vI (I 45 x) :: st) (SX q, (I, A, L, P, F, G), D) := rs_st rfl rfl
theorem s12_27 (l0 l1 l2 l3 : AV) (x y : Int) (st : List AV) (μ : Mem) : rs 12 27 [l0, l1, l2, l3] (vI y :: vI x :: st) μ = rs 12 28 [l0, l1, l2, l3] (vI (w32 (x + y)) :: st) μ := rs_st rfl rfl
theorem s12_28 (l0 l1 l2 l3 : AV) (x : Int) (st : List AV) (μ : Mem) : rs 12 28 [l0, l1, l2, l3] (vI x :: st) μ = rs 12 29 [unJ l0, vI x, l2, l3] st μ := rs_st rfl rfl
theorem s12_29 (l0 l1 l3 : AV) (x : Int) (st : List AV) (μ : Mem) : rs 12 29 [l0, l1, vI x, l3] st μ = rs 12 32 [l0, unJ l1, vI (w32 (x + 1)), l3] st μ := rs_st rfl rfl
theorem s12_32 (l0 l1 l2 l3 : AV) (st : List AV) (μ : Mem) : rs 12 32 [l0, l1, l2, l3] st μ = rs 12 4 [l0, l1, l2, vU] st μ := rs_st rfl rfl
theorem s12_35 (l0 l2 l3 : AV) (x : Int) (st : List AV) (μ : Mem) : rs 12 35 [l0, vI x, l2, l3] st μ = rs 12 36 [l0, vI x, l2, l3] (vI x :: st) μ := rs_st rfl rfl
theorem s12_36 (l0 l1 l2 l3 : AV) (x : Int) (μ : Mem) : rs 12 36 [l0, l1, l2, l3] [vI x] μ = some (vI x, μ) := rs_ret rfl
theorem s13_0 (l0 l1 l2 l3 : AV) (st : List AV) (μ : Mem) : rs 13 0 [l0, l1, l2, l3] st μ = rs 13 1 [l0, l1, l2, l3] (vI 0 :: st) μ := rs_st rfl rfl
theorem s13_1 (l0 l1 l2 l3 : AV) (x : Int) (st : List AV) (μ : Mem) : rs 13 1 [l0, l1, l2, l3] (vI x :: st) μ = rs 13 2 [unJ l0, vI x, l2, l3] st μ := rs_st rfl rfl
theorem s13_2 (l0 l1 l2 l3 : AV) (st : List AV) (μ : Mem) : rs 13 2 [l0, l1, l2, l3] st μ = rs 13 3 [l0, l1, l2, l3] (vI 0 :: st) μ := rs_st rfl rfl
theorem s13_3 (l0 l1 l2 l3 : AV) (x : Int) (st : List AV) (μ : Mem) : rs 13 3 [l0, l1, l2, l3] (vI x :: st) μ = rs 13 4 [l0, unJ l1, vI x, vU] st μ := rs_st rfl rfl
theorem s13_4 (l0 l1 l3 : AV) (x : Int) (st : List AV) (μ : Mem) : rs 13 4 [l0, l1, vI x, l3] st μ = rs 13 5 [l0, l1, vI x, l3] (vI x :: st) μ := rs_st rfl rfl
theorem s13_5 (l1 l2 l3 : AV) (t x : Nat) (st : List AV) (μ : Mem) : rs 13 5 [vR t x, l1, l2, l3] st μ = rs 13 6 [vR t x, l1, l2, l3] (vR t x :: st) μ := rs_st rfl rfl
theorem s13_6 (l0 l1 l2 l3 : AV) (x : Nat) (st : List AV) (q : Nat × (Nat → Int)) (I A : M2) (L P : Nat → Nat → Option Nat) (F G : Nat → Nat → UInt32) (D : MD) : rs 13 6 [l0, l1, l2, l3] (vR 0 x :: st) (SX q, (I, A, L, P, F, G), D) = rs 13 9 [l0, l1, l2, l3] (vI (I 4 x) :: st) (SX q, (I, A, L, P, F, G), D) := rs_st rfl rfl
theorem s13_9 (l0 l1 l2 l3 : AV) (x y : Int) (st : List AV) (μ : Mem) : rs 13 9 [l0, l1, l2, l3] (vI y :: vI x :: st) μ = if y ≤ x then rs 13 41 [l0, l1, l2, l3] st μ else rs 13 12 [l0, l1, l2, l3] st μ := rs_ifb rfl (cnd_ge _ _) rfl rfl
theorem s13_12 (l1 l2 l3 : AV) (t x : Nat) (st : List AV) (μ : Mem) : rs 13 12 [vR t x, l1, l2, l3] st μ = rs 13 13 [vR t x, l1, l2, l3] (vR t x :: st) μ := rs_st rfl rfl
theorem s13_13 (l0 l1 l3 : AV) (x : Int) (st : List AV) (μ : Mem) : rs 13 13 [l0, l1, vI x, l3] st μ = rs 13 14 [l0, l1, vI x, l3] (vI x :: st) μ := rs_st rfl rfl
theorem s13_14 (l0 l1 l2 l3 : AV) (z : Nat) (a0 : Int)  (μ : Mem) : rs 13 14 [l0, l1, l2, l3] [vI a0, vR 0 z] μ = (rs 3 0 [vR 0 z, vI a0] [] μ).bind (fun w => rs 13 17 [l0, l1, l2, l3] (pushR w.1 []) w.2) := rs_ca rfl rfl rfl
theorem s13_17 (l0 l1 l2 l3 : AV) (t x : Nat) (st : List AV) (μ : Mem) : rs 13 17 [l0, l1, l2, l3] (vR t x :: st) μ = rs 13 18 [l0, l1, unJ l2, vR t x] st μ := rs_st rfl rfl
theorem s13_17n (l0 l1 l2 l3 : AV) (st : List AV) (μ : Mem) : rs 13 17 [l0, l1, l2, l3] (vN :: st) μ = rs 13 18 [l0, l1, unJ l2, vN] st μ := rs_st rfl rfl
theorem s13_18 (l0 l1 l2 : AV) (t x : Nat) (st : List AV) (μ : Mem) : rs 13 18 [l0, l1, l2, vR t x] st μ = rs 13 19 [l0, l1, l2, vR t x] (vR t x :: st) μ := rs_st rfl rfl
theorem s13_18n (l0 l1 l2 : AV) (st : List AV) (μ : Mem) : rs 13 18 [l0, l1, l2, vN] st μ = rs 13 19 [l0, l1, l2, vN] (vN :: st) μ := rs_st rfl rfl
theorem s13_19n (l0 l1 l2 l3 : AV) (st : List AV) (μ : Mem) : rs 13 19 [l0, l1, l2, l3] (vN :: st) μ = rs 13 35 [l0, l1, l2, l3] st μ := rs_st rfl rfl
theorem s13_19 (l0 l1 l2 l3 : AV) (t x : Nat) (st : List AV) (μ : Mem) : rs 13 19 [l0, l1, l2, l3] (vR t x :: st) μ = rs 13 22 [l0, l1, l2, l3] st μ := rs_st rfl rfl
theorem s13_22 (l0 l1 l2 : AV) (t x : Nat) (st : List AV) (μ : Mem) : rs 13 22 [l0, l1, l2, vR t x] st μ = rs 13 23 [l0, l1, l2, vR t x] (vR t x :: st) μ := rs_st rfl rfl
theorem s13_22n (l0 l1 l2 : AV) (st : List AV) (μ : Mem) : rs 13 22 [l0, l1, l2, vN] st μ = rs 13 23 [l0, l1, l2, vN] (vN :: st) μ := rs_st rfl rfl
theorem s13_23 (l0 l1 l2 : AV) (t x : Nat) (st : List AV) (μ : Mem) : rs 13 23 [l0, l1, l2, vR t x] st μ = rs 13 24 [l0, l1, l2, vR t x] (vR t x :: st) μ := rs_st rfl rfl
theorem s13_23n (l0 l1 l2 : AV) (st : List AV) (μ : Mem) : rs 13 23 [l0, l1, l2, vN] st μ = rs 13 24 [l0, l1, l2, vN] (vN :: st) μ := rs_st rfl rfl
theorem s13_24 (l0 l2 l3 : AV) (x : Int) (st : List AV) (μ : Mem) : rs 13 24 [l0, vI x, l2, l3] st μ = rs 13 25 [l0, vI x, l2, l3] (vI x :: st) μ := rs_st rfl rfl
theorem s13_25 (l0 l1 l2 l3 : AV) (z : Nat) (a0 : Nat) (a1 : Int)  (μ : Mem) : rs 13 25 [l0, l1, l2, l3] [vI a1, vR 2 a0, vR 2 z] μ = (rs 213 0 [vR 2 z, vR 2 a0, vI a1, vU, vU] [] μ).bind (fun w => rs 13 28 [l0, l1, l2, l3] (pushR w.1 []) w.2) := rs_ca rfl rfl rfl
theorem s13_28 (l0 l2 l3 : AV) (x : Int) (st : List AV) (μ : Mem) : rs 13 28 [l0, vI x, l2, l3] st μ = rs 13 29 [l0, vI x, l2, l3] (vI x :: st) μ := rs_st rfl rfl
theorem s13_29 (l0 l1 l2 : AV) (t x : Nat) (st : List AV) (μ : Mem) : rs 13 29 [l0, l1, l2, vR t x] st μ = rs 13 30 [l0, l1, l2, vR t x] (vR t x :: st) μ := rs_st rfl rfl
theorem s13_29n (l0 l1 l2 : AV) (st : List AV) (μ : Mem) : rs 13 29 [l0, l1, l2, vN] st μ = rs 13 30 [l0, l1, l2, vN] (vN :: st) μ := rs_st rfl rfl
theorem s13_30 (l0 l1 l2 l3 : AV) (x : Nat) (st : List AV) (q : Nat × (Nat → Int)) (I A : M2) (L P : Nat → Nat → Option Nat) (F G : Nat → Nat → UInt32) (D : MD) : rs 13 30 [l0, l1, l2, l3] (vR 2 x :: st) (SX q, (I, A, L, P, F, G), D) = rs 13 33 [l0, l1, l2, l3] (vI (I 44 x) :: st) (SX q, (I, A, L, P, F, G), D) := rs_st rfl rfl
theorem s13_33 (l0 l1 l2 l3 : AV) (x y : Int) (st : List AV) (μ : Mem) : rs 13 33 [l0, l1, l2, l3] (vI y :: vI x :: st) μ = rs 13 34 [l0, l1, l2, l3] (vI (w32 (x + y)) :: st) μ := rs_st rfl rfl
theorem s13_34 (l0 l1 l2 l3 : AV) (x : Int) (st : List AV) (μ : Mem) : rs 13 34 [l0, l1, l2, l3] (vI x :: st) μ = rs 13 35 [unJ l0, vI x, l2, l3] st μ := rs_st rfl rfl
theorem s13_35 (l0 l1 l3 : AV) (x : Int) (st : List AV) (μ : Mem) : rs 13 35 [l0, l1, vI x, l3] st μ = rs 13 38 [l0, unJ l1, vI (w32 (x + 1)), l3] st μ := rs_st rfl rfl
theorem s13_38 (l0 l1 l2 l3 : AV) (st : List AV) (μ : Mem) : rs 13 38 [l0, l1, l2, l3] st μ = rs 13 4 [l0, l1, l2, vU] st μ := rs_st rfl rfl
theorem s13_41 (l0 l2 l3 : AV) (x : Int) (st : List AV) (μ : Mem) : rs 13 41 [l0, vI x, l2, l3] st μ = rs 13 42 [l0, vI x, l2, l3] (vI x :: st) μ := rs_st rfl rfl
theorem s13_42 (l0 l1 l2 l3 : AV) (x : Int) (μ : Mem) : rs 13 42 [l0, l1, l2, l3] [vI x] μ = some (vI x, μ) := rs_ret rfl
theorem s102_0 (l1 l2 : AV) (t x : Nat) (st : List AV) (μ : Mem) : rs 102 0 [vR t x, l1, l2] st μ = rs 102 1 [vR t x, l1, l2] (vR t x :: st) μ := rs_st rfl rfl
theorem s102_1 (l0 l1 l2 : AV) (x : Nat) (st : List AV) (q : Nat × (Nat → Int)) (I A : M2) (L P : Nat → Nat → Option Nat) (F G : Nat → Nat → UInt32) (D : MD) : rs 102 1 [l0, l1, l2] (vR 1 x :: st) (SX q, (I, A, L, P, F, G), D) = rs 102 4 [l0, l1, l2] (vI (I 21 x) :: st) (SX q, (I, A, L, P, F, G), D) := rs_st rfl rfl
theorem s102_4 (l1 l2 : AV) (t x : Nat) (st : List AV) (μ : Mem) : rs 102 4 [vR t x, l1, l2] st μ = rs 102 5 [vR t x, l1, l2] (vR t x :: st) μ := rs_st rfl rfl
theorem s102_5 (l0 l1 l2 : AV) (x : Nat) (st : List AV) (q : Nat × (Nat → Int)) (C : MC) (D : MD) : rs 102 5 [l0, l1, l2] (vR 1 x :: st) (SX q, C, D) = rs 102 8 [l0, l1, l2] (vR 16 0 :: st) (SX q, C, D) := rs_st rfl rfl
theorem s102_8 (l0 l1 l2 : AV) (x : Nat) (st : List AV) (q : Nat × (Nat → Int)) (C : MC) (D : MD) : rs 102 8 [l0, l1, l2] (vR 16 x :: st) (SX q, C, D) = if (LX q.1 16 x) < 2147483648 then rs 102 9 [l0, l1, l2] (vI ((LX q.1 16 x) : Nat) :: st) (SX q, C, D) else none := rs_ok rfl rfl
theorem s102_9 (l0 l1 l2 : AV) (x y : Int) (st : List AV) (μ : Mem) : rs 102 9 [l0, l1, l2] (vI y :: vI x :: st) μ = if x < y then rs 102 16 [l0, l1, l2] st μ else rs 102 12 [l0, l1, l2] st μ := rs_ifb rfl (cnd_lt _ _) rfl rfl
theorem s102_12 (l1 l2 : AV) (t x : Nat) (st : List AV) (μ : Mem) : rs 102 12 [vR t x, l1, l2] st μ = rs 102 13 [vR t x, l1, l2] (vR t x :: st) μ := rs_st rfl rfl
theorem s102_13 (l0 l1 l2 : AV) (z : Nat)  (μ : Mem) : rs 102 13 [l0, l1, l2] [vR 1 z] μ = (rs 103 0 [vR 1 z, vU, vU] [] μ).bind (fun w => rs 102 16 [l0, l1, l2] (pushR w.1 []) w.2) := rs_ca rfl rfl rfl
theorem s102_16 (l1 l2 : AV) (t x : Nat) (st : List AV) (μ : Mem) : rs 102 16 [vR t x, l1, l2] st μ = rs 102 17 [vR t x, l1, l2] (vR t x :: st) μ := rs_st rfl rfl
theorem s102_17 (l0 l1 l2 : AV) (x : Nat) (st : List AV) (q : Nat × (Nat → Int)) (I A : M2) (L P : Nat → Nat → Option Nat) (F G : Nat → Nat → UInt32) (D : MD) : rs 102 17 [l0, l1, l2] (vR 1 x :: st) (SX q, (I, A, L, P, F, G), D) = rs 102 20 [l0, l1, l2] (vI (I 21 x) :: st) (SX q, (I, A, L, P, F, G), D) := rs_st rfl rfl
theorem s102_20 (l0 l1 l2 : AV) (x : Int) (st : List AV) (μ : Mem) : rs 102 20 [l0, l1, l2] (vI x :: st) μ = if x < 0 then rs 102 35 [l0, l1, l2] st μ else rs 102 23 [l0, l1, l2] st μ := rs_ifb rfl (cnd_lt _ _) rfl rfl
theorem s102_23 (l1 l2 : AV) (t x : Nat) (st : List AV) (μ : Mem) : rs 102 23 [vR t x, l1, l2] st μ = rs 102 24 [vR t x, l1, l2] (vR t x :: st) μ := rs_st rfl rfl
theorem s102_24 (l0 l1 l2 : AV) (x : Nat) (st : List AV) (q : Nat × (Nat → Int)) (I A : M2) (L P : Nat → Nat → Option Nat) (F G : Nat → Nat → UInt32) (D : MD) : rs 102 24 [l0, l1, l2] (vR 1 x :: st) (SX q, (I, A, L, P, F, G), D) = rs 102 27 [l0, l1, l2] (vI (I 21 x) :: st) (SX q, (I, A, L, P, F, G), D) := rs_st rfl rfl
theorem s102_27 (l1 l2 : AV) (t x : Nat) (st : List AV) (μ : Mem) : rs 102 27 [vR t x, l1, l2] st μ = rs 102 28 [vR t x, l1, l2] (vR t x :: st) μ := rs_st rfl rfl
theorem s102_28 (l0 l1 l2 : AV) (x : Nat) (st : List AV) (q : Nat × (Nat → Int)) (C : MC) (D : MD) : rs 102 28 [l0, l1, l2] (vR 1 x :: st) (SX q, C, D) = rs 102 31 [l0, l1, l2] (vR 16 0 :: st) (SX q, C, D) := rs_st rfl rfl
theorem s102_31 (l0 l1 l2 : AV) (x : Nat) (st : List AV) (q : Nat × (Nat → Int)) (C : MC) (D : MD) : rs 102 31 [l0, l1, l2] (vR 16 x :: st) (SX q, C, D) = if (LX q.1 16 x) < 2147483648 then rs 102 32 [l0, l1, l2] (vI ((LX q.1 16 x) : Nat) :: st) (SX q, C, D) else none := rs_ok rfl rfl
theorem s102_32 (l0 l1 l2 : AV) (x y : Int) (st : List AV) (μ : Mem) : rs 102 32 [l0, l1, l2] (vI y :: vI x :: st) μ = if x < y then rs 102 36 [l0, l1, l2] st μ else rs 102 35 [l0, l1, l2] st μ := rs_ifb rfl (cnd_lt _ _) rfl rfl
theorem s102_35 (l0 l1 l2 : AV)  (μ : Mem) : rs 102 35 [l0, l1, l2] [] μ = some (vU, μ) := rs_ret rfl
theorem s102_36 (l1 l2 : AV) (t x : Nat) (st : List AV) (μ : Mem) : rs 102 36 [vR t x, l1, l2] st μ = rs 102 37 [vR t x, l1, l2] (vR t x :: st) μ := rs_st rfl rfl
theorem s102_37 (l0 l1 l2 : AV) (x : Nat) (st : List AV) (q : Nat × (Nat → Int)) (C : MC) (D : MD) : rs 102 37 [l0, l1, l2] (vR 1 x :: st) (SX q, C, D) = rs 102 40 [l0, l1, l2] (vR 16 0 :: st) (SX q, C, D) := rs_st rfl rfl
theorem s102_40 (l1 l2 : AV) (t x : Nat) (st : List AV) (μ : Mem) : rs 102 40 [vR t x, l1, l2] st μ = rs 102 41 [vR t x, l1, l2] (vR t x :: st) μ := rs_st rfl rfl
theorem s102_41 (l0 l1 l2 : AV) (x : Nat) (st : List AV) (q : Nat × (Nat → Int)) (I A : M2) (L P : Nat → Nat → Option Nat) (F G : Nat → Nat → UInt32) (D : MD) : rs 102 41 [l0, l1, l2] (vR 1 x :: st) (SX q, (I, A, L, P, F, G), D) = rs 102 44 [l0, l1, l2] (vI (I 21 x) :: st) (SX q, (I, A, L, P, F, G), D) := rs_st rfl rfl
theorem s102_44 (l0 l1 l2 : AV) (a : Nat) (x : Int) (st : List AV) (q : Nat × (Nat → Int)) (I A : M2) (L P : Nat → Nat → Option Nat) (F G : Nat → Nat → UInt32) (D : MD) : rs 102 44 [l0, l1, l2] (vI x :: vR 16 a :: st) (SX q, (I, A, L, P, F, G), D) = if 0 ≤ x ∧ x < (((LX q.1 16 a) : Nat) : Int) then rs 102 45 [l0, l1, l2] (rfV 0 (P a x.toNat) :: st) (SX q, (I, A, L, P, F, G), D) else none := rs_in rfl rfl
theorem s102_45 (l0 l1 l2 : AV) (t x : Nat) (st : List AV) (μ : Mem) : rs 102 45 [l0, l1, l2] (vR t x :: st) μ = rs 102 46 [l0, unJ l1, vR t x] st μ := rs_st rfl rfl
theorem s102_45n (l0 l1 l2 : AV) (st : List AV) (μ : Mem) : rs 102 45 [l0, l1, l2] (vN :: st) μ = rs 102 46 [l0, unJ l1, vN] st μ := rs_st rfl rfl
theorem s102_46 (l0 l1 : AV) (t x : Nat) (st : List AV) (μ : Mem) : rs 102 46 [l0, l1, vR t x] st μ = rs 102 47 [l0, l1, vR t x] (vR t x :: st) μ := rs_st rfl rfl
theorem s102_46n (l0 l1 : AV) (st : List AV) (μ : Mem) : rs 102 46 [l0, l1, vN] st μ = rs 102 47 [l0, l1, vN] (vN :: st) μ := rs_st rfl rfl
theorem s102_47n (l0 l1 l2 : AV) (st : List AV) (μ : Mem) : rs 102 47 [l0, l1, l2] (vN :: st) μ = rs 102 65 [l0, l1, l2] st μ := rs_st rfl rfl
theorem s102_47 (l0 l1 l2 : AV) (t x : Nat) (st : List AV) (μ : Mem) : rs 102 47 [l0, l1, l2] (vR t x :: st) μ = rs 102 50 [l0, l1, l2] st μ := rs_st rfl rfl
theorem s102_50 (l0 l1 : AV) (t x : Nat) (st : List AV) (μ : Mem) : rs 102 50 [l0, l1, vR t x] st μ = rs 102 51 [l0, l1, vR t x] (vR t x :: st) μ := rs_st rfl rfl
theorem s102_50n (l0 l1 : AV) (st : List AV) (μ : Mem) : rs 102 50 [l0, l1, vN] st μ = rs 102 51 [l0, l1, vN] (vN :: st) μ := rs_st rfl rfl
theorem s102_51 (l0 l2 : AV) (t x : Nat) (st : List AV) (μ : Mem) : rs 102 51 [l0, vR t x, l2] st μ = rs 102 52 [l0, vR t x, l2] (vR t x :: st) μ := rs_st rfl rfl
theorem s102_52 (l0 l1 l2 : AV) (z : Nat) (a0 : Nat)  (μ : Mem) : rs 102 52 [l0, l1, l2] [vR 0 a0, vR 0 z] μ = (rs 2 0 [vR 0 z, vR 0 a0, vU, vU, vU] [] μ).bind (fun w => rs 102 55 [l0, l1, l2] (pushR w.1 []) w.2) := rs_ca rfl rfl rfl
theorem s102_55 (l1 l2 : AV) (t x : Nat) (st : List AV) (μ : Mem) : rs 102 55 [vR t x, l1, l2] st μ = rs 102 56 [vR t x, l1, l2] (vR t x :: st) μ := rs_st rfl rfl
theorem s102_56 (l0 l1 l2 : AV) (x : Int) (st : List AV) (μ : Mem) : rs 102 56 [l0, l1, l2] (vI x :: st) μ = rs 102 57 [l0, l1, l2] (vI x :: vI x :: st) μ := rs_st rfl rfl
theorem s102_56r (l0 l1 l2 : AV) (t x : Nat) (st : List AV) (μ : Mem) : rs 102 56 [l0, l1, l2] (vR t x :: st) μ = rs 102 57 [l0, l1, l2] (vR t x :: vR t x :: st) μ := rs_st rfl rfl
theorem s102_57 (l0 l1 l2 : AV) (x : Nat) (st : List AV) (q : Nat × (Nat → Int)) (I A : M2) (L P : Nat → Nat → Option Nat) (F G : Nat → Nat → UInt32) (D : MD) : rs 102 57 [l0, l1, l2] (vR 1 x :: st) (SX q, (I, A, L, P, F, G), D) = rs 102 60 [l0, l1, l2] (vI (I 21 x) :: st) (SX q, (I, A, L, P, F, G), D) := rs_st rfl rfl
theorem s102_60 (l0 l1 l2 : AV) (st : List AV) (μ : Mem) : rs 102 60 [l0, l1, l2] st μ = rs 102 61 [l0, l1, l2] (vI 1 :: st) μ := rs_st rfl rfl
theorem s102_61 (l0 l1 l2 : AV) (x y : Int) (st : List AV) (μ : Mem) : rs 102 61 [l0, l1, l2] (vI y :: vI x :: st) μ = rs 102 62 [l0, l1, l2] (vI (w32 (x + y)) :: st) μ := rs_st rfl rfl
theorem s102_62 (l0 l1 l2 : AV) (x : Nat) (v : Int) (st : List AV) (q : Nat × (Nat → Int)) (I A : M2) (L P : Nat → Nat → Option Nat) (F G : Nat → Nat → UInt32) (D : MD) : rs 102 62 [l0, l1, l2] (vI v :: vR 1 x :: st) (SX q, (I, A, L, P, F, G), D) = rs 102 65 [l0, l1, l2] st (SX q, (up2 I 21 x v, A, L, P, F, G), D) := rs_st rfl rfl
theorem s102_65 (l0 l1 l2 : AV)  (μ : Mem) : rs 102 65 [l0, l1, l2] [] μ = some (vU, μ) := rs_ret rfl
theorem s103_0 (l0 l1 l2 : AV) (st : List AV) (μ : Mem) : rs 103 0 [l0, l1, l2] st μ = rs 103 1 [l0, l1, l2] (vI 1 :: st) μ := rs_st rfl rfl
theorem s103_1 (l0 l1 l2 : AV) (x : Int) (st : List AV) (μ : Mem) : rs 103 1 [l0, l1, l2] (vI x :: st) μ = rs 103 2 [unJ l0, vI x, vU] st μ := rs_st rfl rfl
theorem s103_2 (l0 l2 : AV) (x : Int) (st : List AV) (μ : Mem) : rs 103 2 [l0, vI x, l2] st μ = rs 103 3 [l0, vI x, l2] (vI x :: st) μ := rs_st rfl rfl
theorem s103_3 (l1 l2 : AV) (t x : Nat) (st : List AV) (μ : Mem) : rs 103 3 [vR t x, l1, l2] st μ = rs 103 4 [vR t x, l1, l2] (vR t x :: st) μ := rs_st rfl rfl
theorem s103_4 (l0 l1 l2 : AV) (x : Nat) (st : List AV) (q : Nat × (Nat → Int)) (C : MC) (D : MD) : rs 103 4 [l0, l1, l2] (vR 1 x :: st) (SX q, C, D) = rs 103 7 [l0, l1, l2] (vR 16 0 :: st) (SX q, C, D) := rs_st rfl rfl
theorem s103_7 (l0 l1 l2 : AV) (x : Nat) (st : List AV) (q : Nat × (Nat → Int)) (C : MC) (D : MD) : rs 103 7 [l0, l1, l2] (vR 16 x :: st) (SX q, C, D) = if (LX q.1 16 x) < 2147483648 then rs 103 8 [l0, l1, l2] (vI ((LX q.1 16 x) : Nat) :: st) (SX q, C, D) else none := rs_ok rfl rfl
theorem s103_8 (l0 l1 l2 : AV) (x y : Int) (st : List AV) (μ : Mem) : rs 103 8 [l0, l1, l2] (vI y :: vI x :: st) μ = if y ≤ x then rs 103 47 [l0, l1, l2] st μ else rs 103 11 [l0, l1, l2] st μ := rs_ifb rfl (cnd_ge _ _) rfl rfl
theorem s103_11 (l1 l2 : AV) (t x : Nat) (st : List AV) (μ : Mem) : rs 103 11 [vR t x, l1, l2] st μ = rs 103 12 [vR t x, l1, l2] (vR t x :: st) μ := rs_st rfl rfl
theorem s103_12 (l0 l1 l2 : AV) (x : Nat) (st : List AV) (q : Nat × (Nat → Int)) (C : MC) (D : MD) : rs 103 12 [l0, l1, l2] (vR 1 x :: st) (SX q, C, D) = rs 103 15 [l0, l1, l2] (vR 16 0 :: st) (SX q, C, D) := rs_st rfl rfl
theorem s103_15 (l0 l2 : AV) (x : Int) (st : List AV) (μ : Mem) : rs 103 15 [l0, vI x, l2] st μ = rs 103 16 [l0, vI x, l2] (vI x :: st) μ := rs_st rfl rfl
theorem s103_16 (l0 l1 l2 : AV) (a : Nat) (x : Int) (st : List AV) (q : Nat × (Nat → Int)) (I A : M2) (L P : Nat → Nat → Option Nat) (F G : Nat → Nat → UInt32) (D : MD) : rs 103 16 [l0, l1, l2] (vI x :: vR 16 a :: st) (SX q, (I, A, L, P, F, G), D) = if 0 ≤ x ∧ x < (((LX q.1 16 a) : Nat) : Int) then rs 103 17 [l0, l1, l2] (rfV 0 (P a x.toNat) :: st) (SX q, (I, A, L, P, F, G), D) else none := rs_in rfl rfl
theorem s103_17 (l0 l1 l2 : AV) (t x : Nat) (st : List AV) (μ : Mem) : rs 103 17 [l0, l1, l2] (vR t x :: st) μ = rs 103 18 [l0, unJ l1, vR t x] st μ := rs_st rfl rfl
theorem s103_17n (l0 l1 l2 : AV) (st : List AV) (μ : Mem) : rs 103 17 [l0, l1, l2] (vN :: st) μ = rs 103 18 [l0, unJ l1, vN] st μ := rs_st rfl rfl
theorem s103_18 (l1 l2 : AV) (t x : Nat) (st : List AV) (μ : Mem) : rs 103 18 [vR t x, l1, l2] st μ = rs 103 19 [vR t x, l1, l2] (vR t x :: st) μ := rs_st rfl rfl
theorem s103_19 (l0 l1 l2 : AV) (x : Nat) (st : List AV) (q : Nat × (Nat → Int)) (C : MC) (D : MD) : rs 103 19 [l0, l1, l2] (vR 1 x :: st) (SX q, C, D) = rs 103 22 [l0, l1, l2] (vR 16 0 :: st) (SX q, C, D) := rs_st rfl rfl
theorem s103_22 (l0 l2 : AV) (x : Int) (st : List AV) (μ : Mem) : rs 103 22 [l0, vI x, l2] st μ = rs 103 23 [l0, vI x, l2] (vI x :: st) μ := rs_st rfl rfl
theorem s103_23 (l1 l2 : AV) (t x : Nat) (st : List AV) (μ : Mem) : rs 103 23 [vR t x, l1, l2] st μ = rs 103 24 [vR t x, l1, l2] (vR t x :: st) μ := rs_st rfl rfl
theorem s103_24 (l0 l1 l2 : AV) (x : Nat) (st : List AV) (q : Nat × (Nat → Int)) (C : MC) (D : MD) : rs 103 24 [l0, l1, l2] (vR 1 x :: st) (SX q, C, D) = rs 103 27 [l0, l1, l2] (vR 16 0 :: st) (SX q, C, D) := rs_st rfl rfl
theorem s103_27 (l0 l2 : AV) (x : Int) (st : List AV) (μ : Mem) : rs 103 27 [l0, vI x, l2] st μ = rs 103 28 [l0, vI x, l2] (vI x :: st) μ := rs_st rfl rfl
theorem s103_28 (l0 l1 l2 : AV) (st : List AV) (μ : Mem) : rs 103 28 [l0, l1, l2] st μ = rs 103 29 [l0, l1, l2] (vI 1 :: st) μ := rs_st rfl rfl
theorem s103_29 (l0 l1 l2 : AV) (x y : Int) (st : List AV) (μ : Mem) : rs 103 29 [l0, l1, l2] (vI y :: vI x :: st) μ = rs 103 30 [l0, l1, l2] (vI (w32 (x - y)) :: st) μ := rs_st rfl rfl
theorem s103_30 (l0 l1 l2 : AV) (a : Nat) (x : Int) (st : List AV) (q : Nat × (Nat → Int)) (I A : M2) (L P : Nat → Nat → Option Nat) (F G : Nat → Nat → UInt32) (D : MD) : rs 103 30 [l0, l1, l2] (vI x :: vR 16 a :: st) (SX q, (I, A, L, P, F, G), D) = if 0 ≤ x ∧ x < (((LX q.1 16 a) : Nat) : Int) then rs 103 31 [l0, l1, l2] (rfV 0 (P a x.toNat) :: st) (SX q, (I, A, L, P, F, G), D) else none := rs_in rfl rfl
theorem s103_31 (l0 l1 l2 : AV) (a : Nat) (x : Int) (v : Nat) (st : List AV) (q : Nat × (Nat → Int)) (I A : M2) (L P : Nat → Nat → Option Nat) (F G : Nat → Nat → UInt32) (D : MD) : rs 103 31 [l0, l1, l2] (vR 0 v :: vI x :: vR 16 a :: st) (SX q, (I, A, L, P, F, G), D) = if 0 ≤ x ∧ x < (((LX q.1 16 a) : Nat) : Int) then rs 103 32 [l0, l1, l2] st (SX q, (I, A, L, up2 P a x.toNat (some v), F, G), D) else none := rs_in rfl rfl
theorem s103_32 (l1 l2 : AV) (t x : Nat) (st : List AV) (μ : Mem) : rs 103 32 [vR t x, l1, l2] st μ = rs 103 33 [vR t x, l1, l2] (vR t x :: st) μ := rs_st rfl rfl
theorem s103_33 (l0 l1 l2 : AV) (x : Nat) (st : List AV) (q : Nat × (Nat → Int)) (C : MC) (D : MD) : rs 103 33 [l0, l1, l2] (vR 1 x :: st) (SX q, C, D) = rs 103 36 [l0, l1, l2] (vR 16 0 :: st) (SX q, C, D) := rs_st rfl rfl
theorem s103_36 (l0 l2 : AV) (x : Int) (st : List AV) (μ : Mem) : rs 103 36 [l0, vI x, l2] st μ = rs 103 37 [l0, vI x, l2] (vI x :: st) μ := rs_st rfl rfl
theorem s103_37 (l0 l1 l2 : AV) (st : List AV) (μ : Mem) : rs 103 37 [l0, l1, l2] st μ = rs 103 38 [l0, l1, l2] (vI 1 :: st) μ := rs_st rfl rfl
theorem s103_38 (l0 l1 l2 : AV) (x y : Int) (st : List AV) (μ : Mem) : rs 103 38 [l0, l1, l2] (vI y :: vI x :: st) μ = rs 103 39 [l0, l1, l2] (vI (w32 (x - y)) :: st) μ := rs_st rfl rfl
theorem s103_39 (l0 l1 : AV) (t x : Nat) (st : List AV) (μ : Mem) : rs 103 39 [l0, l1, vR t x] st μ = rs 103 40 [l0, l1, vR t x] (vR t x :: st) μ := rs_st rfl rfl
theorem s103_39n (l0 l1 : AV) (st : List AV) (μ : Mem) : rs 103 39 [l0, l1, vN] st μ = rs 103 40 [l0, l1, vN] (vN :: st) μ := rs_st rfl rfl
theorem s103_40 (l0 l1 l2 : AV) (a : Nat) (x : Int) (v : Nat) (st : List AV) (q : Nat × (Nat → Int)) (I A : M2) (L P : Nat → Nat → Option Nat) (F G : Nat → Nat → UInt32) (D : MD) : rs 103 40 [l0, l1, l2] (vR 0 v :: vI x :: vR 16 a :: st) (SX q, (I, A, L, P, F, G), D) = if 0 ≤ x ∧ x < (((LX q.1 16 a) : Nat) : Int) then rs 103 41 [l0, l1, l2] st (SX q, (I, A, L, up2 P a x.toNat (some v), F, G), D) else none := rs_in rfl rfl
theorem s103_41 (l0 l2 : AV) (x : Int) (st : List AV) (μ : Mem) : rs 103 41 [l0, vI x, l2] st μ = rs 103 44 [unJ l0, vI (w32 (x + 1)), l2] st μ := rs_st rfl rfl
theorem s103_44 (l0 l1 l2 : AV) (st : List AV) (μ : Mem) : rs 103 44 [l0, l1, l2] st μ = rs 103 2 [l0, l1, vU] st μ := rs_st rfl rfl
theorem s103_47 (l1 l2 : AV) (t x : Nat) (st : List AV) (μ : Mem) : rs 103 47 [vR t x, l1, l2] st μ = rs 103 48 [vR t x, l1, l2] (vR t x :: st) μ := rs_st rfl rfl
theorem s103_48 (l0 l1 l2 : AV) (x : Int) (st : List AV) (μ : Mem) : rs 103 48 [l0, l1, l2] (vI x :: st) μ = rs 103 49 [l0, l1, l2] (vI x :: vI x :: st) μ := rs_st rfl rfl
theorem s103_48r (l0 l1 l2 : AV) (t x : Nat) (st : List AV) (μ : Mem) : rs 103 48 [l0, l1, l2] (vR t x :: st) μ = rs 103 49 [l0, l1, l2] (vR t x :: vR t x :: st) μ := rs_st rfl rfl
theorem s103_49 (l0 l1 l2 : AV) (x : Nat) (st : List AV) (q : Nat × (Nat → Int)) (I A : M2) (L P : Nat → Nat → Option Nat) (F G : Nat → Nat → UInt32) (D : MD) : rs 103 49 [l0, l1, l2] (vR 1 x :: st) (SX q, (I, A, L, P, F, G), D) = rs 103 52 [l0, l1, l2] (vI (I 21 x) :: st) (SX q, (I, A, L, P, F, G), D) := rs_st rfl rfl
theorem s103_52 (l0 l1 l2 : AV) (st : List AV) (μ : Mem) : rs 103 52 [l0, l1, l2] st μ = rs 103 53 [l0, l1, l2] (vI 1 :: st) μ := rs_st rfl rfl
theorem s103_53 (l0 l1 l2 : AV) (x y : Int) (st : List AV) (μ : Mem) : rs 103 53 [l0, l1, l2] (vI y :: vI x :: st) μ = rs 103 54 [l0, l1, l2] (vI (w32 (x - y)) :: st) μ := rs_st rfl rfl
theorem s103_54 (l0 l1 l2 : AV) (x : Nat) (v : Int) (st : List AV) (q : Nat × (Nat → Int)) (I A : M2) (L P : Nat → Nat → Option Nat) (F G : Nat → Nat → UInt32) (D : MD) : rs 103 54 [l0, l1, l2] (vI v :: vR 1 x :: st) (SX q, (I, A, L, P, F, G), D) = rs 103 57 [l0, l1, l2] st (SX q, (up2 I 21 x v, A, L, P, F, G), D) := rs_st rfl rfl
theorem s103_57 (l0 l1 l2 : AV)  (μ : Mem) : rs 103 57 [l0, l1, l2] [] μ = some (vU, μ) := rs_ret rfl
theorem s104_0 (l1 l2 : AV) (t x : Nat) (st : List AV) (μ : Mem) : rs 104 0 [vR t x, l1, l2] st μ = rs 104 1 [vR t x, l1, l2] (vR t x :: st) μ := rs_st rfl rfl
theorem s104_1 (l0 l1 l2 : AV) (x : Nat) (st : List AV) (q : Nat × (Nat → Int)) (I A : M2) (L P : Nat → Nat → Option Nat) (F G : Nat → Nat → UInt32) (D : MD) : rs 104 1 [l0, l1, l2] (vR 1 x :: st) (SX q, (I, A, L, P, F, G), D) = rs 104 4 [l0, l1, l2] (vI (I 21 x) :: st) (SX q, (I, A, L, P, F, G), D) := rs_st rfl rfl
theorem s104_4 (l0 l1 l2 : AV) (x : Int) (st : List AV) (μ : Mem) : rs 104 4 [l0, l1, l2] (vI x :: st) μ = if x ≤ 0 then rs 104 19 [l0, l1, l2] st μ else rs 104 7 [l0, l1, l2] st μ := rs_ifb rfl (cnd_le _ _) rfl rfl
theorem s104_7 (l1 l2 : AV) (t x : Nat) (st : List AV) (μ : Mem) : rs 104 7 [vR t x, l1, l2] st μ = rs 104 8 [vR t x, l1, l2] (vR t x :: st) μ := rs_st rfl rfl
theorem s104_8 (l0 l1 l2 : AV) (x : Nat) (st : List AV) (q : Nat × (Nat → Int)) (I A : M2) (L P : Nat → Nat → Option Nat) (F G : Nat → Nat → UInt32) (D : MD) : rs 104 8 [l0, l1, l2] (vR 1 x :: st) (SX q, (I, A, L, P, F, G), D) = rs 104 11 [l0, l1, l2] (vI (I 21 x) :: st) (SX q, (I, A, L, P, F, G), D) := rs_st rfl rfl
theorem s104_11 (l1 l2 : AV) (t x : Nat) (st : List AV) (μ : Mem) : rs 104 11 [vR t x, l1, l2] st μ = rs 104 12 [vR t x, l1, l2] (vR t x :: st) μ := rs_st rfl rfl
theorem s104_12 (l0 l1 l2 : AV) (x : Nat) (st : List AV) (q : Nat × (Nat → Int)) (C : MC) (D : MD) : rs 104 12 [l0, l1, l2] (vR 1 x :: st) (SX q, C, D) = rs 104 15 [l0, l1, l2] (vR 16 0 :: st) (SX q, C, D) := rs_st rfl rfl
theorem s104_15 (l0 l1 l2 : AV) (x : Nat) (st : List AV) (q : Nat × (Nat → Int)) (C : MC) (D : MD) : rs 104 15 [l0, l1, l2] (vR 16 x :: st) (SX q, C, D) = if (LX q.1 16 x) < 2147483648 then rs 104 16 [l0, l1, l2] (vI ((LX q.1 16 x) : Nat) :: st) (SX q, C, D) else none := rs_ok rfl rfl
theorem s104_16 (l0 l1 l2 : AV) (x y : Int) (st : List AV) (μ : Mem) : rs 104 16 [l0, l1, l2] (vI y :: vI x :: st) μ = if x ≤ y then rs 104 20 [l0, l1, l2] st μ else rs 104 19 [l0, l1, l2] st μ := rs_ifb rfl (cnd_le _ _) rfl rfl
theorem s104_19 (l0 l1 l2 : AV)  (μ : Mem) : rs 104 19 [l0, l1, l2] [] μ = some (vU, μ) := rs_ret rfl
theorem s104_20 (l1 l2 : AV) (t x : Nat) (st : List AV) (μ : Mem) : rs 104 20 [vR t x, l1, l2] st μ = rs 104 21 [vR t x, l1, l2] (vR t x :: st) μ := rs_st rfl rfl
theorem s104_21 (l0 l1 l2 : AV) (x : Int) (st : List AV) (μ : Mem) : rs 104 21 [l0, l1, l2] (vI x :: st) μ = rs 104 22 [l0, l1, l2] (vI x :: vI x :: st) μ := rs_st rfl rfl
theorem s104_21r (l0 l1 l2 : AV) (t x : Nat) (st : List AV) (μ : Mem) : rs 104 21 [l0, l1, l2] (vR t x :: st) μ = rs 104 22 [l0, l1, l2] (vR t x :: vR t x :: st) μ := rs_st rfl rfl
theorem s104_22 (l0 l1 l2 : AV) (x : Nat) (st : List AV) (q : Nat × (Nat → Int)) (I A : M2) (L P : Nat → Nat → Option Nat) (F G : Nat → Nat → UInt32) (D : MD) : rs 104 22 [l0, l1, l2] (vR 1 x :: st) (SX q, (I, A, L, P, F, G), D) = rs 104 25 [l0, l1, l2] (vI (I 21 x) :: st) (SX q, (I, A, L, P, F, G), D) := rs_st rfl rfl
theorem s104_25 (l0 l1 l2 : AV) (st : List AV) (μ : Mem) : rs 104 25 [l0, l1, l2] st μ = rs 104 26 [l0, l1, l2] (vI 1 :: st) μ := rs_st rfl rfl
theorem s104_26 (l0 l1 l2 : AV) (x y : Int) (st : List AV) (μ : Mem) : rs 104 26 [l0, l1, l2] (vI y :: vI x :: st) μ = rs 104 27 [l0, l1, l2] (vI (w32 (x - y)) :: st) μ := rs_st rfl rfl
theorem s104_27 (l0 l1 l2 : AV) (x : Nat) (v : Int) (st : List AV) (q : Nat × (Nat → Int)) (I A : M2) (L P : Nat → Nat → Option Nat) (F G : Nat → Nat → UInt32) (D : MD) : rs 104 27 [l0, l1, l2] (vI v :: vR 1 x :: st) (SX q, (I, A, L, P, F, G), D) = rs 104 30 [l0, l1, l2] st (SX q, (up2 I 21 x v, A, L, P, F, G), D) := rs_st rfl rfl
theorem s104_30 (l1 l2 : AV) (t x : Nat) (st : List AV) (μ : Mem) : rs 104 30 [vR t x, l1, l2] st μ = rs 104 31 [vR t x, l1, l2] (vR t x :: st) μ := rs_st rfl rfl
theorem s104_31 (l0 l1 l2 : AV) (x : Nat) (st : List AV) (q : Nat × (Nat → Int)) (C : MC) (D : MD) : rs 104 31 [l0, l1, l2] (vR 1 x :: st) (SX q, C, D) = rs 104 34 [l0, l1, l2] (vR 16 0 :: st) (SX q, C, D) := rs_st rfl rfl
theorem s104_34 (l1 l2 : AV) (t x : Nat) (st : List AV) (μ : Mem) : rs 104 34 [vR t x, l1, l2] st μ = rs 104 35 [vR t x, l1, l2] (vR t x :: st) μ := rs_st rfl rfl
theorem s104_35 (l0 l1 l2 : AV) (x : Nat) (st : List AV) (q : Nat × (Nat → Int)) (I A : M2) (L P : Nat → Nat → Option Nat) (F G : Nat → Nat → UInt32) (D : MD) : rs 104 35 [l0, l1, l2] (vR 1 x :: st) (SX q, (I, A, L, P, F, G), D) = rs 104 38 [l0, l1, l2] (vI (I 21 x) :: st) (SX q, (I, A, L, P, F, G), D) := rs_st rfl rfl
theorem s104_38 (l0 l1 l2 : AV) (a : Nat) (x : Int) (st : List AV) (q : Nat × (Nat → Int)) (I A : M2) (L P : Nat → Nat → Option Nat) (F G : Nat → Nat → UInt32) (D : MD) : rs 104 38 [l0, l1, l2] (vI x :: vR 16 a :: st) (SX q, (I, A, L, P, F, G), D) = if 0 ≤ x ∧ x < (((LX q.1 16 a) : Nat) : Int) then rs 104 39 [l0, l1, l2] (rfV 0 (P a x.toNat) :: st) (SX q, (I, A, L, P, F, G), D) else none := rs_in rfl rfl
theorem s104_39 (l0 l1 l2 : AV) (t x : Nat) (st : List AV) (μ : Mem) : rs 104 39 [l0, l1, l2] (vR t x :: st) μ = rs 104 40 [l0, unJ l1, vR t x] st μ := rs_st rfl rfl
theorem s104_39n (l0 l1 l2 : AV) (st : List AV) (μ : Mem) : rs 104 39 [l0, l1, l2] (vN :: st) μ = rs 104 40 [l0, unJ l1, vN] st μ := rs_st rfl rfl
theorem s104_40 (l0 l1 : AV) (t x : Nat) (st : List AV) (μ : Mem) : rs 104 40 [l0, l1, vR t x] st μ = rs 104 41 [l0, l1, vR t x] (vR t x :: st) μ := rs_st rfl rfl
theorem s104_40n (l0 l1 : AV) (st : List AV) (μ : Mem) : rs 104 40 [l0, l1, vN] st μ = rs 104 41 [l0, l1, vN] (vN :: st) μ := rs_st rfl rfl
theorem s104_41n (l0 l1 l2 : AV) (st : List AV) (μ : Mem) : rs 104 41 [l0, l1, l2] (vN :: st) μ = rs 104 49 [l0, l1, l2] st μ := rs_st rfl rfl
theorem s104_41 (l0 l1 l2 : AV) (t x : Nat) (st : List AV) (μ : Mem) : rs 104 41 [l0, l1, l2] (vR t x :: st) μ = rs 104 44 [l0, l1, l2] st μ := rs_st rfl rfl
theorem s104_44 (l0 l2 : AV) (t x : Nat) (st : List AV) (μ : Mem) : rs 104 44 [l0, vR t x, l2] st μ = rs 104 45 [l0, vR t x, l2] (vR t x :: st) μ := rs_st rfl rfl
theorem s104_45 (l0 l1 : AV) (t x : Nat) (st : List AV) (μ : Mem) : rs 104 45 [l0, l1, vR t x] st μ = rs 104 46 [l0, l1, vR t x] (vR t x :: st) μ := rs_st rfl rfl
theorem s104_45n (l0 l1 : AV) (st : List AV) (μ : Mem) : rs 104 45 [l0, l1, vN] st μ = rs 104 46 [l0, l1, vN] (vN :: st) μ := rs_st rfl rfl
theorem s104_46 (l0 l1 l2 : AV) (z : Nat) (a0 : Nat)  (μ : Mem) : rs 104 46 [l0, l1, l2] [vR 0 a0, vR 0 z] μ = (rs 2 0 [vR 0 z, vR 0 a0, vU, vU, vU] [] μ).bind (fun w => rs 104 49 [l0, l1, l2] (pushR w.1 []) w.2) := rs_ca rfl rfl rfl
theorem s104_49 (l0 l1 l2 : AV)  (μ : Mem) : rs 104 49 [l0, l1, l2] [] μ = some (vU, μ) := rs_ret rfl
