theorem s1_0 (l1 : AV) (t x : Nat) (st : List AV) (μ : Mem) : rs 1 0 [vR t x, l1] st μ = rs 1 1 [vR t x, l1] (vR t x :: st) μ := rs_st rfl rfl
theorem s1_1 (l0 l1 : AV) (t x : Nat)  (μ : Mem) : rs 1 1 [l0, l1] [vR t x] μ = rs 1 4 [l0, l1] [] μ := rs_st rfl rfl
theorem s1_4 (l1 : AV) (t x : Nat) (st : List AV) (μ : Mem) : rs 1 4 [vR t x, l1] st μ = rs 1 5 [vR t x, l1] (vR t x :: st) μ := rs_st rfl rfl
theorem s1_5 (l0 l1 : AV) (st : List AV) (S : MS) (C : MC) (D : MD) (j : Nat) (S' : MS) (h : mkS S 4 1 = some (j, S')) : rs 1 5 [l0, l1] st (S, C, D) = rs 1 8 [l0, l1] (vR 4 j :: st) (S', C, D) := rs_bi rfl h rfl rfl
theorem s1_8 (l0 l1 : AV) (x : Int) (st : List AV) (μ : Mem) : rs 1 8 [l0, l1] (vI x :: st) μ = rs 1 9 [l0, l1] (vI x :: vI x :: st) μ := rs_st rfl rfl
theorem s1_8r (l0 l1 : AV) (t x : Nat) (st : List AV) (μ : Mem) : rs 1 8 [l0, l1] (vR t x :: st) μ = rs 1 9 [l0, l1] (vR t x :: vR t x :: st) μ := rs_st rfl rfl
theorem s1_9 (l0 l1 : AV) (st : List AV) (μ : Mem) : rs 1 9 [l0, l1] st μ = rs 1 12 [l0, l1] (vI 200 :: st) μ := rs_st rfl rfl
theorem s1_12 (l0 l1 : AV) (z : Nat) (a0 : Int) (b0 : Nat) (b1 : Nat) (μ : Mem) : rs 1 12 [l0, l1] [vI a0, vR 4 z, vR 4 b0, vR 0 b1] μ = (rs 401 0 [vR 4 z, vI a0] [] μ).bind (fun w => rs 1 15 [l0, l1] (pushR w.1 [vR 4 b0, vR 0 b1]) w.2) := rs_ca rfl rfl rfl
theorem s1_15 (l0 l1 : AV) (x v : Nat) (st : List AV) (S : MS) (C : MC) (D : MD) : rs 1 15 [l0, l1] (vR 4 v :: vR 0 x :: st) (S, C, D) = rs 1 18 [l0, l1] st ((up2 S.1 6 x (some v), S.2), C, D) := rs_st rfl rfl
theorem s1_18 (l1 : AV) (t x : Nat) (st : List AV) (μ : Mem) : rs 1 18 [vR t x, l1] st μ = rs 1 19 [vR t x, l1] (vR t x :: st) μ := rs_st rfl rfl
theorem s1_19 (l0 l1 : AV) (st : List AV) (S : MS) (C : MC) (D : MD) (j : Nat) (S' : MS) (h : mkS S 4 1 = some (j, S')) : rs 1 19 [l0, l1] st (S, C, D) = rs 1 22 [l0, l1] (vR 4 j :: st) (S', C, D) := rs_bi rfl h rfl rfl
theorem s1_22 (l0 l1 : AV) (x : Int) (st : List AV) (μ : Mem) : rs 1 22 [l0, l1] (vI x :: st) μ = rs 1 23 [l0, l1] (vI x :: vI x :: st) μ := rs_st rfl rfl
theorem s1_22r (l0 l1 : AV) (t x : Nat) (st : List AV) (μ : Mem) : rs 1 22 [l0, l1] (vR t x :: st) μ = rs 1 23 [l0, l1] (vR t x :: vR t x :: st) μ := rs_st rfl rfl
theorem s1_23 (l0 l1 : AV) (st : List AV) (μ : Mem) : rs 1 23 [l0, l1] st μ = rs 1 26 [l0, l1] (vI 200 :: st) μ := rs_st rfl rfl
theorem s1_26 (l0 l1 : AV) (z : Nat) (a0 : Int) (b0 : Nat) (b1 : Nat) (μ : Mem) : rs 1 26 [l0, l1] [vI a0, vR 4 z, vR 4 b0, vR 0 b1] μ = (rs 401 0 [vR 4 z, vI a0] [] μ).bind (fun w => rs 1 29 [l0, l1] (pushR w.1 [vR 4 b0, vR 0 b1]) w.2) := rs_ca rfl rfl rfl
theorem s1_29 (l0 l1 : AV) (x v : Nat) (st : List AV) (S : MS) (C : MC) (D : MD) : rs 1 29 [l0, l1] (vR 4 v :: vR 0 x :: st) (S, C, D) = rs 1 32 [l0, l1] st ((up2 S.1 7 x (some v), S.2), C, D) := rs_st rfl rfl
theorem s1_32 (l1 : AV) (t x : Nat) (st : List AV) (μ : Mem) : rs 1 32 [vR t x, l1] st μ = rs 1 33 [vR t x, l1] (vR t x :: st) μ := rs_st rfl rfl
theorem s1_33 (l0 l1 : AV) (st : List AV) (S : MS) (C : MC) (D : MD) (j : Nat) (S' : MS) (h : mkS S 5 4 = some (j, S')) : rs 1 33 [l0, l1] st (S, C, D) = rs 1 36 [l0, l1] (vR 5 j :: st) (S', C, D) := rs_bi rfl h rfl rfl
theorem s1_36 (l0 l1 : AV) (x : Int) (st : List AV) (μ : Mem) : rs 1 36 [l0, l1] (vI x :: st) μ = rs 1 37 [l0, l1] (vI x :: vI x :: st) μ := rs_st rfl rfl
theorem s1_36r (l0 l1 : AV) (t x : Nat) (st : List AV) (μ : Mem) : rs 1 36 [l0, l1] (vR t x :: st) μ = rs 1 37 [l0, l1] (vR t x :: vR t x :: st) μ := rs_st rfl rfl
theorem s1_37 (l0 l1 : AV) (z : Nat) (b0 : Nat) (b1 : Nat) (μ : Mem) : rs 1 37 [l0, l1] [vR 5 z, vR 5 b0, vR 0 b1] μ = (rs 501 0 [vR 5 z] [] μ).bind (fun w => rs 1 40 [l0, l1] (pushR w.1 [vR 5 b0, vR 0 b1]) w.2) := rs_ca rfl rfl rfl
theorem s1_40 (l0 l1 : AV) (x v : Nat) (st : List AV) (S : MS) (C : MC) (D : MD) : rs 1 40 [l0, l1] (vR 5 v :: vR 0 x :: st) (S, C, D) = rs 1 43 [l0, l1] st ((up2 S.1 1 x (some v), S.2), C, D) := rs_st rfl rfl
theorem s1_43 (l1 : AV) (t x : Nat) (st : List AV) (μ : Mem) : rs 1 43 [vR t x, l1] st μ = rs 1 44 [vR t x, l1] (vR t x :: st) μ := rs_st rfl rfl
theorem s1_44 (l0 l1 : AV) (st : List AV) (S : MS) (C : MC) (D : MD) (j : Nat) (S' : MS) (h : mkS S 4 1 = some (j, S')) : rs 1 44 [l0, l1] st (S, C, D) = rs 1 47 [l0, l1] (vR 4 j :: st) (S', C, D) := rs_bi rfl h rfl rfl
theorem s1_47 (l0 l1 : AV) (x : Int) (st : List AV) (μ : Mem) : rs 1 47 [l0, l1] (vI x :: st) μ = rs 1 48 [l0, l1] (vI x :: vI x :: st) μ := rs_st rfl rfl
theorem s1_47r (l0 l1 : AV) (t x : Nat) (st : List AV) (μ : Mem) : rs 1 47 [l0, l1] (vR t x :: st) μ = rs 1 48 [l0, l1] (vR t x :: vR t x :: st) μ := rs_st rfl rfl
theorem s1_48 (l0 l1 : AV) (st : List AV) (μ : Mem) : rs 1 48 [l0, l1] st μ = rs 1 49 [l0, l1] (vI 4 :: st) μ := rs_st rfl rfl
theorem s1_49 (l0 l1 : AV) (z : Nat) (a0 : Int) (b0 : Nat) (b1 : Nat) (μ : Mem) : rs 1 49 [l0, l1] [vI a0, vR 4 z, vR 4 b0, vR 0 b1] μ = (rs 401 0 [vR 4 z, vI a0] [] μ).bind (fun w => rs 1 52 [l0, l1] (pushR w.1 [vR 4 b0, vR 0 b1]) w.2) := rs_ca rfl rfl rfl
theorem s1_52 (l0 l1 : AV) (x v : Nat) (st : List AV) (S : MS) (C : MC) (D : MD) : rs 1 52 [l0, l1] (vR 4 v :: vR 0 x :: st) (S, C, D) = rs 1 55 [l0, l1] st ((up2 S.1 2 x (some v), S.2), C, D) := rs_st rfl rfl
theorem s1_55 (l1 : AV) (t x : Nat) (st : List AV) (μ : Mem) : rs 1 55 [vR t x, l1] st μ = rs 1 56 [vR t x, l1] (vR t x :: st) μ := rs_st rfl rfl
theorem s1_56 (l0 l1 : AV) (st : List AV) (S : MS) (C : MC) (D : MD) (j : Nat) (S' : MS) (h : mkS S 4 1 = some (j, S')) : rs 1 56 [l0, l1] st (S, C, D) = rs 1 59 [l0, l1] (vR 4 j :: st) (S', C, D) := rs_bi rfl h rfl rfl
theorem s1_59 (l0 l1 : AV) (x : Int) (st : List AV) (μ : Mem) : rs 1 59 [l0, l1] (vI x :: st) μ = rs 1 60 [l0, l1] (vI x :: vI x :: st) μ := rs_st rfl rfl
theorem s1_59r (l0 l1 : AV) (t x : Nat) (st : List AV) (μ : Mem) : rs 1 59 [l0, l1] (vR t x :: st) μ = rs 1 60 [l0, l1] (vR t x :: vR t x :: st) μ := rs_st rfl rfl
theorem s1_60 (l0 l1 : AV) (st : List AV) (μ : Mem) : rs 1 60 [l0, l1] st μ = rs 1 62 [l0, l1] (vI 8 :: st) μ := rs_st rfl rfl
theorem s1_62 (l0 l1 : AV) (z : Nat) (a0 : Int) (b0 : Nat) (b1 : Nat) (μ : Mem) : rs 1 62 [l0, l1] [vI a0, vR 4 z, vR 4 b0, vR 0 b1] μ = (rs 401 0 [vR 4 z, vI a0] [] μ).bind (fun w => rs 1 65 [l0, l1] (pushR w.1 [vR 4 b0, vR 0 b1]) w.2) := rs_ca rfl rfl rfl
theorem s1_65 (l0 l1 : AV) (x v : Nat) (st : List AV) (S : MS) (C : MC) (D : MD) : rs 1 65 [l0, l1] (vR 4 v :: vR 0 x :: st) (S, C, D) = rs 1 68 [l0, l1] st ((up2 S.1 3 x (some v), S.2), C, D) := rs_st rfl rfl
theorem s1_68 (l1 : AV) (t x : Nat) (st : List AV) (μ : Mem) : rs 1 68 [vR t x, l1] st μ = rs 1 69 [vR t x, l1] (vR t x :: st) μ := rs_st rfl rfl
theorem s1_69 (l0 l1 : AV) (st : List AV) (μ : Mem) : rs 1 69 [l0, l1] st μ = rs 1 71 [l0, l1] (vI 12 :: st) μ := rs_st rfl rfl
theorem s1_71 (l0 l1 : AV) (x : Int) (st : List AV) (S : MS) (C : MC) (D : MD) (j : Nat) (S' : MS) (hx : 0 ≤ x ∧ x < 10000) (h : mkS S 15 x.toNat = some (j, S')) : rs 1 71 [l0, l1] (vI x :: st) (S, C, D) = rs 1 74 [l0, l1] (vR 15 j :: st) (S', C, D) := rs_bc rfl hx h rfl rfl
theorem s1_74 (l0 l1 : AV) (x v : Nat) (st : List AV) (S : MS) (C : MC) (D : MD) : rs 1 74 [l0, l1] (vR 15 v :: vR 0 x :: st) (S, C, D) = rs 1 77 [l0, l1] st ((up2 S.1 0 x (some v), S.2), C, D) := rs_st rfl rfl
theorem s1_77 (l0 l1 : AV) (st : List AV) (μ : Mem) : rs 1 77 [l0, l1] st μ = rs 1 78 [l0, l1] (vI 0 :: st) μ := rs_st rfl rfl
theorem s1_78 (l0 l1 : AV) (x : Int) (st : List AV) (μ : Mem) : rs 1 78 [l0, l1] (vI x :: st) μ = rs 1 79 [unJ l0, vI x] st μ := rs_st rfl rfl
theorem s1_79 (l0 : AV) (x : Int) (st : List AV) (μ : Mem) : rs 1 79 [l0, vI x] st μ = rs 1 80 [l0, vI x] (vI x :: st) μ := rs_st rfl rfl
theorem s1_80 (l1 : AV) (t x : Nat) (st : List AV) (μ : Mem) : rs 1 80 [vR t x, l1] st μ = rs 1 81 [vR t x, l1] (vR t x :: st) μ := rs_st rfl rfl
theorem s1_81 (l0 l1 : AV) (x : Nat) (st : List AV) (S : MS) (C : MC) (D : MD) : rs 1 81 [l0, l1] (vR 0 x :: st) (S, C, D) = rs 1 84 [l0, l1] (rfV 15 (S.1 0 x) :: st) (S, C, D) := rs_st rfl rfl
theorem s1_84 (l0 l1 : AV) (x : Nat) (st : List AV) (S : MS) (C : MC) (D : MD) : rs 1 84 [l0, l1] (vR 15 x :: st) (S, C, D) = if (S.2.2.1 15 x) < 2147483648 then rs 1 85 [l0, l1] (vI ((S.2.2.1 15 x) : Nat) :: st) (S, C, D) else none := rs_ok rfl rfl
theorem s1_85 (l0 l1 : AV) (x y : Int) (st : List AV) (μ : Mem) : rs 1 85 [l0, l1] (vI y :: vI x :: st) μ = if y ≤ x then rs 1 115 [l0, l1] st μ else rs 1 88 [l0, l1] st μ := rs_ifb rfl (cnd_ge _ _) rfl rfl
theorem s1_88 (l1 : AV) (t x : Nat) (st : List AV) (μ : Mem) : rs 1 88 [vR t x, l1] st μ = rs 1 89 [vR t x, l1] (vR t x :: st) μ := rs_st rfl rfl
theorem s1_89 (l0 l1 : AV) (x : Nat) (st : List AV) (S : MS) (C : MC) (D : MD) : rs 1 89 [l0, l1] (vR 0 x :: st) (S, C, D) = rs 1 92 [l0, l1] (rfV 15 (S.1 0 x) :: st) (S, C, D) := rs_st rfl rfl
theorem s1_92 (l0 : AV) (x : Int) (st : List AV) (μ : Mem) : rs 1 92 [l0, vI x] st μ = rs 1 93 [l0, vI x] (vI x :: st) μ := rs_st rfl rfl
theorem s1_93 (l0 l1 : AV) (st : List AV) (S : MS) (C : MC) (D : MD) (j : Nat) (S' : MS) (h : mkS S 2 12 = some (j, S')) : rs 1 93 [l0, l1] st (S, C, D) = rs 1 96 [l0, l1] (vR 2 j :: st) (S', C, D) := rs_bi rfl h rfl rfl
theorem s1_96 (l0 l1 : AV) (x : Int) (st : List AV) (μ : Mem) : rs 1 96 [l0, l1] (vI x :: st) μ = rs 1 97 [l0, l1] (vI x :: vI x :: st) μ := rs_st rfl rfl
theorem s1_96r (l0 l1 : AV) (t x : Nat) (st : List AV) (μ : Mem) : rs 1 96 [l0, l1] (vR t x :: st) μ = rs 1 97 [l0, l1] (vR t x :: vR t x :: st) μ := rs_st rfl rfl
theorem s1_97 (l1 : AV) (t x : Nat) (st : List AV) (μ : Mem) : rs 1 97 [vR t x, l1] st μ = rs 1 98 [vR t x, l1] (vR t x :: st) μ := rs_st rfl rfl
theorem s1_98 (l0 l1 : AV) (x : Nat) (st : List AV) (S : MS) (C : MC) (D : MD) : rs 1 98 [l0, l1] (vR 0 x :: st) (S, C, D) = rs 1 101 [l0, l1] (rfV 4 (S.1 6 x) :: st) (S, C, D) := rs_st rfl rfl
theorem s1_101 (l1 : AV) (t x : Nat) (st : List AV) (μ : Mem) : rs 1 101 [vR t x, l1] st μ = rs 1 102 [vR t x, l1] (vR t x :: st) μ := rs_st rfl rfl
theorem s1_102 (l0 l1 : AV) (x : Nat) (st : List AV) (S : MS) (C : MC) (D : MD) : rs 1 102 [l0, l1] (vR 0 x :: st) (S, C, D) = rs 1 105 [l0, l1] (rfV 4 (S.1 7 x) :: st) (S, C, D) := rs_st rfl rfl
theorem s1_105 (l0 l1 : AV) (z : Nat) (a0 : Nat) (a1 : Nat) (b0 : Nat) (b1 : Int) (b2 : Nat) (μ : Mem) : rs 1 105 [l0, l1] [vR 4 a1, vR 4 a0, vR 2 z, vR 2 b0, vI b1, vR 15 b2] μ = (rs 201 0 [vR 2 z, vR 4 a0, vR 4 a1] [] μ).bind (fun w => rs 1 108 [l0, l1] (pushR w.1 [vR 2 b0, vI b1, vR 15 b2]) w.2) := rs_ca rfl rfl rfl
theorem s1_108 (l0 l1 : AV) (a : Nat) (x : Int) (v : Nat) (st : List AV) (S : MS) (I A : M2) (L P : Nat → Nat → Option Nat) (F G : Nat → Nat → UInt32) (D : MD) : rs 1 108 [l0, l1] (vR 2 v :: vI x :: vR 15 a :: st) (S, (I, A, L, P, F, G), D) = if 0 ≤ x ∧ x < (((S.2.2.1 15 a) : Nat) : Int) then rs 1 109 [l0, l1] st (S, (I, A, up2 L a x.toNat (some v), P, F, G), D) else none := rs_in rfl rfl
theorem s1_109 (l0 : AV) (x : Int) (st : List AV) (μ : Mem) : rs 1 109 [l0, vI x] st μ = rs 1 112 [unJ l0, vI (w32 (x + 1))] st μ := rs_st rfl rfl
theorem s1_112 (l0 l1 : AV) (st : List AV) (μ : Mem) : rs 1 112 [l0, l1] st μ = rs 1 79 [l0, l1] st μ := rs_st rfl rfl
theorem s1_115 (l1 : AV) (t x : Nat) (st : List AV) (μ : Mem) : rs 1 115 [vR t x, l1] st μ = rs 1 116 [vR t x, l1] (vR t x :: st) μ := rs_st rfl rfl
theorem s1_116 (l0 l1 : AV) (x : Nat) (st : List AV) (S : MS) (C : MC) (D : MD) : rs 1 116 [l0, l1] (vR 0 x :: st) (S, C, D) = rs 1 119 [l0, l1] (rfV 4 (S.1 2 x) :: st) (S, C, D) := rs_st rfl rfl
theorem s1_119 (l0 l1 : AV) (st : List AV) (μ : Mem) : rs 1 119 [l0, l1] st μ = rs 1 120 [l0, l1] (vI 0 :: st) μ := rs_st rfl rfl
theorem s1_120 (l0 l1 : AV) (st : List AV) (μ : Mem) : rs 1 120 [l0, l1] st μ = rs 1 122 [l0, l1] (vI 10 :: st) μ := rs_st rfl rfl
theorem s1_122 (l0 l1 : AV) (z : Nat) (a0 : Int) (a1 : Int)  (μ : Mem) : rs 1 122 [l0, l1] [vI a1, vI a0, vR 4 z] μ = (rs 403 0 [vR 4 z, vI a0, vI a1] [] μ).bind (fun w => rs 1 125 [l0, l1] (pushR w.1 []) w.2) := rs_ca rfl rfl rfl
theorem s1_125 (l1 : AV) (t x : Nat) (st : List AV) (μ : Mem) : rs 1 125 [vR t x, l1] st μ = rs 1 126 [vR t x, l1] (vR t x :: st) μ := rs_st rfl rfl
theorem s1_126 (l0 l1 : AV) (x : Nat) (st : List AV) (S : MS) (C : MC) (D : MD) : rs 1 126 [l0, l1] (vR 0 x :: st) (S, C, D) = rs 1 129 [l0, l1] (rfV 4 (S.1 2 x) :: st) (S, C, D) := rs_st rfl rfl
theorem s1_129 (l0 l1 : AV) (st : List AV) (μ : Mem) : rs 1 129 [l0, l1] st μ = rs 1 130 [l0, l1] (vI 1 :: st) μ := rs_st rfl rfl
theorem s1_130 (l0 l1 : AV) (st : List AV) (μ : Mem) : rs 1 130 [l0, l1] st μ = rs 1 132 [l0, l1] (vI 40 :: st) μ := rs_st rfl rfl
theorem s1_132 (l0 l1 : AV) (z : Nat) (a0 : Int) (a1 : Int)  (μ : Mem) : rs 1 132 [l0, l1] [vI a1, vI a0, vR 4 z] μ = (rs 403 0 [vR 4 z, vI a0, vI a1] [] μ).bind (fun w => rs 1 135 [l0, l1] (pushR w.1 []) w.2) := rs_ca rfl rfl rfl
theorem s1_135 (l1 : AV) (t x : Nat) (st : List AV) (μ : Mem) : rs 1 135 [vR t x, l1] st μ = rs 1 136 [vR t x, l1] (vR t x :: st) μ := rs_st rfl rfl
theorem s1_136 (l0 l1 : AV) (x : Nat) (st : List AV) (S : MS) (C : MC) (D : MD) : rs 1 136 [l0, l1] (vR 0 x :: st) (S, C, D) = rs 1 139 [l0, l1] (rfV 4 (S.1 2 x) :: st) (S, C, D) := rs_st rfl rfl
theorem s1_139 (l0 l1 : AV) (st : List AV) (μ : Mem) : rs 1 139 [l0, l1] st μ = rs 1 140 [l0, l1] (vI 2 :: st) μ := rs_st rfl rfl
theorem s1_140 (l0 l1 : AV) (st : List AV) (μ : Mem) : rs 1 140 [l0, l1] st μ = rs 1 141 [l0, l1] (vI 5 :: st) μ := rs_st rfl rfl
theorem s1_141 (l0 l1 : AV) (z : Nat) (a0 : Int) (a1 : Int)  (μ : Mem) : rs 1 141 [l0, l1] [vI a1, vI a0, vR 4 z] μ = (rs 403 0 [vR 4 z, vI a0, vI a1] [] μ).bind (fun w => rs 1 144 [l0, l1] (pushR w.1 []) w.2) := rs_ca rfl rfl rfl
theorem s1_144 (l1 : AV) (t x : Nat) (st : List AV) (μ : Mem) : rs 1 144 [vR t x, l1] st μ = rs 1 145 [vR t x, l1] (vR t x :: st) μ := rs_st rfl rfl
theorem s1_145 (l0 l1 : AV) (x : Nat) (st : List AV) (S : MS) (C : MC) (D : MD) : rs 1 145 [l0, l1] (vR 0 x :: st) (S, C, D) = rs 1 148 [l0, l1] (rfV 4 (S.1 2 x) :: st) (S, C, D) := rs_st rfl rfl
theorem s1_148 (l0 l1 : AV) (st : List AV) (μ : Mem) : rs 1 148 [l0, l1] st μ = rs 1 149 [l0, l1] (vI 3 :: st) μ := rs_st rfl rfl
theorem s1_149 (l0 l1 : AV) (st : List AV) (μ : Mem) : rs 1 149 [l0, l1] st μ = rs 1 150 [l0, l1] (vI 0 :: st) μ := rs_st rfl rfl
theorem s1_150 (l0 l1 : AV) (z : Nat) (a0 : Int) (a1 : Int)  (μ : Mem) : rs 1 150 [l0, l1] [vI a1, vI a0, vR 4 z] μ = (rs 403 0 [vR 4 z, vI a0, vI a1] [] μ).bind (fun w => rs 1 153 [l0, l1] (pushR w.1 []) w.2) := rs_ca rfl rfl rfl
theorem s1_153 (l0 l1 : AV)  (μ : Mem) : rs 1 153 [l0, l1] [] μ = some (vU, μ) := rs_ret rfl
theorem s101_0 (l1 : AV) (t x : Nat) (st : List AV) (μ : Mem) : rs 101 0 [vR t x, l1] st μ = rs 101 1 [vR t x, l1] (vR t x :: st) μ := rs_st rfl rfl
theorem s101_1 (l0 l1 : AV) (t x : Nat)  (μ : Mem) : rs 101 1 [l0, l1] [vR t x] μ = rs 101 4 [l0, l1] [] μ := rs_st rfl rfl
theorem s101_4 (l1 : AV) (t x : Nat) (st : List AV) (μ : Mem) : rs 101 4 [vR t x, l1] st μ = rs 101 5 [vR t x, l1] (vR t x :: st) μ := rs_st rfl rfl
theorem s101_5 (l0 l1 : AV) (st : List AV) (μ : Mem) : rs 101 5 [l0, l1] st μ = rs 101 6 [l0, l1] (vI 4 :: st) μ := rs_st rfl rfl
theorem s101_6 (l0 l1 : AV) (x : Int) (st : List AV) (S : MS) (C : MC) (D : MD) (j : Nat) (S' : MS) (hx : 0 ≤ x ∧ x < 10000) (h : mkS S 16 x.toNat = some (j, S')) : rs 101 6 [l0, l1] (vI x :: st) (S, C, D) = rs 101 9 [l0, l1] (vR 16 j :: st) (S', C, D) := rs_bc rfl hx h rfl rfl
theorem s101_9 (l0 l1 : AV) (x v : Nat) (st : List AV) (S : MS) (C : MC) (D : MD) : rs 101 9 [l0, l1] (vR 16 v :: vR 1 x :: st) (S, C, D) = rs 101 12 [l0, l1] st ((up2 S.1 20 x (some v), S.2), C, D) := rs_st rfl rfl
theorem s101_12 (l0 l1 : AV) (st : List AV) (μ : Mem) : rs 101 12 [l0, l1] st μ = rs 101 13 [l0, l1] (vI 0 :: st) μ := rs_st rfl rfl
theorem s101_13 (l0 l1 : AV) (x : Int) (st : List AV) (μ : Mem) : rs 101 13 [l0, l1] (vI x :: st) μ = rs 101 14 [unJ l0, vI x] st μ := rs_st rfl rfl
theorem s101_14 (l0 : AV) (x : Int) (st : List AV) (μ : Mem) : rs 101 14 [l0, vI x] st μ = rs 101 15 [l0, vI x] (vI x :: st) μ := rs_st rfl rfl
theorem s101_15 (l1 : AV) (t x : Nat) (st : List AV) (μ : Mem) : rs 101 15 [vR t x, l1] st μ = rs 101 16 [vR t x, l1] (vR t x :: st) μ := rs_st rfl rfl
theorem s101_16 (l0 l1 : AV) (x : Nat) (st : List AV) (S : MS) (C : MC) (D : MD) : rs 101 16 [l0, l1] (vR 1 x :: st) (S, C, D) = rs 101 19 [l0, l1] (rfV 16 (S.1 20 x) :: st) (S, C, D) := rs_st rfl rfl
theorem s101_19 (l0 l1 : AV) (x : Nat) (st : List AV) (S : MS) (C : MC) (D : MD) : rs 101 19 [l0, l1] (vR 16 x :: st) (S, C, D) = if (S.2.2.1 16 x) < 2147483648 then rs 101 20 [l0, l1] (vI ((S.2.2.1 16 x) : Nat) :: st) (S, C, D) else none := rs_ok rfl rfl
theorem s101_20 (l0 l1 : AV) (x y : Int) (st : List AV) (μ : Mem) : rs 101 20 [l0, l1] (vI y :: vI x :: st) μ = if y ≤ x then rs 101 42 [l0, l1] st μ else rs 101 23 [l0, l1] st μ := rs_ifb rfl (cnd_ge _ _) rfl rfl
theorem s101_23 (l1 : AV) (t x : Nat) (st : List AV) (μ : Mem) : rs 101 23 [vR t x, l1] st μ = rs 101 24 [vR t x, l1] (vR t x :: st) μ := rs_st rfl rfl
theorem s101_24 (l0 l1 : AV) (x : Nat) (st : List AV) (S : MS) (C : MC) (D : MD) : rs 101 24 [l0, l1] (vR 1 x :: st) (S, C, D) = rs 101 27 [l0, l1] (rfV 16 (S.1 20 x) :: st) (S, C, D) := rs_st rfl rfl
theorem s101_27 (l0 : AV) (x : Int) (st : List AV) (μ : Mem) : rs 101 27 [l0, vI x] st μ = rs 101 28 [l0, vI x] (vI x :: st) μ := rs_st rfl rfl
theorem s101_28 (l0 l1 : AV) (st : List AV) (S : MS) (C : MC) (D : MD) (j : Nat) (S' : MS) (h : mkS S 0 8 = some (j, S')) : rs 101 28 [l0, l1] st (S, C, D) = rs 101 31 [l0, l1] (vR 0 j :: st) (S', C, D) := rs_bi rfl h rfl rfl
theorem s101_31 (l0 l1 : AV) (x : Int) (st : List AV) (μ : Mem) : rs 101 31 [l0, l1] (vI x :: st) μ = rs 101 32 [l0, l1] (vI x :: vI x :: st) μ := rs_st rfl rfl
theorem s101_31r (l0 l1 : AV) (t x : Nat) (st : List AV) (μ : Mem) : rs 101 31 [l0, l1] (vR t x :: st) μ = rs 101 32 [l0, l1] (vR t x :: vR t x :: st) μ := rs_st rfl rfl
theorem s101_32 (l0 l1 : AV) (z : Nat) (b0 : Nat) (b1 : Int) (b2 : Nat) (μ : Mem) : rs 101 32 [l0, l1] [vR 0 z, vR 0 b0, vI b1, vR 16 b2] μ = (rs 1 0 [vR 0 z, vU] [] μ).bind (fun w => rs 101 35 [l0, l1] (pushR w.1 [vR 0 b0, vI b1, vR 16 b2]) w.2) := rs_ca rfl rfl rfl
theorem s101_35 (l0 l1 : AV) (a : Nat) (x : Int) (v : Nat) (st : List AV) (S : MS) (I A : M2) (L P : Nat → Nat → Option Nat) (F G : Nat → Nat → UInt32) (D : MD) : rs 101 35 [l0, l1] (vR 0 v :: vI x :: vR 16 a :: st) (S, (I, A, L, P, F, G), D) = if 0 ≤ x ∧ x < (((S.2.2.1 16 a) : Nat) : Int) then rs 101 36 [l0, l1] st (S, (I, A, L, up2 P a x.toNat (some v), F, G), D) else none := rs_in rfl rfl
theorem s101_36 (l0 : AV) (x : Int) (st : List AV) (μ : Mem) : rs 101 36 [l0, vI x] st μ = rs 101 39 [unJ l0, vI (w32 (x + 1))] st μ := rs_st rfl rfl
theorem s101_39 (l0 l1 : AV) (st : List AV) (μ : Mem) : rs 101 39 [l0, l1] st μ = rs 101 14 [l0, l1] st μ := rs_st rfl rfl
theorem s101_42 (l0 l1 : AV)  (μ : Mem) : rs 101 42 [l0, l1] [] μ = some (vU, μ) := rs_ret rfl
theorem s201_0 (l1 l2 : AV) (t x : Nat) (st : List AV) (μ : Mem) : rs 201 0 [vR t x, l1, l2] st μ = rs 201 1 [vR t x, l1, l2] (vR t x :: st) μ := rs_st rfl rfl
theorem s201_1 (l0 l1 l2 : AV) (t x : Nat)  (μ : Mem) : rs 201 1 [l0, l1, l2] [vR t x] μ = rs 201 4 [l0, l1, l2] [] μ := rs_st rfl rfl
theorem s201_4 (l1 l2 : AV) (t x : Nat) (st : List AV) (μ : Mem) : rs 201 4 [vR t x, l1, l2] st μ = rs 201 5 [vR t x, l1, l2] (vR t x :: st) μ := rs_st rfl rfl
theorem s201_5 (l0 l1 l2 : AV) (st : List AV) (S : MS) (C : MC) (D : MD) (j : Nat) (S' : MS) (h : mkS S 4 1 = some (j, S')) : rs 201 5 [l0, l1, l2] st (S, C, D) = rs 201 8 [l0, l1, l2] (vR 4 j :: st) (S', C, D) := rs_bi rfl h rfl rfl
theorem s201_8 (l0 l1 l2 : AV) (x : Int) (st : List AV) (μ : Mem) : rs 201 8 [l0, l1, l2] (vI x :: st) μ = rs 201 9 [l0, l1, l2] (vI x :: vI x :: st) μ := rs_st rfl rfl
theorem s201_8r (l0 l1 l2 : AV) (t x : Nat) (st : List AV) (μ : Mem) : rs 201 8 [l0, l1, l2] (vR t x :: st) μ = rs 201 9 [l0, l1, l2] (vR t x :: vR t x :: st) μ := rs_st rfl rfl
theorem s201_9 (l0 l1 l2 : AV) (st : List AV) (μ : Mem) : rs 201 9 [l0, l1, l2] st μ = rs 201 11 [l0, l1, l2] (vI 8 :: st) μ := rs_st rfl rfl
theorem s201_11 (l0 l1 l2 : AV) (z : Nat) (a0 : Int) (b0 : Nat) (b1 : Nat) (μ : Mem) : rs 201 11 [l0, l1, l2] [vI a0, vR 4 z, vR 4 b0, vR 2 b1] μ = (rs 401 0 [vR 4 z, vI a0] [] μ).bind (fun w => rs 201 14 [l0, l1, l2] (pushR w.1 [vR 4 b0, vR 2 b1]) w.2) := rs_ca rfl rfl rfl
theorem s201_14 (l0 l1 l2 : AV) (x v : Nat) (st : List AV) (S : MS) (C : MC) (D : MD) : rs 201 14 [l0, l1, l2] (vR 4 v :: vR 2 x :: st) (S, C, D) = rs 201 17 [l0, l1, l2] st ((up2 S.1 42 x (some v), S.2), C, D) := rs_st rfl rfl
theorem s201_17 (l1 l2 : AV) (t x : Nat) (st : List AV) (μ : Mem) : rs 201 17 [vR t x, l1, l2] st μ = rs 201 18 [vR t x, l1, l2] (vR t x :: st) μ := rs_st rfl rfl
theorem s201_18 (l0 l2 : AV) (t x : Nat) (st : List AV) (μ : Mem) : rs 201 18 [l0, vR t x, l2] st μ = rs 201 19 [l0, vR t x, l2] (vR t x :: st) μ := rs_st rfl rfl
theorem s201_19 (l0 l1 l2 : AV) (x v : Nat) (st : List AV) (S : MS) (C : MC) (D : MD) : rs 201 19 [l0, l1, l2] (vR 4 v :: vR 2 x :: st) (S, C, D) = rs 201 22 [l0, l1, l2] st ((up2 S.1 40 x (some v), S.2), C, D) := rs_st rfl rfl
theorem s201_22 (l1 l2 : AV) (t x : Nat) (st : List AV) (μ : Mem) : rs 201 22 [vR t x, l1, l2] st μ = rs 201 23 [vR t x, l1, l2] (vR t x :: st) μ := rs_st rfl rfl
theorem s201_23 (l0 l1 : AV) (t x : Nat) (st : List AV) (μ : Mem) : rs 201 23 [l0, l1, vR t x] st μ = rs 201 24 [l0, l1, vR t x] (vR t x :: st) μ := rs_st rfl rfl
theorem s201_24 (l0 l1 l2 : AV) (x v : Nat) (st : List AV) (S : MS) (C : MC) (D : MD) : rs 201 24 [l0, l1, l2] (vR 4 v :: vR 2 x :: st) (S, C, D) = rs 201 27 [l0, l1, l2] st ((up2 S.1 41 x (some v), S.2), C, D) := rs_st rfl rfl
theorem s201_27 (l0 l1 l2 : AV)  (μ : Mem) : rs 201 27 [l0, l1, l2] [] μ = some (vU, μ) := rs_ret rfl
theorem s301_0 (t x : Nat) (st : List AV) (μ : Mem) : rs 301 0 [vR t x] st μ = rs 301 1 [vR t x] (vR t x :: st) μ := rs_st rfl rfl
theorem s301_1 (l0 : AV) (t x : Nat)  (μ : Mem) : rs 301 1 [l0] [vR t x] μ = rs 301 4 [l0] [] μ := rs_st rfl rfl
theorem s301_4 (t x : Nat) (st : List AV) (μ : Mem) : rs 301 4 [vR t x] st μ = rs 301 5 [vR t x] (vR t x :: st) μ := rs_st rfl rfl
theorem s301_5 (l0 : AV) (st : List AV) (S : MS) (C : MC) (D : MD) (j : Nat) (S' : MS) (h : mkS S 4 1 = some (j, S')) : rs 301 5 [l0] st (S, C, D) = rs 301 8 [l0] (vR 4 j :: st) (S', C, D) := rs_bi rfl h rfl rfl
theorem s301_8 (l0 : AV) (x : Int) (st : List AV) (μ : Mem) : rs 301 8 [l0] (vI x :: st) μ = rs 301 9 [l0] (vI x :: vI x :: st) μ := rs_st rfl rfl
theorem s301_8r (l0 : AV) (t x : Nat) (st : List AV) (μ : Mem) : rs 301 8 [l0] (vR t x :: st) μ = rs 301 9 [l0] (vR t x :: vR t x :: st) μ := rs_st rfl rfl
theorem s301_9 (l0 : AV) (st : List AV) (μ : Mem) : rs 301 9 [l0] st μ = rs 301 11 [l0] (vI 8 :: st) μ := rs_st rfl rfl
theorem s301_11 (l0 : AV) (z : Nat) (a0 : Int) (b0 : Nat) (b1 : Nat) (μ : Mem) : rs 301 11 [l0] [vI a0, vR 4 z, vR 4 b0, vR 3 b1] μ = (rs 401 0 [vR 4 z, vI a0] [] μ).bind (fun w => rs 301 14 [l0] (pushR w.1 [vR 4 b0, vR 3 b1]) w.2) := rs_ca rfl rfl rfl
theorem s301_14 (l0 : AV) (x v : Nat) (st : List AV) (S : MS) (C : MC) (D : MD) : rs 301 14 [l0] (vR 4 v :: vR 3 x :: st) (S, C, D) = rs 301 17 [l0] st ((up2 S.1 60 x (some v), S.2), C, D) := rs_st rfl rfl
theorem s301_17 (t x : Nat) (st : List AV) (μ : Mem) : rs 301 17 [vR t x] st μ = rs 301 18 [vR t x] (vR t x :: st) μ := rs_st rfl rfl
theorem s301_18 (l0 : AV) (st : List AV) (μ : Mem) : rs 301 18 [l0] st μ = rs 301 20 [l0] (vI 12 :: st) μ := rs_st rfl rfl
theorem s301_20 (l0 : AV) (x : Int) (st : List AV) (S : MS) (C : MC) (D : MD) (j : Nat) (S' : MS) (hx : 0 ≤ x ∧ x < 10000) (h : mkS S 17 x.toNat = some (j, S')) : rs 301 20 [l0] (vI x :: st) (S, C, D) = rs 301 22 [l0] (vR 17 j :: st) (S', C, D) := rs_bc rfl hx h rfl rfl
theorem s301_22 (l0 : AV) (x v : Nat) (st : List AV) (S : MS) (C : MC) (D : MD) : rs 301 22 [l0] (vR 17 v :: vR 3 x :: st) (S, C, D) = rs 301 25 [l0] st ((up2 S.1 61 x (some v), S.2), C, D) := rs_st rfl rfl
theorem s301_25 (l0 : AV)  (μ : Mem) : rs 301 25 [l0] [] μ = some (vU, μ) := rs_ret rfl
theorem s401_0 (l1 : AV) (t x : Nat) (st : List AV) (μ : Mem) : rs 401 0 [vR t x, l1] st μ = rs 401 1 [vR t x, l1] (vR t x :: st) μ := rs_st rfl rfl
theorem s401_1 (l0 l1 : AV) (t x : Nat)  (μ : Mem) : rs 401 1 [l0, l1] [vR t x] μ = rs 401 4 [l0, l1] [] μ := rs_st rfl rfl
theorem s401_4 (l1 : AV) (t x : Nat) (st : List AV) (μ : Mem) : rs 401 4 [vR t x, l1] st μ = rs 401 5 [vR t x, l1] (vR t x :: st) μ := rs_st rfl rfl
theorem s401_5 (l0 : AV) (x : Int) (st : List AV) (μ : Mem) : rs 401 5 [l0, vI x] st μ = rs 401 6 [l0, vI x] (vI x :: st) μ := rs_st rfl rfl
theorem s401_6 (l0 l1 : AV) (st : List AV) (μ : Mem) : rs 401 6 [l0, l1] st μ = rs 401 7 [l0, l1] (vI 0 :: st) μ := rs_st rfl rfl
theorem s401_7 (l0 l1 : AV) (x y : Int) (b0 : Nat) (μ : Mem) : rs 401 7 [l0, l1] [vI y, vI x, vR 4 b0] μ = rs 401 10 [l0, l1] [vI (if x < y then y else x), vR 4 b0] μ := rs_st rfl rfl
theorem s401_10 (l0 l1 : AV) (x : Int) (st : List AV) (S : MS) (C : MC) (D : MD) (j : Nat) (S' : MS) (hx : 0 ≤ x ∧ x < 10000) (h : mkS S 13 x.toNat = some (j, S')) : rs 401 10 [l0, l1] (vI x :: st) (S, C, D) = rs 401 12 [l0, l1] (vR 13 j :: st) (S', C, D) := rs_bc rfl hx h rfl rfl
theorem s401_12 (l0 l1 : AV) (x v : Nat) (st : List AV) (S : MS) (C : MC) (D : MD) : rs 401 12 [l0, l1] (vR 13 v :: vR 4 x :: st) (S, C, D) = rs 401 15 [l0, l1] st ((up2 S.1 80 x (some v), S.2), C, D) := rs_st rfl rfl
theorem s401_15 (l0 l1 : AV)  (μ : Mem) : rs 401 15 [l0, l1] [] μ = some (vU, μ) := rs_ret rfl
theorem s501_0 (t x : Nat) (st : List AV) (μ : Mem) : rs 501 0 [vR t x] st μ = rs 501 1 [vR t x] (vR t x :: st) μ := rs_st rfl rfl
theorem s501_1 (l0 : AV) (t x : Nat)  (μ : Mem) : rs 501 1 [l0] [vR t x] μ = rs 501 4 [l0] [] μ := rs_st rfl rfl
theorem s501_4 (t x : Nat) (st : List AV) (μ : Mem) : rs 501 4 [vR t x] st μ = rs 501 5 [vR t x] (vR t x :: st) μ := rs_st rfl rfl
theorem s501_5 (l0 : AV) (st : List AV) (S : MS) (C : MC) (D : MD) (j : Nat) (S' : MS) (h : mkS S 4 1 = some (j, S')) : rs 501 5 [l0] st (S, C, D) = rs 501 8 [l0] (vR 4 j :: st) (S', C, D) := rs_bi rfl h rfl rfl
theorem s501_8 (l0 : AV) (x : Int) (st : List AV) (μ : Mem) : rs 501 8 [l0] (vI x :: st) μ = rs 501 9 [l0] (vI x :: vI x :: st) μ := rs_st rfl rfl
theorem s501_8r (l0 : AV) (t x : Nat) (st : List AV) (μ : Mem) : rs 501 8 [l0] (vR t x :: st) μ = rs 501 9 [l0] (vR t x :: vR t x :: st) μ := rs_st rfl rfl
theorem s501_9 (l0 : AV) (st : List AV) (μ : Mem) : rs 501 9 [l0] st μ = rs 501 11 [l0] (vI 8 :: st) μ := rs_st rfl rfl
theorem s501_11 (l0 : AV) (z : Nat) (a0 : Int) (b0 : Nat) (b1 : Nat) (μ : Mem) : rs 501 11 [l0] [vI a0, vR 4 z, vR 4 b0, vR 5 b1] μ = (rs 401 0 [vR 4 z, vI a0] [] μ).bind (fun w => rs 501 14 [l0] (pushR w.1 [vR 4 b0, vR 5 b1]) w.2) := rs_ca rfl rfl rfl
theorem s501_14 (l0 : AV) (x v : Nat) (st : List AV) (S : MS) (C : MC) (D : MD) : rs 501 14 [l0] (vR 4 v :: vR 5 x :: st) (S, C, D) = rs 501 17 [l0] st ((up2 S.1 100 x (some v), S.2), C, D) := rs_st rfl rfl
theorem s501_17 (t x : Nat) (st : List AV) (μ : Mem) : rs 501 17 [vR t x] st μ = rs 501 18 [vR t x] (vR t x :: st) μ := rs_st rfl rfl
theorem s501_18 (l0 : AV) (st : List AV) (S : MS) (C : MC) (D : MD) (j : Nat) (S' : MS) (h : mkS S 4 1 = some (j, S')) : rs 501 18 [l0] st (S, C, D) = rs 501 21 [l0] (vR 4 j :: st) (S', C, D) := rs_bi rfl h rfl rfl
theorem s501_21 (l0 : AV) (x : Int) (st : List AV) (μ : Mem) : rs 501 21 [l0] (vI x :: st) μ = rs 501 22 [l0] (vI x :: vI x :: st) μ := rs_st rfl rfl
theorem s501_21r (l0 : AV) (t x : Nat) (st : List AV) (μ : Mem) : rs 501 21 [l0] (vR t x :: st) μ = rs 501 22 [l0] (vR t x :: vR t x :: st) μ := rs_st rfl rfl
theorem s501_22 (l0 : AV) (st : List AV) (μ : Mem) : rs 501 22 [l0] st μ = rs 501 24 [l0] (vI 8 :: st) μ := rs_st rfl rfl
theorem s501_24 (l0 : AV) (z : Nat) (a0 : Int) (b0 : Nat) (b1 : Nat) (μ : Mem) : rs 501 24 [l0] [vI a0, vR 4 z, vR 4 b0, vR 5 b1] μ = (rs 401 0 [vR 4 z, vI a0] [] μ).bind (fun w => rs 501 27 [l0] (pushR w.1 [vR 4 b0, vR 5 b1]) w.2) := rs_ca rfl rfl rfl
theorem s501_27 (l0 : AV) (x v : Nat) (st : List AV) (S : MS) (C : MC) (D : MD) : rs 501 27 [l0] (vR 4 v :: vR 5 x :: st) (S, C, D) = rs 501 30 [l0] st ((up2 S.1 101 x (some v), S.2), C, D) := rs_st rfl rfl
theorem s501_30 (t x : Nat) (st : List AV) (μ : Mem) : rs 501 30 [vR t x] st μ = rs 501 31 [vR t x] (vR t x :: st) μ := rs_st rfl rfl
theorem s501_31 (l0 : AV) (st : List AV) (S : MS) (C : MC) (D : MD) (j : Nat) (S' : MS) (h : mkS S 4 1 = some (j, S')) : rs 501 31 [l0] st (S, C, D) = rs 501 34 [l0] (vR 4 j :: st) (S', C, D) := rs_bi rfl h rfl rfl
theorem s501_34 (l0 : AV) (x : Int) (st : List AV) (μ : Mem) : rs 501 34 [l0] (vI x :: st) μ = rs 501 35 [l0] (vI x :: vI x :: st) μ := rs_st rfl rfl
theorem s501_34r (l0 : AV) (t x : Nat) (st : List AV) (μ : Mem) : rs 501 34 [l0] (vR t x :: st) μ = rs 501 35 [l0] (vR t x :: vR t x :: st) μ := rs_st rfl rfl
theorem s501_35 (l0 : AV) (st : List AV) (μ : Mem) : rs 501 35 [l0] st μ = rs 501 37 [l0] (vI 8 :: st) μ := rs_st rfl rfl
theorem s501_37 (l0 : AV) (z : Nat) (a0 : Int) (b0 : Nat) (b1 : Nat) (μ : Mem) : rs 501 37 [l0] [vI a0, vR 4 z, vR 4 b0, vR 5 b1] μ = (rs 401 0 [vR 4 z, vI a0] [] μ).bind (fun w => rs 501 40 [l0] (pushR w.1 [vR 4 b0, vR 5 b1]) w.2) := rs_ca rfl rfl rfl
theorem s501_40 (l0 : AV) (x v : Nat) (st : List AV) (S : MS) (C : MC) (D : MD) : rs 501 40 [l0] (vR 4 v :: vR 5 x :: st) (S, C, D) = rs 501 43 [l0] st ((up2 S.1 102 x (some v), S.2), C, D) := rs_st rfl rfl
theorem s501_43 (l0 : AV)  (μ : Mem) : rs 501 43 [l0] [] μ = some (vU, μ) := rs_ret rfl
theorem s601_0 (t x : Nat) (st : List AV) (μ : Mem) : rs 601 0 [vR t x] st μ = rs 601 1 [vR t x] (vR t x :: st) μ := rs_st rfl rfl
theorem s601_1 (l0 : AV) (t x : Nat)  (μ : Mem) : rs 601 1 [l0] [vR t x] μ = rs 601 4 [l0] [] μ := rs_st rfl rfl
theorem s601_4 (t x : Nat) (st : List AV) (μ : Mem) : rs 601 4 [vR t x] st μ = rs 601 5 [vR t x] (vR t x :: st) μ := rs_st rfl rfl
theorem s601_5 (l0 : AV) (st : List AV) (S : MS) (C : MC) (D : MD) (j : Nat) (S' : MS) (h : mkS S 4 1 = some (j, S')) : rs 601 5 [l0] st (S, C, D) = rs 601 8 [l0] (vR 4 j :: st) (S', C, D) := rs_bi rfl h rfl rfl
theorem s601_8 (l0 : AV) (x : Int) (st : List AV) (μ : Mem) : rs 601 8 [l0] (vI x :: st) μ = rs 601 9 [l0] (vI x :: vI x :: st) μ := rs_st rfl rfl
theorem s601_8r (l0 : AV) (t x : Nat) (st : List AV) (μ : Mem) : rs 601 8 [l0] (vR t x :: st) μ = rs 601 9 [l0] (vR t x :: vR t x :: st) μ := rs_st rfl rfl
theorem s601_9 (l0 : AV) (st : List AV) (μ : Mem) : rs 601 9 [l0] st μ = rs 601 11 [l0] (vI 100 :: st) μ := rs_st rfl rfl
theorem s601_11 (l0 : AV) (z : Nat) (a0 : Int) (b0 : Nat) (b1 : Nat) (μ : Mem) : rs 601 11 [l0] [vI a0, vR 4 z, vR 4 b0, vR 6 b1] μ = (rs 401 0 [vR 4 z, vI a0] [] μ).bind (fun w => rs 601 14 [l0] (pushR w.1 [vR 4 b0, vR 6 b1]) w.2) := rs_ca rfl rfl rfl
theorem s601_14 (l0 : AV) (x v : Nat) (st : List AV) (S : MS) (C : MC) (D : MD) : rs 601 14 [l0] (vR 4 v :: vR 6 x :: st) (S, C, D) = rs 601 17 [l0] st ((up2 S.1 120 x (some v), S.2), C, D) := rs_st rfl rfl
theorem s601_17 (t x : Nat) (st : List AV) (μ : Mem) : rs 601 17 [vR t x] st μ = rs 601 18 [vR t x] (vR t x :: st) μ := rs_st rfl rfl
theorem s601_18 (l0 : AV) (st : List AV) (S : MS) (C : MC) (D : MD) (j : Nat) (S' : MS) (h : mkS S 5 4 = some (j, S')) : rs 601 18 [l0] st (S, C, D) = rs 601 21 [l0] (vR 5 j :: st) (S', C, D) := rs_bi rfl h rfl rfl
theorem s601_21 (l0 : AV) (x : Int) (st : List AV) (μ : Mem) : rs 601 21 [l0] (vI x :: st) μ = rs 601 22 [l0] (vI x :: vI x :: st) μ := rs_st rfl rfl
theorem s601_21r (l0 : AV) (t x : Nat) (st : List AV) (μ : Mem) : rs 601 21 [l0] (vR t x :: st) μ = rs 601 22 [l0] (vR t x :: vR t x :: st) μ := rs_st rfl rfl
theorem s601_22 (l0 : AV) (z : Nat) (b0 : Nat) (b1 : Nat) (μ : Mem) : rs 601 22 [l0] [vR 5 z, vR 5 b0, vR 6 b1] μ = (rs 501 0 [vR 5 z] [] μ).bind (fun w => rs 601 25 [l0] (pushR w.1 [vR 5 b0, vR 6 b1]) w.2) := rs_ca rfl rfl rfl
theorem s601_25 (l0 : AV) (x v : Nat) (st : List AV) (S : MS) (C : MC) (D : MD) : rs 601 25 [l0] (vR 5 v :: vR 6 x :: st) (S, C, D) = rs 601 28 [l0] st ((up2 S.1 121 x (some v), S.2), C, D) := rs_st rfl rfl
theorem s601_28 (l0 : AV)  (μ : Mem) : rs 601 28 [l0] [] μ = some (vU, μ) := rs_ret rfl
theorem s701_0 (t x : Nat) (st : List AV) (μ : Mem) : rs 701 0 [vR t x] st μ = rs 701 1 [vR t x] (vR t x :: st) μ := rs_st rfl rfl
theorem s701_1 (l0 : AV) (t x : Nat)  (μ : Mem) : rs 701 1 [l0] [vR t x] μ = rs 701 4 [l0] [] μ := rs_st rfl rfl
theorem s701_4 (t x : Nat) (st : List AV) (μ : Mem) : rs 701 4 [vR t x] st μ = rs 701 5 [vR t x] (vR t x :: st) μ := rs_st rfl rfl
theorem s701_5 (l0 : AV) (st : List AV) (S : MS) (C : MC) (D : MD) (j : Nat) (S' : MS) (h : mkS S 4 1 = some (j, S')) : rs 701 5 [l0] st (S, C, D) = rs 701 8 [l0] (vR 4 j :: st) (S', C, D) := rs_bi rfl h rfl rfl
theorem s701_8 (l0 : AV) (x : Int) (st : List AV) (μ : Mem) : rs 701 8 [l0] (vI x :: st) μ = rs 701 9 [l0] (vI x :: vI x :: st) μ := rs_st rfl rfl
theorem s701_8r (l0 : AV) (t x : Nat) (st : List AV) (μ : Mem) : rs 701 8 [l0] (vR t x :: st) μ = rs 701 9 [l0] (vR t x :: vR t x :: st) μ := rs_st rfl rfl
theorem s701_9 (l0 : AV) (st : List AV) (μ : Mem) : rs 701 9 [l0] st μ = rs 701 12 [l0] (vI 200 :: st) μ := rs_st rfl rfl
theorem s701_12 (l0 : AV) (z : Nat) (a0 : Int) (b0 : Nat) (b1 : Nat) (μ : Mem) : rs 701 12 [l0] [vI a0, vR 4 z, vR 4 b0, vR 7 b1] μ = (rs 401 0 [vR 4 z, vI a0] [] μ).bind (fun w => rs 701 15 [l0] (pushR w.1 [vR 4 b0, vR 7 b1]) w.2) := rs_ca rfl rfl rfl
theorem s701_15 (l0 : AV) (x v : Nat) (st : List AV) (S : MS) (C : MC) (D : MD) : rs 701 15 [l0] (vR 4 v :: vR 7 x :: st) (S, C, D) = rs 701 18 [l0] st ((up2 S.1 140 x (some v), S.2), C, D) := rs_st rfl rfl
theorem s701_18 (t x : Nat) (st : List AV) (μ : Mem) : rs 701 18 [vR t x] st μ = rs 701 19 [vR t x] (vR t x :: st) μ := rs_st rfl rfl
theorem s701_19 (l0 : AV) (st : List AV) (S : MS) (C : MC) (D : MD) (j : Nat) (S' : MS) (h : mkS S 4 1 = some (j, S')) : rs 701 19 [l0] st (S, C, D) = rs 701 22 [l0] (vR 4 j :: st) (S', C, D) := rs_bi rfl h rfl rfl
theorem s701_22 (l0 : AV) (x : Int) (st : List AV) (μ : Mem) : rs 701 22 [l0] (vI x :: st) μ = rs 701 23 [l0] (vI x :: vI x :: st) μ := rs_st rfl rfl
theorem s701_22r (l0 : AV) (t x : Nat) (st : List AV) (μ : Mem) : rs 701 22 [l0] (vR t x :: st) μ = rs 701 23 [l0] (vR t x :: vR t x :: st) μ := rs_st rfl rfl
theorem s701_23 (l0 : AV) (st : List AV) (μ : Mem) : rs 701 23 [l0] st μ = rs 701 26 [l0] (vI 200 :: st) μ := rs_st rfl rfl
theorem s701_26 (l0 : AV) (z : Nat) (a0 : Int) (b0 : Nat) (b1 : Nat) (μ : Mem) : rs 701 26 [l0] [vI a0, vR 4 z, vR 4 b0, vR 7 b1] μ = (rs 401 0 [vR 4 z, vI a0] [] μ).bind (fun w => rs 701 29 [l0] (pushR w.1 [vR 4 b0, vR 7 b1]) w.2) := rs_ca rfl rfl rfl
theorem s701_29 (l0 : AV) (x v : Nat) (st : List AV) (S : MS) (C : MC) (D : MD) : rs 701 29 [l0] (vR 4 v :: vR 7 x :: st) (S, C, D) = rs 701 32 [l0] st ((up2 S.1 141 x (some v), S.2), C, D) := rs_st rfl rfl
theorem s701_32 (l0 : AV)  (μ : Mem) : rs 701 32 [l0] [] μ = some (vU, μ) := rs_ret rfl
theorem s801_0 (l1 : AV) (t x : Nat) (st : List AV) (μ : Mem) : rs 801 0 [vR t x, l1] st μ = rs 801 1 [vR t x, l1] (vR t x :: st) μ := rs_st rfl rfl
theorem s801_1 (l0 l1 : AV) (t x : Nat)  (μ : Mem) : rs 801 1 [l0, l1] [vR t x] μ = rs 801 4 [l0, l1] [] μ := rs_st rfl rfl
theorem s801_4 (l1 : AV) (t x : Nat) (st : List AV) (μ : Mem) : rs 801 4 [vR t x, l1] st μ = rs 801 5 [vR t x, l1] (vR t x :: st) μ := rs_st rfl rfl
theorem s801_5 (l0 l1 : AV) (st : List AV) (S : MS) (C : MC) (D : MD) (j : Nat) (S' : MS) (h : mkS S 0 8 = some (j, S')) : rs 801 5 [l0, l1] st (S, C, D) = rs 801 8 [l0, l1] (vR 0 j :: st) (S', C, D) := rs_bi rfl h rfl rfl
theorem s801_8 (l0 l1 : AV) (x : Int) (st : List AV) (μ : Mem) : rs 801 8 [l0, l1] (vI x :: st) μ = rs 801 9 [l0, l1] (vI x :: vI x :: st) μ := rs_st rfl rfl
theorem s801_8r (l0 l1 : AV) (t x : Nat) (st : List AV) (μ : Mem) : rs 801 8 [l0, l1] (vR t x :: st) μ = rs 801 9 [l0, l1] (vR t x :: vR t x :: st) μ := rs_st rfl rfl
theorem s801_9 (l0 l1 : AV) (z : Nat) (b0 : Nat) (b1 : Nat) (μ : Mem) : rs 801 9 [l0, l1] [vR 0 z, vR 0 b0, vR 8 b1] μ = (rs 1 0 [vR 0 z, vU] [] μ).bind (fun w => rs 801 12 [l0, l1] (pushR w.1 [vR 0 b0, vR 8 b1]) w.2) := rs_ca rfl rfl rfl
theorem s801_12 (l0 l1 : AV) (x v : Nat) (st : List AV) (S : MS) (C : MC) (D : MD) : rs 801 12 [l0, l1] (vR 0 v :: vR 8 x :: st) (S, C, D) = rs 801 15 [l0, l1] st ((up2 S.1 160 x (some v), S.2), C, D) := rs_st rfl rfl
theorem s801_15 (l1 : AV) (t x : Nat) (st : List AV) (μ : Mem) : rs 801 15 [vR t x, l1] st μ = rs 801 16 [vR t x, l1] (vR t x :: st) μ := rs_st rfl rfl
theorem s801_16 (l0 l1 : AV) (st : List AV) (S : MS) (C : MC) (D : MD) (j : Nat) (S' : MS) (h : mkS S 2 12 = some (j, S')) : rs 801 16 [l0, l1] st (S, C, D) = rs 801 19 [l0, l1] (vR 2 j :: st) (S', C, D) := rs_bi rfl h rfl rfl
theorem s801_19 (l0 l1 : AV) (x : Int) (st : List AV) (μ : Mem) : rs 801 19 [l0, l1] (vI x :: st) μ = rs 801 20 [l0, l1] (vI x :: vI x :: st) μ := rs_st rfl rfl
theorem s801_19r (l0 l1 : AV) (t x : Nat) (st : List AV) (μ : Mem) : rs 801 19 [l0, l1] (vR t x :: st) μ = rs 801 20 [l0, l1] (vR t x :: vR t x :: st) μ := rs_st rfl rfl
theorem s801_20 (l0 l1 : AV) (st : List AV) (S : MS) (C : MC) (D : MD) (j : Nat) (S' : MS) (h : mkS S 4 1 = some (j, S')) : rs 801 20 [l0, l1] st (S, C, D) = rs 801 23 [l0, l1] (vR 4 j :: st) (S', C, D) := rs_bi rfl h rfl rfl
theorem s801_23 (l0 l1 : AV) (x : Int) (st : List AV) (μ : Mem) : rs 801 23 [l0, l1] (vI x :: st) μ = rs 801 24 [l0, l1] (vI x :: vI x :: st) μ := rs_st rfl rfl
theorem s801_23r (l0 l1 : AV) (t x : Nat) (st : List AV) (μ : Mem) : rs 801 23 [l0, l1] (vR t x :: st) μ = rs 801 24 [l0, l1] (vR t x :: vR t x :: st) μ := rs_st rfl rfl
theorem s801_24 (l0 l1 : AV) (st : List AV) (μ : Mem) : rs 801 24 [l0, l1] st μ = rs 801 27 [l0, l1] (vI 200 :: st) μ := rs_st rfl rfl
theorem s801_27 (l0 l1 : AV) (z : Nat) (a0 : Int) (b0 : Nat) (b1 : Nat) (b2 : Nat) (b3 : Nat) (μ : Mem) : rs 801 27 [l0, l1] [vI a0, vR 4 z, vR 4 b0, vR 2 b1, vR 2 b2, vR 8 b3] μ = (rs 401 0 [vR 4 z, vI a0] [] μ).bind (fun w => rs 801 30 [l0, l1] (pushR w.1 [vR 4 b0, vR 2 b1, vR 2 b2, vR 8 b3]) w.2) := rs_ca rfl rfl rfl
theorem s801_30 (l0 l1 : AV) (st : List AV) (S : MS) (C : MC) (D : MD) (j : Nat) (S' : MS) (h : mkS S 4 1 = some (j, S')) : rs 801 30 [l0, l1] st (S, C, D) = rs 801 33 [l0, l1] (vR 4 j :: st) (S', C, D) := rs_bi rfl h rfl rfl
theorem s801_33 (l0 l1 : AV) (x : Int) (st : List AV) (μ : Mem) : rs 801 33 [l0, l1] (vI x :: st) μ = rs 801 34 [l0, l1] (vI x :: vI x :: st) μ := rs_st rfl rfl
theorem s801_33r (l0 l1 : AV) (t x : Nat) (st : List AV) (μ : Mem) : rs 801 33 [l0, l1] (vR t x :: st) μ = rs 801 34 [l0, l1] (vR t x :: vR t x :: st) μ := rs_st rfl rfl
theorem s801_34 (l0 l1 : AV) (st : List AV) (μ : Mem) : rs 801 34 [l0, l1] st μ = rs 801 37 [l0, l1] (vI 200 :: st) μ := rs_st rfl rfl
theorem s801_37 (l0 l1 : AV) (z : Nat) (a0 : Int) (b0 : Nat) (b1 : Nat) (b2 : Nat) (b3 : Nat) (b4 : Nat) (μ : Mem) : rs 801 37 [l0, l1] [vI a0, vR 4 z, vR 4 b0, vR 4 b1, vR 2 b2, vR 2 b3, vR 8 b4] μ = (rs 401 0 [vR 4 z, vI a0] [] μ).bind (fun w => rs 801 40 [l0, l1] (pushR w.1 [vR 4 b0, vR 4 b1, vR 2 b2, vR 2 b3, vR 8 b4]) w.2) := rs_ca rfl rfl rfl
theorem s801_40 (l0 l1 : AV) (z : Nat) (a0 : Nat) (a1 : Nat) (b0 : Nat) (b1 : Nat) (μ : Mem) : rs 801 40 [l0, l1] [vR 4 a1, vR 4 a0, vR 2 z, vR 2 b0, vR 8 b1] μ = (rs 201 0 [vR 2 z, vR 4 a0, vR 4 a1] [] μ).bind (fun w => rs 801 43 [l0, l1] (pushR w.1 [vR 2 b0, vR 8 b1]) w.2) := rs_ca rfl rfl rfl
theorem s801_43 (l0 l1 : AV) (x v : Nat) (st : List AV) (S : MS) (C : MC) (D : MD) : rs 801 43 [l0, l1] (vR 2 v :: vR 8 x :: st) (S, C, D) = rs 801 46 [l0, l1] st ((up2 S.1 161 x (some v), S.2), C, D) := rs_st rfl rfl
theorem s801_46 (l1 : AV) (t x : Nat) (st : List AV) (μ : Mem) : rs 801 46 [vR t x, l1] st μ = rs 801 47 [vR t x, l1] (vR t x :: st) μ := rs_st rfl rfl
theorem s801_47 (l0 l1 : AV) (st : List AV) (S : MS) (C : MC) (D : MD) (j : Nat) (S' : MS) (h : mkS S 4 1 = some (j, S')) : rs 801 47 [l0, l1] st (S, C, D) = rs 801 50 [l0, l1] (vR 4 j :: st) (S', C, D) := rs_bi rfl h rfl rfl
theorem s801_50 (l0 l1 : AV) (x : Int) (st : List AV) (μ : Mem) : rs 801 50 [l0, l1] (vI x :: st) μ = rs 801 51 [l0, l1] (vI x :: vI x :: st) μ := rs_st rfl rfl
theorem s801_50r (l0 l1 : AV) (t x : Nat) (st : List AV) (μ : Mem) : rs 801 50 [l0, l1] (vR t x :: st) μ = rs 801 51 [l0, l1] (vR t x :: vR t x :: st) μ := rs_st rfl rfl
theorem s801_51 (l0 l1 : AV) (st : List AV) (μ : Mem) : rs 801 51 [l0, l1] st μ = rs 801 53 [l0, l1] (vI 12 :: st) μ := rs_st rfl rfl
theorem s801_53 (l0 l1 : AV) (z : Nat) (a0 : Int) (b0 : Nat) (b1 : Nat) (μ : Mem) : rs 801 53 [l0, l1] [vI a0, vR 4 z, vR 4 b0, vR 8 b1] μ = (rs 401 0 [vR 4 z, vI a0] [] μ).bind (fun w => rs 801 56 [l0, l1] (pushR w.1 [vR 4 b0, vR 8 b1]) w.2) := rs_ca rfl rfl rfl
theorem s801_56 (l0 l1 : AV) (x v : Nat) (st : List AV) (S : MS) (C : MC) (D : MD) : rs 801 56 [l0, l1] (vR 4 v :: vR 8 x :: st) (S, C, D) = rs 801 59 [l0, l1] st ((up2 S.1 163 x (some v), S.2), C, D) := rs_st rfl rfl
theorem s801_59 (l1 : AV) (t x : Nat) (st : List AV) (μ : Mem) : rs 801 59 [vR t x, l1] st μ = rs 801 60 [vR t x, l1] (vR t x :: st) μ := rs_st rfl rfl
theorem s801_60 (l0 l1 : AV) (st : List AV) (S : MS) (C : MC) (D : MD) (j : Nat) (S' : MS) (h : mkS S 4 1 = some (j, S')) : rs 801 60 [l0, l1] st (S, C, D) = rs 801 63 [l0, l1] (vR 4 j :: st) (S', C, D) := rs_bi rfl h rfl rfl
theorem s801_63 (l0 l1 : AV) (x : Int) (st : List AV) (μ : Mem) : rs 801 63 [l0, l1] (vI x :: st) μ = rs 801 64 [l0, l1] (vI x :: vI x :: st) μ := rs_st rfl rfl
theorem s801_63r (l0 l1 : AV) (t x : Nat) (st : List AV) (μ : Mem) : rs 801 63 [l0, l1] (vR t x :: st) μ = rs 801 64 [l0, l1] (vR t x :: vR t x :: st) μ := rs_st rfl rfl
theorem s801_64 (l0 l1 : AV) (st : List AV) (μ : Mem) : rs 801 64 [l0, l1] st μ = rs 801 66 [l0, l1] (vI 12 :: st) μ := rs_st rfl rfl
theorem s801_66 (l0 l1 : AV) (z : Nat) (a0 : Int) (b0 : Nat) (b1 : Nat) (μ : Mem) : rs 801 66 [l0, l1] [vI a0, vR 4 z, vR 4 b0, vR 8 b1] μ = (rs 401 0 [vR 4 z, vI a0] [] μ).bind (fun w => rs 801 69 [l0, l1] (pushR w.1 [vR 4 b0, vR 8 b1]) w.2) := rs_ca rfl rfl rfl
theorem s801_69 (l0 l1 : AV) (x v : Nat) (st : List AV) (S : MS) (C : MC) (D : MD) : rs 801 69 [l0, l1] (vR 4 v :: vR 8 x :: st) (S, C, D) = rs 801 72 [l0, l1] st ((up2 S.1 164 x (some v), S.2), C, D) := rs_st rfl rfl
theorem s801_72 (l1 : AV) (t x : Nat) (st : List AV) (μ : Mem) : rs 801 72 [vR t x, l1] st μ = rs 801 73 [vR t x, l1] (vR t x :: st) μ := rs_st rfl rfl
theorem s801_73 (l0 : AV) (t x : Nat) (st : List AV) (μ : Mem) : rs 801 73 [l0, vR t x] st μ = rs 801 74 [l0, vR t x] (vR t x :: st) μ := rs_st rfl rfl
theorem s801_74 (l0 l1 : AV) (x v : Nat) (st : List AV) (S : MS) (C : MC) (D : MD) : rs 801 74 [l0, l1] (vR 7 v :: vR 8 x :: st) (S, C, D) = rs 801 77 [l0, l1] st ((up2 S.1 162 x (some v), S.2), C, D) := rs_st rfl rfl
theorem s801_77 (l0 l1 : AV)  (μ : Mem) : rs 801 77 [l0, l1] [] μ = some (vU, μ) := rs_ret rfl
theorem s901_0 (t x : Nat) (st : List AV) (μ : Mem) : rs 901 0 [vR t x] st μ = rs 901 1 [vR t x] (vR t x :: st) μ := rs_st rfl rfl
theorem s901_1 (l0 : AV) (t x : Nat)  (μ : Mem) : rs 901 1 [l0] [vR t x] μ = rs 901 4 [l0] [] μ := rs_st rfl rfl
theorem s901_4 (t x : Nat) (st : List AV) (μ : Mem) : rs 901 4 [vR t x] st μ = rs 901 5 [vR t x] (vR t x :: st) μ := rs_st rfl rfl
theorem s901_5 (l0 : AV) (st : List AV) (S : MS) (C : MC) (D : MD) (j : Nat) (S' : MS) (h : mkS S 0 8 = some (j, S')) : rs 901 5 [l0] st (S, C, D) = rs 901 8 [l0] (vR 0 j :: st) (S', C, D) := rs_bi rfl h rfl rfl
theorem s901_8 (l0 : AV) (x : Int) (st : List AV) (μ : Mem) : rs 901 8 [l0] (vI x :: st) μ = rs 901 9 [l0] (vI x :: vI x :: st) μ := rs_st rfl rfl
theorem s901_8r (l0 : AV) (t x : Nat) (st : List AV) (μ : Mem) : rs 901 8 [l0] (vR t x :: st) μ = rs 901 9 [l0] (vR t x :: vR t x :: st) μ := rs_st rfl rfl
theorem s901_9 (l0 : AV) (z : Nat) (b0 : Nat) (b1 : Nat) (μ : Mem) : rs 901 9 [l0] [vR 0 z, vR 0 b0, vR 9 b1] μ = (rs 1 0 [vR 0 z, vU] [] μ).bind (fun w => rs 901 12 [l0] (pushR w.1 [vR 0 b0, vR 9 b1]) w.2) := rs_ca rfl rfl rfl
theorem s901_12 (l0 : AV) (x v : Nat) (st : List AV) (S : MS) (C : MC) (D : MD) : rs 901 12 [l0] (vR 0 v :: vR 9 x :: st) (S, C, D) = rs 901 15 [l0] st ((up2 S.1 180 x (some v), S.2), C, D) := rs_st rfl rfl
theorem s901_15 (t x : Nat) (st : List AV) (μ : Mem) : rs 901 15 [vR t x] st μ = rs 901 16 [vR t x] (vR t x :: st) μ := rs_st rfl rfl
theorem s901_16 (l0 : AV) (st : List AV) (S : MS) (C : MC) (D : MD) (j : Nat) (S' : MS) (h : mkS S 1 2 = some (j, S')) : rs 901 16 [l0] st (S, C, D) = rs 901 19 [l0] (vR 1 j :: st) (S', C, D) := rs_bi rfl h rfl rfl
theorem s901_19 (l0 : AV) (x : Int) (st : List AV) (μ : Mem) : rs 901 19 [l0] (vI x :: st) μ = rs 901 20 [l0] (vI x :: vI x :: st) μ := rs_st rfl rfl
theorem s901_19r (l0 : AV) (t x : Nat) (st : List AV) (μ : Mem) : rs 901 19 [l0] (vR t x :: st) μ = rs 901 20 [l0] (vR t x :: vR t x :: st) μ := rs_st rfl rfl
theorem s901_20 (l0 : AV) (z : Nat) (b0 : Nat) (b1 : Nat) (μ : Mem) : rs 901 20 [l0] [vR 1 z, vR 1 b0, vR 9 b1] μ = (rs 101 0 [vR 1 z, vU] [] μ).bind (fun w => rs 901 23 [l0] (pushR w.1 [vR 1 b0, vR 9 b1]) w.2) := rs_ca rfl rfl rfl
theorem s901_23 (l0 : AV) (x v : Nat) (st : List AV) (S : MS) (C : MC) (D : MD) : rs 901 23 [l0] (vR 1 v :: vR 9 x :: st) (S, C, D) = rs 901 26 [l0] st ((up2 S.1 181 x (some v), S.2), C, D) := rs_st rfl rfl
theorem s901_26 (t x : Nat) (st : List AV) (μ : Mem) : rs 901 26 [vR t x] st μ = rs 901 27 [vR t x] (vR t x :: st) μ := rs_st rfl rfl
theorem s901_27 (l0 : AV) (st : List AV) (S : MS) (C : MC) (D : MD) (j : Nat) (S' : MS) (h : mkS S 7 2 = some (j, S')) : rs 901 27 [l0] st (S, C, D) = rs 901 30 [l0] (vR 7 j :: st) (S', C, D) := rs_bi rfl h rfl rfl
theorem s901_30 (l0 : AV) (x : Int) (st : List AV) (μ : Mem) : rs 901 30 [l0] (vI x :: st) μ = rs 901 31 [l0] (vI x :: vI x :: st) μ := rs_st rfl rfl
theorem s901_30r (l0 : AV) (t x : Nat) (st : List AV) (μ : Mem) : rs 901 30 [l0] (vR t x :: st) μ = rs 901 31 [l0] (vR t x :: vR t x :: st) μ := rs_st rfl rfl
theorem s901_31 (l0 : AV) (z : Nat) (b0 : Nat) (b1 : Nat) (μ : Mem) : rs 901 31 [l0] [vR 7 z, vR 7 b0, vR 9 b1] μ = (rs 701 0 [vR 7 z] [] μ).bind (fun w => rs 901 34 [l0] (pushR w.1 [vR 7 b0, vR 9 b1]) w.2) := rs_ca rfl rfl rfl
theorem s901_34 (l0 : AV) (x v : Nat) (st : List AV) (S : MS) (C : MC) (D : MD) : rs 901 34 [l0] (vR 7 v :: vR 9 x :: st) (S, C, D) = rs 901 37 [l0] st ((up2 S.1 183 x (some v), S.2), C, D) := rs_st rfl rfl
theorem s901_37 (t x : Nat) (st : List AV) (μ : Mem) : rs 901 37 [vR t x] st μ = rs 901 38 [vR t x] (vR t x :: st) μ := rs_st rfl rfl
theorem s901_38 (l0 : AV) (st : List AV) (S : MS) (C : MC) (D : MD) (j : Nat) (S' : MS) (h : mkS S 8 6 = some (j, S')) : rs 901 38 [l0] st (S, C, D) = rs 901 41 [l0] (vR 8 j :: st) (S', C, D) := rs_bi rfl h rfl rfl
theorem s901_41 (l0 : AV) (x : Int) (st : List AV) (μ : Mem) : rs 901 41 [l0] (vI x :: st) μ = rs 901 42 [l0] (vI x :: vI x :: st) μ := rs_st rfl rfl
theorem s901_41r (l0 : AV) (t x : Nat) (st : List AV) (μ : Mem) : rs 901 41 [l0] (vR t x :: st) μ = rs 901 42 [l0] (vR t x :: vR t x :: st) μ := rs_st rfl rfl
theorem s901_42 (t x : Nat) (st : List AV) (μ : Mem) : rs 901 42 [vR t x] st μ = rs 901 43 [vR t x] (vR t x :: st) μ := rs_st rfl rfl
theorem s901_43 (l0 : AV) (x : Nat) (st : List AV) (S : MS) (C : MC) (D : MD) : rs 901 43 [l0] (vR 9 x :: st) (S, C, D) = rs 901 46 [l0] (rfV 7 (S.1 183 x) :: st) (S, C, D) := rs_st rfl rfl
theorem s901_46 (l0 : AV) (z : Nat) (a0 : Nat) (b0 : Nat) (b1 : Nat) (μ : Mem) : rs 901 46 [l0] [vR 7 a0, vR 8 z, vR 8 b0, vR 9 b1] μ = (rs 801 0 [vR 8 z, vR 7 a0] [] μ).bind (fun w => rs 901 49 [l0] (pushR w.1 [vR 8 b0, vR 9 b1]) w.2) := rs_ca rfl rfl rfl
theorem s901_49 (l0 : AV) (x v : Nat) (st : List AV) (S : MS) (C : MC) (D : MD) : rs 901 49 [l0] (vR 8 v :: vR 9 x :: st) (S, C, D) = rs 901 52 [l0] st ((up2 S.1 182 x (some v), S.2), C, D) := rs_st rfl rfl
theorem s901_52 (t x : Nat) (st : List AV) (μ : Mem) : rs 901 52 [vR t x] st μ = rs 901 53 [vR t x] (vR t x :: st) μ := rs_st rfl rfl
theorem s901_53 (l0 : AV) (st : List AV) (S : MS) (C : MC) (D : MD) (j : Nat) (S' : MS) (h : mkS S 3 6 = some (j, S')) : rs 901 53 [l0] st (S, C, D) = rs 901 56 [l0] (vR 3 j :: st) (S', C, D) := rs_bi rfl h rfl rfl
theorem s901_56 (l0 : AV) (x : Int) (st : List AV) (μ : Mem) : rs 901 56 [l0] (vI x :: st) μ = rs 901 57 [l0] (vI x :: vI x :: st) μ := rs_st rfl rfl
theorem s901_56r (l0 : AV) (t x : Nat) (st : List AV) (μ : Mem) : rs 901 56 [l0] (vR t x :: st) μ = rs 901 57 [l0] (vR t x :: vR t x :: st) μ := rs_st rfl rfl
theorem s901_57 (l0 : AV) (z : Nat) (b0 : Nat) (b1 : Nat) (μ : Mem) : rs 901 57 [l0] [vR 3 z, vR 3 b0, vR 9 b1] μ = (rs 301 0 [vR 3 z] [] μ).bind (fun w => rs 901 60 [l0] (pushR w.1 [vR 3 b0, vR 9 b1]) w.2) := rs_ca rfl rfl rfl
theorem s901_60 (l0 : AV) (x v : Nat) (st : List AV) (S : MS) (C : MC) (D : MD) : rs 901 60 [l0] (vR 3 v :: vR 9 x :: st) (S, C, D) = rs 901 63 [l0] st ((up2 S.1 184 x (some v), S.2), C, D) := rs_st rfl rfl
theorem s901_63 (t x : Nat) (st : List AV) (μ : Mem) : rs 901 63 [vR t x] st μ = rs 901 64 [vR t x] (vR t x :: st) μ := rs_st rfl rfl
theorem s901_64 (l0 : AV) (st : List AV) (S : MS) (C : MC) (D : MD) (j : Nat) (S' : MS) (h : mkS S 6 11 = some (j, S')) : rs 901 64 [l0] st (S, C, D) = rs 901 67 [l0] (vR 6 j :: st) (S', C, D) := rs_bi rfl h rfl rfl
theorem s901_67 (l0 : AV) (x : Int) (st : List AV) (μ : Mem) : rs 901 67 [l0] (vI x :: st) μ = rs 901 68 [l0] (vI x :: vI x :: st) μ := rs_st rfl rfl
theorem s901_67r (l0 : AV) (t x : Nat) (st : List AV) (μ : Mem) : rs 901 67 [l0] (vR t x :: st) μ = rs 901 68 [l0] (vR t x :: vR t x :: st) μ := rs_st rfl rfl
theorem s901_68 (l0 : AV) (z : Nat) (b0 : Nat) (b1 : Nat) (μ : Mem) : rs 901 68 [l0] [vR 6 z, vR 6 b0, vR 9 b1] μ = (rs 601 0 [vR 6 z] [] μ).bind (fun w => rs 901 71 [l0] (pushR w.1 [vR 6 b0, vR 9 b1]) w.2) := rs_ca rfl rfl rfl
theorem s901_71 (l0 : AV) (x v : Nat) (st : List AV) (S : MS) (C : MC) (D : MD) : rs 901 71 [l0] (vR 6 v :: vR 9 x :: st) (S, C, D) = rs 901 74 [l0] st ((up2 S.1 185 x (some v), S.2), C, D) := rs_st rfl rfl
theorem s901_74 (t x : Nat) (st : List AV) (μ : Mem) : rs 901 74 [vR t x] st μ = rs 901 75 [vR t x] (vR t x :: st) μ := rs_st rfl rfl
theorem s901_75 (l0 : AV) (st : List AV) (S : MS) (C : MC) (D : MD) (j : Nat) (S' : MS) (h : mkS S 2 12 = some (j, S')) : rs 901 75 [l0] st (S, C, D) = rs 901 78 [l0] (vR 2 j :: st) (S', C, D) := rs_bi rfl h rfl rfl
theorem s901_78 (l0 : AV) (x : Int) (st : List AV) (μ : Mem) : rs 901 78 [l0] (vI x :: st) μ = rs 901 79 [l0] (vI x :: vI x :: st) μ := rs_st rfl rfl
theorem s901_78r (l0 : AV) (t x : Nat) (st : List AV) (μ : Mem) : rs 901 78 [l0] (vR t x :: st) μ = rs 901 79 [l0] (vR t x :: vR t x :: st) μ := rs_st rfl rfl
theorem s901_79 (l0 : AV) (st : List AV) (S : MS) (C : MC) (D : MD) (j : Nat) (S' : MS) (h : mkS S 4 1 = some (j, S')) : rs 901 79 [l0] st (S, C, D) = rs 901 82 [l0] (vR 4 j :: st) (S', C, D) := rs_bi rfl h rfl rfl
theorem s901_82 (l0 : AV) (x : Int) (st : List AV) (μ : Mem) : rs 901 82 [l0] (vI x :: st) μ = rs 901 83 [l0] (vI x :: vI x :: st) μ := rs_st rfl rfl
theorem s901_82r (l0 : AV) (t x : Nat) (st : List AV) (μ : Mem) : rs 901 82 [l0] (vR t x :: st) μ = rs 901 83 [l0] (vR t x :: vR t x :: st) μ := rs_st rfl rfl
theorem s901_83 (l0 : AV) (st : List AV) (μ : Mem) : rs 901 83 [l0] st μ = rs 901 84 [l0] (vI 1 :: st) μ := rs_st rfl rfl
theorem s901_84 (l0 : AV) (z : Nat) (a0 : Int) (b0 : Nat) (b1 : Nat) (b2 : Nat) (b3 : Nat) (μ : Mem) : rs 901 84 [l0] [vI a0, vR 4 z, vR 4 b0, vR 2 b1, vR 2 b2, vR 9 b3] μ = (rs 401 0 [vR 4 z, vI a0] [] μ).bind (fun w => rs 901 87 [l0] (pushR w.1 [vR 4 b0, vR 2 b1, vR 2 b2, vR 9 b3]) w.2) := rs_ca rfl rfl rfl
theorem s901_87 (l0 : AV) (st : List AV) (S : MS) (C : MC) (D : MD) (j : Nat) (S' : MS) (h : mkS S 4 1 = some (j, S')) : rs 901 87 [l0] st (S, C, D) = rs 901 90 [l0] (vR 4 j :: st) (S', C, D) := rs_bi rfl h rfl rfl
theorem s901_90 (l0 : AV) (x : Int) (st : List AV) (μ : Mem) : rs 901 90 [l0] (vI x :: st) μ = rs 901 91 [l0] (vI x :: vI x :: st) μ := rs_st rfl rfl
theorem s901_90r (l0 : AV) (t x : Nat) (st : List AV) (μ : Mem) : rs 901 90 [l0] (vR t x :: st) μ = rs 901 91 [l0] (vR t x :: vR t x :: st) μ := rs_st rfl rfl
theorem s901_91 (l0 : AV) (st : List AV) (μ : Mem) : rs 901 91 [l0] st μ = rs 901 92 [l0] (vI 1 :: st) μ := rs_st rfl rfl
theorem s901_92 (l0 : AV) (z : Nat) (a0 : Int) (b0 : Nat) (b1 : Nat) (b2 : Nat) (b3 : Nat) (b4 : Nat) (μ : Mem) : rs 901 92 [l0] [vI a0, vR 4 z, vR 4 b0, vR 4 b1, vR 2 b2, vR 2 b3, vR 9 b4] μ = (rs 401 0 [vR 4 z, vI a0] [] μ).bind (fun w => rs 901 95 [l0] (pushR w.1 [vR 4 b0, vR 4 b1, vR 2 b2, vR 2 b3, vR 9 b4]) w.2) := rs_ca rfl rfl rfl
theorem s901_95 (l0 : AV) (z : Nat) (a0 : Nat) (a1 : Nat) (b0 : Nat) (b1 : Nat) (μ : Mem) : rs 901 95 [l0] [vR 4 a1, vR 4 a0, vR 2 z, vR 2 b0, vR 9 b1] μ = (rs 201 0 [vR 2 z, vR 4 a0, vR 4 a1] [] μ).bind (fun w => rs 901 98 [l0] (pushR w.1 [vR 2 b0, vR 9 b1]) w.2) := rs_ca rfl rfl rfl
theorem s901_98 (l0 : AV) (x v : Nat) (st : List AV) (S : MS) (C : MC) (D : MD) : rs 901 98 [l0] (vR 2 v :: vR 9 x :: st) (S, C, D) = rs 901 101 [l0] st ((up2 S.1 186 x (some v), S.2), C, D) := rs_st rfl rfl
theorem s901_101 (l0 : AV)  (μ : Mem) : rs 901 101 [l0] [] μ = some (vU, μ) := rs_ret rfl
theorem g403_0 (l0 l2 : AV) (x : Int) (st : List AV) (μ : Mem) : rs 403 0 [l0, vI x, l2] st μ = rs 403 1 [l0, vI x, l2] (vI x :: st) μ := rs_st rfl rfl
theorem g403_1 (l0 l1 l2 : AV) (x : Int) (st : List AV) (μ : Mem) : rs 403 1 [l0, l1, l2] (vI x :: st) μ = if x < 0 then rs 403 20 [l0, l1, l2] st μ else rs 403 4 [l0, l1, l2] st μ := rs_ifb rfl (cnd_lt _ _) rfl rfl
theorem g403_4 (l0 l2 : AV) (x : Int) (st : List AV) (μ : Mem) : rs 403 4 [l0, vI x, l2] st μ = rs 403 5 [l0, vI x, l2] (vI x :: st) μ := rs_st rfl rfl
theorem g403_5 (l1 l2 : AV) (t x : Nat) (st : List AV) (μ : Mem) : rs 403 5 [vR t x, l1, l2] st μ = rs 403 6 [vR t x, l1, l2] (vR t x :: st) μ := rs_st rfl rfl
theorem g403_6 (l0 l1 l2 : AV) (x : Nat) (st : List AV) (S : MS) (C : MC) (D : MD) : rs 403 6 [l0, l1, l2] (vR 4 x :: st) (S, C, D) = rs 403 9 [l0, l1, l2] (rfV 13 (S.1 80 x) :: st) (S, C, D) := rs_st rfl rfl
theorem g403_9 (l0 l1 l2 : AV) (x : Nat) (st : List AV) (S : MS) (C : MC) (D : MD) : rs 403 9 [l0, l1, l2] (vR 13 x :: st) (S, C, D) = if (S.2.2.1 13 x) < 2147483648 then rs 403 10 [l0, l1, l2] (vI ((S.2.2.1 13 x) : Nat) :: st) (S, C, D) else none := rs_ok rfl rfl
theorem g403_10 (l0 l1 l2 : AV) (x y : Int) (st : List AV) (μ : Mem) : rs 403 10 [l0, l1, l2] (vI y :: vI x :: st) μ = if y ≤ x then rs 403 20 [l0, l1, l2] st μ else rs 403 13 [l0, l1, l2] st μ := rs_ifb rfl (cnd_ge _ _) rfl rfl
theorem g403_13 (l1 l2 : AV) (t x : Nat) (st : List AV) (μ : Mem) : rs 403 13 [vR t x, l1, l2] st μ = rs 403 14 [vR t x, l1, l2] (vR t x :: st) μ := rs_st rfl rfl
theorem g403_14 (l0 l1 l2 : AV) (x : Nat) (st : List AV) (S : MS) (C : MC) (D : MD) : rs 403 14 [l0, l1, l2] (vR 4 x :: st) (S, C, D) = rs 403 17 [l0, l1, l2] (rfV 13 (S.1 80 x) :: st) (S, C, D) := rs_st rfl rfl
theorem g403_17 (l0 l2 : AV) (x : Int) (st : List AV) (μ : Mem) : rs 403 17 [l0, vI x, l2] st μ = rs 403 18 [l0, vI x, l2] (vI x :: st) μ := rs_st rfl rfl
theorem g403_18 (l0 l1 : AV) (x : Int) (st : List AV) (μ : Mem) : rs 403 18 [l0, l1, vI x] st μ = rs 403 19 [l0, l1, vI x] (vI x :: st) μ := rs_st rfl rfl
theorem g403_19 (l0 l1 l2 : AV) (a : Nat) (x : Int) (v : Int) (st : List AV) (S : MS) (I A : M2) (L P : Nat → Nat → Option Nat) (F G : Nat → Nat → UInt32) (D : MD) : rs 403 19 [l0, l1, l2] (vI v :: vI x :: vR 13 a :: st) (S, (I, A, L, P, F, G), D) = if 0 ≤ x ∧ x < (((S.2.2.1 13 a) : Nat) : Int) then rs 403 20 [l0, l1, l2] st (S, (I, up2 A a x.toNat v, L, P, F, G), D) else none := rs_in rfl rfl
theorem g403_20 (l0 l1 l2 : AV)  (μ : Mem) : rs 403 20 [l0, l1, l2] [] μ = some (vU, μ) := rs_ret rfl
