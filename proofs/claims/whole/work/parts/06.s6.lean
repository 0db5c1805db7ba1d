theorem s602_0 (l1 : AV) (t x : Nat) (st : List AV) (μ : Mem) : rs 602 0 [vR t x, l1] st μ = rs 602 1 [vR t x, l1] (vR t x :: st) μ := rs_st rfl rfl
theorem s602_1 (l0 l1 : AV) (x : Nat) (st : List AV) (q : Nat × (Nat → Int)) (C : MC) (D : MD) : rs 602 1 [l0, l1] (vR 6 x :: st) (SX q, C, D) = rs 602 4 [l0, l1] (vR 4 122 :: st) (SX q, C, D) := rs_st rfl rfl
theorem s602_4 (l1 : AV) (t x : Nat) (st : List AV) (μ : Mem) : rs 602 4 [vR t x, l1] st μ = rs 602 5 [vR t x, l1] (vR t x :: st) μ := rs_st rfl rfl
theorem s602_5 (l0 l1 : AV) (x : Nat) (st : List AV) (q : Nat × (Nat → Int)) (I A : M2) (L P : Nat → Nat → Option Nat) (F G : Nat → Nat → UInt32) (D : MD) : rs 602 5 [l0, l1] (vR 6 x :: st) (SX q, (I, A, L, P, F, G), D) = rs 602 8 [l0, l1] (vI (I 122 x) :: st) (SX q, (I, A, L, P, F, G), D) := rs_st rfl rfl
theorem s602_8 (l0 : AV) (x : Int) (st : List AV) (μ : Mem) : rs 602 8 [l0, vI x] st μ = rs 602 9 [l0, vI x] (vI x :: st) μ := rs_st rfl rfl
theorem s602_9 (l0 l1 : AV) (z : Nat) (a0 : Int) (a1 : Int)  (μ : Mem) : rs 602 9 [l0, l1] [vI a1, vI a0, vR 4 z] μ = (rs 403 0 [vR 4 z, vI a0, vI a1] [] μ).bind (fun w => rs 602 12 [l0, l1] (pushR w.1 []) w.2) := rs_ca rfl rfl rfl
theorem s602_12 (l1 : AV) (t x : Nat) (st : List AV) (μ : Mem) : rs 602 12 [vR t x, l1] st μ = rs 602 13 [vR t x, l1] (vR t x :: st) μ := rs_st rfl rfl
theorem s602_13 (l0 l1 : AV) (x : Int) (st : List AV) (μ : Mem) : rs 602 13 [l0, l1] (vI x :: st) μ = rs 602 14 [l0, l1] (vI x :: vI x :: st) μ := rs_st rfl rfl
theorem s602_13r (l0 l1 : AV) (t x : Nat) (st : List AV) (μ : Mem) : rs 602 13 [l0, l1] (vR t x :: st) μ = rs 602 14 [l0, l1] (vR t x :: vR t x :: st) μ := rs_st rfl rfl
theorem s602_14 (l0 l1 : AV) (x : Nat) (st : List AV) (q : Nat × (Nat → Int)) (I A : M2) (L P : Nat → Nat → Option Nat) (F G : Nat → Nat → UInt32) (D : MD) : rs 602 14 [l0, l1] (vR 6 x :: st) (SX q, (I, A, L, P, F, G), D) = rs 602 17 [l0, l1] (vI (I 122 x) :: st) (SX q, (I, A, L, P, F, G), D) := rs_st rfl rfl
theorem s602_17 (l0 l1 : AV) (st : List AV) (μ : Mem) : rs 602 17 [l0, l1] st μ = rs 602 18 [l0, l1] (vI 1 :: st) μ := rs_st rfl rfl
theorem s602_18 (l0 l1 : AV) (x y : Int) (st : List AV) (μ : Mem) : rs 602 18 [l0, l1] (vI y :: vI x :: st) μ = rs 602 19 [l0, l1] (vI (w32 (x + y)) :: st) μ := rs_st rfl rfl
theorem s602_19 (l0 l1 : AV) (x : Nat) (v : Int) (st : List AV) (q : Nat × (Nat → Int)) (I A : M2) (L P : Nat → Nat → Option Nat) (F G : Nat → Nat → UInt32) (D : MD) : rs 602 19 [l0, l1] (vI v :: vR 6 x :: st) (SX q, (I, A, L, P, F, G), D) = rs 602 22 [l0, l1] st (SX q, (up2 I 122 x v, A, L, P, F, G), D) := rs_st rfl rfl
theorem s602_22 (l0 l1 : AV)  (μ : Mem) : rs 602 22 [l0, l1] [] μ = some (vU, μ) := rs_ret rfl
theorem s603_0 (l1 l2 : AV) (t x : Nat) (st : List AV) (μ : Mem) : rs 603 0 [vR t x, l1, l2] st μ = rs 603 1 [vR t x, l1, l2] (vR t x :: st) μ := rs_st rfl rfl
theorem s603_1 (l0 l1 l2 : AV) (x : Nat) (st : List AV) (q : Nat × (Nat → Int)) (C : MC) (D : MD) : rs 603 1 [l0, l1, l2] (vR 6 x :: st) (SX q, C, D) = rs 603 4 [l0, l1, l2] (vR 5 6 :: st) (SX q, C, D) := rs_st rfl rfl
theorem s603_4 (l0 l2 : AV) (t x : Nat) (st : List AV) (μ : Mem) : rs 603 4 [l0, vR t x, l2] st μ = rs 603 5 [l0, vR t x, l2] (vR t x :: st) μ := rs_st rfl rfl
theorem s603_5 (l0 l1 l2 : AV) (z : Nat) (a0 : Nat)  (μ : Mem) : rs 603 5 [l0, l1, l2] [vR 5 a0, vR 5 z] μ = (rs 502 0 [vR 5 z, vR 5 a0] [] μ).bind (fun w => rs 603 8 [l0, l1, l2] (pushR w.1 []) w.2) := rs_ca rfl rfl rfl
theorem s603_8 (l1 l2 : AV) (t x : Nat) (st : List AV) (μ : Mem) : rs 603 8 [vR t x, l1, l2] st μ = rs 603 9 [vR t x, l1, l2] (vR t x :: st) μ := rs_st rfl rfl
theorem s603_9 (l0 l1 l2 : AV) (st : List AV) (μ : Mem) : rs 603 9 [l0, l1, l2] st μ = rs 603 10 [l0, l1, l2] (vI 0 :: st) μ := rs_st rfl rfl
theorem s603_10 (l0 l1 l2 : AV) (x : Nat) (v : Int) (st : List AV) (q : Nat × (Nat → Int)) (I A : M2) (L P : Nat → Nat → Option Nat) (F G : Nat → Nat → UInt32) (D : MD) : rs 603 10 [l0, l1, l2] (vI v :: vR 6 x :: st) (SX q, (I, A, L, P, F, G), D) = rs 603 13 [l0, l1, l2] st (SX q, (up2 I 123 x v, A, L, P, F, G), D) := rs_st rfl rfl
theorem s603_13 (l1 l2 : AV) (t x : Nat) (st : List AV) (μ : Mem) : rs 603 13 [vR t x, l1, l2] st μ = rs 603 14 [vR t x, l1, l2] (vR t x :: st) μ := rs_st rfl rfl
theorem s603_14 (l0 l1 l2 : AV) (st : List AV) (μ : Mem) : rs 603 14 [l0, l1, l2] st μ = rs 603 15 [l0, l1, l2] (vI 0 :: st) μ := rs_st rfl rfl
theorem s603_15 (l0 l1 l2 : AV) (x : Nat) (v : Int) (st : List AV) (q : Nat × (Nat → Int)) (I A : M2) (L P : Nat → Nat → Option Nat) (F G : Nat → Nat → UInt32) (D : MD) : rs 603 15 [l0, l1, l2] (vI v :: vR 6 x :: st) (SX q, (I, A, L, P, F, G), D) = rs 603 18 [l0, l1, l2] st (SX q, (up2 I 124 x v, A, L, P, F, G), D) := rs_st rfl rfl
theorem s603_18 (l1 l2 : AV) (t x : Nat) (st : List AV) (μ : Mem) : rs 603 18 [vR t x, l1, l2] st μ = rs 603 19 [vR t x, l1, l2] (vR t x :: st) μ := rs_st rfl rfl
theorem s603_19 (l0 l1 l2 : AV) (st : List AV) (μ : Mem) : rs 603 19 [l0, l1, l2] st μ = rs 603 20 [l0, l1, l2] (vI 0 :: st) μ := rs_st rfl rfl
theorem s603_20 (l0 l1 l2 : AV) (x : Nat) (v : Int) (st : List AV) (q : Nat × (Nat → Int)) (I A : M2) (L P : Nat → Nat → Option Nat) (F G : Nat → Nat → UInt32) (D : MD) : rs 603 20 [l0, l1, l2] (vI v :: vR 6 x :: st) (SX q, (I, A, L, P, F, G), D) = rs 603 23 [l0, l1, l2] st (SX q, (up2 I 125 x v, A, L, P, F, G), D) := rs_st rfl rfl
theorem s603_23 (l1 l2 : AV) (t x : Nat) (st : List AV) (μ : Mem) : rs 603 23 [vR t x, l1, l2] st μ = rs 603 24 [vR t x, l1, l2] (vR t x :: st) μ := rs_st rfl rfl
theorem s603_24 (l0 l1 l2 : AV) (st : List AV) (μ : Mem) : rs 603 24 [l0, l1, l2] st μ = rs 603 25 [l0, l1, l2] (vI 0 :: st) μ := rs_st rfl rfl
theorem s603_25 (l0 l1 l2 : AV) (x : Nat) (v : Int) (st : List AV) (q : Nat × (Nat → Int)) (I A : M2) (L P : Nat → Nat → Option Nat) (F G : Nat → Nat → UInt32) (D : MD) : rs 603 25 [l0, l1, l2] (vI v :: vR 6 x :: st) (SX q, (I, A, L, P, F, G), D) = rs 603 28 [l0, l1, l2] st (SX q, (up2 I 126 x v, A, L, P, F, G), D) := rs_st rfl rfl
theorem s603_28 (l0 l1 l2 : AV) (st : List AV) (μ : Mem) : rs 603 28 [l0, l1, l2] st μ = rs 603 29 [l0, l1, l2] (vI 0 :: st) μ := rs_st rfl rfl
theorem s603_29 (l0 l1 l2 : AV) (x : Int) (st : List AV) (μ : Mem) : rs 603 29 [l0, l1, l2] (vI x :: st) μ = rs 603 30 [l0, vU, vI x] st μ := rs_st rfl rfl
theorem s603_30 (l0 l1 : AV) (x : Int) (st : List AV) (μ : Mem) : rs 603 30 [l0, l1, vI x] st μ = rs 603 31 [l0, l1, vI x] (vI x :: st) μ := rs_st rfl rfl
theorem s603_31 (l0 l1 l2 : AV) (st : List AV) (μ : Mem) : rs 603 31 [l0, l1, l2] st μ = rs 603 33 [l0, l1, l2] (vI 100 :: st) μ := rs_st rfl rfl
theorem s603_33 (l0 l1 l2 : AV) (x y : Int) (st : List AV) (μ : Mem) : rs 603 33 [l0, l1, l2] (vI y :: vI x :: st) μ = if y ≤ x then rs 603 127 [l0, l1, l2] st μ else rs 603 36 [l0, l1, l2] st μ := rs_ifb rfl (cnd_ge _ _) rfl rfl
theorem s603_36 (l1 l2 : AV) (t x : Nat) (st : List AV) (μ : Mem) : rs 603 36 [vR t x, l1, l2] st μ = rs 603 37 [vR t x, l1, l2] (vR t x :: st) μ := rs_st rfl rfl
theorem s603_37 (l0 l1 l2 : AV) (x : Nat) (st : List AV) (q : Nat × (Nat → Int)) (I A : M2) (L P : Nat → Nat → Option Nat) (F G : Nat → Nat → UInt32) (D : MD) : rs 603 37 [l0, l1, l2] (vR 6 x :: st) (SX q, (I, A, L, P, F, G), D) = rs 603 40 [l0, l1, l2] (vI (I 126 x) :: st) (SX q, (I, A, L, P, F, G), D) := rs_st rfl rfl
theorem s603_40 (l1 l2 : AV) (t x : Nat) (st : List AV) (μ : Mem) : rs 603 40 [vR t x, l1, l2] st μ = rs 603 41 [vR t x, l1, l2] (vR t x :: st) μ := rs_st rfl rfl
theorem s603_41 (l0 l1 l2 : AV) (x : Nat) (st : List AV) (q : Nat × (Nat → Int)) (I A : M2) (L P : Nat → Nat → Option Nat) (F G : Nat → Nat → UInt32) (D : MD) : rs 603 41 [l0, l1, l2] (vR 6 x :: st) (SX q, (I, A, L, P, F, G), D) = rs 603 44 [l0, l1, l2] (vI (I 122 x) :: st) (SX q, (I, A, L, P, F, G), D) := rs_st rfl rfl
theorem s603_44 (l0 l1 l2 : AV) (x y : Int) (st : List AV) (μ : Mem) : rs 603 44 [l0, l1, l2] (vI y :: vI x :: st) μ = if y ≤ x then rs 603 127 [l0, l1, l2] st μ else rs 603 47 [l0, l1, l2] st μ := rs_ifb rfl (cnd_ge _ _) rfl rfl
theorem s603_47 (l1 l2 : AV) (t x : Nat) (st : List AV) (μ : Mem) : rs 603 47 [vR t x, l1, l2] st μ = rs 603 48 [vR t x, l1, l2] (vR t x :: st) μ := rs_st rfl rfl
theorem s603_48 (l0 l1 l2 : AV) (x : Nat) (st : List AV) (q : Nat × (Nat → Int)) (I A : M2) (L P : Nat → Nat → Option Nat) (F G : Nat → Nat → UInt32) (D : MD) : rs 603 48 [l0, l1, l2] (vR 6 x :: st) (SX q, (I, A, L, P, F, G), D) = rs 603 51 [l0, l1, l2] (vI (I 125 x) :: st) (SX q, (I, A, L, P, F, G), D) := rs_st rfl rfl
theorem s603_51 (l0 l1 l2 : AV) (x : Int) (st : List AV) (μ : Mem) : rs 603 51 [l0, l1, l2] (vI x :: st) μ = if x = 0 then rs 603 54 [l0, l1, l2] st μ else rs 603 127 [l0, l1, l2] st μ := rs_ifn rfl (cnd_ne _ _) rfl rfl
theorem s603_54 (l1 l2 : AV) (t x : Nat) (st : List AV) (μ : Mem) : rs 603 54 [vR t x, l1, l2] st μ = rs 603 55 [vR t x, l1, l2] (vR t x :: st) μ := rs_st rfl rfl
theorem s603_55 (l1 l2 : AV) (t x : Nat) (st : List AV) (μ : Mem) : rs 603 55 [vR t x, l1, l2] st μ = rs 603 56 [vR t x, l1, l2] (vR t x :: st) μ := rs_st rfl rfl
theorem s603_56 (l0 l1 l2 : AV) (x : Nat) (st : List AV) (q : Nat × (Nat → Int)) (I A : M2) (L P : Nat → Nat → Option Nat) (F G : Nat → Nat → UInt32) (D : MD) : rs 603 56 [l0, l1, l2] (vR 6 x :: st) (SX q, (I, A, L, P, F, G), D) = rs 603 59 [l0, l1, l2] (vI (I 126 x) :: st) (SX q, (I, A, L, P, F, G), D) := rs_st rfl rfl
theorem s603_59 (l0 l1 l2 : AV) (x : Nat) (v : Int) (st : List AV) (q : Nat × (Nat → Int)) (I A : M2) (L P : Nat → Nat → Option Nat) (F G : Nat → Nat → UInt32) (D : MD) : rs 603 59 [l0, l1, l2] (vI v :: vR 6 x :: st) (SX q, (I, A, L, P, F, G), D) = rs 603 62 [l0, l1, l2] st (SX q, (up2 I 124 x v, A, L, P, F, G), D) := rs_st rfl rfl
theorem s603_62 (l1 l2 : AV) (t x : Nat) (st : List AV) (μ : Mem) : rs 603 62 [vR t x, l1, l2] st μ = rs 603 63 [vR t x, l1, l2] (vR t x :: st) μ := rs_st rfl rfl
theorem s603_63 (l1 l2 : AV) (t x : Nat) (st : List AV) (μ : Mem) : rs 603 63 [vR t x, l1, l2] st μ = rs 603 64 [vR t x, l1, l2] (vR t x :: st) μ := rs_st rfl rfl
theorem s603_64 (l0 l1 l2 : AV) (z : Nat) (b0 : Nat) (μ : Mem) : rs 603 64 [l0, l1, l2] [vR 6 z, vR 6 b0] μ = (rs 604 0 [vR 6 z, vU] [] μ).bind (fun w => rs 603 67 [l0, l1, l2] (pushR w.1 [vR 6 b0]) w.2) := rs_ca rfl rfl rfl
theorem s603_67 (l0 l1 l2 : AV) (x : Nat) (v : Int) (st : List AV) (q : Nat × (Nat → Int)) (I A : M2) (L P : Nat → Nat → Option Nat) (F G : Nat → Nat → UInt32) (D : MD) : rs 603 67 [l0, l1, l2] (vI v :: vR 6 x :: st) (SX q, (I, A, L, P, F, G), D) = rs 603 70 [l0, l1, l2] st (SX q, (up2 I 125 x v, A, L, P, F, G), D) := rs_st rfl rfl
theorem s603_70 (l1 l2 : AV) (t x : Nat) (st : List AV) (μ : Mem) : rs 603 70 [vR t x, l1, l2] st μ = rs 603 71 [vR t x, l1, l2] (vR t x :: st) μ := rs_st rfl rfl
theorem s603_71 (l0 l1 l2 : AV) (x : Nat) (st : List AV) (q : Nat × (Nat → Int)) (I A : M2) (L P : Nat → Nat → Option Nat) (F G : Nat → Nat → UInt32) (D : MD) : rs 603 71 [l0, l1, l2] (vR 6 x :: st) (SX q, (I, A, L, P, F, G), D) = rs 603 74 [l0, l1, l2] (vI (I 125 x) :: st) (SX q, (I, A, L, P, F, G), D) := rs_st rfl rfl
theorem s603_74 (l0 l1 l2 : AV) (x : Int) (st : List AV) (μ : Mem) : rs 603 74 [l0, l1, l2] (vI x :: st) μ = if x = 0 then rs 603 77 [l0, l1, l2] st μ else rs 603 85 [l0, l1, l2] st μ := rs_ifn rfl (cnd_ne _ _) rfl rfl
theorem s603_77 (l1 l2 : AV) (t x : Nat) (st : List AV) (μ : Mem) : rs 603 77 [vR t x, l1, l2] st μ = rs 603 78 [vR t x, l1, l2] (vR t x :: st) μ := rs_st rfl rfl
theorem s603_78 (l1 l2 : AV) (t x : Nat) (st : List AV) (μ : Mem) : rs 603 78 [vR t x, l1, l2] st μ = rs 603 79 [vR t x, l1, l2] (vR t x :: st) μ := rs_st rfl rfl
theorem s603_79 (l0 l1 l2 : AV) (z : Nat) (b0 : Nat) (μ : Mem) : rs 603 79 [l0, l1, l2] [vR 6 z, vR 6 b0] μ = (rs 605 0 [vR 6 z] [] μ).bind (fun w => rs 603 82 [l0, l1, l2] (pushR w.1 [vR 6 b0]) w.2) := rs_ca rfl rfl rfl
theorem s603_82 (l0 l1 l2 : AV) (x : Nat) (v : Int) (st : List AV) (q : Nat × (Nat → Int)) (I A : M2) (L P : Nat → Nat → Option Nat) (F G : Nat → Nat → UInt32) (D : MD) : rs 603 82 [l0, l1, l2] (vI v :: vR 6 x :: st) (SX q, (I, A, L, P, F, G), D) = rs 603 85 [l0, l1, l2] st (SX q, (up2 I 125 x v, A, L, P, F, G), D) := rs_st rfl rfl
theorem s603_85 (l1 l2 : AV) (t x : Nat) (st : List AV) (μ : Mem) : rs 603 85 [vR t x, l1, l2] st μ = rs 603 86 [vR t x, l1, l2] (vR t x :: st) μ := rs_st rfl rfl
theorem s603_86 (l0 l1 l2 : AV) (x : Nat) (st : List AV) (q : Nat × (Nat → Int)) (I A : M2) (L P : Nat → Nat → Option Nat) (F G : Nat → Nat → UInt32) (D : MD) : rs 603 86 [l0, l1, l2] (vR 6 x :: st) (SX q, (I, A, L, P, F, G), D) = rs 603 89 [l0, l1, l2] (vI (I 125 x) :: st) (SX q, (I, A, L, P, F, G), D) := rs_st rfl rfl
theorem s603_89 (l0 l1 l2 : AV) (x : Int) (st : List AV) (μ : Mem) : rs 603 89 [l0, l1, l2] (vI x :: st) μ = if x = 0 then rs 603 92 [l0, l1, l2] st μ else rs 603 121 [l0, l1, l2] st μ := rs_ifn rfl (cnd_ne _ _) rfl rfl
theorem s603_92 (l1 l2 : AV) (t x : Nat) (st : List AV) (μ : Mem) : rs 603 92 [vR t x, l1, l2] st μ = rs 603 93 [vR t x, l1, l2] (vR t x :: st) μ := rs_st rfl rfl
theorem s603_93 (l0 l1 l2 : AV) (x : Nat) (st : List AV) (q : Nat × (Nat → Int)) (C : MC) (D : MD) : rs 603 93 [l0, l1, l2] (vR 6 x :: st) (SX q, C, D) = rs 603 96 [l0, l1, l2] (vR 5 6 :: st) (SX q, C, D) := rs_st rfl rfl
theorem s603_96 (l1 l2 : AV) (t x : Nat) (st : List AV) (μ : Mem) : rs 603 96 [vR t x, l1, l2] st μ = rs 603 97 [vR t x, l1, l2] (vR t x :: st) μ := rs_st rfl rfl
theorem s603_97 (l0 l1 l2 : AV) (x : Nat) (st : List AV) (q : Nat × (Nat → Int)) (I A : M2) (L P : Nat → Nat → Option Nat) (F G : Nat → Nat → UInt32) (D : MD) : rs 603 97 [l0, l1, l2] (vR 6 x :: st) (SX q, (I, A, L, P, F, G), D) = rs 603 100 [l0, l1, l2] (vI (I 128 x) :: st) (SX q, (I, A, L, P, F, G), D) := rs_st rfl rfl
theorem s603_100 (l1 l2 : AV) (t x : Nat) (st : List AV) (μ : Mem) : rs 603 100 [vR t x, l1, l2] st μ = rs 603 101 [vR t x, l1, l2] (vR t x :: st) μ := rs_st rfl rfl
theorem s603_101 (l0 l1 l2 : AV) (x : Nat) (st : List AV) (q : Nat × (Nat → Int)) (I A : M2) (L P : Nat → Nat → Option Nat) (F G : Nat → Nat → UInt32) (D : MD) : rs 603 101 [l0, l1, l2] (vR 6 x :: st) (SX q, (I, A, L, P, F, G), D) = rs 603 104 [l0, l1, l2] (vI (I 129 x) :: st) (SX q, (I, A, L, P, F, G), D) := rs_st rfl rfl
theorem s603_104 (l1 l2 : AV) (t x : Nat) (st : List AV) (μ : Mem) : rs 603 104 [vR t x, l1, l2] st μ = rs 603 105 [vR t x, l1, l2] (vR t x :: st) μ := rs_st rfl rfl
theorem s603_105 (l0 l1 l2 : AV) (x : Nat) (st : List AV) (q : Nat × (Nat → Int)) (I A : M2) (L P : Nat → Nat → Option Nat) (F G : Nat → Nat → UInt32) (D : MD) : rs 603 105 [l0, l1, l2] (vR 6 x :: st) (SX q, (I, A, L, P, F, G), D) = rs 603 108 [l0, l1, l2] (vI (I 130 x) :: st) (SX q, (I, A, L, P, F, G), D) := rs_st rfl rfl
theorem s603_108 (l0 l1 l2 : AV) (z : Nat) (a0 : Int) (a1 : Int) (a2 : Int)  (μ : Mem) : rs 603 108 [l0, l1, l2] [vI a2, vI a1, vI a0, vR 5 z] μ = (rs 503 0 [vR 5 z, vI a0, vI a1, vI a2] [] μ).bind (fun w => rs 603 111 [l0, l1, l2] (pushR w.1 []) w.2) := rs_ca rfl rfl rfl
theorem s603_111 (l1 l2 : AV) (t x : Nat) (st : List AV) (μ : Mem) : rs 603 111 [vR t x, l1, l2] st μ = rs 603 112 [vR t x, l1, l2] (vR t x :: st) μ := rs_st rfl rfl
theorem s603_112 (l0 l1 l2 : AV) (x : Int) (st : List AV) (μ : Mem) : rs 603 112 [l0, l1, l2] (vI x :: st) μ = rs 603 113 [l0, l1, l2] (vI x :: vI x :: st) μ := rs_st rfl rfl
theorem s603_112r (l0 l1 l2 : AV) (t x : Nat) (st : List AV) (μ : Mem) : rs 603 112 [l0, l1, l2] (vR t x :: st) μ = rs 603 113 [l0, l1, l2] (vR t x :: vR t x :: st) μ := rs_st rfl rfl
theorem s603_113 (l0 l1 l2 : AV) (x : Nat) (st : List AV) (q : Nat × (Nat → Int)) (I A : M2) (L P : Nat → Nat → Option Nat) (F G : Nat → Nat → UInt32) (D : MD) : rs 603 113 [l0, l1, l2] (vR 6 x :: st) (SX q, (I, A, L, P, F, G), D) = rs 603 116 [l0, l1, l2] (vI (I 123 x) :: st) (SX q, (I, A, L, P, F, G), D) := rs_st rfl rfl
theorem s603_116 (l0 l1 l2 : AV) (st : List AV) (μ : Mem) : rs 603 116 [l0, l1, l2] st μ = rs 603 117 [l0, l1, l2] (vI 1 :: st) μ := rs_st rfl rfl
theorem s603_117 (l0 l1 l2 : AV) (x y : Int) (st : List AV) (μ : Mem) : rs 603 117 [l0, l1, l2] (vI y :: vI x :: st) μ = rs 603 118 [l0, l1, l2] (vI (w32 (x + y)) :: st) μ := rs_st rfl rfl
theorem s603_118 (l0 l1 l2 : AV) (x : Nat) (v : Int) (st : List AV) (q : Nat × (Nat → Int)) (I A : M2) (L P : Nat → Nat → Option Nat) (F G : Nat → Nat → UInt32) (D : MD) : rs 603 118 [l0, l1, l2] (vI v :: vR 6 x :: st) (SX q, (I, A, L, P, F, G), D) = rs 603 121 [l0, l1, l2] st (SX q, (up2 I 123 x v, A, L, P, F, G), D) := rs_st rfl rfl
theorem s603_121 (l0 l1 : AV) (x : Int) (st : List AV) (μ : Mem) : rs 603 121 [l0, l1, vI x] st μ = rs 603 124 [l0, unJ l1, vI (w32 (x + 1))] st μ := rs_st rfl rfl
theorem s603_124 (l0 l1 l2 : AV) (st : List AV) (μ : Mem) : rs 603 124 [l0, l1, l2] st μ = rs 603 30 [l0, vU, l2] st μ := rs_st rfl rfl
theorem s603_127 (l0 l1 l2 : AV)  (μ : Mem) : rs 603 127 [l0, l1, l2] [] μ = some (vU, μ) := rs_ret rfl
theorem s604_0 (l1 : AV) (t x : Nat) (st : List AV) (μ : Mem) : rs 604 0 [vR t x, l1] st μ = rs 604 1 [vR t x, l1] (vR t x :: st) μ := rs_st rfl rfl
theorem s604_1 (l0 l1 : AV) (z : Nat)  (μ : Mem) : rs 604 1 [l0, l1] [vR 6 z] μ = (rs 607 0 [vR 6 z, vU, vU] [] μ).bind (fun w => rs 604 4 [l0, l1] (pushR w.1 []) w.2) := rs_ca rfl rfl rfl
theorem s604_4 (l0 l1 : AV) (t x : Nat) (st : List AV) (μ : Mem) : rs 604 4 [l0, l1] (vR t x :: st) μ = rs 604 5 [unJ l0, vR t x] st μ := rs_st rfl rfl
theorem s604_4n (l0 l1 : AV) (st : List AV) (μ : Mem) : rs 604 4 [l0, l1] (vN :: st) μ = rs 604 5 [unJ l0, vN] st μ := rs_st rfl rfl
theorem s604_5 (l0 : AV) (t x : Nat) (st : List AV) (μ : Mem) : rs 604 5 [l0, vR t x] st μ = rs 604 6 [l0, vR t x] (vR t x :: st) μ := rs_st rfl rfl
theorem s604_5n (l0 : AV) (st : List AV) (μ : Mem) : rs 604 5 [l0, vN] st μ = rs 604 6 [l0, vN] (vN :: st) μ := rs_st rfl rfl
theorem s604_6n (l0 l1 : AV) (st : List AV) (μ : Mem) : rs 604 6 [l0, l1] (vN :: st) μ = rs 604 9 [l0, l1] st μ := rs_st rfl rfl
theorem s604_6 (l0 l1 : AV) (t x : Nat) (st : List AV) (μ : Mem) : rs 604 6 [l0, l1] (vR t x :: st) μ = rs 604 11 [l0, l1] st μ := rs_st rfl rfl
theorem s604_9 (l0 l1 : AV) (st : List AV) (μ : Mem) : rs 604 9 [l0, l1] st μ = rs 604 10 [l0, l1] (vI 1 :: st) μ := rs_st rfl rfl
theorem s604_10 (l0 l1 : AV) (x : Int) (μ : Mem) : rs 604 10 [l0, l1] [vI x] μ = some (vI x, μ) := rs_ret rfl
theorem s604_11 (l1 : AV) (t x : Nat) (st : List AV) (μ : Mem) : rs 604 11 [vR t x, l1] st μ = rs 604 12 [vR t x, l1] (vR t x :: st) μ := rs_st rfl rfl
theorem s604_12 (l0 l1 : AV) (st : List AV) (μ : Mem) : rs 604 12 [l0, l1] st μ = rs 604 13 [l0, l1] (vI 0 :: st) μ := rs_st rfl rfl
theorem s604_13 (l0 l1 : AV) (x : Nat) (v : Int) (st : List AV) (q : Nat × (Nat → Int)) (I A : M2) (L P : Nat → Nat → Option Nat) (F G : Nat → Nat → UInt32) (D : MD) : rs 604 13 [l0, l1] (vI v :: vR 6 x :: st) (SX q, (I, A, L, P, F, G), D) = rs 604 16 [l0, l1] st (SX q, (up2 I 129 x v, A, L, P, F, G), D) := rs_st rfl rfl
theorem s604_16 (l0 : AV) (t x : Nat) (st : List AV) (μ : Mem) : rs 604 16 [l0, vR t x] st μ = rs 604 17 [l0, vR t x] (vR t x :: st) μ := rs_st rfl rfl
theorem s604_16n (l0 : AV) (st : List AV) (μ : Mem) : rs 604 16 [l0, vN] st μ = rs 604 17 [l0, vN] (vN :: st) μ := rs_st rfl rfl
theorem s604_17 (l0 l1 : AV) (z : Nat)  (μ : Mem) : rs 604 17 [l0, l1] [vR 11 z] μ = (rs 1105 0 [vR 11 z] [] μ).bind (fun w => rs 604 20 [l0, l1] (pushR w.1 []) w.2) := rs_ca rfl rfl rfl
theorem s604_20 (l0 l1 : AV) (x : Int) (st : List AV) (μ : Mem) : rs 604 20 [l0, l1] (vI x :: st) μ = if x = 0 then rs 604 40 [l0, l1] st μ else rs 604 23 [l0, l1] st μ := rs_ifb rfl (cnd_eq _ _) rfl rfl
theorem s604_23 (l1 : AV) (t x : Nat) (st : List AV) (μ : Mem) : rs 604 23 [vR t x, l1] st μ = rs 604 24 [vR t x, l1] (vR t x :: st) μ := rs_st rfl rfl
theorem s604_24 (l0 l1 : AV) (z : Nat)  (μ : Mem) : rs 604 24 [l0, l1] [vR 6 z] μ = (rs 609 0 [vR 6 z] [] μ).bind (fun w => rs 604 27 [l0, l1] (pushR w.1 []) w.2) := rs_ca rfl rfl rfl
theorem s604_27 (l0 l1 : AV) (x : Int) (st : List AV) (μ : Mem) : rs 604 27 [l0, l1] (vI x :: st) μ = if x = 0 then rs 604 30 [l0, l1] st μ else rs 604 32 [l0, l1] st μ := rs_ifn rfl (cnd_ne _ _) rfl rfl
theorem s604_30 (l0 l1 : AV) (st : List AV) (μ : Mem) : rs 604 30 [l0, l1] st μ = rs 604 31 [l0, l1] (vI 2 :: st) μ := rs_st rfl rfl
theorem s604_31 (l0 l1 : AV) (x : Int) (μ : Mem) : rs 604 31 [l0, l1] [vI x] μ = some (vI x, μ) := rs_ret rfl
theorem s604_32 (l1 : AV) (t x : Nat) (st : List AV) (μ : Mem) : rs 604 32 [vR t x, l1] st μ = rs 604 33 [vR t x, l1] (vR t x :: st) μ := rs_st rfl rfl
theorem s604_33 (l1 : AV) (t x : Nat) (st : List AV) (μ : Mem) : rs 604 33 [vR t x, l1] st μ = rs 604 34 [vR t x, l1] (vR t x :: st) μ := rs_st rfl rfl
theorem s604_34 (l0 l1 : AV) (x : Nat) (st : List AV) (q : Nat × (Nat → Int)) (I A : M2) (L P : Nat → Nat → Option Nat) (F G : Nat → Nat → UInt32) (D : MD) : rs 604 34 [l0, l1] (vR 6 x :: st) (SX q, (I, A, L, P, F, G), D) = rs 604 37 [l0, l1] (vI (I 127 x) :: st) (SX q, (I, A, L, P, F, G), D) := rs_st rfl rfl
theorem s604_37 (l0 l1 : AV) (x : Nat) (v : Int) (st : List AV) (q : Nat × (Nat → Int)) (I A : M2) (L P : Nat → Nat → Option Nat) (F G : Nat → Nat → UInt32) (D : MD) : rs 604 37 [l0, l1] (vI v :: vR 6 x :: st) (SX q, (I, A, L, P, F, G), D) = rs 604 40 [l0, l1] st (SX q, (up2 I 129 x v, A, L, P, F, G), D) := rs_st rfl rfl
theorem s604_40 (l1 : AV) (t x : Nat) (st : List AV) (μ : Mem) : rs 604 40 [vR t x, l1] st μ = rs 604 41 [vR t x, l1] (vR t x :: st) μ := rs_st rfl rfl
theorem s604_41 (l0 l1 : AV) (st : List AV) (μ : Mem) : rs 604 41 [l0, l1] st μ = rs 604 43 [l0, l1] (vI 32 :: st) μ := rs_st rfl rfl
theorem s604_43 (l0 l1 : AV) (z : Nat) (a0 : Int)  (μ : Mem) : rs 604 43 [l0, l1] [vI a0, vR 6 z] μ = (rs 612 0 [vR 6 z, vI a0] [] μ).bind (fun w => rs 604 46 [l0, l1] (pushR w.1 []) w.2) := rs_ca rfl rfl rfl
theorem s604_46 (l0 l1 : AV) (x : Int) (st : List AV) (μ : Mem) : rs 604 46 [l0, l1] (vI x :: st) μ = if x = 0 then rs 604 49 [l0, l1] st μ else rs 604 51 [l0, l1] st μ := rs_ifn rfl (cnd_ne _ _) rfl rfl
theorem s604_49 (l0 l1 : AV) (st : List AV) (μ : Mem) : rs 604 49 [l0, l1] st μ = rs 604 50 [l0, l1] (vI 2 :: st) μ := rs_st rfl rfl
theorem s604_50 (l0 l1 : AV) (x : Int) (μ : Mem) : rs 604 50 [l0, l1] [vI x] μ = some (vI x, μ) := rs_ret rfl
theorem s604_51 (l1 : AV) (t x : Nat) (st : List AV) (μ : Mem) : rs 604 51 [vR t x, l1] st μ = rs 604 52 [vR t x, l1] (vR t x :: st) μ := rs_st rfl rfl
theorem s604_52 (l1 : AV) (t x : Nat) (st : List AV) (μ : Mem) : rs 604 52 [vR t x, l1] st μ = rs 604 53 [vR t x, l1] (vR t x :: st) μ := rs_st rfl rfl
theorem s604_53 (l0 : AV) (t x : Nat) (st : List AV) (μ : Mem) : rs 604 53 [l0, vR t x] st μ = rs 604 54 [l0, vR t x] (vR t x :: st) μ := rs_st rfl rfl
theorem s604_53n (l0 : AV) (st : List AV) (μ : Mem) : rs 604 53 [l0, vN] st μ = rs 604 54 [l0, vN] (vN :: st) μ := rs_st rfl rfl
theorem s604_54 (l0 l1 : AV) (z : Nat) (a0 : Nat) (b0 : Nat) (μ : Mem) : rs 604 54 [l0, l1] [vR 11 a0, vR 6 z, vR 6 b0] μ = (rs 608 0 [vR 6 z, vR 11 a0] [] μ).bind (fun w => rs 604 57 [l0, l1] (pushR w.1 [vR 6 b0]) w.2) := rs_ca rfl rfl rfl
theorem s604_57 (l0 l1 : AV) (x : Nat) (v : Int) (st : List AV) (q : Nat × (Nat → Int)) (I A : M2) (L P : Nat → Nat → Option Nat) (F G : Nat → Nat → UInt32) (D : MD) : rs 604 57 [l0, l1] (vI v :: vR 6 x :: st) (SX q, (I, A, L, P, F, G), D) = rs 604 60 [l0, l1] st (SX q, (up2 I 128 x v, A, L, P, F, G), D) := rs_st rfl rfl
theorem s604_60 (l1 : AV) (t x : Nat) (st : List AV) (μ : Mem) : rs 604 60 [vR t x, l1] st μ = rs 604 61 [vR t x, l1] (vR t x :: st) μ := rs_st rfl rfl
theorem s604_61 (l0 l1 : AV) (x : Nat) (st : List AV) (q : Nat × (Nat → Int)) (I A : M2) (L P : Nat → Nat → Option Nat) (F G : Nat → Nat → UInt32) (D : MD) : rs 604 61 [l0, l1] (vR 6 x :: st) (SX q, (I, A, L, P, F, G), D) = rs 604 64 [l0, l1] (vI (I 128 x) :: st) (SX q, (I, A, L, P, F, G), D) := rs_st rfl rfl
theorem s604_64 (l0 l1 : AV) (st : List AV) (μ : Mem) : rs 604 64 [l0, l1] st μ = rs 604 65 [l0, l1] (vI (-1) :: st) μ := rs_st rfl rfl
theorem s604_65 (l0 l1 : AV) (x y : Int) (st : List AV) (μ : Mem) : rs 604 65 [l0, l1] (vI y :: vI x :: st) μ = if x = y then rs 604 68 [l0, l1] st μ else rs 604 70 [l0, l1] st μ := rs_ifn rfl (cnd_ne _ _) rfl rfl
theorem s604_68 (l0 l1 : AV) (st : List AV) (μ : Mem) : rs 604 68 [l0, l1] st μ = rs 604 69 [l0, l1] (vI 1 :: st) μ := rs_st rfl rfl
theorem s604_69 (l0 l1 : AV) (x : Int) (μ : Mem) : rs 604 69 [l0, l1] [vI x] μ = some (vI x, μ) := rs_ret rfl
theorem s604_70 (l1 : AV) (t x : Nat) (st : List AV) (μ : Mem) : rs 604 70 [vR t x, l1] st μ = rs 604 71 [vR t x, l1] (vR t x :: st) μ := rs_st rfl rfl
theorem s604_71 (l0 l1 : AV) (z : Nat)  (μ : Mem) : rs 604 71 [l0, l1] [vR 6 z] μ = (rs 609 0 [vR 6 z] [] μ).bind (fun w => rs 604 74 [l0, l1] (pushR w.1 []) w.2) := rs_ca rfl rfl rfl
theorem s604_74 (l0 l1 : AV) (x : Int) (st : List AV) (μ : Mem) : rs 604 74 [l0, l1] (vI x :: st) μ = if x = 0 then rs 604 77 [l0, l1] st μ else rs 604 79 [l0, l1] st μ := rs_ifn rfl (cnd_ne _ _) rfl rfl
theorem s604_77 (l0 l1 : AV) (st : List AV) (μ : Mem) : rs 604 77 [l0, l1] st μ = rs 604 78 [l0, l1] (vI 2 :: st) μ := rs_st rfl rfl
theorem s604_78 (l0 l1 : AV) (x : Int) (μ : Mem) : rs 604 78 [l0, l1] [vI x] μ = some (vI x, μ) := rs_ret rfl
theorem s604_79 (l1 : AV) (t x : Nat) (st : List AV) (μ : Mem) : rs 604 79 [vR t x, l1] st μ = rs 604 80 [vR t x, l1] (vR t x :: st) μ := rs_st rfl rfl
theorem s604_80 (l1 : AV) (t x : Nat) (st : List AV) (μ : Mem) : rs 604 80 [vR t x, l1] st μ = rs 604 81 [vR t x, l1] (vR t x :: st) μ := rs_st rfl rfl
theorem s604_81 (l0 l1 : AV) (x : Nat) (st : List AV) (q : Nat × (Nat → Int)) (I A : M2) (L P : Nat → Nat → Option Nat) (F G : Nat → Nat → UInt32) (D : MD) : rs 604 81 [l0, l1] (vR 6 x :: st) (SX q, (I, A, L, P, F, G), D) = rs 604 84 [l0, l1] (vI (I 127 x) :: st) (SX q, (I, A, L, P, F, G), D) := rs_st rfl rfl
theorem s604_84 (l0 l1 : AV) (x : Nat) (v : Int) (st : List AV) (q : Nat × (Nat → Int)) (I A : M2) (L P : Nat → Nat → Option Nat) (F G : Nat → Nat → UInt32) (D : MD) : rs 604 84 [l0, l1] (vI v :: vR 6 x :: st) (SX q, (I, A, L, P, F, G), D) = rs 604 87 [l0, l1] st (SX q, (up2 I 130 x v, A, L, P, F, G), D) := rs_st rfl rfl
theorem s604_87 (l1 : AV) (t x : Nat) (st : List AV) (μ : Mem) : rs 604 87 [vR t x, l1] st μ = rs 604 88 [vR t x, l1] (vR t x :: st) μ := rs_st rfl rfl
theorem s604_88 (l0 l1 : AV) (st : List AV) (μ : Mem) : rs 604 88 [l0, l1] st μ = rs 604 90 [l0, l1] (vI 59 :: st) μ := rs_st rfl rfl
theorem s604_90 (l0 l1 : AV) (z : Nat) (a0 : Int)  (μ : Mem) : rs 604 90 [l0, l1] [vI a0, vR 6 z] μ = (rs 612 0 [vR 6 z, vI a0] [] μ).bind (fun w => rs 604 93 [l0, l1] (pushR w.1 []) w.2) := rs_ca rfl rfl rfl
theorem s604_93 (l0 l1 : AV) (x : Int) (st : List AV) (μ : Mem) : rs 604 93 [l0, l1] (vI x :: st) μ = if x = 0 then rs 604 100 [l0, l1] st μ else rs 604 96 [l0, l1] st μ := rs_ifb rfl (cnd_eq _ _) rfl rfl
theorem s604_96 (l0 l1 : AV) (st : List AV) (μ : Mem) : rs 604 96 [l0, l1] st μ = rs 604 97 [l0, l1] (vI 0 :: st) μ := rs_st rfl rfl
theorem s604_97 (l0 l1 : AV) (st : List AV) (μ : Mem) : rs 604 97 [l0, l1] st μ = rs 604 101 [l0, l1] st μ := rs_st rfl rfl
theorem s604_100 (l0 l1 : AV) (st : List AV) (μ : Mem) : rs 604 100 [l0, l1] st μ = rs 604 101 [l0, l1] (vI 4 :: st) μ := rs_st rfl rfl
theorem s604_101 (l0 l1 : AV) (x : Int) (μ : Mem) : rs 604 101 [l0, l1] [vI x] μ = some (vI x, μ) := rs_ret rfl
theorem s605_0 (t x : Nat) (st : List AV) (μ : Mem) : rs 605 0 [vR t x] st μ = rs 605 1 [vR t x] (vR t x :: st) μ := rs_st rfl rfl
theorem s605_1 (l0 : AV) (z : Nat)  (μ : Mem) : rs 605 1 [l0] [vR 6 z] μ = (rs 606 0 [vR 6 z, vU] [] μ).bind (fun w => rs 605 4 [l0] (pushR w.1 []) w.2) := rs_ca rfl rfl rfl
theorem s605_4 (l0 : AV) (x : Int) (st : List AV) (μ : Mem) : rs 605 4 [l0] (vI x :: st) μ = if x = 0 then rs 605 7 [l0] st μ else rs 605 9 [l0] st μ := rs_ifn rfl (cnd_ne _ _) rfl rfl
theorem s605_7 (l0 : AV) (st : List AV) (μ : Mem) : rs 605 7 [l0] st μ = rs 605 8 [l0] (vI 3 :: st) μ := rs_st rfl rfl
theorem s605_8 (l0 : AV) (x : Int) (μ : Mem) : rs 605 8 [l0] [vI x] μ = some (vI x, μ) := rs_ret rfl
theorem s605_9 (t x : Nat) (st : List AV) (μ : Mem) : rs 605 9 [vR t x] st μ = rs 605 10 [vR t x] (vR t x :: st) μ := rs_st rfl rfl
theorem s605_10 (l0 : AV) (x : Nat) (st : List AV) (q : Nat × (Nat → Int)) (C : MC) (D : MD) : rs 605 10 [l0] (vR 6 x :: st) (SX q, C, D) = rs 605 13 [l0] (vR 5 6 :: st) (SX q, C, D) := rs_st rfl rfl
theorem s605_13 (t x : Nat) (st : List AV) (μ : Mem) : rs 605 13 [vR t x] st μ = rs 605 14 [vR t x] (vR t x :: st) μ := rs_st rfl rfl
theorem s605_14 (l0 : AV) (x : Nat) (st : List AV) (q : Nat × (Nat → Int)) (I A : M2) (L P : Nat → Nat → Option Nat) (F G : Nat → Nat → UInt32) (D : MD) : rs 605 14 [l0] (vR 6 x :: st) (SX q, (I, A, L, P, F, G), D) = rs 605 17 [l0] (vI (I 128 x) :: st) (SX q, (I, A, L, P, F, G), D) := rs_st rfl rfl
theorem s605_17 (t x : Nat) (st : List AV) (μ : Mem) : rs 605 17 [vR t x] st μ = rs 605 18 [vR t x] (vR t x :: st) μ := rs_st rfl rfl
theorem s605_18 (l0 : AV) (x : Nat) (st : List AV) (q : Nat × (Nat → Int)) (I A : M2) (L P : Nat → Nat → Option Nat) (F G : Nat → Nat → UInt32) (D : MD) : rs 605 18 [l0] (vR 6 x :: st) (SX q, (I, A, L, P, F, G), D) = rs 605 21 [l0] (vI (I 129 x) :: st) (SX q, (I, A, L, P, F, G), D) := rs_st rfl rfl
theorem s605_21 (t x : Nat) (st : List AV) (μ : Mem) : rs 605 21 [vR t x] st μ = rs 605 22 [vR t x] (vR t x :: st) μ := rs_st rfl rfl
theorem s605_22 (l0 : AV) (x : Nat) (st : List AV) (q : Nat × (Nat → Int)) (I A : M2) (L P : Nat → Nat → Option Nat) (F G : Nat → Nat → UInt32) (D : MD) : rs 605 22 [l0] (vR 6 x :: st) (SX q, (I, A, L, P, F, G), D) = rs 605 25 [l0] (vI (I 130 x) :: st) (SX q, (I, A, L, P, F, G), D) := rs_st rfl rfl
theorem s605_25 (l0 : AV) (z : Nat) (a0 : Int) (a1 : Int) (a2 : Int)  (μ : Mem) : rs 605 25 [l0] [vI a2, vI a1, vI a0, vR 5 z] μ = (rs 505 0 [vR 5 z, vI a0, vI a1, vI a2, vU] [] μ).bind (fun w => rs 605 28 [l0] (pushR w.1 []) w.2) := rs_ca rfl rfl rfl
theorem s605_28 (l0 : AV) (x : Int) (st : List AV) (μ : Mem) : rs 605 28 [l0] (vI x :: st) μ = if x = 0 then rs 605 33 [l0] st μ else rs 605 31 [l0] st μ := rs_ifb rfl (cnd_eq _ _) rfl rfl
theorem s605_31 (l0 : AV) (st : List AV) (μ : Mem) : rs 605 31 [l0] st μ = rs 605 32 [l0] (vI 5 :: st) μ := rs_st rfl rfl
theorem s605_32 (l0 : AV) (x : Int) (μ : Mem) : rs 605 32 [l0] [vI x] μ = some (vI x, μ) := rs_ret rfl
theorem s605_33 (t x : Nat) (st : List AV) (μ : Mem) : rs 605 33 [vR t x] st μ = rs 605 34 [vR t x] (vR t x :: st) μ := rs_st rfl rfl
theorem s605_34 (l0 : AV) (x : Nat) (st : List AV) (q : Nat × (Nat → Int)) (C : MC) (D : MD) : rs 605 34 [l0] (vR 6 x :: st) (SX q, C, D) = rs 605 37 [l0] (vR 5 6 :: st) (SX q, C, D) := rs_st rfl rfl
theorem s605_37 (l0 : AV) (x : Nat) (st : List AV) (q : Nat × (Nat → Int)) (I A : M2) (L P : Nat → Nat → Option Nat) (F G : Nat → Nat → UInt32) (D : MD) : rs 605 37 [l0] (vR 5 x :: st) (SX q, (I, A, L, P, F, G), D) = rs 605 40 [l0] (vI (I 103 x) :: st) (SX q, (I, A, L, P, F, G), D) := rs_st rfl rfl
theorem s605_40 (l0 : AV) (st : List AV) (μ : Mem) : rs 605 40 [l0] st μ = rs 605 42 [l0] (vI 8 :: st) μ := rs_st rfl rfl
theorem s605_42 (l0 : AV) (x y : Int) (st : List AV) (μ : Mem) : rs 605 42 [l0] (vI y :: vI x :: st) μ = if x < y then rs 605 50 [l0] st μ else rs 605 45 [l0] st μ := rs_ifb rfl (cnd_lt _ _) rfl rfl
theorem s605_45 (l0 : AV) (st : List AV) (μ : Mem) : rs 605 45 [l0] st μ = rs 605 47 [l0] (vI 6 :: st) μ := rs_st rfl rfl
theorem s605_47 (l0 : AV) (st : List AV) (μ : Mem) : rs 605 47 [l0] st μ = rs 605 51 [l0] st μ := rs_st rfl rfl
theorem s605_50 (l0 : AV) (st : List AV) (μ : Mem) : rs 605 50 [l0] st μ = rs 605 51 [l0] (vI 0 :: st) μ := rs_st rfl rfl
theorem s605_51 (l0 : AV) (x : Int) (μ : Mem) : rs 605 51 [l0] [vI x] μ = some (vI x, μ) := rs_ret rfl
theorem s606_0 (l1 : AV) (t x : Nat) (st : List AV) (μ : Mem) : rs 606 0 [vR t x, l1] st μ = rs 606 1 [vR t x, l1] (vR t x :: st) μ := rs_st rfl rfl
theorem s606_1 (l0 l1 : AV) (x : Nat) (st : List AV) (q : Nat × (Nat → Int)) (I A : M2) (L P : Nat → Nat → Option Nat) (F G : Nat → Nat → UInt32) (D : MD) : rs 606 1 [l0, l1] (vR 6 x :: st) (SX q, (I, A, L, P, F, G), D) = rs 606 4 [l0, l1] (vI (I 128 x) :: st) (SX q, (I, A, L, P, F, G), D) := rs_st rfl rfl
theorem s606_4 (l0 l1 : AV) (a0 : Int)  (μ : Mem) : rs 606 4 [l0, l1] [vI a0] μ = (rs 1102 0 [vI a0, vU, vU] [] μ).bind (fun w => rs 606 7 [l0, l1] (pushR w.1 []) w.2) := rs_ca rfl rfl rfl
theorem s606_7 (l0 l1 : AV) (t x : Nat) (st : List AV) (μ : Mem) : rs 606 7 [l0, l1] (vR t x :: st) μ = rs 606 8 [unJ l0, vR t x] st μ := rs_st rfl rfl
theorem s606_7n (l0 l1 : AV) (st : List AV) (μ : Mem) : rs 606 7 [l0, l1] (vN :: st) μ = rs 606 8 [unJ l0, vN] st μ := rs_st rfl rfl
theorem s606_8 (l0 : AV) (t x : Nat) (st : List AV) (μ : Mem) : rs 606 8 [l0, vR t x] st μ = rs 606 9 [l0, vR t x] (vR t x :: st) μ := rs_st rfl rfl
theorem s606_8n (l0 : AV) (st : List AV) (μ : Mem) : rs 606 8 [l0, vN] st μ = rs 606 9 [l0, vN] (vN :: st) μ := rs_st rfl rfl
theorem s606_9 (l0 l1 : AV) (z : Nat)  (μ : Mem) : rs 606 9 [l0, l1] [vR 11 z] μ = (rs 1105 0 [vR 11 z] [] μ).bind (fun w => rs 606 12 [l0, l1] (pushR w.1 []) w.2) := rs_ca rfl rfl rfl
theorem s606_12 (l0 l1 : AV) (x : Int) (st : List AV) (μ : Mem) : rs 606 12 [l0, l1] (vI x :: st) μ = if x = 0 then rs 606 47 [l0, l1] st μ else rs 606 15 [l0, l1] st μ := rs_ifb rfl (cnd_eq _ _) rfl rfl
theorem s606_15 (l0 : AV) (t x : Nat) (st : List AV) (μ : Mem) : rs 606 15 [l0, vR t x] st μ = rs 606 16 [l0, vR t x] (vR t x :: st) μ := rs_st rfl rfl
theorem s606_15n (l0 : AV) (st : List AV) (μ : Mem) : rs 606 15 [l0, vN] st μ = rs 606 16 [l0, vN] (vN :: st) μ := rs_st rfl rfl
theorem s606_16 (l1 : AV) (t x : Nat) (st : List AV) (μ : Mem) : rs 606 16 [vR t x, l1] st μ = rs 606 17 [vR t x, l1] (vR t x :: st) μ := rs_st rfl rfl
theorem s606_17 (l0 l1 : AV) (x : Nat) (st : List AV) (q : Nat × (Nat → Int)) (I A : M2) (L P : Nat → Nat → Option Nat) (F G : Nat → Nat → UInt32) (D : MD) : rs 606 17 [l0, l1] (vR 6 x :: st) (SX q, (I, A, L, P, F, G), D) = rs 606 20 [l0, l1] (vI (I 129 x) :: st) (SX q, (I, A, L, P, F, G), D) := rs_st rfl rfl
theorem s606_20 (l0 l1 : AV) (z : Nat) (a0 : Int)  (μ : Mem) : rs 606 20 [l0, l1] [vI a0, vR 11 z] μ = (rs 1106 0 [vR 11 z, vI a0] [] μ).bind (fun w => rs 606 23 [l0, l1] (pushR w.1 []) w.2) := rs_ca rfl rfl rfl
theorem s606_23 (l0 l1 : AV) (x : Int) (st : List AV) (μ : Mem) : rs 606 23 [l0, l1] (vI x :: st) μ = if x = 0 then rs 606 43 [l0, l1] st μ else rs 606 26 [l0, l1] st μ := rs_ifb rfl (cnd_eq _ _) rfl rfl
theorem s606_26 (l1 : AV) (t x : Nat) (st : List AV) (μ : Mem) : rs 606 26 [vR t x, l1] st μ = rs 606 27 [vR t x, l1] (vR t x :: st) μ := rs_st rfl rfl
theorem s606_27 (l0 l1 : AV) (x : Nat) (st : List AV) (q : Nat × (Nat → Int)) (I A : M2) (L P : Nat → Nat → Option Nat) (F G : Nat → Nat → UInt32) (D : MD) : rs 606 27 [l0, l1] (vR 6 x :: st) (SX q, (I, A, L, P, F, G), D) = rs 606 30 [l0, l1] (vI (I 130 x) :: st) (SX q, (I, A, L, P, F, G), D) := rs_st rfl rfl
theorem s606_30 (l0 l1 : AV) (st : List AV) (μ : Mem) : rs 606 30 [l0, l1] st μ = rs 606 31 [l0, l1] (vI 0 :: st) μ := rs_st rfl rfl
theorem s606_31 (l0 l1 : AV) (st : List AV) (μ : Mem) : rs 606 31 [l0, l1] st μ = rs 606 33 [l0, l1] (vI 100 :: st) μ := rs_st rfl rfl
theorem s606_33 (l0 l1 : AV) (a0 : Int) (a1 : Int) (a2 : Int)  (μ : Mem) : rs 606 33 [l0, l1] [vI a2, vI a1, vI a0] μ = (rs 929 0 [vI a0, vI a1, vI a2] [] μ).bind (fun w => rs 606 36 [l0, l1] (pushR w.1 []) w.2) := rs_ca rfl rfl rfl
theorem s606_36 (l0 l1 : AV) (x : Int) (st : List AV) (μ : Mem) : rs 606 36 [l0, l1] (vI x :: st) μ = if x = 0 then rs 606 43 [l0, l1] st μ else rs 606 39 [l0, l1] st μ := rs_ifb rfl (cnd_eq _ _) rfl rfl
theorem s606_39 (l0 l1 : AV) (st : List AV) (μ : Mem) : rs 606 39 [l0, l1] st μ = rs 606 40 [l0, l1] (vI 1 :: st) μ := rs_st rfl rfl
theorem s606_40 (l0 l1 : AV) (st : List AV) (μ : Mem) : rs 606 40 [l0, l1] st μ = rs 606 55 [l0, l1] st μ := rs_st rfl rfl
theorem s606_43 (l0 l1 : AV) (st : List AV) (μ : Mem) : rs 606 43 [l0, l1] st μ = rs 606 44 [l0, l1] (vI 0 :: st) μ := rs_st rfl rfl
theorem s606_44 (l0 l1 : AV) (st : List AV) (μ : Mem) : rs 606 44 [l0, l1] st μ = rs 606 55 [l0, l1] st μ := rs_st rfl rfl
theorem s606_47 (l0 : AV) (t x : Nat) (st : List AV) (μ : Mem) : rs 606 47 [l0, vR t x] st μ = rs 606 48 [l0, vR t x] (vR t x :: st) μ := rs_st rfl rfl
theorem s606_47n (l0 : AV) (st : List AV) (μ : Mem) : rs 606 47 [l0, vN] st μ = rs 606 48 [l0, vN] (vN :: st) μ := rs_st rfl rfl
theorem s606_48 (l1 : AV) (t x : Nat) (st : List AV) (μ : Mem) : rs 606 48 [vR t x, l1] st μ = rs 606 49 [vR t x, l1] (vR t x :: st) μ := rs_st rfl rfl
theorem s606_49 (l0 l1 : AV) (x : Nat) (st : List AV) (q : Nat × (Nat → Int)) (I A : M2) (L P : Nat → Nat → Option Nat) (F G : Nat → Nat → UInt32) (D : MD) : rs 606 49 [l0, l1] (vR 6 x :: st) (SX q, (I, A, L, P, F, G), D) = rs 606 52 [l0, l1] (vI (I 130 x) :: st) (SX q, (I, A, L, P, F, G), D) := rs_st rfl rfl
theorem s606_52 (l0 l1 : AV) (z : Nat) (a0 : Int)  (μ : Mem) : rs 606 52 [l0, l1] [vI a0, vR 11 z] μ = (rs 1106 0 [vR 11 z, vI a0] [] μ).bind (fun w => rs 606 55 [l0, l1] (pushR w.1 []) w.2) := rs_ca rfl rfl rfl
theorem s606_55 (l0 l1 : AV) (x : Int) (μ : Mem) : rs 606 55 [l0, l1] [vI x] μ = if x = 0 ∨ x = 1 then some (vI x, μ) else none := rs_rz rfl (rz_2 _)
theorem s607_0 (l0 l1 l2 : AV) (st : List AV) (μ : Mem) : rs 607 0 [l0, l1, l2] st μ = rs 607 1 [l0, l1, l2] (vI 0 :: st) μ := rs_st rfl rfl
theorem s607_1 (l0 l1 l2 : AV) (x : Int) (st : List AV) (μ : Mem) : rs 607 1 [l0, l1, l2] (vI x :: st) μ = rs 607 2 [unJ l0, vI x, vU] st μ := rs_st rfl rfl
theorem s607_2 (l0 l2 : AV) (x : Int) (st : List AV) (μ : Mem) : rs 607 2 [l0, vI x, l2] st μ = rs 607 3 [l0, vI x, l2] (vI x :: st) μ := rs_st rfl rfl
theorem s607_3 (l0 l1 l2 : AV) (st : List AV) (μ : Mem) : rs 607 3 [l0, l1, l2] st μ = rs 607 5 [l0, l1, l2] (vI 6 :: st) μ := rs_st rfl rfl
theorem s607_5 (l0 l1 l2 : AV) (x y : Int) (st : List AV) (μ : Mem) : rs 607 5 [l0, l1, l2] (vI y :: vI x :: st) μ = if y ≤ x then rs 607 32 [l0, l1, l2] st μ else rs 607 8 [l0, l1, l2] st μ := rs_ifb rfl (cnd_ge _ _) rfl rfl
theorem s607_8 (l0 l2 : AV) (x : Int) (st : List AV) (μ : Mem) : rs 607 8 [l0, vI x, l2] st μ = rs 607 9 [l0, vI x, l2] (vI x :: st) μ := rs_st rfl rfl
theorem s607_9 (l0 l1 l2 : AV) (a0 : Int)  (μ : Mem) : rs 607 9 [l0, l1, l2] [vI a0] μ = (rs 1101 0 [vI a0] [] μ).bind (fun w => rs 607 12 [l0, l1, l2] (pushR w.1 []) w.2) := rs_ca rfl rfl rfl
theorem s607_12 (l0 l1 l2 : AV) (t x : Nat) (st : List AV) (μ : Mem) : rs 607 12 [l0, l1, l2] (vR t x :: st) μ = rs 607 13 [l0, unJ l1, vR t x] st μ := rs_st rfl rfl
theorem s607_12n (l0 l1 l2 : AV) (st : List AV) (μ : Mem) : rs 607 12 [l0, l1, l2] (vN :: st) μ = rs 607 13 [l0, unJ l1, vN] st μ := rs_st rfl rfl
theorem s607_13 (l1 l2 : AV) (t x : Nat) (st : List AV) (μ : Mem) : rs 607 13 [vR t x, l1, l2] st μ = rs 607 14 [vR t x, l1, l2] (vR t x :: st) μ := rs_st rfl rfl
theorem s607_14 (l0 l1 : AV) (t x : Nat) (st : List AV) (μ : Mem) : rs 607 14 [l0, l1, vR t x] st μ = rs 607 15 [l0, l1, vR t x] (vR t x :: st) μ := rs_st rfl rfl
theorem s607_14n (l0 l1 : AV) (st : List AV) (μ : Mem) : rs 607 14 [l0, l1, vN] st μ = rs 607 15 [l0, l1, vN] (vN :: st) μ := rs_st rfl rfl
theorem s607_15 (l0 l1 l2 : AV) (x : Nat) (st : List AV) (μ : Mem) : rs 607 15 [l0, l1, l2] (vR 11 x :: st) μ = rs 607 18 [l0, l1, l2] (vR 12 x :: st) μ := rs_st rfl rfl
theorem s607_18 (l0 l1 l2 : AV) (z : Nat) (a0 : Nat)  (μ : Mem) : rs 607 18 [l0, l1, l2] [vR 12 a0, vR 6 z] μ = (rs 611 0 [vR 6 z, vR 12 a0, vU] [] μ).bind (fun w => rs 607 21 [l0, l1, l2] (pushR w.1 []) w.2) := rs_ca rfl rfl rfl
theorem s607_21 (l0 l1 l2 : AV) (x : Int) (st : List AV) (μ : Mem) : rs 607 21 [l0, l1, l2] (vI x :: st) μ = if x = 0 then rs 607 26 [l0, l1, l2] st μ else rs 607 24 [l0, l1, l2] st μ := rs_ifb rfl (cnd_eq _ _) rfl rfl
theorem s607_24 (l0 l1 : AV) (t x : Nat) (st : List AV) (μ : Mem) : rs 607 24 [l0, l1, vR t x] st μ = rs 607 25 [l0, l1, vR t x] (vR t x :: st) μ := rs_st rfl rfl
theorem s607_24n (l0 l1 : AV) (st : List AV) (μ : Mem) : rs 607 24 [l0, l1, vN] st μ = rs 607 25 [l0, l1, vN] (vN :: st) μ := rs_st rfl rfl
theorem s607_25 (l0 l1 l2 : AV) (t x : Nat) (μ : Mem) : rs 607 25 [l0, l1, l2] [vR t x] μ = some (vR t x, μ) := rs_ret rfl
theorem s607_25n (l0 l1 l2 : AV)  (μ : Mem) : rs 607 25 [l0, l1, l2] [vN] μ = some (vN, μ) := rs_ret rfl
theorem s607_26 (l0 l2 : AV) (x : Int) (st : List AV) (μ : Mem) : rs 607 26 [l0, vI x, l2] st μ = rs 607 29 [unJ l0, vI (w32 (x + 1)), l2] st μ := rs_st rfl rfl
theorem s607_29 (l0 l1 l2 : AV) (st : List AV) (μ : Mem) : rs 607 29 [l0, l1, l2] st μ = rs 607 2 [l0, l1, vU] st μ := rs_st rfl rfl
theorem s607_32 (l0 l1 l2 : AV) (st : List AV) (μ : Mem) : rs 607 32 [l0, l1, l2] st μ = rs 607 33 [l0, l1, l2] (vN :: st) μ := rs_st rfl rfl
theorem s607_33 (l0 l1 l2 : AV) (t x : Nat) (μ : Mem) : rs 607 33 [l0, l1, l2] [vR t x] μ = some (vR t x, μ) := rs_ret rfl
theorem s607_33n (l0 l1 l2 : AV)  (μ : Mem) : rs 607 33 [l0, l1, l2] [vN] μ = some (vN, μ) := rs_ret rfl
theorem s608_0 (l0 : AV) (t x : Nat) (st : List AV) (μ : Mem) : rs 608 0 [l0, vR t x] st μ = rs 608 1 [l0, vR t x] (vR t x :: st) μ := rs_st rfl rfl
theorem s608_1 (l0 l1 : AV) (x : Nat) (st : List AV) (μ : Mem) : rs 608 1 [l0, l1] (vR 11 x :: st) μ = rs 608 4 [l0, l1] (vI (tpI 2 x) :: st) μ := rs_st rfl rfl
theorem s608_4 (l0 l1 : AV) (st : List AV) (μ : Mem) : rs 608 4 [l0, l1] st μ = rs 608 5 [l0, l1] (vI (-1) :: st) μ := rs_st rfl rfl
theorem s608_5 (l0 l1 : AV) (x y : Int) (st : List AV) (μ : Mem) : rs 608 5 [l0, l1] (vI y :: vI x :: st) μ = if x = y then rs 608 22 [l0, l1] st μ else rs 608 8 [l0, l1] st μ := rs_ifb rfl (cnd_eq _ _) rfl rfl
theorem s608_8 (l1 : AV) (t x : Nat) (st : List AV) (μ : Mem) : rs 608 8 [vR t x, l1] st μ = rs 608 9 [vR t x, l1] (vR t x :: st) μ := rs_st rfl rfl
theorem s608_9 (l0 l1 : AV) (st : List AV) (μ : Mem) : rs 608 9 [l0, l1] st μ = rs 608 11 [l0, l1] (vR 12 6 :: st) μ := rs_st rfl rfl
theorem s608_11 (l0 l1 : AV) (z : Nat) (a0 : Nat)  (μ : Mem) : rs 608 11 [l0, l1] [vR 12 a0, vR 6 z] μ = (rs 611 0 [vR 6 z, vR 12 a0, vU] [] μ).bind (fun w => rs 608 14 [l0, l1] (pushR w.1 []) w.2) := rs_ca rfl rfl rfl
theorem s608_14 (l0 l1 : AV) (x : Int) (st : List AV) (μ : Mem) : rs 608 14 [l0, l1] (vI x :: st) μ = if x = 0 then rs 608 22 [l0, l1] st μ else rs 608 17 [l0, l1] st μ := rs_ifb rfl (cnd_eq _ _) rfl rfl
theorem s608_17 (l0 : AV) (t x : Nat) (st : List AV) (μ : Mem) : rs 608 17 [l0, vR t x] st μ = rs 608 18 [l0, vR t x] (vR t x :: st) μ := rs_st rfl rfl
theorem s608_18 (l0 l1 : AV) (x : Nat) (st : List AV) (μ : Mem) : rs 608 18 [l0, l1] (vR 11 x :: st) μ = rs 608 21 [l0, l1] (vI (tpI 2 x) :: st) μ := rs_st rfl rfl
theorem s608_21 (l0 l1 : AV) (x : Int) (μ : Mem) : rs 608 21 [l0, l1] [vI x] μ = some (vI x, μ) := rs_ret rfl
theorem s608_22 (l0 : AV) (t x : Nat) (st : List AV) (μ : Mem) : rs 608 22 [l0, vR t x] st μ = rs 608 23 [l0, vR t x] (vR t x :: st) μ := rs_st rfl rfl
theorem s608_23 (l0 l1 : AV) (x : Nat) (st : List AV) (μ : Mem) : rs 608 23 [l0, l1] (vR 11 x :: st) μ = rs 608 26 [l0, l1] (vI (tpI 3 x) :: st) μ := rs_st rfl rfl
theorem s608_26 (l0 l1 : AV) (st : List AV) (μ : Mem) : rs 608 26 [l0, l1] st μ = rs 608 27 [l0, l1] (vI (-1) :: st) μ := rs_st rfl rfl
theorem s608_27 (l0 l1 : AV) (x y : Int) (st : List AV) (μ : Mem) : rs 608 27 [l0, l1] (vI y :: vI x :: st) μ = if x = y then rs 608 44 [l0, l1] st μ else rs 608 30 [l0, l1] st μ := rs_ifb rfl (cnd_eq _ _) rfl rfl
theorem s608_30 (l1 : AV) (t x : Nat) (st : List AV) (μ : Mem) : rs 608 30 [vR t x, l1] st μ = rs 608 31 [vR t x, l1] (vR t x :: st) μ := rs_st rfl rfl
theorem s608_31 (l0 l1 : AV) (st : List AV) (μ : Mem) : rs 608 31 [l0, l1] st μ = rs 608 33 [l0, l1] (vR 12 7 :: st) μ := rs_st rfl rfl
theorem s608_33 (l0 l1 : AV) (z : Nat) (a0 : Nat)  (μ : Mem) : rs 608 33 [l0, l1] [vR 12 a0, vR 6 z] μ = (rs 611 0 [vR 6 z, vR 12 a0, vU] [] μ).bind (fun w => rs 608 36 [l0, l1] (pushR w.1 []) w.2) := rs_ca rfl rfl rfl
theorem s608_36 (l0 l1 : AV) (x : Int) (st : List AV) (μ : Mem) : rs 608 36 [l0, l1] (vI x :: st) μ = if x = 0 then rs 608 44 [l0, l1] st μ else rs 608 39 [l0, l1] st μ := rs_ifb rfl (cnd_eq _ _) rfl rfl
theorem s608_39 (l0 : AV) (t x : Nat) (st : List AV) (μ : Mem) : rs 608 39 [l0, vR t x] st μ = rs 608 40 [l0, vR t x] (vR t x :: st) μ := rs_st rfl rfl
theorem s608_40 (l0 l1 : AV) (x : Nat) (st : List AV) (μ : Mem) : rs 608 40 [l0, l1] (vR 11 x :: st) μ = rs 608 43 [l0, l1] (vI (tpI 3 x) :: st) μ := rs_st rfl rfl
theorem s608_43 (l0 l1 : AV) (x : Int) (μ : Mem) : rs 608 43 [l0, l1] [vI x] μ = some (vI x, μ) := rs_ret rfl
theorem s608_44 (l0 l1 : AV) (st : List AV) (μ : Mem) : rs 608 44 [l0, l1] st μ = rs 608 45 [l0, l1] (vI (-1) :: st) μ := rs_st rfl rfl
theorem s608_45 (l0 l1 : AV) (x : Int) (μ : Mem) : rs 608 45 [l0, l1] [vI x] μ = some (vI x, μ) := rs_ret rfl
theorem s609_0 (t x : Nat) (st : List AV) (μ : Mem) : rs 609 0 [vR t x] st μ = rs 609 1 [vR t x] (vR t x :: st) μ := rs_st rfl rfl
theorem s609_1 (l0 : AV) (st : List AV) (μ : Mem) : rs 609 1 [l0] st μ = rs 609 3 [l0] (vI 32 :: st) μ := rs_st rfl rfl
theorem s609_3 (l0 : AV) (z : Nat) (a0 : Int)  (μ : Mem) : rs 609 3 [l0] [vI a0, vR 6 z] μ = (rs 612 0 [vR 6 z, vI a0] [] μ).bind (fun w => rs 609 6 [l0] (pushR w.1 []) w.2) := rs_ca rfl rfl rfl
theorem s609_6 (l0 : AV) (x : Int) (st : List AV) (μ : Mem) : rs 609 6 [l0] (vI x :: st) μ = if x = 0 then rs 609 20 [l0] st μ else rs 609 9 [l0] st μ := rs_ifb rfl (cnd_eq _ _) rfl rfl
theorem s609_9 (t x : Nat) (st : List AV) (μ : Mem) : rs 609 9 [vR t x] st μ = rs 609 10 [vR t x] (vR t x :: st) μ := rs_st rfl rfl
theorem s609_10 (l0 : AV) (z : Nat)  (μ : Mem) : rs 609 10 [l0] [vR 6 z] μ = (rs 610 0 [vR 6 z, vU] [] μ).bind (fun w => rs 609 13 [l0] (pushR w.1 []) w.2) := rs_ca rfl rfl rfl
theorem s609_13 (l0 : AV) (x : Int) (st : List AV) (μ : Mem) : rs 609 13 [l0] (vI x :: st) μ = if x = 0 then rs 609 20 [l0] st μ else rs 609 16 [l0] st μ := rs_ifb rfl (cnd_eq _ _) rfl rfl
theorem s609_16 (l0 : AV) (st : List AV) (μ : Mem) : rs 609 16 [l0] st μ = rs 609 17 [l0] (vI 1 :: st) μ := rs_st rfl rfl
theorem s609_17 (l0 : AV) (st : List AV) (μ : Mem) : rs 609 17 [l0] st μ = rs 609 21 [l0] st μ := rs_st rfl rfl
theorem s609_20 (l0 : AV) (st : List AV) (μ : Mem) : rs 609 20 [l0] st μ = rs 609 21 [l0] (vI 0 :: st) μ := rs_st rfl rfl
theorem s609_21 (l0 : AV) (x : Int) (μ : Mem) : rs 609 21 [l0] [vI x] μ = if x = 0 ∨ x = 1 then some (vI x, μ) else none := rs_rz rfl (rz_2 _)
theorem s610_0 (l1 : AV) (t x : Nat) (st : List AV) (μ : Mem) : rs 610 0 [vR t x, l1] st μ = rs 610 1 [vR t x, l1] (vR t x :: st) μ := rs_st rfl rfl
theorem s610_1 (l0 l1 : AV) (st : List AV) (μ : Mem) : rs 610 1 [l0, l1] st μ = rs 610 2 [l0, l1] (vI 0 :: st) μ := rs_st rfl rfl
theorem s610_2 (l0 l1 : AV) (x : Nat) (v : Int) (st : List AV) (q : Nat × (Nat → Int)) (I A : M2) (L P : Nat → Nat → Option Nat) (F G : Nat → Nat → UInt32) (D : MD) : rs 610 2 [l0, l1] (vI v :: vR 6 x :: st) (SX q, (I, A, L, P, F, G), D) = rs 610 5 [l0, l1] st (SX q, (up2 I 127 x v, A, L, P, F, G), D) := rs_st rfl rfl
theorem s610_5 (l0 l1 : AV) (st : List AV) (μ : Mem) : rs 610 5 [l0, l1] st μ = rs 610 6 [l0, l1] (vI 0 :: st) μ := rs_st rfl rfl
theorem s610_6 (l0 l1 : AV) (x : Int) (st : List AV) (μ : Mem) : rs 610 6 [l0, l1] (vI x :: st) μ = rs 610 7 [unJ l0, vI x] st μ := rs_st rfl rfl
theorem s610_7 (l0 : AV) (x : Int) (st : List AV) (μ : Mem) : rs 610 7 [l0, vI x] st μ = rs 610 8 [l0, vI x] (vI x :: st) μ := rs_st rfl rfl
theorem s610_8 (l0 l1 : AV) (st : List AV) (μ : Mem) : rs 610 8 [l0, l1] st μ = rs 610 9 [l0, l1] (vI 4 :: st) μ := rs_st rfl rfl
theorem s610_9 (l0 l1 : AV) (x y : Int) (st : List AV) (μ : Mem) : rs 610 9 [l0, l1] (vI y :: vI x :: st) μ = if y ≤ x then rs 610 69 [l0, l1] st μ else rs 610 12 [l0, l1] st μ := rs_ifb rfl (cnd_ge _ _) rfl rfl
theorem s610_12 (l1 : AV) (t x : Nat) (st : List AV) (μ : Mem) : rs 610 12 [vR t x, l1] st μ = rs 610 13 [vR t x, l1] (vR t x :: st) μ := rs_st rfl rfl
theorem s610_13 (l1 : AV) (t x : Nat) (st : List AV) (μ : Mem) : rs 610 13 [vR t x, l1] st μ = rs 610 14 [vR t x, l1] (vR t x :: st) μ := rs_st rfl rfl
theorem s610_14 (l0 l1 : AV) (x : Nat) (st : List AV) (q : Nat × (Nat → Int)) (I A : M2) (L P : Nat → Nat → Option Nat) (F G : Nat → Nat → UInt32) (D : MD) : rs 610 14 [l0, l1] (vR 6 x :: st) (SX q, (I, A, L, P, F, G), D) = rs 610 17 [l0, l1] (vI (I 126 x) :: st) (SX q, (I, A, L, P, F, G), D) := rs_st rfl rfl
theorem s610_17 (l0 l1 : AV) (z : Nat) (a0 : Int)  (μ : Mem) : rs 610 17 [l0, l1] [vI a0, vR 6 z] μ = (rs 613 0 [vR 6 z, vI a0] [] μ).bind (fun w => rs 610 20 [l0, l1] (pushR w.1 []) w.2) := rs_ca rfl rfl rfl
theorem s610_20 (l0 l1 : AV) (st : List AV) (μ : Mem) : rs 610 20 [l0, l1] st μ = rs 610 22 [l0, l1] (vI 48 :: st) μ := rs_st rfl rfl
theorem s610_22 (l0 l1 : AV) (st : List AV) (μ : Mem) : rs 610 22 [l0, l1] st μ = rs 610 24 [l0, l1] (vI 57 :: st) μ := rs_st rfl rfl
theorem s610_24 (l0 l1 : AV) (a0 : Int) (a1 : Int) (a2 : Int)  (μ : Mem) : rs 610 24 [l0, l1] [vI a2, vI a1, vI a0] μ = (rs 929 0 [vI a0, vI a1, vI a2] [] μ).bind (fun w => rs 610 27 [l0, l1] (pushR w.1 []) w.2) := rs_ca rfl rfl rfl
theorem s610_27 (l0 l1 : AV) (x : Int) (st : List AV) (μ : Mem) : rs 610 27 [l0, l1] (vI x :: st) μ = if x = 0 then rs 610 69 [l0, l1] st μ else rs 610 30 [l0, l1] st μ := rs_ifb rfl (cnd_eq _ _) rfl rfl
theorem s610_30 (l1 : AV) (t x : Nat) (st : List AV) (μ : Mem) : rs 610 30 [vR t x, l1] st μ = rs 610 31 [vR t x, l1] (vR t x :: st) μ := rs_st rfl rfl
theorem s610_31 (l1 : AV) (t x : Nat) (st : List AV) (μ : Mem) : rs 610 31 [vR t x, l1] st μ = rs 610 32 [vR t x, l1] (vR t x :: st) μ := rs_st rfl rfl
theorem s610_32 (l0 l1 : AV) (x : Nat) (st : List AV) (q : Nat × (Nat → Int)) (I A : M2) (L P : Nat → Nat → Option Nat) (F G : Nat → Nat → UInt32) (D : MD) : rs 610 32 [l0, l1] (vR 6 x :: st) (SX q, (I, A, L, P, F, G), D) = rs 610 35 [l0, l1] (vI (I 127 x) :: st) (SX q, (I, A, L, P, F, G), D) := rs_st rfl rfl
theorem s610_35 (l0 l1 : AV) (st : List AV) (μ : Mem) : rs 610 35 [l0, l1] st μ = rs 610 37 [l0, l1] (vI 10 :: st) μ := rs_st rfl rfl
theorem s610_37 (l0 l1 : AV) (x y : Int) (st : List AV) (μ : Mem) : rs 610 37 [l0, l1] (vI y :: vI x :: st) μ = rs 610 38 [l0, l1] (vI (w32 (x * y)) :: st) μ := rs_st rfl rfl
theorem s610_38 (l1 : AV) (t x : Nat) (st : List AV) (μ : Mem) : rs 610 38 [vR t x, l1] st μ = rs 610 39 [vR t x, l1] (vR t x :: st) μ := rs_st rfl rfl
theorem s610_39 (l1 : AV) (t x : Nat) (st : List AV) (μ : Mem) : rs 610 39 [vR t x, l1] st μ = rs 610 40 [vR t x, l1] (vR t x :: st) μ := rs_st rfl rfl
theorem s610_40 (l0 l1 : AV) (x : Nat) (st : List AV) (q : Nat × (Nat → Int)) (I A : M2) (L P : Nat → Nat → Option Nat) (F G : Nat → Nat → UInt32) (D : MD) : rs 610 40 [l0, l1] (vR 6 x :: st) (SX q, (I, A, L, P, F, G), D) = rs 610 43 [l0, l1] (vI (I 126 x) :: st) (SX q, (I, A, L, P, F, G), D) := rs_st rfl rfl
theorem s610_43 (l0 l1 : AV) (z : Nat) (a0 : Int) (b0 : Int) (b1 : Nat) (μ : Mem) : rs 610 43 [l0, l1] [vI a0, vR 6 z, vI b0, vR 6 b1] μ = (rs 613 0 [vR 6 z, vI a0] [] μ).bind (fun w => rs 610 46 [l0, l1] (pushR w.1 [vI b0, vR 6 b1]) w.2) := rs_ca rfl rfl rfl
theorem s610_46 (l0 l1 : AV) (x y : Int) (st : List AV) (μ : Mem) : rs 610 46 [l0, l1] (vI y :: vI x :: st) μ = rs 610 47 [l0, l1] (vI (w32 (x + y)) :: st) μ := rs_st rfl rfl
theorem s610_47 (l0 l1 : AV) (st : List AV) (μ : Mem) : rs 610 47 [l0, l1] st μ = rs 610 49 [l0, l1] (vI 48 :: st) μ := rs_st rfl rfl
theorem s610_49 (l0 l1 : AV) (x y : Int) (st : List AV) (μ : Mem) : rs 610 49 [l0, l1] (vI y :: vI x :: st) μ = rs 610 50 [l0, l1] (vI (w32 (x - y)) :: st) μ := rs_st rfl rfl
theorem s610_50 (l0 l1 : AV) (x : Nat) (v : Int) (st : List AV) (q : Nat × (Nat → Int)) (I A : M2) (L P : Nat → Nat → Option Nat) (F G : Nat → Nat → UInt32) (D : MD) : rs 610 50 [l0, l1] (vI v :: vR 6 x :: st) (SX q, (I, A, L, P, F, G), D) = rs 610 53 [l0, l1] st (SX q, (up2 I 127 x v, A, L, P, F, G), D) := rs_st rfl rfl
theorem s610_53 (l1 : AV) (t x : Nat) (st : List AV) (μ : Mem) : rs 610 53 [vR t x, l1] st μ = rs 610 54 [vR t x, l1] (vR t x :: st) μ := rs_st rfl rfl
theorem s610_54 (l0 l1 : AV) (x : Int) (st : List AV) (μ : Mem) : rs 610 54 [l0, l1] (vI x :: st) μ = rs 610 55 [l0, l1] (vI x :: vI x :: st) μ := rs_st rfl rfl
theorem s610_54r (l0 l1 : AV) (t x : Nat) (st : List AV) (μ : Mem) : rs 610 54 [l0, l1] (vR t x :: st) μ = rs 610 55 [l0, l1] (vR t x :: vR t x :: st) μ := rs_st rfl rfl
theorem s610_55 (l0 l1 : AV) (x : Nat) (st : List AV) (q : Nat × (Nat → Int)) (I A : M2) (L P : Nat → Nat → Option Nat) (F G : Nat → Nat → UInt32) (D : MD) : rs 610 55 [l0, l1] (vR 6 x :: st) (SX q, (I, A, L, P, F, G), D) = rs 610 58 [l0, l1] (vI (I 126 x) :: st) (SX q, (I, A, L, P, F, G), D) := rs_st rfl rfl
theorem s610_58 (l0 l1 : AV) (st : List AV) (μ : Mem) : rs 610 58 [l0, l1] st μ = rs 610 59 [l0, l1] (vI 1 :: st) μ := rs_st rfl rfl
theorem s610_59 (l0 l1 : AV) (x y : Int) (st : List AV) (μ : Mem) : rs 610 59 [l0, l1] (vI y :: vI x :: st) μ = rs 610 60 [l0, l1] (vI (w32 (x + y)) :: st) μ := rs_st rfl rfl
theorem s610_60 (l0 l1 : AV) (x : Nat) (v : Int) (st : List AV) (q : Nat × (Nat → Int)) (I A : M2) (L P : Nat → Nat → Option Nat) (F G : Nat → Nat → UInt32) (D : MD) : rs 610 60 [l0, l1] (vI v :: vR 6 x :: st) (SX q, (I, A, L, P, F, G), D) = rs 610 63 [l0, l1] st (SX q, (up2 I 126 x v, A, L, P, F, G), D) := rs_st rfl rfl
theorem s610_63 (l0 : AV) (x : Int) (st : List AV) (μ : Mem) : rs 610 63 [l0, vI x] st μ = rs 610 66 [unJ l0, vI (w32 (x + 1))] st μ := rs_st rfl rfl
theorem s610_66 (l0 l1 : AV) (st : List AV) (μ : Mem) : rs 610 66 [l0, l1] st μ = rs 610 7 [l0, l1] st μ := rs_st rfl rfl
theorem s610_69 (l0 : AV) (x : Int) (st : List AV) (μ : Mem) : rs 610 69 [l0, vI x] st μ = rs 610 70 [l0, vI x] (vI x :: st) μ := rs_st rfl rfl
theorem s610_70 (l0 l1 : AV) (x : Int) (st : List AV) (μ : Mem) : rs 610 70 [l0, l1] (vI x :: st) μ = if x ≤ 0 then rs 610 77 [l0, l1] st μ else rs 610 73 [l0, l1] st μ := rs_ifb rfl (cnd_le _ _) rfl rfl
theorem s610_73 (l0 l1 : AV) (st : List AV) (μ : Mem) : rs 610 73 [l0, l1] st μ = rs 610 74 [l0, l1] (vI 1 :: st) μ := rs_st rfl rfl
theorem s610_74 (l0 l1 : AV) (st : List AV) (μ : Mem) : rs 610 74 [l0, l1] st μ = rs 610 78 [l0, l1] st μ := rs_st rfl rfl
theorem s610_77 (l0 l1 : AV) (st : List AV) (μ : Mem) : rs 610 77 [l0, l1] st μ = rs 610 78 [l0, l1] (vI 0 :: st) μ := rs_st rfl rfl
theorem s610_78 (l0 l1 : AV) (x : Int) (μ : Mem) : rs 610 78 [l0, l1] [vI x] μ = if x = 0 ∨ x = 1 then some (vI x, μ) else none := rs_rz rfl (rz_2 _)
theorem s611_0 (l0 l1 l2 : AV) (st : List AV) (μ : Mem) : rs 611 0 [l0, l1, l2] st μ = rs 611 1 [l0, l1, l2] (vI 0 :: st) μ := rs_st rfl rfl
theorem s611_1 (l0 l1 l2 : AV) (x : Int) (st : List AV) (μ : Mem) : rs 611 1 [l0, l1, l2] (vI x :: st) μ = rs 611 2 [l0, unJ l1, vI x] st μ := rs_st rfl rfl
theorem s611_2 (l0 l1 : AV) (x : Int) (st : List AV) (μ : Mem) : rs 611 2 [l0, l1, vI x] st μ = rs 611 3 [l0, l1, vI x] (vI x :: st) μ := rs_st rfl rfl
theorem s611_3 (l0 l2 : AV) (t x : Nat) (st : List AV) (μ : Mem) : rs 611 3 [l0, vR t x, l2] st μ = rs 611 4 [l0, vR t x, l2] (vR t x :: st) μ := rs_st rfl rfl
theorem s611_4 (l0 l1 l2 : AV) (z : Nat) (b0 : Int) (μ : Mem) : rs 611 4 [l0, l1, l2] [vR 12 z, vI b0] μ = (rs 1201 0 [vR 12 z] [] μ).bind (fun w => rs 611 7 [l0, l1, l2] (pushR w.1 [vI b0]) w.2) := rs_ca rfl rfl rfl
theorem s611_7 (l0 l1 l2 : AV) (x y : Int) (st : List AV) (μ : Mem) : rs 611 7 [l0, l1, l2] (vI y :: vI x :: st) μ = if y ≤ x then rs 611 36 [l0, l1, l2] st μ else rs 611 10 [l0, l1, l2] st μ := rs_ifb rfl (cnd_ge _ _) rfl rfl
theorem s611_10 (l1 l2 : AV) (t x : Nat) (st : List AV) (μ : Mem) : rs 611 10 [vR t x, l1, l2] st μ = rs 611 11 [vR t x, l1, l2] (vR t x :: st) μ := rs_st rfl rfl
theorem s611_11 (l1 l2 : AV) (t x : Nat) (st : List AV) (μ : Mem) : rs 611 11 [vR t x, l1, l2] st μ = rs 611 12 [vR t x, l1, l2] (vR t x :: st) μ := rs_st rfl rfl
theorem s611_12 (l0 l1 l2 : AV) (x : Nat) (st : List AV) (q : Nat × (Nat → Int)) (I A : M2) (L P : Nat → Nat → Option Nat) (F G : Nat → Nat → UInt32) (D : MD) : rs 611 12 [l0, l1, l2] (vR 6 x :: st) (SX q, (I, A, L, P, F, G), D) = rs 611 15 [l0, l1, l2] (vI (I 126 x) :: st) (SX q, (I, A, L, P, F, G), D) := rs_st rfl rfl
theorem s611_15 (l0 l1 : AV) (x : Int) (st : List AV) (μ : Mem) : rs 611 15 [l0, l1, vI x] st μ = rs 611 16 [l0, l1, vI x] (vI x :: st) μ := rs_st rfl rfl
theorem s611_16 (l0 l1 l2 : AV) (x y : Int) (st : List AV) (μ : Mem) : rs 611 16 [l0, l1, l2] (vI y :: vI x :: st) μ = rs 611 17 [l0, l1, l2] (vI (w32 (x + y)) :: st) μ := rs_st rfl rfl
theorem s611_17 (l0 l1 l2 : AV) (z : Nat) (a0 : Int)  (μ : Mem) : rs 611 17 [l0, l1, l2] [vI a0, vR 6 z] μ = (rs 613 0 [vR 6 z, vI a0] [] μ).bind (fun w => rs 611 20 [l0, l1, l2] (pushR w.1 []) w.2) := rs_ca rfl rfl rfl
theorem s611_20 (l0 l2 : AV) (t x : Nat) (st : List AV) (μ : Mem) : rs 611 20 [l0, vR t x, l2] st μ = rs 611 21 [l0, vR t x, l2] (vR t x :: st) μ := rs_st rfl rfl
theorem s611_21 (l0 l1 : AV) (x : Int) (st : List AV) (μ : Mem) : rs 611 21 [l0, l1, vI x] st μ = rs 611 22 [l0, l1, vI x] (vI x :: st) μ := rs_st rfl rfl
theorem s611_22 (l0 l1 l2 : AV) (z : Nat) (a0 : Int) (b0 : Int) (μ : Mem) : rs 611 22 [l0, l1, l2] [vI a0, vR 12 z, vI b0] μ = (rs 1202 0 [vR 12 z, vI a0] [] μ).bind (fun w => rs 611 25 [l0, l1, l2] (pushR w.1 [vI b0]) w.2) := rs_ca rfl rfl rfl
theorem s611_25 (l0 l1 l2 : AV) (x y : Int) (st : List AV) (μ : Mem) : rs 611 25 [l0, l1, l2] (vI y :: vI x :: st) μ = if x = y then rs 611 30 [l0, l1, l2] st μ else rs 611 28 [l0, l1, l2] st μ := rs_ifb rfl (cnd_eq _ _) rfl rfl
theorem s611_28 (l0 l1 l2 : AV) (st : List AV) (μ : Mem) : rs 611 28 [l0, l1, l2] st μ = rs 611 29 [l0, l1, l2] (vI 0 :: st) μ := rs_st rfl rfl
theorem s611_29 (l0 l1 l2 : AV) (x : Int) (μ : Mem) : rs 611 29 [l0, l1, l2] [vI x] μ = if x = 0 ∨ x = 1 then some (vI x, μ) else none := rs_rz rfl (rz_2 _)
theorem s611_30 (l0 l1 : AV) (x : Int) (st : List AV) (μ : Mem) : rs 611 30 [l0, l1, vI x] st μ = rs 611 33 [l0, unJ l1, vI (w32 (x + 1))] st μ := rs_st rfl rfl
theorem s611_33 (l0 l1 l2 : AV) (st : List AV) (μ : Mem) : rs 611 33 [l0, l1, l2] st μ = rs 611 2 [l0, l1, l2] st μ := rs_st rfl rfl
theorem s611_36 (l1 l2 : AV) (t x : Nat) (st : List AV) (μ : Mem) : rs 611 36 [vR t x, l1, l2] st μ = rs 611 37 [vR t x, l1, l2] (vR t x :: st) μ := rs_st rfl rfl
theorem s611_37 (l0 l1 l2 : AV) (x : Nat) (st : List AV) (q : Nat × (Nat → Int)) (I A : M2) (L P : Nat → Nat → Option Nat) (F G : Nat → Nat → UInt32) (D : MD) : rs 611 37 [l0, l1, l2] (vR 6 x :: st) (SX q, (I, A, L, P, F, G), D) = rs 611 40 [l0, l1, l2] (vI (I 126 x) :: st) (SX q, (I, A, L, P, F, G), D) := rs_st rfl rfl
theorem s611_40 (l0 l2 : AV) (t x : Nat) (st : List AV) (μ : Mem) : rs 611 40 [l0, vR t x, l2] st μ = rs 611 41 [l0, vR t x, l2] (vR t x :: st) μ := rs_st rfl rfl
theorem s611_41 (l0 l1 l2 : AV) (z : Nat) (b0 : Int) (μ : Mem) : rs 611 41 [l0, l1, l2] [vR 12 z, vI b0] μ = (rs 1201 0 [vR 12 z] [] μ).bind (fun w => rs 611 44 [l0, l1, l2] (pushR w.1 [vI b0]) w.2) := rs_ca rfl rfl rfl
theorem s611_44 (l0 l1 l2 : AV) (x y : Int) (st : List AV) (μ : Mem) : rs 611 44 [l0, l1, l2] (vI y :: vI x :: st) μ = rs 611 45 [l0, l1, l2] (vI (w32 (x + y)) :: st) μ := rs_st rfl rfl
theorem s611_45 (l0 l1 l2 : AV) (x : Int) (st : List AV) (μ : Mem) : rs 611 45 [l0, l1, l2] (vI x :: st) μ = rs 611 46 [l0, unJ l1, vI x] st μ := rs_st rfl rfl
theorem s611_46 (l1 l2 : AV) (t x : Nat) (st : List AV) (μ : Mem) : rs 611 46 [vR t x, l1, l2] st μ = rs 611 47 [vR t x, l1, l2] (vR t x :: st) μ := rs_st rfl rfl
theorem s611_47 (l0 l1 : AV) (x : Int) (st : List AV) (μ : Mem) : rs 611 47 [l0, l1, vI x] st μ = rs 611 48 [l0, l1, vI x] (vI x :: st) μ := rs_st rfl rfl
theorem s611_48 (l0 l1 l2 : AV) (z : Nat) (a0 : Int)  (μ : Mem) : rs 611 48 [l0, l1, l2] [vI a0, vR 6 z] μ = (rs 613 0 [vR 6 z, vI a0] [] μ).bind (fun w => rs 611 51 [l0, l1, l2] (pushR w.1 []) w.2) := rs_ca rfl rfl rfl
theorem s611_51 (l0 l1 l2 : AV) (st : List AV) (μ : Mem) : rs 611 51 [l0, l1, l2] st μ = rs 611 53 [l0, l1, l2] (vI 97 :: st) μ := rs_st rfl rfl
theorem s611_53 (l0 l1 l2 : AV) (st : List AV) (μ : Mem) : rs 611 53 [l0, l1, l2] st μ = rs 611 55 [l0, l1, l2] (vI 122 :: st) μ := rs_st rfl rfl
theorem s611_55 (l0 l1 l2 : AV) (a0 : Int) (a1 : Int) (a2 : Int)  (μ : Mem) : rs 611 55 [l0, l1, l2] [vI a2, vI a1, vI a0] μ = (rs 929 0 [vI a0, vI a1, vI a2] [] μ).bind (fun w => rs 611 58 [l0, l1, l2] (pushR w.1 []) w.2) := rs_ca rfl rfl rfl
theorem s611_58 (l0 l1 l2 : AV) (x : Int) (st : List AV) (μ : Mem) : rs 611 58 [l0, l1, l2] (vI x :: st) μ = if x = 0 then rs 611 63 [l0, l1, l2] st μ else rs 611 61 [l0, l1, l2] st μ := rs_ifb rfl (cnd_eq _ _) rfl rfl
theorem s611_61 (l0 l1 l2 : AV) (st : List AV) (μ : Mem) : rs 611 61 [l0, l1, l2] st μ = rs 611 62 [l0, l1, l2] (vI 0 :: st) μ := rs_st rfl rfl
theorem s611_62 (l0 l1 l2 : AV) (x : Int) (μ : Mem) : rs 611 62 [l0, l1, l2] [vI x] μ = if x = 0 ∨ x = 1 then some (vI x, μ) else none := rs_rz rfl (rz_2 _)
theorem s611_63 (l1 l2 : AV) (t x : Nat) (st : List AV) (μ : Mem) : rs 611 63 [vR t x, l1, l2] st μ = rs 611 64 [vR t x, l1, l2] (vR t x :: st) μ := rs_st rfl rfl
theorem s611_64 (l0 l1 : AV) (x : Int) (st : List AV) (μ : Mem) : rs 611 64 [l0, l1, vI x] st μ = rs 611 65 [l0, l1, vI x] (vI x :: st) μ := rs_st rfl rfl
theorem s611_65 (l0 l1 l2 : AV) (x : Nat) (v : Int) (st : List AV) (q : Nat × (Nat → Int)) (I A : M2) (L P : Nat → Nat → Option Nat) (F G : Nat → Nat → UInt32) (D : MD) : rs 611 65 [l0, l1, l2] (vI v :: vR 6 x :: st) (SX q, (I, A, L, P, F, G), D) = rs 611 68 [l0, l1, l2] st (SX q, (up2 I 126 x v, A, L, P, F, G), D) := rs_st rfl rfl
theorem s611_68 (l0 l1 l2 : AV) (st : List AV) (μ : Mem) : rs 611 68 [l0, l1, l2] st μ = rs 611 69 [l0, l1, l2] (vI 1 :: st) μ := rs_st rfl rfl
theorem s611_69 (l0 l1 l2 : AV) (x : Int) (μ : Mem) : rs 611 69 [l0, l1, l2] [vI x] μ = if x = 0 ∨ x = 1 then some (vI x, μ) else none := rs_rz rfl (rz_2 _)
theorem s612_0 (l1 : AV) (t x : Nat) (st : List AV) (μ : Mem) : rs 612 0 [vR t x, l1] st μ = rs 612 1 [vR t x, l1] (vR t x :: st) μ := rs_st rfl rfl
theorem s612_1 (l1 : AV) (t x : Nat) (st : List AV) (μ : Mem) : rs 612 1 [vR t x, l1] st μ = rs 612 2 [vR t x, l1] (vR t x :: st) μ := rs_st rfl rfl
theorem s612_2 (l0 l1 : AV) (x : Nat) (st : List AV) (q : Nat × (Nat → Int)) (I A : M2) (L P : Nat → Nat → Option Nat) (F G : Nat → Nat → UInt32) (D : MD) : rs 612 2 [l0, l1] (vR 6 x :: st) (SX q, (I, A, L, P, F, G), D) = rs 612 5 [l0, l1] (vI (I 126 x) :: st) (SX q, (I, A, L, P, F, G), D) := rs_st rfl rfl
theorem s612_5 (l0 l1 : AV) (z : Nat) (a0 : Int)  (μ : Mem) : rs 612 5 [l0, l1] [vI a0, vR 6 z] μ = (rs 613 0 [vR 6 z, vI a0] [] μ).bind (fun w => rs 612 8 [l0, l1] (pushR w.1 []) w.2) := rs_ca rfl rfl rfl
theorem s612_8 (l0 : AV) (x : Int) (st : List AV) (μ : Mem) : rs 612 8 [l0, vI x] st μ = rs 612 9 [l0, vI x] (vI x :: st) μ := rs_st rfl rfl
theorem s612_9 (l0 l1 : AV) (x y : Int) (st : List AV) (μ : Mem) : rs 612 9 [l0, l1] (vI y :: vI x :: st) μ = if x = y then rs 612 14 [l0, l1] st μ else rs 612 12 [l0, l1] st μ := rs_ifb rfl (cnd_eq _ _) rfl rfl
theorem s612_12 (l0 l1 : AV) (st : List AV) (μ : Mem) : rs 612 12 [l0, l1] st μ = rs 612 13 [l0, l1] (vI 0 :: st) μ := rs_st rfl rfl
theorem s612_13 (l0 l1 : AV) (x : Int) (μ : Mem) : rs 612 13 [l0, l1] [vI x] μ = if x = 0 ∨ x = 1 then some (vI x, μ) else none := rs_rz rfl (rz_2 _)
theorem s612_14 (l1 : AV) (t x : Nat) (st : List AV) (μ : Mem) : rs 612 14 [vR t x, l1] st μ = rs 612 15 [vR t x, l1] (vR t x :: st) μ := rs_st rfl rfl
theorem s612_15 (l0 l1 : AV) (x : Int) (st : List AV) (μ : Mem) : rs 612 15 [l0, l1] (vI x :: st) μ = rs 612 16 [l0, l1] (vI x :: vI x :: st) μ := rs_st rfl rfl
theorem s612_15r (l0 l1 : AV) (t x : Nat) (st : List AV) (μ : Mem) : rs 612 15 [l0, l1] (vR t x :: st) μ = rs 612 16 [l0, l1] (vR t x :: vR t x :: st) μ := rs_st rfl rfl
theorem s612_16 (l0 l1 : AV) (x : Nat) (st : List AV) (q : Nat × (Nat → Int)) (I A : M2) (L P : Nat → Nat → Option Nat) (F G : Nat → Nat → UInt32) (D : MD) : rs 612 16 [l0, l1] (vR 6 x :: st) (SX q, (I, A, L, P, F, G), D) = rs 612 19 [l0, l1] (vI (I 126 x) :: st) (SX q, (I, A, L, P, F, G), D) := rs_st rfl rfl
theorem s612_19 (l0 l1 : AV) (st : List AV) (μ : Mem) : rs 612 19 [l0, l1] st μ = rs 612 20 [l0, l1] (vI 1 :: st) μ := rs_st rfl rfl
theorem s612_20 (l0 l1 : AV) (x y : Int) (st : List AV) (μ : Mem) : rs 612 20 [l0, l1] (vI y :: vI x :: st) μ = rs 612 21 [l0, l1] (vI (w32 (x + y)) :: st) μ := rs_st rfl rfl
theorem s612_21 (l0 l1 : AV) (x : Nat) (v : Int) (st : List AV) (q : Nat × (Nat → Int)) (I A : M2) (L P : Nat → Nat → Option Nat) (F G : Nat → Nat → UInt32) (D : MD) : rs 612 21 [l0, l1] (vI v :: vR 6 x :: st) (SX q, (I, A, L, P, F, G), D) = rs 612 24 [l0, l1] st (SX q, (up2 I 126 x v, A, L, P, F, G), D) := rs_st rfl rfl
theorem s612_24 (l0 l1 : AV) (st : List AV) (μ : Mem) : rs 612 24 [l0, l1] st μ = rs 612 25 [l0, l1] (vI 1 :: st) μ := rs_st rfl rfl
theorem s612_25 (l0 l1 : AV) (x : Int) (μ : Mem) : rs 612 25 [l0, l1] [vI x] μ = if x = 0 ∨ x = 1 then some (vI x, μ) else none := rs_rz rfl (rz_2 _)
theorem s613_0 (l0 : AV) (x : Int) (st : List AV) (μ : Mem) : rs 613 0 [l0, vI x] st μ = rs 613 1 [l0, vI x] (vI x :: st) μ := rs_st rfl rfl
theorem s613_1 (l1 : AV) (t x : Nat) (st : List AV) (μ : Mem) : rs 613 1 [vR t x, l1] st μ = rs 613 2 [vR t x, l1] (vR t x :: st) μ := rs_st rfl rfl
theorem s613_2 (l0 l1 : AV) (x : Nat) (st : List AV) (q : Nat × (Nat → Int)) (I A : M2) (L P : Nat → Nat → Option Nat) (F G : Nat → Nat → UInt32) (D : MD) : rs 613 2 [l0, l1] (vR 6 x :: st) (SX q, (I, A, L, P, F, G), D) = rs 613 5 [l0, l1] (vI (I 122 x) :: st) (SX q, (I, A, L, P, F, G), D) := rs_st rfl rfl
theorem s613_5 (l0 l1 : AV) (x y : Int) (st : List AV) (μ : Mem) : rs 613 5 [l0, l1] (vI y :: vI x :: st) μ = if y ≤ x then rs 613 19 [l0, l1] st μ else rs 613 8 [l0, l1] st μ := rs_ifb rfl (cnd_ge _ _) rfl rfl
theorem s613_8 (l1 : AV) (t x : Nat) (st : List AV) (μ : Mem) : rs 613 8 [vR t x, l1] st μ = rs 613 9 [vR t x, l1] (vR t x :: st) μ := rs_st rfl rfl
theorem s613_9 (l0 l1 : AV) (x : Nat) (st : List AV) (q : Nat × (Nat → Int)) (C : MC) (D : MD) : rs 613 9 [l0, l1] (vR 6 x :: st) (SX q, C, D) = rs 613 12 [l0, l1] (vR 4 122 :: st) (SX q, C, D) := rs_st rfl rfl
theorem s613_12 (l0 : AV) (x : Int) (st : List AV) (μ : Mem) : rs 613 12 [l0, vI x] st μ = rs 613 13 [l0, vI x] (vI x :: st) μ := rs_st rfl rfl
theorem s613_13 (l0 l1 : AV) (z : Nat) (a0 : Int)  (μ : Mem) : rs 613 13 [l0, l1] [vI a0, vR 4 z] μ = (rs 402 0 [vR 4 z, vI a0] [] μ).bind (fun w => rs 613 16 [l0, l1] (pushR w.1 []) w.2) := rs_ca rfl rfl rfl
theorem s613_16 (l0 l1 : AV) (st : List AV) (μ : Mem) : rs 613 16 [l0, l1] st μ = rs 613 20 [l0, l1] st μ := rs_st rfl rfl
theorem s613_19 (l0 l1 : AV) (st : List AV) (μ : Mem) : rs 613 19 [l0, l1] st μ = rs 613 20 [l0, l1] (vI 0 :: st) μ := rs_st rfl rfl
theorem s613_20 (l0 l1 : AV) (x : Int) (μ : Mem) : rs 613 20 [l0, l1] [vI x] μ = some (vI x, μ) := rs_ret rfl
theorem s1201_0 (t x : Nat) (st : List AV) (μ : Mem) : rs 1201 0 [vR t x] st μ = rs 1201 1 [vR t x] (vR t x :: st) μ := rs_st rfl rfl
theorem s1201_1 (l0 : AV) (x : Nat) (st : List AV) (μ : Mem) : rs 1201 1 [l0] (vR 12 x :: st) μ = rs 1201 4 [l0] (vR 20 x :: st) μ := rs_st rfl rfl
theorem s1201_4 (l0 : AV) (x : Nat) (st : List AV) (μ : Mem) : rs 1201 4 [l0] (vR 20 x :: st) μ = if (txt x).length < 2147483648 then rs 1201 5 [l0] (vI ((txt x).length : Nat) :: st) μ else none := rs_ok rfl rfl
theorem s1201_5 (t x : Nat) (st : List AV) (μ : Mem) : rs 1201 5 [vR t x] st μ = rs 1201 6 [vR t x] (vR t x :: st) μ := rs_st rfl rfl
theorem s1201_6 (l0 : AV) (z : Nat) (b0 : Int) (μ : Mem) : rs 1201 6 [l0] [vR 12 z, vI b0] μ = (rs 1203 0 [vR 12 z] [] μ).bind (fun w => rs 1201 9 [l0] (pushR w.1 [vI b0]) w.2) := rs_ca rfl rfl rfl
theorem s1201_9 (l0 : AV) (x y : Int) (st : List AV) (μ : Mem) : rs 1201 9 [l0] (vI y :: vI x :: st) μ = rs 1201 10 [l0] (vI (i_shr x y) :: st) μ := rs_st rfl rfl
theorem s1201_10 (l0 : AV) (x : Int) (μ : Mem) : rs 1201 10 [l0] [vI x] μ = some (vI x, μ) := rs_ret rfl
theorem s1202_0 (l1 : AV) (t x : Nat) (st : List AV) (μ : Mem) : rs 1202 0 [vR t x, l1] st μ = rs 1202 1 [vR t x, l1] (vR t x :: st) μ := rs_st rfl rfl
theorem s1202_1 (l0 l1 : AV) (z : Nat)  (μ : Mem) : rs 1202 1 [l0, l1] [vR 12 z] μ = (rs 1204 0 [vR 12 z] [] μ).bind (fun w => rs 1202 4 [l0, l1] (pushR w.1 []) w.2) := rs_ca rfl rfl rfl
theorem s1202_4 (l0 l1 : AV) (x : Int) (st : List AV) (μ : Mem) : rs 1202 4 [l0, l1] (vI x :: st) μ = if x = 0 then rs 1202 16 [l0, l1] st μ else rs 1202 7 [l0, l1] st μ := rs_ifb rfl (cnd_eq _ _) rfl rfl
theorem s1202_7 (l1 : AV) (t x : Nat) (st : List AV) (μ : Mem) : rs 1202 7 [vR t x, l1] st μ = rs 1202 8 [vR t x, l1] (vR t x :: st) μ := rs_st rfl rfl
theorem s1202_8 (l0 l1 : AV) (x : Nat) (st : List AV) (μ : Mem) : rs 1202 8 [l0, l1] (vR 12 x :: st) μ = rs 1202 11 [l0, l1] (vR 20 x :: st) μ := rs_st rfl rfl
theorem s1202_11 (l0 : AV) (x : Int) (st : List AV) (μ : Mem) : rs 1202 11 [l0, vI x] st μ = rs 1202 12 [l0, vI x] (vI x :: st) μ := rs_st rfl rfl
theorem s1202_12 (l0 l1 : AV) (a0 : Nat) (a1 : Int)  (μ : Mem) : rs 1202 12 [l0, l1] [vI a1, vR 20 a0] μ = (rs 1301 0 [vR 20 a0, vI a1] [] μ).bind (fun w => rs 1202 15 [l0, l1] (pushR w.1 []) w.2) := rs_ca rfl rfl rfl
theorem s1202_15 (l0 l1 : AV) (x : Int) (μ : Mem) : rs 1202 15 [l0, l1] [vI x] μ = if 0 ≤ x ∧ x < 65536 then some (vI x, μ) else none := rs_rz rfl (rz_6 _)
theorem s1202_16 (l1 : AV) (t x : Nat) (st : List AV) (μ : Mem) : rs 1202 16 [vR t x, l1] st μ = rs 1202 17 [vR t x, l1] (vR t x :: st) μ := rs_st rfl rfl
theorem s1202_17 (l0 l1 : AV) (x : Nat) (st : List AV) (μ : Mem) : rs 1202 17 [l0, l1] (vR 12 x :: st) μ = rs 1202 20 [l0, l1] (vR 20 x :: st) μ := rs_st rfl rfl
theorem s1202_20 (l0 : AV) (x : Int) (st : List AV) (μ : Mem) : rs 1202 20 [l0, vI x] st μ = rs 1202 21 [l0, vI x] (vI x :: st) μ := rs_st rfl rfl
theorem s1202_24 (l0 l1 : AV) (x : Int) (μ : Mem) : rs 1202 24 [l0, l1] [vI x] μ = if 0 ≤ x ∧ x < 65536 then some (vI x, μ) else none := rs_rz rfl (rz_6 _)
theorem s1203_0 (l0 : AV) (st : List AV) (μ : Mem) : rs 1203 0 [l0] st μ = rs 1203 3 [l0] (vI 1 :: st) μ := rs_st rfl rfl
theorem s1203_3 (l0 : AV) (x : Int) (st : List AV) (μ : Mem) : rs 1203 3 [l0] (vI x :: st) μ = if x = 0 then rs 1203 13 [l0] st μ else rs 1203 6 [l0] st μ := rs_ifb rfl (cnd_eq _ _) rfl rfl
theorem s1203_6 (t x : Nat) (st : List AV) (μ : Mem) : rs 1203 6 [vR t x] st μ = rs 1203 7 [vR t x] (vR t x :: st) μ := rs_st rfl rfl
theorem s1203_7 (l0 : AV) (x : Nat) (st : List AV) (μ : Mem) : rs 1203 7 [l0] (vR 12 x :: st) μ = rs 1203 10 [l0] (vI 0 :: st) μ := rs_st rfl rfl
theorem s1203_10 (l0 : AV) (st : List AV) (μ : Mem) : rs 1203 10 [l0] st μ = rs 1203 14 [l0] st μ := rs_st rfl rfl
theorem s1203_13 (l0 : AV) (st : List AV) (μ : Mem) : rs 1203 13 [l0] st μ = rs 1203 14 [l0] (vI 1 :: st) μ := rs_st rfl rfl
theorem s1203_14 (l0 : AV) (x : Int) (μ : Mem) : rs 1203 14 [l0] [vI x] μ = if -128 ≤ x ∧ x < 128 then some (vI x, μ) else none := rs_rz rfl (rz_7 _)
theorem s1204_0 (l0 : AV) (st : List AV) (μ : Mem) : rs 1204 0 [l0] st μ = rs 1204 3 [l0] (vI 1 :: st) μ := rs_st rfl rfl
theorem s1204_3 (l0 : AV) (x : Int) (st : List AV) (μ : Mem) : rs 1204 3 [l0] (vI x :: st) μ = if x = 0 then rs 1204 17 [l0] st μ else rs 1204 6 [l0] st μ := rs_ifb rfl (cnd_eq _ _) rfl rfl
theorem s1204_6 (t x : Nat) (st : List AV) (μ : Mem) : rs 1204 6 [vR t x] st μ = rs 1204 7 [vR t x] (vR t x :: st) μ := rs_st rfl rfl
theorem s1204_7 (l0 : AV) (x : Nat) (st : List AV) (μ : Mem) : rs 1204 7 [l0] (vR 12 x :: st) μ = rs 1204 10 [l0] (vI 0 :: st) μ := rs_st rfl rfl
theorem s1204_10 (l0 : AV) (x : Int) (st : List AV) (μ : Mem) : rs 1204 10 [l0] (vI x :: st) μ = if x = 0 then rs 1204 13 [l0] st μ else rs 1204 17 [l0] st μ := rs_ifn rfl (cnd_ne _ _) rfl rfl
theorem s1204_13 (l0 : AV) (st : List AV) (μ : Mem) : rs 1204 13 [l0] st μ = rs 1204 14 [l0] (vI 1 :: st) μ := rs_st rfl rfl
theorem s1204_14 (l0 : AV) (st : List AV) (μ : Mem) : rs 1204 14 [l0] st μ = rs 1204 18 [l0] st μ := rs_st rfl rfl
theorem s1204_17 (l0 : AV) (st : List AV) (μ : Mem) : rs 1204 17 [l0] st μ = rs 1204 18 [l0] (vI 0 :: st) μ := rs_st rfl rfl
theorem s1204_18 (l0 : AV) (x : Int) (μ : Mem) : rs 1204 18 [l0] [vI x] μ = if x = 0 ∨ x = 1 then some (vI x, μ) else none := rs_rz rfl (rz_2 _)
theorem s1205_0 (l1 : AV) (x : Int) (st : List AV) (μ : Mem) : rs 1205 0 [vI x, l1] st μ = rs 1205 1 [vI x, l1] (vI x :: st) μ := rs_st rfl rfl
theorem s1205_1 (l0 : AV) (x : Int) (st : List AV) (μ : Mem) : rs 1205 1 [l0, vI x] st μ = rs 1205 2 [l0, vI x] (vI x :: st) μ := rs_st rfl rfl
theorem s1205_2 (l0 l1 : AV) (st : List AV) (μ : Mem) : rs 1205 2 [l0, l1] st μ = rs 1205 5 [l0, l1] (vU :: st) μ := rs_st rfl rfl
theorem s1205_5 (l0 l1 : AV) (a0 : Int) (a1 : Int)  (μ : Mem) : rs 1205 5 [l0, l1] [vU, vI a1, vI a0] μ = (rs 1401 0 [vI a0, vI a1, vU] [] μ).bind (fun w => rs 1205 8 [l0, l1] (pushR w.1 []) w.2) := rs_ca rfl rfl rfl
theorem s1205_8 (l0 l1 : AV) (x : Int) (st : List AV) (μ : Mem) : rs 1205 8 [l0, l1] (vI x :: st) μ = rs 1205 9 [l0, l1] st μ := rs_st rfl rfl
theorem s1205_9 (l0 l1 : AV)  (μ : Mem) : rs 1205 9 [l0, l1] [] μ = some (vU, μ) := rs_ret rfl
theorem s1301_0 (l0 : AV) (x : Int) (st : List AV) (μ : Mem) : rs 1301 0 [l0, vI x] st μ = rs 1301 1 [l0, vI x] (vI x :: st) μ := rs_st rfl rfl
theorem s1301_1 (l1 : AV) (t x : Nat) (st : List AV) (μ : Mem) : rs 1301 1 [vR t x, l1] st μ = rs 1301 2 [vR t x, l1] (vR t x :: st) μ := rs_st rfl rfl
theorem s1301_2 (l0 l1 : AV) (x : Nat) (st : List AV) (μ : Mem) : rs 1301 2 [l0, l1] (vR 20 x :: st) μ = if (txt x).length < 2147483648 then rs 1301 3 [l0, l1] (vI ((txt x).length : Nat) :: st) μ else none := rs_ok rfl rfl
theorem s1301_3 (l0 l1 : AV) (a0 : Int) (a1 : Int)  (μ : Mem) : rs 1301 3 [l0, l1] [vI a1, vI a0] μ = (rs 1205 0 [vI a0, vI a1] [] μ).bind (fun w => rs 1301 6 [l0, l1] (pushR w.1 []) w.2) := rs_ca rfl rfl rfl
theorem s1301_6 (l1 : AV) (t x : Nat) (st : List AV) (μ : Mem) : rs 1301 6 [vR t x, l1] st μ = rs 1301 7 [vR t x, l1] (vR t x :: st) μ := rs_st rfl rfl
theorem s1301_7 (l0 : AV) (x : Int) (st : List AV) (μ : Mem) : rs 1301 7 [l0, vI x] st μ = rs 1301 8 [l0, vI x] (vI x :: st) μ := rs_st rfl rfl
theorem s1301_8 (l0 l1 : AV) (a : Nat) (x : Int) (st : List AV)  (μ : Mem) : rs 1301 8 [l0, l1] (vI x :: vR 20 a :: st) μ = if 0 ≤ x ∧ x < (((txt a).length : Nat) : Int) then rs 1301 9 [l0, l1] (vI ((txt a).getD x.toNat 0) :: st) μ else none := rs_in rfl rfl
theorem s1301_9 (l0 l1 : AV) (st : List AV) (μ : Mem) : rs 1301 9 [l0, l1] st μ = rs 1301 12 [l0, l1] (vI 255 :: st) μ := rs_st rfl rfl
theorem s1301_12 (l0 l1 : AV) (x y : Int) (st : List AV) (μ : Mem) : rs 1301 12 [l0, l1] (vI y :: vI x :: st) μ = rs 1301 13 [l0, l1] (vI (i_and x y) :: st) μ := rs_st rfl rfl
theorem s1301_13 (l0 l1 : AV) (x : Int) (st : List AV) (μ : Mem) : rs 1301 13 [l0, l1] (vI x :: st) μ = if 0 ≤ x ∧ x < 65536 then rs 1301 14 [l0, l1] (vI x :: st) μ else none := rs_ok rfl rfl
theorem s1301_14 (l0 l1 : AV) (x : Int) (μ : Mem) : rs 1301 14 [l0, l1] [vI x] μ = if 0 ≤ x ∧ x < 65536 then some (vI x, μ) else none := rs_rz rfl (rz_6 _)
theorem s1401_0 (l1 l2 : AV) (x : Int) (st : List AV) (μ : Mem) : rs 1401 0 [vI x, l1, l2] st μ = rs 1401 1 [vI x, l1, l2] (vI x :: st) μ := rs_st rfl rfl
theorem s1401_1 (l0 l1 l2 : AV) (x : Int) (st : List AV) (μ : Mem) : rs 1401 1 [l0, l1, l2] (vI x :: st) μ = if x < 0 then rs 1401 9 [l0, l1, l2] st μ else rs 1401 4 [l0, l1, l2] st μ := rs_ifb rfl (cnd_lt _ _) rfl rfl
theorem s1401_4 (l1 l2 : AV) (x : Int) (st : List AV) (μ : Mem) : rs 1401 4 [vI x, l1, l2] st μ = rs 1401 5 [vI x, l1, l2] (vI x :: st) μ := rs_st rfl rfl
theorem s1401_5 (l0 l2 : AV) (x : Int) (st : List AV) (μ : Mem) : rs 1401 5 [l0, vI x, l2] st μ = rs 1401 6 [l0, vI x, l2] (vI x :: st) μ := rs_st rfl rfl
theorem s1401_6 (l0 l1 l2 : AV) (x y : Int) (st : List AV) (μ : Mem) : rs 1401 6 [l0, l1, l2] (vI y :: vI x :: st) μ = if x < y then rs 1401 16 [l0, l1, l2] st μ else rs 1401 9 [l0, l1, l2] st μ := rs_ifb rfl (cnd_lt _ _) rfl rfl
theorem s1401_9 (l0 l1 : AV) (t x : Nat) (st : List AV) (μ : Mem) : rs 1401 9 [l0, l1, vR t x] st μ = rs 1401 10 [l0, l1, vR t x] (vR t x :: st) μ := rs_st rfl rfl
theorem s1401_10 (l1 l2 : AV) (x : Int) (st : List AV) (μ : Mem) : rs 1401 10 [vI x, l1, l2] st μ = rs 1401 11 [vI x, l1, l2] (vI x :: st) μ := rs_st rfl rfl
theorem s1401_11 (l0 l2 : AV) (x : Int) (st : List AV) (μ : Mem) : rs 1401 11 [l0, vI x, l2] st μ = rs 1401 12 [l0, vI x, l2] (vI x :: st) μ := rs_st rfl rfl
theorem s1401_16 (l1 l2 : AV) (x : Int) (st : List AV) (μ : Mem) : rs 1401 16 [vI x, l1, l2] st μ = rs 1401 17 [vI x, l1, l2] (vI x :: st) μ := rs_st rfl rfl
theorem s1401_17 (l0 l1 l2 : AV) (x : Int) (μ : Mem) : rs 1401 17 [l0, l1, l2] [vI x] μ = some (vI x, μ) := rs_ret rfl
theorem s1501_0 (x : UInt32) (st : List AV) (μ : Mem) : rs 1501 0 [vF x] st μ = rs 1501 1 [vF x] (vF x :: st) μ := rs_st rfl rfl
theorem s1501_1 (x : UInt32) (st : List AV) (μ : Mem) : rs 1501 1 [vF x] st μ = rs 1501 2 [vF x] (vF x :: st) μ := rs_st rfl rfl
theorem s1501_2 (l0 : AV) (x y : UInt32) (st : List AV) (μ : Mem) : rs 1501 2 [l0] (vF y :: vF x :: st) μ = rs 1501 3 [l0] (vI (f_cmp .l x y) :: st) μ := rs_st rfl rfl
theorem s1501_3 (l0 : AV) (x : Int) (st : List AV) (μ : Mem) : rs 1501 3 [l0] (vI x :: st) μ = if x = 0 then rs 1501 10 [l0] st μ else rs 1501 6 [l0] st μ := rs_ifb rfl (cnd_eq _ _) rfl rfl
theorem s1501_6 (l0 : AV) (st : List AV) (μ : Mem) : rs 1501 6 [l0] st μ = rs 1501 7 [l0] (vI 1 :: st) μ := rs_st rfl rfl
theorem s1501_7 (l0 : AV) (st : List AV) (μ : Mem) : rs 1501 7 [l0] st μ = rs 1501 11 [l0] st μ := rs_st rfl rfl
theorem s1501_10 (l0 : AV) (st : List AV) (μ : Mem) : rs 1501 10 [l0] st μ = rs 1501 11 [l0] (vI 0 :: st) μ := rs_st rfl rfl
theorem s1501_11 (l0 : AV) (x : Int) (μ : Mem) : rs 1501 11 [l0] [vI x] μ = if x = 0 ∨ x = 1 then some (vI x, μ) else none := rs_rz rfl (rz_2 _)
theorem s1502_0 (x : UInt32) (st : List AV) (μ : Mem) : rs 1502 0 [vF x] st μ = rs 1502 1 [vF x] (vF x :: st) μ := rs_st rfl rfl
theorem s1502_1 (l0 : AV) (a0 : UInt32)  (μ : Mem) : rs 1502 1 [l0] [vF a0] μ = (rs 1501 0 [vF a0] [] μ).bind (fun w => rs 1502 4 [l0] (pushR w.1 []) w.2) := rs_ca rfl rfl rfl
theorem s1502_4 (l0 : AV) (x : Int) (st : List AV) (μ : Mem) : rs 1502 4 [l0] (vI x :: st) μ = if x = 0 then rs 1502 7 [l0] st μ else rs 1502 12 [l0] st μ := rs_ifn rfl (cnd_ne _ _) rfl rfl
theorem s1502_7 (x : UInt32) (st : List AV) (μ : Mem) : rs 1502 7 [vF x] st μ = rs 1502 8 [vF x] (vF x :: st) μ := rs_st rfl rfl
theorem s1502_8 (l0 : AV) (x : UInt32)  (μ : Mem) : rs 1502 8 [l0] [vF x] μ = rs 1502 11 [l0] [vI (f_raw x)] μ := rs_st rfl rfl
theorem s1502_11 (l0 : AV) (x : Int) (μ : Mem) : rs 1502 11 [l0] [vI x] μ = some (vI x, μ) := rs_ret rfl
theorem s1502_12 (l0 : AV) (st : List AV) (μ : Mem) : rs 1502 12 [l0] st μ = rs 1502 14 [l0] (vI 2143289344 :: st) μ := rs_st rfl rfl
theorem s1502_14 (l0 : AV) (x : Int) (μ : Mem) : rs 1502 14 [l0] [vI x] μ = some (vI x, μ) := rs_ret rfl
